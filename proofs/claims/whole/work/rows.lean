section
-- ===== PART A: goes FIRST, ahead of the names: the tables' words, and 'selects' of the private methods out of them =====
/-- a private method of a class that the tables say can be made, by its rows of tables_1 -/
def lw_okq (q : MethodName × Nat) : Prop := (q.1.cls ≠ "java/lang/invoke/MethodHandle" ∧ q.1.cls ≠ "java/lang/invoke/VarHandle") ∧ Cond.instantiable q.1.cls q.2 ∈ tables_1 ∧ Cond.privateMethod q.1 ∈ tables_1 ∧ Cond.instanceMethod q.1 ∈ tables_1
theorem lw_p0 : lw_okq (⟨"ProgramGate$Walker", "begin", "()V"⟩, 10) := ⟨⟨by decide +kernel, by decide +kernel⟩, List.mem_of_getElem? (i := 96) (by decide +kernel), List.mem_of_getElem? (i := 273) (by decide +kernel), List.mem_of_getElem? (i := 274) (by decide +kernel)⟩
theorem lw_p1 : lw_okq (⟨"ProgramGate$Walker", "alarmAt", "(I)I"⟩, 10) := ⟨⟨by decide +kernel, by decide +kernel⟩, List.mem_of_getElem? (i := 96) (by decide +kernel), List.mem_of_getElem? (i := 328) (by decide +kernel), List.mem_of_getElem? (i := 329) (by decide +kernel)⟩
theorem lw_p2 : lw_okq (⟨"ProgramGate$Walker", "readsUnset", "(LProgramGate$Instruction;)Z"⟩, 10) := ⟨⟨by decide +kernel, by decide +kernel⟩, List.mem_of_getElem? (i := 96) (by decide +kernel), List.mem_of_getElem? (i := 332) (by decide +kernel), List.mem_of_getElem? (i := 333) (by decide +kernel)⟩
theorem lw_p3 : lw_okq (⟨"ProgramGate$Walker", "knownOfY", "(LProgramGate$Instruction;)LProgramGate$Known;"⟩, 10) := ⟨⟨by decide +kernel, by decide +kernel⟩, List.mem_of_getElem? (i := 96) (by decide +kernel), List.mem_of_getElem? (i := 344) (by decide +kernel), List.mem_of_getElem? (i := 345) (by decide +kernel)⟩
theorem lw_p4 : lw_okq (⟨"ProgramGate$Walker", "alarmOfPlaces", "(ILProgramGate$Known;)I"⟩, 10) := ⟨⟨by decide +kernel, by decide +kernel⟩, List.mem_of_getElem? (i := 96) (by decide +kernel), List.mem_of_getElem? (i := 352) (by decide +kernel), List.mem_of_getElem? (i := 353) (by decide +kernel)⟩
theorem lw_p5 : lw_okq (⟨"ProgramGate$Walker", "placeAfter", "(I)I"⟩, 10) := ⟨⟨by decide +kernel, by decide +kernel⟩, List.mem_of_getElem? (i := 96) (by decide +kernel), List.mem_of_getElem? (i := 357) (by decide +kernel), List.mem_of_getElem? (i := 358) (by decide +kernel)⟩
theorem lw_p6 : lw_okq (⟨"ProgramGate$Walker", "resume", "()I"⟩, 10) := ⟨⟨by decide +kernel, by decide +kernel⟩, List.mem_of_getElem? (i := 96) (by decide +kernel), List.mem_of_getElem? (i := 369) (by decide +kernel), List.mem_of_getElem? (i := 370) (by decide +kernel)⟩
theorem lw_p7 : lw_okq (⟨"ProgramGate$Walker", "part", "(LProgramGate$Instruction;I)Z"⟩, 10) := ⟨⟨by decide +kernel, by decide +kernel⟩, List.mem_of_getElem? (i := 96) (by decide +kernel), List.mem_of_getElem? (i := 373) (by decide +kernel), List.mem_of_getElem? (i := 374) (by decide +kernel)⟩
theorem lw_p8 : lw_okq (⟨"ProgramGate$Walker", "takePair", "(LProgramGate$Instruction;)V"⟩, 10) := ⟨⟨by decide +kernel, by decide +kernel⟩, List.mem_of_getElem? (i := 96) (by decide +kernel), List.mem_of_getElem? (i := 380) (by decide +kernel), List.mem_of_getElem? (i := 381) (by decide +kernel)⟩
theorem lw_p9 : lw_okq (⟨"ProgramGate$Walker", "relate", "(I)Z"⟩, 10) := ⟨⟨by decide +kernel, by decide +kernel⟩, List.mem_of_getElem? (i := 96) (by decide +kernel), List.mem_of_getElem? (i := 385) (by decide +kernel), List.mem_of_getElem? (i := 386) (by decide +kernel)⟩
theorem lw_p10 : lw_okq (⟨"ProgramGate$Walker", "givePair", "(LProgramGate$Instruction;LProgramGate$State;)V"⟩, 10) := ⟨⟨by decide +kernel, by decide +kernel⟩, List.mem_of_getElem? (i := 96) (by decide +kernel), List.mem_of_getElem? (i := 401) (by decide +kernel), List.mem_of_getElem? (i := 402) (by decide +kernel)⟩
theorem lw_p11 : lw_okq (⟨"ProgramGate$Walker", "change", "(LProgramGate$Instruction;)Z"⟩, 10) := ⟨⟨by decide +kernel, by decide +kernel⟩, List.mem_of_getElem? (i := 96) (by decide +kernel), List.mem_of_getElem? (i := 405) (by decide +kernel), List.mem_of_getElem? (i := 406) (by decide +kernel)⟩
theorem lw_p12 : lw_okq (⟨"ProgramGate$Walker", "fetch", "(LProgramGate$Known;LProgramGate$Known;)V"⟩, 10) := ⟨⟨by decide +kernel, by decide +kernel⟩, List.mem_of_getElem? (i := 96) (by decide +kernel), List.mem_of_getElem? (i := 409) (by decide +kernel), List.mem_of_getElem? (i := 410) (by decide +kernel)⟩
theorem lw_p13 : lw_okq (⟨"ProgramGate$Walker", "store", "(LProgramGate$Known;LProgramGate$Known;)V"⟩, 10) := ⟨⟨by decide +kernel, by decide +kernel⟩, List.mem_of_getElem? (i := 96) (by decide +kernel), List.mem_of_getElem? (i := 420) (by decide +kernel), List.mem_of_getElem? (i := 421) (by decide +kernel)⟩
theorem lw_p14 : lw_okq (⟨"ProgramGate$Machine", "begin", "(I)V"⟩, 5) := ⟨⟨by decide +kernel, by decide +kernel⟩, List.mem_of_getElem? (i := 202) (by decide +kernel), List.mem_of_getElem? (i := 511) (by decide +kernel), List.mem_of_getElem? (i := 512) (by decide +kernel)⟩
theorem lw_p15 : lw_okq (⟨"ProgramGate$Machine", "make", "(LProgramGate$Instruction;)Z"⟩, 5) := ⟨⟨by decide +kernel, by decide +kernel⟩, List.mem_of_getElem? (i := 202) (by decide +kernel), List.mem_of_getElem? (i := 515) (by decide +kernel), List.mem_of_getElem? (i := 516) (by decide +kernel)⟩
def lw_privs_1 : List (MethodName × Nat) := [(⟨"ProgramGate$Walker", "begin", "()V"⟩, 10), (⟨"ProgramGate$Walker", "alarmAt", "(I)I"⟩, 10), (⟨"ProgramGate$Walker", "readsUnset", "(LProgramGate$Instruction;)Z"⟩, 10), (⟨"ProgramGate$Walker", "knownOfY", "(LProgramGate$Instruction;)LProgramGate$Known;"⟩, 10), (⟨"ProgramGate$Walker", "alarmOfPlaces", "(ILProgramGate$Known;)I"⟩, 10), (⟨"ProgramGate$Walker", "placeAfter", "(I)I"⟩, 10), (⟨"ProgramGate$Walker", "resume", "()I"⟩, 10), (⟨"ProgramGate$Walker", "part", "(LProgramGate$Instruction;I)Z"⟩, 10), (⟨"ProgramGate$Walker", "takePair", "(LProgramGate$Instruction;)V"⟩, 10), (⟨"ProgramGate$Walker", "relate", "(I)Z"⟩, 10), (⟨"ProgramGate$Walker", "givePair", "(LProgramGate$Instruction;LProgramGate$State;)V"⟩, 10), (⟨"ProgramGate$Walker", "change", "(LProgramGate$Instruction;)Z"⟩, 10), (⟨"ProgramGate$Walker", "fetch", "(LProgramGate$Known;LProgramGate$Known;)V"⟩, 10), (⟨"ProgramGate$Walker", "store", "(LProgramGate$Known;LProgramGate$Known;)V"⟩, 10), (⟨"ProgramGate$Machine", "begin", "(I)V"⟩, 5), (⟨"ProgramGate$Machine", "make", "(LProgramGate$Instruction;)Z"⟩, 5)]
theorem lw_r1 : ∀ q ∈ lw_privs_1, lw_okq q := List.forall_mem_cons.mpr ⟨lw_p0, List.forall_mem_cons.mpr ⟨lw_p1, List.forall_mem_cons.mpr ⟨lw_p2, List.forall_mem_cons.mpr ⟨lw_p3, List.forall_mem_cons.mpr ⟨lw_p4, List.forall_mem_cons.mpr ⟨lw_p5, List.forall_mem_cons.mpr ⟨lw_p6, List.forall_mem_cons.mpr ⟨lw_p7, List.forall_mem_cons.mpr ⟨lw_p8, List.forall_mem_cons.mpr ⟨lw_p9, List.forall_mem_cons.mpr ⟨lw_p10, List.forall_mem_cons.mpr ⟨lw_p11, List.forall_mem_cons.mpr ⟨lw_p12, List.forall_mem_cons.mpr ⟨lw_p13, List.forall_mem_cons.mpr ⟨lw_p14, List.forall_mem_cons.mpr ⟨lw_p15, fun _ h => absurd h List.not_mem_nil⟩⟩⟩⟩⟩⟩⟩⟩⟩⟩⟩⟩⟩⟩⟩⟩
theorem lw_p16 : lw_okq (⟨"ProgramGate$Machine", "checkedPlace", "(I)I"⟩, 5) := ⟨⟨by decide +kernel, by decide +kernel⟩, List.mem_of_getElem? (i := 202) (by decide +kernel), List.mem_of_getElem? (i := 523) (by decide +kernel), List.mem_of_getElem? (i := 524) (by decide +kernel)⟩
theorem lw_p17 : lw_okq (⟨"java/lang/Throwable", "fillInStackTrace", "(I)Ljava/lang/Throwable;"⟩, 6) := ⟨⟨by decide +kernel, by decide +kernel⟩, List.mem_of_getElem? (i := 565) (by decide +kernel), List.mem_of_getElem? (i := 563) (by decide +kernel), List.mem_of_getElem? (i := 564) (by decide +kernel)⟩
theorem lw_p18 : lw_okq (⟨"ProgramGate$Machine", "load", "(JI)I"⟩, 5) := ⟨⟨by decide +kernel, by decide +kernel⟩, List.mem_of_getElem? (i := 202) (by decide +kernel), List.mem_of_getElem? (i := 595) (by decide +kernel), List.mem_of_getElem? (i := 596) (by decide +kernel)⟩
theorem lw_p19 : lw_okq (⟨"ProgramGateModel", "setUp", "()V"⟩, 25) := ⟨⟨by decide +kernel, by decide +kernel⟩, List.mem_of_getElem? (i := 638) (by decide +kernel), List.mem_of_getElem? (i := 749) (by decide +kernel), List.mem_of_getElem? (i := 750) (by decide +kernel)⟩
theorem lw_p20 : lw_okq (⟨"ProgramGateModel", "nothing", "(I)V"⟩, 25) := ⟨⟨by decide +kernel, by decide +kernel⟩, List.mem_of_getElem? (i := 638) (by decide +kernel), List.mem_of_getElem? (i := 753) (by decide +kernel), List.mem_of_getElem? (i := 754) (by decide +kernel)⟩
theorem lw_p21 : lw_okq (⟨"ProgramGateModel", "tighten", "(I)Z"⟩, 25) := ⟨⟨by decide +kernel, by decide +kernel⟩, List.mem_of_getElem? (i := 638) (by decide +kernel), List.mem_of_getElem? (i := 761) (by decide +kernel), List.mem_of_getElem? (i := 762) (by decide +kernel)⟩
theorem lw_p22 : lw_okq (⟨"ProgramGateModel", "alarm", "()I"⟩, 25) := ⟨⟨by decide +kernel, by decide +kernel⟩, List.mem_of_getElem? (i := 638) (by decide +kernel), List.mem_of_getElem? (i := 772) (by decide +kernel), List.mem_of_getElem? (i := 773) (by decide +kernel)⟩
theorem lw_p23 : lw_okq (⟨"ProgramGateModel", "copy", "(II)V"⟩, 25) := ⟨⟨by decide +kernel, by decide +kernel⟩, List.mem_of_getElem? (i := 638) (by decide +kernel), List.mem_of_getElem? (i := 782) (by decide +kernel), List.mem_of_getElem? (i := 783) (by decide +kernel)⟩
theorem lw_p24 : lw_okq (⟨"ProgramGateModel", "number", "(II)V"⟩, 25) := ⟨⟨by decide +kernel, by decide +kernel⟩, List.mem_of_getElem? (i := 638) (by decide +kernel), List.mem_of_getElem? (i := 786) (by decide +kernel), List.mem_of_getElem? (i := 787) (by decide +kernel)⟩
theorem lw_p25 : lw_okq (⟨"ProgramGateModel", "pass", "()Z"⟩, 25) := ⟨⟨by decide +kernel, by decide +kernel⟩, List.mem_of_getElem? (i := 638) (by decide +kernel), List.mem_of_getElem? (i := 791) (by decide +kernel), List.mem_of_getElem? (i := 792) (by decide +kernel)⟩
theorem lw_p26 : lw_okq (⟨"ProgramGateModel", "part", "(IIII)Z"⟩, 25) := ⟨⟨by decide +kernel, by decide +kernel⟩, List.mem_of_getElem? (i := 638) (by decide +kernel), List.mem_of_getElem? (i := 795) (by decide +kernel), List.mem_of_getElem? (i := 796) (by decide +kernel)⟩
theorem lw_p27 : lw_okq (⟨"ProgramGateModel", "compare", "(IZ)Z"⟩, 25) := ⟨⟨by decide +kernel, by decide +kernel⟩, List.mem_of_getElem? (i := 638) (by decide +kernel), List.mem_of_getElem? (i := 799) (by decide +kernel), List.mem_of_getElem? (i := 800) (by decide +kernel)⟩
theorem lw_p28 : lw_okq (⟨"ProgramGateModel", "alike", "()Z"⟩, 25) := ⟨⟨by decide +kernel, by decide +kernel⟩, List.mem_of_getElem? (i := 638) (by decide +kernel), List.mem_of_getElem? (i := 803) (by decide +kernel), List.mem_of_getElem? (i := 804) (by decide +kernel)⟩
theorem lw_p29 : lw_okq (⟨"ProgramGateModel", "isExact", "(I)Z"⟩, 25) := ⟨⟨by decide +kernel, by decide +kernel⟩, List.mem_of_getElem? (i := 638) (by decide +kernel), List.mem_of_getElem? (i := 807) (by decide +kernel), List.mem_of_getElem? (i := 808) (by decide +kernel)⟩
theorem lw_p30 : lw_okq (⟨"ProgramGateModel", "less", "(Z)Z"⟩, 25) := ⟨⟨by decide +kernel, by decide +kernel⟩, List.mem_of_getElem? (i := 638) (by decide +kernel), List.mem_of_getElem? (i := 811) (by decide +kernel), List.mem_of_getElem? (i := 812) (by decide +kernel)⟩
theorem lw_p31 : lw_okq (⟨"ProgramGateModel", "lessSigned", "(Z)Z"⟩, 25) := ⟨⟨by decide +kernel, by decide +kernel⟩, List.mem_of_getElem? (i := 638) (by decide +kernel), List.mem_of_getElem? (i := 815) (by decide +kernel), List.mem_of_getElem? (i := 816) (by decide +kernel)⟩
def lw_privs_2 : List (MethodName × Nat) := [(⟨"ProgramGate$Machine", "checkedPlace", "(I)I"⟩, 5), (⟨"java/lang/Throwable", "fillInStackTrace", "(I)Ljava/lang/Throwable;"⟩, 6), (⟨"ProgramGate$Machine", "load", "(JI)I"⟩, 5), (⟨"ProgramGateModel", "setUp", "()V"⟩, 25), (⟨"ProgramGateModel", "nothing", "(I)V"⟩, 25), (⟨"ProgramGateModel", "tighten", "(I)Z"⟩, 25), (⟨"ProgramGateModel", "alarm", "()I"⟩, 25), (⟨"ProgramGateModel", "copy", "(II)V"⟩, 25), (⟨"ProgramGateModel", "number", "(II)V"⟩, 25), (⟨"ProgramGateModel", "pass", "()Z"⟩, 25), (⟨"ProgramGateModel", "part", "(IIII)Z"⟩, 25), (⟨"ProgramGateModel", "compare", "(IZ)Z"⟩, 25), (⟨"ProgramGateModel", "alike", "()Z"⟩, 25), (⟨"ProgramGateModel", "isExact", "(I)Z"⟩, 25), (⟨"ProgramGateModel", "less", "(Z)Z"⟩, 25), (⟨"ProgramGateModel", "lessSigned", "(Z)Z"⟩, 25)]
theorem lw_r2 : ∀ q ∈ lw_privs_2, lw_okq q := List.forall_mem_cons.mpr ⟨lw_p16, List.forall_mem_cons.mpr ⟨lw_p17, List.forall_mem_cons.mpr ⟨lw_p18, List.forall_mem_cons.mpr ⟨lw_p19, List.forall_mem_cons.mpr ⟨lw_p20, List.forall_mem_cons.mpr ⟨lw_p21, List.forall_mem_cons.mpr ⟨lw_p22, List.forall_mem_cons.mpr ⟨lw_p23, List.forall_mem_cons.mpr ⟨lw_p24, List.forall_mem_cons.mpr ⟨lw_p25, List.forall_mem_cons.mpr ⟨lw_p26, List.forall_mem_cons.mpr ⟨lw_p27, List.forall_mem_cons.mpr ⟨lw_p28, List.forall_mem_cons.mpr ⟨lw_p29, List.forall_mem_cons.mpr ⟨lw_p30, List.forall_mem_cons.mpr ⟨lw_p31, fun _ h => absurd h List.not_mem_nil⟩⟩⟩⟩⟩⟩⟩⟩⟩⟩⟩⟩⟩⟩⟩⟩
theorem lw_p32 : lw_okq (⟨"ProgramGateModel", "wait", "(III)V"⟩, 25) := ⟨⟨by decide +kernel, by decide +kernel⟩, List.mem_of_getElem? (i := 638) (by decide +kernel), List.mem_of_getElem? (i := 819) (by decide +kernel), List.mem_of_getElem? (i := 820) (by decide +kernel)⟩
theorem lw_p33 : lw_okq (⟨"ProgramGateModel", "operate", "(I)Z"⟩, 25) := ⟨⟨by decide +kernel, by decide +kernel⟩, List.mem_of_getElem? (i := 638) (by decide +kernel), List.mem_of_getElem? (i := 823) (by decide +kernel), List.mem_of_getElem? (i := 824) (by decide +kernel)⟩
theorem lw_p34 : lw_okq (⟨"ProgramGateModel", "bitsOf", "(I)V"⟩, 25) := ⟨⟨by decide +kernel, by decide +kernel⟩, List.mem_of_getElem? (i := 638) (by decide +kernel), List.mem_of_getElem? (i := 827) (by decide +kernel), List.mem_of_getElem? (i := 828) (by decide +kernel)⟩
theorem lw_p35 : lw_okq (⟨"ProgramGateModel", "lowest", "()I"⟩, 25) := ⟨⟨by decide +kernel, by decide +kernel⟩, List.mem_of_getElem? (i := 638) (by decide +kernel), List.mem_of_getElem? (i := 831) (by decide +kernel), List.mem_of_getElem? (i := 832) (by decide +kernel)⟩
theorem lw_p36 : lw_okq (⟨"ProgramGateModel", "knows", "(II)V"⟩, 25) := ⟨⟨by decide +kernel, by decide +kernel⟩, List.mem_of_getElem? (i := 638) (by decide +kernel), List.mem_of_getElem? (i := 835) (by decide +kernel), List.mem_of_getElem? (i := 836) (by decide +kernel)⟩
theorem lw_p37 : lw_okq (⟨"ProgramGateModel", "boundsOf", "(I)V"⟩, 25) := ⟨⟨by decide +kernel, by decide +kernel⟩, List.mem_of_getElem? (i := 638) (by decide +kernel), List.mem_of_getElem? (i := 839) (by decide +kernel), List.mem_of_getElem? (i := 840) (by decide +kernel)⟩
theorem lw_p38 : lw_okq (⟨"ProgramGateModel", "bound", "(JJ)V"⟩, 25) := ⟨⟨by decide +kernel, by decide +kernel⟩, List.mem_of_getElem? (i := 638) (by decide +kernel), List.mem_of_getElem? (i := 843) (by decide +kernel), List.mem_of_getElem? (i := 844) (by decide +kernel)⟩
theorem lw_p39 : lw_okq (⟨"ProgramGateModel", "boundSigned", "(JJ)V"⟩, 25) := ⟨⟨by decide +kernel, by decide +kernel⟩, List.mem_of_getElem? (i := 638) (by decide +kernel), List.mem_of_getElem? (i := 847) (by decide +kernel), List.mem_of_getElem? (i := 848) (by decide +kernel)⟩
theorem lw_p40 : lw_okq (⟨"ProgramGateModel", "get", "(I)V"⟩, 25) := ⟨⟨by decide +kernel, by decide +kernel⟩, List.mem_of_getElem? (i := 638) (by decide +kernel), List.mem_of_getElem? (i := 852) (by decide +kernel), List.mem_of_getElem? (i := 853) (by decide +kernel)⟩
theorem lw_p41 : lw_okq (⟨"ProgramGateModel", "meet", "(II)V"⟩, 25) := ⟨⟨by decide +kernel, by decide +kernel⟩, List.mem_of_getElem? (i := 638) (by decide +kernel), List.mem_of_getElem? (i := 856) (by decide +kernel), List.mem_of_getElem? (i := 857) (by decide +kernel)⟩
theorem lw_p42 : lw_okq (⟨"ProgramGateModel", "put", "()V"⟩, 25) := ⟨⟨by decide +kernel, by decide +kernel⟩, List.mem_of_getElem? (i := 638) (by decide +kernel), List.mem_of_getElem? (i := 860) (by decide +kernel), List.mem_of_getElem? (i := 861) (by decide +kernel)⟩
theorem lw_p43 : lw_okq (⟨"ProgramGateModel", "load", "(II)V"⟩, 25) := ⟨⟨by decide +kernel, by decide +kernel⟩, List.mem_of_getElem? (i := 638) (by decide +kernel), List.mem_of_getElem? (i := 864) (by decide +kernel), List.mem_of_getElem? (i := 865) (by decide +kernel)⟩
theorem lw_p44 : lw_okq (⟨"ProgramGateModel", "refuse", "(I)I"⟩, 25) := ⟨⟨by decide +kernel, by decide +kernel⟩, List.mem_of_getElem? (i := 638) (by decide +kernel), List.mem_of_getElem? (i := 882) (by decide +kernel), List.mem_of_getElem? (i := 883) (by decide +kernel)⟩
theorem lw_p45 : lw_okq (⟨"ProgramGateModel", "bytesAt", "(II)I"⟩, 25) := ⟨⟨by decide +kernel, by decide +kernel⟩, List.mem_of_getElem? (i := 638) (by decide +kernel), List.mem_of_getElem? (i := 892) (by decide +kernel), List.mem_of_getElem? (i := 893) (by decide +kernel)⟩
def lw_privs_3 : List (MethodName × Nat) := [(⟨"ProgramGateModel", "wait", "(III)V"⟩, 25), (⟨"ProgramGateModel", "operate", "(I)Z"⟩, 25), (⟨"ProgramGateModel", "bitsOf", "(I)V"⟩, 25), (⟨"ProgramGateModel", "lowest", "()I"⟩, 25), (⟨"ProgramGateModel", "knows", "(II)V"⟩, 25), (⟨"ProgramGateModel", "boundsOf", "(I)V"⟩, 25), (⟨"ProgramGateModel", "bound", "(JJ)V"⟩, 25), (⟨"ProgramGateModel", "boundSigned", "(JJ)V"⟩, 25), (⟨"ProgramGateModel", "get", "(I)V"⟩, 25), (⟨"ProgramGateModel", "meet", "(II)V"⟩, 25), (⟨"ProgramGateModel", "put", "()V"⟩, 25), (⟨"ProgramGateModel", "load", "(II)V"⟩, 25), (⟨"ProgramGateModel", "refuse", "(I)I"⟩, 25), (⟨"ProgramGateModel", "bytesAt", "(II)I"⟩, 25)]
theorem lw_r3 : ∀ q ∈ lw_privs_3, lw_okq q := List.forall_mem_cons.mpr ⟨lw_p32, List.forall_mem_cons.mpr ⟨lw_p33, List.forall_mem_cons.mpr ⟨lw_p34, List.forall_mem_cons.mpr ⟨lw_p35, List.forall_mem_cons.mpr ⟨lw_p36, List.forall_mem_cons.mpr ⟨lw_p37, List.forall_mem_cons.mpr ⟨lw_p38, List.forall_mem_cons.mpr ⟨lw_p39, List.forall_mem_cons.mpr ⟨lw_p40, List.forall_mem_cons.mpr ⟨lw_p41, List.forall_mem_cons.mpr ⟨lw_p42, List.forall_mem_cons.mpr ⟨lw_p43, List.forall_mem_cons.mpr ⟨lw_p44, List.forall_mem_cons.mpr ⟨lw_p45, fun _ h => absurd h List.not_mem_nil⟩⟩⟩⟩⟩⟩⟩⟩⟩⟩⟩⟩⟩⟩
def lw_privs : List (MethodName × Nat) := lw_privs_1 ++ (lw_privs_2 ++ (lw_privs_3))
def lw_tbl : List Cond := k2_sels lw_privs ++ tables_1
theorem lw_privs_ok : ∀ q ∈ lw_privs, lw_okq q := by
  show ∀ q ∈ lw_privs_1 ++ (lw_privs_2 ++ (lw_privs_3)), lw_okq q
  exact List.forall_mem_append.mpr ⟨lw_r1, List.forall_mem_append.mpr ⟨lw_r2, lw_r3⟩⟩
end
section
theorem xar {α : Type} (l : List α) : l.toArray = Array.mk l := by
  apply Array.ext'
  simp
def xT : List Cond := lw_tbl.filter goodWord
abbrev R_0 : String := "ProgramGate"
def T_0 : u_T := fun k => match k with
  | 0 => ("ProgramGate", "program", "LProgramGate$Program;", true)
  | 1 => ("ProgramGate", "bytes", "LProgramGate$Packet;", true)
  | 2 => ("ProgramGate", "walker", "LProgramGate$Walker;", true)
  | _ => ("ProgramGate", "machine", "LProgramGate$Machine;", true)
def ty_0 : Nat → FieldType := fun k => match k with
  | 0 => (.object "ProgramGate$Program")
  | 1 => (.object "ProgramGate$Packet")
  | 2 => (.object "ProgramGate$Walker")
  | _ => (.object "ProgramGate$Machine")
abbrev R_1 : String := "ProgramGate$Instruction"
def T_1 : u_T := fun k => match k with
  | 0 => ("ProgramGate$Instruction", "op", "I", false)
  | 1 => ("ProgramGate$Instruction", "a", "I", false)
  | 2 => ("ProgramGate$Instruction", "b", "I", false)
  | 3 => ("ProgramGate$Instruction", "n", "I", false)
  | _ => ("ProgramGate$Instruction", "offset", "I", false)
def ty_1 : Nat → FieldType := fun k => match k with
  | 0 => .int
  | 1 => .int
  | 2 => .int
  | 3 => .int
  | _ => .int
abbrev R_2 : String := "ProgramGate$Known"
def T_2 : u_T := fun k => match k with
  | 0 => ("ProgramGate$Known", "set", "Z", false)
  | 1 => ("ProgramGate$Known", "bits", "I", false)
  | 2 => ("ProgramGate$Known", "ones", "I", false)
  | 3 => ("ProgramGate$Known", "low", "J", false)
  | 4 => ("ProgramGate$Known", "high", "J", false)
  | 5 => ("ProgramGate$Known", "least", "J", false)
  | 6 => ("ProgramGate$Known", "most", "J", false)
  | _ => ("ProgramGate$Known", "safe", "I", false)
def ty_2 : Nat → FieldType := fun k => match k with
  | 0 => .boolean
  | 1 => .int
  | 2 => .int
  | 3 => .long
  | 4 => .long
  | 5 => .long
  | 6 => .long
  | _ => .int
abbrev R_3 : String := "ProgramGate$Machine"
def T_3 : u_T := fun k => match k with
  | 0 => ("ProgramGate$Machine", "program", "LProgramGate$Program;", true)
  | 1 => ("ProgramGate$Machine", "packet", "LProgramGate$Packet;", true)
  | 2 => ("ProgramGate$Machine", "registers", "[I", true)
  | 3 => ("ProgramGate$Machine", "stack", "[I", true)
  | _ => ("ProgramGate$Machine", "instructionsMade", "I", false)
def ty_3 : Nat → FieldType := fun k => match k with
  | 0 => (.object "ProgramGate$Program")
  | 1 => (.object "ProgramGate$Packet")
  | 2 => (.array .int)
  | 3 => (.array .int)
  | _ => .int
abbrev R_4 : String := "ProgramGate$Packet"
def T_4 : u_T := fun k => match k with
  | 0 => ("ProgramGate$Packet", "values", "[I", true)
  | _ => ("ProgramGate$Packet", "length", "I", false)
def ty_4 : Nat → FieldType := fun k => match k with
  | 0 => (.array .int)
  | _ => .int
abbrev R_5 : String := "ProgramGate$Program"
def T_5 : u_T := fun k => match k with
  | 0 => ("ProgramGate$Program", "instructions", "[LProgramGate$Instruction;", true)
  | _ => ("ProgramGate$Program", "count", "I", false)
def ty_5 : Nat → FieldType := fun k => match k with
  | 0 => (.array (.object "ProgramGate$Instruction"))
  | _ => .int
abbrev R_6 : String := "ProgramGate$State"
def T_6 : u_T := fun k => match k with
  | 0 => ("ProgramGate$State", "registers", "[LProgramGate$Known;", true)
  | _ => ("ProgramGate$State", "places", "[LProgramGate$Known;", true)
def ty_6 : Nat → FieldType := fun k => match k with
  | 0 => (.array (.object "ProgramGate$Known"))
  | _ => (.array (.object "ProgramGate$Known"))
abbrev R_7 : String := "ProgramGate$Walker"
def T_7 : u_T := fun k => match k with
  | 0 => ("ProgramGate$Walker", "program", "LProgramGate$Program;", true)
  | 1 => ("ProgramGate$Walker", "now", "LProgramGate$State;", true)
  | 2 => ("ProgramGate$Walker", "waiting", "[LProgramGate$State;", true)
  | 3 => ("ProgramGate$Walker", "waits", "[Z", true)
  | 4 => ("ProgramGate$Walker", "number", "LProgramGate$Known;", true)
  | 5 => ("ProgramGate$Walker", "first", "LProgramGate$Known;", true)
  | 6 => ("ProgramGate$Walker", "second", "LProgramGate$Known;", true)
  | 7 => ("ProgramGate$Walker", "atEnd", "LProgramGate$State;", true)
  | 8 => ("ProgramGate$Walker", "ended", "Z", false)
  | _ => ("ProgramGate$Walker", "stepsMade", "I", false)
def ty_7 : Nat → FieldType := fun k => match k with
  | 0 => (.object "ProgramGate$Program")
  | 1 => (.object "ProgramGate$State")
  | 2 => (.array (.object "ProgramGate$State"))
  | 3 => (.array .boolean)
  | 4 => (.object "ProgramGate$Known")
  | 5 => (.object "ProgramGate$Known")
  | 6 => (.object "ProgramGate$Known")
  | 7 => (.object "ProgramGate$State")
  | 8 => .boolean
  | _ => .int
abbrev R_8 : String := "ProgramGateModel"
def T_8 : u_T := fun k => match k with
  | 0 => ("ProgramGateModel", "thrown", "I", false)
  | 1 => ("ProgramGateModel", "count", "I", false)
  | 2 => ("ProgramGateModel", "ops", "[I", true)
  | 3 => ("ProgramGateModel", "as", "[I", true)
  | 4 => ("ProgramGateModel", "bs", "[I", true)
  | 5 => ("ProgramGateModel", "ns", "[I", true)
  | 6 => ("ProgramGateModel", "offsets", "[I", true)
  | 7 => ("ProgramGateModel", "length", "I", false)
  | 8 => ("ProgramGateModel", "bytes", "[I", true)
  | 9 => ("ProgramGateModel", "set", "[Z", true)
  | 10 => ("ProgramGateModel", "bits", "[I", true)
  | 11 => ("ProgramGateModel", "ones", "[I", true)
  | 12 => ("ProgramGateModel", "low", "[J", true)
  | 13 => ("ProgramGateModel", "high", "[J", true)
  | 14 => ("ProgramGateModel", "least", "[J", true)
  | 15 => ("ProgramGateModel", "most", "[J", true)
  | 16 => ("ProgramGateModel", "safe", "[I", true)
  | 17 => ("ProgramGateModel", "place", "I", false)
  | 18 => ("ProgramGateModel", "steps", "I", false)
  | 19 => ("ProgramGateModel", "ended", "Z", false)
  | 20 => ("ProgramGateModel", "waiting", "I", false)
  | 21 => ("ProgramGateModel", "waits", "[I", true)
  | 22 => ("ProgramGateModel", "ran", "I", false)
  | 23 => ("ProgramGateModel", "registers", "[I", true)
  | _ => ("ProgramGateModel", "stack", "[I", true)
def ty_8 : Nat → FieldType := fun k => match k with
  | 0 => .int
  | 1 => .int
  | 2 => (.array .int)
  | 3 => (.array .int)
  | 4 => (.array .int)
  | 5 => (.array .int)
  | 6 => (.array .int)
  | 7 => .int
  | 8 => (.array .int)
  | 9 => (.array .boolean)
  | 10 => (.array .int)
  | 11 => (.array .int)
  | 12 => (.array .long)
  | 13 => (.array .long)
  | 14 => (.array .long)
  | 15 => (.array .long)
  | 16 => (.array .int)
  | 17 => .int
  | 18 => .int
  | 19 => .boolean
  | 20 => .int
  | 21 => (.array .int)
  | 22 => .int
  | 23 => (.array .int)
  | _ => (.array .int)
abbrev xcl : List vw_C := [(R_0, T_0, 4), (R_1, T_1, 5), (R_2, T_2, 8), (R_3, T_3, 5), (R_4, T_4, 2), (R_5, T_5, 2), (R_6, T_6, 2), (R_7, T_7, 10), (R_8, T_8, 25)]
abbrev xtys (cT : Nat → ClassId) : List (ClassId × FieldType) := [(cT 0, .int), (cT 1, .long), (cT 2, .boolean), (cT 3, (.object "ProgramGate$Known")), (cT 4, (.object "ProgramGate$State")), (cT 5, (.object "ProgramGate$Instruction"))]
def xNw : List (String × Nat × MethodName × String) := [("ProgramGate$Program", 17, (⟨"ProgramGate$Instruction", "<init>", "()V"⟩ : MethodName), "ProgramGate"), ("ProgramGate", 18, (⟨"ProgramGate$Packet", "<init>", "()V"⟩ : MethodName), "ProgramGate"), ("ProgramGate$State", 20, (⟨"ProgramGate$Known", "<init>", "()V"⟩ : MethodName), "ProgramGate"), ("ProgramGate$Walker", 28, (⟨"ProgramGate$Known", "<init>", "()V"⟩ : MethodName), "ProgramGate"), ("ProgramGate$Known", 49, (⟨"ProgramGate", "unsigned", "(I)J"⟩ : MethodName), "ProgramGate"), ("ProgramGate$Operation", 76, (⟨"ProgramGate", "isInt", "(J)Z"⟩ : MethodName), "ProgramGate"), ("ProgramGate$Machine", 80, (⟨"ProgramGate", "unsigned", "(I)J"⟩ : MethodName), "ProgramGate")]
def xAO : List String := ["ProgramGate$Known", "ProgramGate$State", "ProgramGate$Instruction"]
abbrev y_I_init : MethodName := ⟨"ProgramGate$Instruction", "<init>", "()V"⟩
abbrev b_I_init : ByteArray := prog_2_method_1_code
abbrev t_I_init : Option FieldType := none
def lb_I_init : ByteArray := .mk (.mk [0x2a, 0xb7, 0x00, 0x03, 0xb1])
theorem bl_I_init : b_I_init = lb_I_init := congrArg ByteArray.mk (xar _)
abbrev y_K_init : MethodName := ⟨"ProgramGate$Known", "<init>", "()V"⟩
abbrev b_K_init : ByteArray := prog_3_method_1_code
abbrev t_K_init : Option FieldType := none
def lb_K_init : ByteArray := .mk (.mk [0x2a, 0xb7, 0x00, 0x03, 0xb1])
theorem bl_K_init : b_K_init = lb_K_init := congrArg ByteArray.mk (xar _)
abbrev y_I_allowed : MethodName := ⟨"ProgramGate$Instruction", "allowed", "(IIIII)Z"⟩
abbrev b_I_allowed : ByteArray := prog_2_method_2_code
abbrev t_I_allowed : Option FieldType := (some .boolean)
def lb_I_allowed : ByteArray := .mk (.mk [0x1a, 0x9b, 0x00, 0x1e, 0x1a, 0x10, 0x17, 0xa3, 0x00, 0x18, 0x1b, 0x9b, 0x00, 0x14, 0x1b, 0x10, 0x06, 0xa2, 0x00, 0x0e, 0x1c, 0x02, 0xa1, 0x00, 0x09, 0x1c, 0x10, 0x06, 0xa1, 0x00, 0x05, 0x03, 0xac, 0x1a, 0x10, 0x0e, 0x9f, 0x00, 0x09, 0x1a, 0x10, 0x0f, 0xa0, 0x00, 0x14, 0x1c, 0x02, 0x9f, 0x00, 0x0d, 0x1d, 0x9b, 0x00, 0x09, 0x1d, 0x10, 0x10, 0xa4, 0x00, 0x05, 0x03, 0xac, 0x1a, 0x10, 0x0e, 0xa0, 0x00, 0x1b, 0x15, 0x04, 0x04, 0x9f, 0x00, 0x0f, 0x15, 0x04, 0x05, 0x9f, 0x00, 0x09, 0x15, 0x04, 0x07, 0xa0, 0x00, 0x07, 0x04, 0xa7, 0x00, 0x04, 0x03, 0xac, 0x1a, 0x10, 0x0f, 0xa1, 0x00, 0x0d, 0x1a, 0x10, 0x16, 0xa3, 0x00, 0x07, 0x04, 0xa7, 0x00, 0x04, 0x03, 0x36, 0x05, 0x15, 0x05, 0x99, 0x00, 0x10, 0x15, 0x04, 0x04, 0xa1, 0x00, 0x0e, 0x15, 0x04, 0x10, 0x17, 0xa3, 0x00, 0x07, 0x04, 0xa7, 0x00, 0x04, 0x03, 0xac])
theorem bl_I_allowed : b_I_allowed = lb_I_allowed := congrArg ByteArray.mk (xar _)
abbrev y_I_become : MethodName := ⟨"ProgramGate$Instruction", "become", "(IIIII)V"⟩
abbrev b_I_become : ByteArray := prog_2_method_3_code
abbrev t_I_become : Option FieldType := none
def lb_I_become : ByteArray := .mk (.mk [0x2a, 0x1b, 0xb5, 0x00, 0x09, 0x2a, 0x1c, 0xb5, 0x00, 0x0f, 0x2a, 0x1d, 0xb5, 0x00, 0x12, 0x2a, 0x15, 0x04, 0xb5, 0x00, 0x15, 0x2a, 0x15, 0x05, 0xb5, 0x00, 0x18, 0xb1])
theorem bl_I_become : b_I_become = lb_I_become := congrArg ByteArray.mk (xar _)
abbrev y_G_add : MethodName := ⟨"ProgramGate", "add", "(IIIII)I"⟩
abbrev b_G_add : ByteArray := prog_1_method_2_code
abbrev t_G_add : Option FieldType := (some .int)
def lb_G_add : ByteArray := .mk (.mk [0x2a, 0xb4, 0x00, 0x0a, 0xb4, 0x00, 0x29, 0x10, 0x18, 0xa2, 0x00, 0x10, 0x1b, 0x1c, 0x1d, 0x15, 0x04, 0x15, 0x05, 0xb8, 0x00, 0x2d, 0x9a, 0x00, 0x05, 0x02, 0xac, 0x2a, 0xb4, 0x00, 0x0a, 0xb4, 0x00, 0x33, 0x2a, 0xb4, 0x00, 0x0a, 0xb4, 0x00, 0x29, 0x32, 0x1b, 0x1c, 0x1d, 0x15, 0x04, 0x15, 0x05, 0xb6, 0x00, 0x37, 0x2a, 0xb4, 0x00, 0x0a, 0x59, 0xb4, 0x00, 0x29, 0x04, 0x60, 0xb5, 0x00, 0x29, 0x2a, 0xb4, 0x00, 0x0a, 0xb4, 0x00, 0x29, 0xac])
theorem bl_G_add : b_G_add = lb_G_add := congrArg ByteArray.mk (xar _)
abbrev y_G_clear : MethodName := ⟨"ProgramGate", "clear", "()I"⟩
abbrev b_G_clear : ByteArray := prog_1_method_3_code
abbrev t_G_clear : Option FieldType := (some .int)
def lb_G_clear : ByteArray := .mk (.mk [0x2a, 0xb4, 0x00, 0x0a, 0xb4, 0x00, 0x29, 0x3c, 0x2a, 0xb4, 0x00, 0x0a, 0x03, 0xb5, 0x00, 0x29, 0x1b, 0xac])
theorem bl_G_clear : b_G_clear = lb_G_clear := congrArg ByteArray.mk (xar _)
abbrev y_G_size : MethodName := ⟨"ProgramGate", "size", "()I"⟩
abbrev b_G_size : ByteArray := prog_1_method_4_code
abbrev t_G_size : Option FieldType := (some .int)
def lb_G_size : ByteArray := .mk (.mk [0x2a, 0xb4, 0x00, 0x0a, 0xb4, 0x00, 0x29, 0xac])
theorem bl_G_size : b_G_size = lb_G_size := congrArg ByteArray.mk (xar _)
abbrev y_P_become : MethodName := ⟨"ProgramGate$Packet", "become", "(JJI)V"⟩
abbrev b_P_become : ByteArray := prog_6_method_2_code
abbrev t_P_become : Option FieldType := none
def lb_P_become : ByteArray := .mk (.mk [0x2a, 0x15, 0x05, 0xb5, 0x00, 0x0f, 0x03, 0x36, 0x06, 0x15, 0x06, 0x15, 0x05, 0xa2, 0x00, 0x2e, 0x15, 0x06, 0x10, 0x08, 0xa2, 0x00, 0x07, 0x1f, 0xa7, 0x00, 0x04, 0x21, 0x37, 0x07, 0x2a, 0xb4, 0x00, 0x09, 0x15, 0x06, 0x16, 0x07, 0x10, 0x08, 0x15, 0x06, 0x10, 0x08, 0x70, 0x68, 0x7d, 0x88, 0x11, 0x00, 0xff, 0x7e, 0x4f, 0x84, 0x06, 0x01, 0xa7, 0xff, 0xd1, 0xb1])
theorem bl_P_become : b_P_become = lb_P_become := congrArg ByteArray.mk (xar _)
abbrev y_G_packet : MethodName := ⟨"ProgramGate", "packet", "(JJI)Z"⟩
abbrev b_G_packet : ByteArray := prog_1_method_5_code
abbrev t_G_packet : Option FieldType := (some .boolean)
def lb_G_packet : ByteArray := .mk (.mk [0x15, 0x05, 0x9b, 0x00, 0x0a, 0x15, 0x05, 0x10, 0x10, 0xa4, 0x00, 0x05, 0x03, 0xac, 0x2a, 0xb4, 0x00, 0x13, 0x1f, 0x21, 0x15, 0x05, 0xb6, 0x00, 0x3b, 0x04, 0xac])
theorem bl_G_packet : b_G_packet = lb_G_packet := congrArg ByteArray.mk (xar _)
abbrev y_K_becomeNothing : MethodName := ⟨"ProgramGate$Known", "becomeNothing", "()V"⟩
abbrev b_K_becomeNothing : ByteArray := prog_3_method_2_code
abbrev t_K_becomeNothing : Option FieldType := none
def lb_K_becomeNothing : ByteArray := .mk (.mk [0x2a, 0x04, 0xb5, 0x00, 0x09, 0x2a, 0x03, 0xb5, 0x00, 0x0f, 0x2a, 0x03, 0xb5, 0x00, 0x13, 0x2a, 0x09, 0xb5, 0x00, 0x16, 0x2a, 0x14, 0x00, 0x1a, 0xb5, 0x00, 0x1c, 0x2a, 0x14, 0x00, 0x21, 0xb5, 0x00, 0x23, 0x2a, 0x14, 0x00, 0x26, 0xb5, 0x00, 0x28, 0x2a, 0x03, 0xb5, 0x00, 0x2b, 0xb1])
theorem bl_K_becomeNothing : b_K_becomeNothing = lb_K_becomeNothing := congrArg ByteArray.mk (xar _)
abbrev y_K_boundUnsigned : MethodName := ⟨"ProgramGate$Known", "boundUnsigned", "(JJ)V"⟩
abbrev b_K_boundUnsigned : ByteArray := prog_3_method_6_code
abbrev t_K_boundUnsigned : Option FieldType := none
def lb_K_boundUnsigned : ByteArray := .mk (.mk [0x2a, 0x1f, 0xb5, 0x00, 0x16, 0x2a, 0x21, 0xb5, 0x00, 0x1c, 0xb1])
theorem bl_K_boundUnsigned : b_K_boundUnsigned = lb_K_boundUnsigned := congrArg ByteArray.mk (xar _)
abbrev y_K_boundSigned : MethodName := ⟨"ProgramGate$Known", "boundSigned", "(JJ)V"⟩
abbrev b_K_boundSigned : ByteArray := prog_3_method_7_code
abbrev t_K_boundSigned : Option FieldType := none
def lb_K_boundSigned : ByteArray := .mk (.mk [0x2a, 0x1f, 0xb5, 0x00, 0x23, 0x2a, 0x21, 0xb5, 0x00, 0x28, 0xb1])
theorem bl_K_boundSigned : b_K_boundSigned = lb_K_boundSigned := congrArg ByteArray.mk (xar _)
abbrev y_G_unsigned : MethodName := ⟨"ProgramGate", "unsigned", "(I)J"⟩
abbrev b_G_unsigned : ByteArray := prog_1_method_11_code
abbrev t_G_unsigned : Option FieldType := (some .long)
def lb_G_unsigned : ByteArray := .mk (.mk [0x1a, 0x85, 0x14, 0x00, 0x62, 0x7f, 0xad])
theorem bl_G_unsigned : b_G_unsigned = lb_G_unsigned := congrArg ByteArray.mk (xar _)
abbrev y_jM_max_J : MethodName := ⟨"java/lang/Math", "max", "(JJ)J"⟩
abbrev b_jM_max_J : ByteArray := prog_18_method_66_code
abbrev t_jM_max_J : Option FieldType := (some .long)
def lb_jM_max_J : ByteArray := .mk (.mk [0x1e, 0x20, 0x94, 0x9b, 0x00, 0x07, 0x1e, 0xa7, 0x00, 0x04, 0x20, 0xad])
theorem bl_jM_max_J : b_jM_max_J = lb_jM_max_J := congrArg ByteArray.mk (xar _)
abbrev y_jM_min_J : MethodName := ⟨"java/lang/Math", "min", "(JJ)J"⟩
abbrev b_jM_min_J : ByteArray := prog_18_method_70_code
abbrev t_jM_min_J : Option FieldType := (some .long)
def lb_jM_min_J : ByteArray := .mk (.mk [0x1e, 0x20, 0x94, 0x9d, 0x00, 0x07, 0x1e, 0xa7, 0x00, 0x04, 0x20, 0xad])
theorem bl_jM_min_J : b_jM_min_J = lb_jM_min_J := congrArg ByteArray.mk (xar _)
abbrev y_jI_numberOfLeadingZeros : MethodName := ⟨"java/lang/Integer", "numberOfLeadingZeros", "(I)I"⟩
abbrev b_jI_numberOfLeadingZeros : ByteArray := prog_16_method_47_code
abbrev t_jI_numberOfLeadingZeros : Option FieldType := (some .int)
def lb_jI_numberOfLeadingZeros : ByteArray := .mk (.mk [0x1a, 0x9d, 0x00, 0x0e, 0x1a, 0x9a, 0x00, 0x08, 0x10, 0x20, 0xa7, 0x00, 0x04, 0x03, 0xac, 0x10, 0x1f, 0x3c, 0x1a, 0x13, 0x01, 0x08, 0xa1, 0x00, 0x0b, 0x84, 0x01, 0xf0, 0x1a, 0x10, 0x10, 0x7c, 0x3b, 0x1a, 0x11, 0x01, 0x00, 0xa1, 0x00, 0x0b, 0x84, 0x01, 0xf8, 0x1a, 0x10, 0x08, 0x7c, 0x3b, 0x1a, 0x10, 0x10, 0xa1, 0x00, 0x0a, 0x84, 0x01, 0xfc, 0x1a, 0x07, 0x7c, 0x3b, 0x1a, 0x07, 0xa1, 0x00, 0x0a, 0x84, 0x01, 0xfe, 0x1a, 0x05, 0x7c, 0x3b, 0x1b, 0x1a, 0x04, 0x7c, 0x64, 0xac])
theorem bl_jI_numberOfLeadingZeros : b_jI_numberOfLeadingZeros = lb_jI_numberOfLeadingZeros := congrArg ByteArray.mk (xar _)
abbrev y_jL_numberOfLeadingZeros : MethodName := ⟨"java/lang/Long", "numberOfLeadingZeros", "(J)I"⟩
abbrev b_jL_numberOfLeadingZeros : ByteArray := prog_17_method_48_code
abbrev t_jL_numberOfLeadingZeros : Option FieldType := (some .int)
def lb_jL_numberOfLeadingZeros : ByteArray := .mk (.mk [0x1e, 0x10, 0x20, 0x7d, 0x88, 0x3d, 0x1c, 0x9a, 0x00, 0x0e, 0x10, 0x20, 0x1e, 0x88, 0xb8, 0x01, 0x34, 0x60, 0xa7, 0x00, 0x07, 0x1c, 0xb8, 0x01, 0x34, 0xac])
theorem bl_jL_numberOfLeadingZeros : b_jL_numberOfLeadingZeros = lb_jL_numberOfLeadingZeros := congrArg ByteArray.mk (xar _)
abbrev y_K_contradicts : MethodName := ⟨"ProgramGate$Known", "contradicts", "(II)Z"⟩
abbrev b_K_contradicts : ByteArray := prog_3_method_10_code
abbrev t_K_contradicts : Option FieldType := (some .boolean)
def lb_K_contradicts : ByteArray := .mk (.mk [0x2a, 0xb4, 0x00, 0x0f, 0x1b, 0x7e, 0x2a, 0xb4, 0x00, 0x13, 0x1c, 0x82, 0x7e, 0x99, 0x00, 0x07, 0x04, 0xa7, 0x00, 0x04, 0x03, 0xac])
theorem bl_K_contradicts : b_K_contradicts = lb_K_contradicts := congrArg ByteArray.mk (xar _)
abbrev y_K_tighten : MethodName := ⟨"ProgramGate$Known", "tighten", "()Z"⟩
abbrev b_K_tighten : ByteArray := prog_3_method_13_code
abbrev t_K_tighten : Option FieldType := (some .boolean)
def lb_K_tighten : ByteArray := .mk (.mk [0x2a, 0x2a, 0xb4, 0x00, 0x16, 0x2a, 0xb4, 0x00, 0x13, 0xb8, 0x00, 0x31, 0xb8, 0x00, 0x46, 0xb5, 0x00, 0x16, 0x2a, 0x2a, 0xb4, 0x00, 0x1c, 0x2a, 0xb4, 0x00, 0x13, 0x2a, 0xb4, 0x00, 0x0f, 0x02, 0x82, 0x80, 0xb8, 0x00, 0x31, 0xb8, 0x00, 0x40, 0xb5, 0x00, 0x1c, 0x2a, 0xb4, 0x00, 0x16, 0x14, 0x00, 0x52, 0x94, 0x9c, 0x00, 0x07, 0x04, 0xa7, 0x00, 0x04, 0x03, 0x2a, 0xb4, 0x00, 0x1c, 0x14, 0x00, 0x52, 0x94, 0x9c, 0x00, 0x07, 0x04, 0xa7, 0x00, 0x04, 0x03, 0xa0, 0x00, 0x25, 0x2a, 0x2a, 0xb4, 0x00, 0x23, 0x2a, 0xb4, 0x00, 0x16, 0x88, 0x85, 0xb8, 0x00, 0x46, 0xb5, 0x00, 0x23, 0x2a, 0x2a, 0xb4, 0x00, 0x28, 0x2a, 0xb4, 0x00, 0x1c, 0x88, 0x85, 0xb8, 0x00, 0x40, 0xb5, 0x00, 0x28, 0x2a, 0xb4, 0x00, 0x23, 0x09, 0x94, 0x9c, 0x00, 0x07, 0x04, 0xa7, 0x00, 0x04, 0x03, 0x2a, 0xb4, 0x00, 0x28, 0x09, 0x94, 0x9c, 0x00, 0x07, 0x04, 0xa7, 0x00, 0x04, 0x03, 0xa0, 0x00, 0x29, 0x2a, 0x2a, 0xb4, 0x00, 0x16, 0x2a, 0xb4, 0x00, 0x23, 0x88, 0xb8, 0x00, 0x31, 0xb8, 0x00, 0x46, 0xb5, 0x00, 0x16, 0x2a, 0x2a, 0xb4, 0x00, 0x1c, 0x2a, 0xb4, 0x00, 0x28, 0x88, 0xb8, 0x00, 0x31, 0xb8, 0x00, 0x40, 0xb5, 0x00, 0x1c, 0x14, 0x00, 0x54, 0x10, 0x40, 0x2a, 0xb4, 0x00, 0x16, 0x2a, 0xb4, 0x00, 0x1c, 0x83, 0xb8, 0x00, 0x56, 0x64, 0x79, 0x88, 0x3c, 0x2a, 0xb4, 0x00, 0x16, 0x2a, 0xb4, 0x00, 0x1c, 0x94, 0x9d, 0x00, 0x1c, 0x2a, 0xb4, 0x00, 0x23, 0x2a, 0xb4, 0x00, 0x28, 0x94, 0x9d, 0x00, 0x10, 0x2a, 0x1b, 0x2a, 0xb4, 0x00, 0x16, 0x88, 0xb6, 0x00, 0x4c, 0x99, 0x00, 0x05, 0x03, 0xac, 0x2a, 0x59, 0xb4, 0x00, 0x0f, 0x1b, 0x80, 0xb5, 0x00, 0x0f, 0x2a, 0x59, 0xb4, 0x00, 0x13, 0x2a, 0xb4, 0x00, 0x16, 0x88, 0x1b, 0x7e, 0x80, 0xb5, 0x00, 0x13, 0x04, 0xac])
theorem bl_K_tighten : b_K_tighten = lb_K_tighten := congrArg ByteArray.mk (xar _)
abbrev y_K_becomeUpTo : MethodName := ⟨"ProgramGate$Known", "becomeUpTo", "(I)V"⟩
abbrev b_K_becomeUpTo : ByteArray := prog_3_method_4_code
abbrev t_K_becomeUpTo : Option FieldType := none
def lb_K_becomeUpTo : ByteArray := .mk (.mk [0x2a, 0xb6, 0x00, 0x2e, 0x2a, 0x09, 0x1b, 0x85, 0xb6, 0x00, 0x35, 0x2a, 0x09, 0x1b, 0x85, 0xb6, 0x00, 0x39, 0x2a, 0xb6, 0x00, 0x3c, 0x57, 0xb1])
theorem bl_K_becomeUpTo : b_K_becomeUpTo = lb_K_becomeUpTo := congrArg ByteArray.mk (xar _)
abbrev y_S_begin : MethodName := ⟨"ProgramGate$State", "begin", "()V"⟩
abbrev b_S_begin : ByteArray := prog_8_method_2_code
abbrev t_S_begin : Option FieldType := none
def lb_S_begin : ByteArray := .mk (.mk [0x03, 0x3c, 0x1b, 0x10, 0x06, 0xa2, 0x00, 0x13, 0x2a, 0xb4, 0x00, 0x0b, 0x1b, 0x32, 0x03, 0xb5, 0x00, 0x15, 0x84, 0x01, 0x01, 0xa7, 0xff, 0xed, 0x03, 0x3c, 0x1b, 0x07, 0xa2, 0x00, 0x13, 0x2a, 0xb4, 0x00, 0x11, 0x1b, 0x32, 0x03, 0xb5, 0x00, 0x15, 0x84, 0x01, 0x01, 0xa7, 0xff, 0xee, 0x2a, 0xb4, 0x00, 0x0b, 0x04, 0x32, 0x10, 0x10, 0xb6, 0x00, 0x19, 0x2a, 0xb4, 0x00, 0x0b, 0x05, 0x32, 0xb6, 0x00, 0x1d, 0xb1])
theorem bl_S_begin : b_S_begin = lb_S_begin := congrArg ByteArray.mk (xar _)
abbrev y_W_begin : MethodName := ⟨"ProgramGate$Walker", "begin", "()V"⟩
abbrev b_W_begin : ByteArray := prog_9_method_3_code
abbrev t_W_begin : Option FieldType := none
def lb_W_begin : ByteArray := .mk (.mk [0x2a, 0x03, 0xb5, 0x00, 0x31, 0x2a, 0x03, 0xb5, 0x00, 0x3c, 0x2a, 0xb4, 0x00, 0x0c, 0xb6, 0x00, 0x40, 0x03, 0x3c, 0x1b, 0x10, 0x18, 0xa2, 0x00, 0x10, 0x2a, 0xb4, 0x00, 0x16, 0x1b, 0x03, 0x54, 0x84, 0x01, 0x01, 0xa7, 0xff, 0xf0, 0xb1])
theorem bl_W_begin : b_W_begin = lb_W_begin := congrArg ByteArray.mk (xar _)
abbrev y_I_readsA : MethodName := ⟨"ProgramGate$Instruction", "readsA", "()Z"⟩
abbrev b_I_readsA : ByteArray := prog_2_method_4_code
abbrev t_I_readsA : Option FieldType := (some .boolean)
def lb_I_readsA : ByteArray := .mk (.mk [0x2a, 0xb4, 0x00, 0x09, 0x04, 0xa1, 0x00, 0x0c, 0x2a, 0xb4, 0x00, 0x09, 0x10, 0x0b, 0xa4, 0x00, 0x1e, 0x2a, 0xb4, 0x00, 0x09, 0x10, 0x0d, 0x9f, 0x00, 0x15, 0x2a, 0xb4, 0x00, 0x09, 0x10, 0x10, 0xa1, 0x00, 0x10, 0x2a, 0xb4, 0x00, 0x09, 0x10, 0x15, 0xa3, 0x00, 0x07, 0x04, 0xa7, 0x00, 0x04, 0x03, 0xac])
theorem bl_I_readsA : b_I_readsA = lb_I_readsA := congrArg ByteArray.mk (xar _)
abbrev y_I_readsB : MethodName := ⟨"ProgramGate$Instruction", "readsB", "()Z"⟩
abbrev b_I_readsB : ByteArray := prog_2_method_5_code
abbrev t_I_readsB : Option FieldType := (some .boolean)
def lb_I_readsB : ByteArray := .mk (.mk [0x2a, 0xb4, 0x00, 0x12, 0x02, 0x9f, 0x00, 0x10, 0x2a, 0xb4, 0x00, 0x09, 0x10, 0x15, 0xa3, 0x00, 0x07, 0x04, 0xa7, 0x00, 0x04, 0x03, 0xac])
theorem bl_I_readsB : b_I_readsB = lb_I_readsB := congrArg ByteArray.mk (xar _)
abbrev y_W_readsUnset : MethodName := ⟨"ProgramGate$Walker", "readsUnset", "(LProgramGate$Instruction;)Z"⟩
abbrev b_W_readsUnset : ByteArray := prog_9_method_5_code
abbrev t_W_readsUnset : Option FieldType := (some .boolean)
def lb_W_readsUnset : ByteArray := .mk (.mk [0x2b, 0xb4, 0x00, 0x4e, 0x10, 0x17, 0xa0, 0x00, 0x18, 0x2a, 0xb4, 0x00, 0x0c, 0xb4, 0x00, 0x65, 0x03, 0x32, 0xb4, 0x00, 0x6f, 0x9a, 0x00, 0x07, 0x04, 0xa7, 0x00, 0x04, 0x03, 0xac, 0x2b, 0xb6, 0x00, 0x72, 0x99, 0x00, 0x15, 0x2a, 0xb4, 0x00, 0x0c, 0xb4, 0x00, 0x65, 0x2b, 0xb4, 0x00, 0x76, 0x32, 0xb4, 0x00, 0x6f, 0x99, 0x00, 0x1c, 0x2b, 0xb6, 0x00, 0x79, 0x99, 0x00, 0x19, 0x2a, 0xb4, 0x00, 0x0c, 0xb4, 0x00, 0x65, 0x2b, 0xb4, 0x00, 0x69, 0x32, 0xb4, 0x00, 0x6f, 0x9a, 0x00, 0x07, 0x04, 0xa7, 0x00, 0x04, 0x03, 0xac])
theorem bl_W_readsUnset : b_W_readsUnset = lb_W_readsUnset := congrArg ByteArray.mk (xar _)
abbrev y_K_becomeNumber : MethodName := ⟨"ProgramGate$Known", "becomeNumber", "(I)V"⟩
abbrev b_K_becomeNumber : ByteArray := prog_3_method_3_code
abbrev t_K_becomeNumber : Option FieldType := none
def lb_K_becomeNumber : ByteArray := .mk (.mk [0x2a, 0xb6, 0x00, 0x2e, 0x2a, 0x02, 0xb5, 0x00, 0x0f, 0x2a, 0x1b, 0xb5, 0x00, 0x13, 0x2a, 0x1b, 0xb8, 0x00, 0x31, 0x1b, 0xb8, 0x00, 0x31, 0xb6, 0x00, 0x35, 0x2a, 0x1b, 0x85, 0x1b, 0x85, 0xb6, 0x00, 0x39, 0xb1])
theorem bl_K_becomeNumber : b_K_becomeNumber = lb_K_becomeNumber := congrArg ByteArray.mk (xar _)
abbrev y_W_knownOfY : MethodName := ⟨"ProgramGate$Walker", "knownOfY", "(LProgramGate$Instruction;)LProgramGate$Known;"⟩
abbrev b_W_knownOfY : ByteArray := prog_9_method_7_code
abbrev t_W_knownOfY : Option FieldType := (some (.object "ProgramGate$Known"))
def lb_W_knownOfY : ByteArray := .mk (.mk [0x2b, 0xb4, 0x00, 0x69, 0x02, 0x9f, 0x00, 0x10, 0x2a, 0xb4, 0x00, 0x0c, 0xb4, 0x00, 0x65, 0x2b, 0xb4, 0x00, 0x69, 0x32, 0xb0, 0x2a, 0xb4, 0x00, 0x1d, 0x2b, 0xb4, 0x00, 0x5f, 0xb6, 0x00, 0x84, 0x2a, 0xb4, 0x00, 0x1d, 0xb0])
theorem bl_W_knownOfY : b_W_knownOfY = lb_W_knownOfY := congrArg ByteArray.mk (xar _)
abbrev y_W_alarmOfPlaces : MethodName := ⟨"ProgramGate$Walker", "alarmOfPlaces", "(ILProgramGate$Known;)I"⟩
abbrev b_W_alarmOfPlaces : ByteArray := prog_9_method_6_code
abbrev t_W_alarmOfPlaces : Option FieldType := (some .int)
def lb_W_alarmOfPlaces : ByteArray := .mk (.mk [0x2c, 0xb4, 0x00, 0x7c, 0x14, 0x00, 0x7f, 0x94, 0x9b, 0x00, 0x05, 0x08, 0xac, 0x2c, 0xb4, 0x00, 0x57, 0x88, 0x3e, 0x1b, 0x10, 0x0c, 0xa0, 0x00, 0x25, 0x1d, 0x85, 0x2c, 0xb4, 0x00, 0x7c, 0x94, 0x9d, 0x00, 0x1b, 0x2a, 0xb4, 0x00, 0x0c, 0xb4, 0x00, 0x81, 0x1d, 0x32, 0xb4, 0x00, 0x6f, 0x9a, 0x00, 0x06, 0x10, 0x06, 0xac, 0x84, 0x03, 0x01, 0xa7, 0xff, 0xdb, 0x03, 0xac])
theorem bl_W_alarmOfPlaces : b_W_alarmOfPlaces = lb_W_alarmOfPlaces := congrArg ByteArray.mk (xar _)
abbrev y_W_alarmAt : MethodName := ⟨"ProgramGate$Walker", "alarmAt", "(I)I"⟩
abbrev b_W_alarmAt : ByteArray := prog_9_method_4_code
abbrev t_W_alarmAt : Option FieldType := (some .int)
def lb_W_alarmAt : ByteArray := .mk (.mk [0x1b, 0x2a, 0xb4, 0x00, 0x2a, 0xb4, 0x00, 0x41, 0xa1, 0x00, 0x05, 0x04, 0xac, 0x2a, 0xb4, 0x00, 0x31, 0x11, 0x01, 0x2c, 0xa4, 0x00, 0x05, 0x05, 0xac, 0x2a, 0xb4, 0x00, 0x2a, 0xb4, 0x00, 0x46, 0x1b, 0x32, 0x4d, 0x2a, 0x2c, 0xb6, 0x00, 0x4a, 0x99, 0x00, 0x05, 0x06, 0xac, 0x2c, 0xb4, 0x00, 0x4e, 0xaa, 0x00, 0x00, 0x00, 0x00, 0x00, 0x66, 0x00, 0x00, 0x00, 0x0a, 0x00, 0x00, 0x00, 0x0e, 0x00, 0x00, 0x00, 0x23, 0x00, 0x00, 0x00, 0x23, 0x00, 0x00, 0x00, 0x36, 0x00, 0x00, 0x00, 0x36, 0x00, 0x00, 0x00, 0x44, 0x2a, 0x2c, 0xb6, 0x00, 0x53, 0xb4, 0x00, 0x57, 0x09, 0x94, 0x9a, 0x00, 0x07, 0x07, 0xa7, 0x00, 0x04, 0x03, 0xac, 0x2a, 0x2c, 0xb4, 0x00, 0x4e, 0x2a, 0x2c, 0xb6, 0x00, 0x53, 0xb6, 0x00, 0x5b, 0xac, 0x2c, 0xb4, 0x00, 0x5f, 0x2c, 0xb4, 0x00, 0x62, 0x60, 0x2a, 0xb4, 0x00, 0x0c, 0xb4, 0x00, 0x65, 0x2c, 0xb4, 0x00, 0x69, 0x32, 0xb4, 0x00, 0x6c, 0xa4, 0x00, 0x08, 0x10, 0x07, 0xa7, 0x00, 0x04, 0x03, 0xac, 0x03, 0xac])
theorem bl_W_alarmAt : b_W_alarmAt = lb_W_alarmAt := congrArg ByteArray.mk (xar _)
abbrev y_K_take : MethodName := ⟨"ProgramGate$Known", "take", "(LProgramGate$Known;)V"⟩
abbrev b_K_take : ByteArray := prog_3_method_5_code
abbrev t_K_take : Option FieldType := none
def lb_K_take : ByteArray := .mk (.mk [0x2a, 0x2b, 0xb4, 0x00, 0x09, 0xb5, 0x00, 0x09, 0x2a, 0x2b, 0xb4, 0x00, 0x0f, 0xb5, 0x00, 0x0f, 0x2a, 0x2b, 0xb4, 0x00, 0x13, 0xb5, 0x00, 0x13, 0x2a, 0x2b, 0xb4, 0x00, 0x16, 0x2b, 0xb4, 0x00, 0x1c, 0xb6, 0x00, 0x35, 0x2a, 0x2b, 0xb4, 0x00, 0x23, 0x2b, 0xb4, 0x00, 0x28, 0xb6, 0x00, 0x39, 0x2a, 0x2b, 0xb4, 0x00, 0x2b, 0xb5, 0x00, 0x2b, 0xb1])
theorem bl_K_take : b_K_take = lb_K_take := congrArg ByteArray.mk (xar _)
abbrev y_S_take : MethodName := ⟨"ProgramGate$State", "take", "(LProgramGate$State;)V"⟩
abbrev b_S_take : ByteArray := prog_8_method_3_code
abbrev t_S_take : Option FieldType := none
def lb_S_take : ByteArray := .mk (.mk [0x03, 0x3d, 0x1c, 0x10, 0x06, 0xa2, 0x00, 0x18, 0x2a, 0xb4, 0x00, 0x0b, 0x1c, 0x32, 0x2b, 0xb4, 0x00, 0x0b, 0x1c, 0x32, 0xb6, 0x00, 0x20, 0x84, 0x02, 0x01, 0xa7, 0xff, 0xe8, 0x03, 0x3d, 0x1c, 0x07, 0xa2, 0x00, 0x18, 0x2a, 0xb4, 0x00, 0x11, 0x1c, 0x32, 0x2b, 0xb4, 0x00, 0x11, 0x1c, 0x32, 0xb6, 0x00, 0x20, 0x84, 0x02, 0x01, 0xa7, 0xff, 0xe9, 0xb1])
theorem bl_S_take : b_S_take = lb_S_take := congrArg ByteArray.mk (xar _)
abbrev y_W_resume : MethodName := ⟨"ProgramGate$Walker", "resume", "()I"⟩
abbrev b_W_resume : ByteArray := prog_9_method_9_code
abbrev t_W_resume : Option FieldType := (some .int)
def lb_W_resume : ByteArray := .mk (.mk [0x10, 0x17, 0x3c, 0x1b, 0x9b, 0x00, 0x37, 0x2a, 0xb4, 0x00, 0x16, 0x1b, 0x33, 0x99, 0x00, 0x28, 0x2a, 0xb4, 0x00, 0x16, 0x1b, 0x03, 0x54, 0x2a, 0xb4, 0x00, 0x0c, 0x2a, 0xb4, 0x00, 0x12, 0x1b, 0x32, 0xb6, 0x00, 0x88, 0x1b, 0x04, 0x60, 0x2a, 0xb4, 0x00, 0x2a, 0xb4, 0x00, 0x46, 0x1b, 0x32, 0xb4, 0x00, 0x62, 0x60, 0xac, 0x84, 0x01, 0xff, 0xa7, 0xff, 0xcb, 0x02, 0xac])
theorem bl_W_resume : b_W_resume = lb_W_resume := congrArg ByteArray.mk (xar _)
abbrev y_jM_max_I : MethodName := ⟨"java/lang/Math", "max", "(II)I"⟩
abbrev b_jM_max_I : ByteArray := prog_18_method_65_code
abbrev t_jM_max_I : Option FieldType := (some .int)
def lb_jM_max_I : ByteArray := .mk (.mk [0x1a, 0x1b, 0xa1, 0x00, 0x07, 0x1a, 0xa7, 0x00, 0x04, 0x1b, 0xac])
theorem bl_jM_max_I : b_jM_max_I = lb_jM_max_I := congrArg ByteArray.mk (xar _)
abbrev y_W_takePair : MethodName := ⟨"ProgramGate$Walker", "takePair", "(LProgramGate$Instruction;)V"⟩
abbrev b_W_takePair : ByteArray := prog_9_method_14_code
abbrev t_W_takePair : Option FieldType := none
def lb_W_takePair : ByteArray := .mk (.mk [0x2a, 0xb4, 0x00, 0x21, 0x2a, 0xb4, 0x00, 0x0c, 0xb4, 0x00, 0x65, 0x2b, 0xb4, 0x00, 0x76, 0x32, 0xb6, 0x00, 0x97, 0x2a, 0xb4, 0x00, 0x24, 0x2a, 0x2b, 0xb6, 0x00, 0x53, 0xb6, 0x00, 0x97, 0xb1])
theorem bl_W_takePair : b_W_takePair = lb_W_takePair := congrArg ByteArray.mk (xar _)
abbrev y_K_join : MethodName := ⟨"ProgramGate$Known", "join", "(LProgramGate$Known;)Z"⟩
abbrev b_K_join : ByteArray := prog_3_method_12_code
abbrev t_K_join : Option FieldType := (some .boolean)
def lb_K_join : ByteArray := .mk (.mk [0x2a, 0x2b, 0xb4, 0x00, 0x0f, 0x2b, 0xb4, 0x00, 0x13, 0xb6, 0x00, 0x4c, 0x99, 0x00, 0x05, 0x03, 0xac, 0x2a, 0x59, 0xb4, 0x00, 0x0f, 0x2b, 0xb4, 0x00, 0x0f, 0x80, 0xb5, 0x00, 0x0f, 0x2a, 0x59, 0xb4, 0x00, 0x13, 0x2b, 0xb4, 0x00, 0x13, 0x80, 0xb5, 0x00, 0x13, 0x2a, 0x2a, 0xb4, 0x00, 0x16, 0x2b, 0xb4, 0x00, 0x16, 0xb8, 0x00, 0x46, 0x2a, 0xb4, 0x00, 0x1c, 0x2b, 0xb4, 0x00, 0x1c, 0xb8, 0x00, 0x40, 0xb6, 0x00, 0x35, 0x2a, 0x2a, 0xb4, 0x00, 0x23, 0x2b, 0xb4, 0x00, 0x23, 0xb8, 0x00, 0x46, 0x2a, 0xb4, 0x00, 0x28, 0x2b, 0xb4, 0x00, 0x28, 0xb8, 0x00, 0x40, 0xb6, 0x00, 0x39, 0x2a, 0x2a, 0xb4, 0x00, 0x2b, 0x2b, 0xb4, 0x00, 0x2b, 0xb8, 0x00, 0x50, 0xb5, 0x00, 0x2b, 0x04, 0xac])
theorem bl_K_join : b_K_join = lb_K_join := congrArg ByteArray.mk (xar _)
abbrev y_K_isExact : MethodName := ⟨"ProgramGate$Known", "isExact", "()Z"⟩
abbrev b_K_isExact : ByteArray := prog_3_method_8_code
abbrev t_K_isExact : Option FieldType := (some .boolean)
def lb_K_isExact : ByteArray := .mk (.mk [0x2a, 0xb4, 0x00, 0x16, 0x2a, 0xb4, 0x00, 0x1c, 0x94, 0x9a, 0x00, 0x07, 0x04, 0xa7, 0x00, 0x04, 0x03, 0xac])
theorem bl_K_isExact : b_K_isExact = lb_K_isExact := congrArg ByteArray.mk (xar _)
abbrev y_W_relate : MethodName := ⟨"ProgramGate$Walker", "relate", "(I)Z"⟩
abbrev b_W_relate : ByteArray := prog_9_method_16_code
abbrev t_W_relate : Option FieldType := (some .boolean)
def lb_W_relate : ByteArray := .mk (.mk [0x1b, 0xaa, 0x00, 0x00, 0x00, 0x00, 0x01, 0x0e, 0x00, 0x00, 0x00, 0x10, 0x00, 0x00, 0x00, 0x14, 0x00, 0x00, 0x00, 0x23, 0x00, 0x00, 0x00, 0x41, 0x00, 0x00, 0x00, 0x6d, 0x00, 0x00, 0x00, 0xa4, 0x00, 0x00, 0x00, 0xd7, 0x2a, 0xb4, 0x00, 0x21, 0x2a, 0xb4, 0x00, 0x24, 0xb6, 0x00, 0xc6, 0x9a, 0x00, 0x05, 0x03, 0xac, 0x2a, 0xb4, 0x00, 0x24, 0x2a, 0xb4, 0x00, 0x21, 0xb6, 0x00, 0x97, 0xa7, 0x01, 0x00, 0x2a, 0xb4, 0x00, 0x21, 0xb6, 0x00, 0xb1, 0x99, 0x00, 0x1f, 0x2a, 0xb4, 0x00, 0x24, 0xb6, 0x00, 0xb1, 0x99, 0x00, 0x15, 0x2a, 0xb4, 0x00, 0x21, 0xb4, 0x00, 0x57, 0x2a, 0xb4, 0x00, 0x24, 0xb4, 0x00, 0x57, 0x94, 0x99, 0x00, 0x07, 0x04, 0xa7, 0x00, 0x04, 0x03, 0xac, 0x2a, 0xb4, 0x00, 0x21, 0x2a, 0xb4, 0x00, 0x21, 0xb4, 0x00, 0x7c, 0x2a, 0xb4, 0x00, 0x24, 0xb4, 0x00, 0x7c, 0x0a, 0x65, 0xb8, 0x00, 0xca, 0xb5, 0x00, 0x7c, 0x2a, 0xb4, 0x00, 0x24, 0x2a, 0xb4, 0x00, 0x24, 0xb4, 0x00, 0x57, 0x2a, 0xb4, 0x00, 0x21, 0xb4, 0x00, 0x57, 0x0a, 0x61, 0xb8, 0x00, 0xce, 0xb5, 0x00, 0x57, 0xa7, 0x00, 0x9d, 0x2a, 0xb4, 0x00, 0x21, 0x2a, 0xb4, 0x00, 0x21, 0xb4, 0x00, 0x57, 0x2a, 0xb4, 0x00, 0x24, 0xb4, 0x00, 0x57, 0xb8, 0x00, 0xce, 0xb5, 0x00, 0x57, 0x2a, 0xb4, 0x00, 0x24, 0x2a, 0xb4, 0x00, 0x24, 0xb4, 0x00, 0x7c, 0x2a, 0xb4, 0x00, 0x21, 0xb4, 0x00, 0x7c, 0xb8, 0x00, 0xca, 0xb5, 0x00, 0x7c, 0xa7, 0x00, 0x6a, 0x2a, 0xb4, 0x00, 0x21, 0x2a, 0xb4, 0x00, 0x21, 0xb4, 0x00, 0xd0, 0x2a, 0xb4, 0x00, 0x24, 0xb4, 0x00, 0xd0, 0x0a, 0x65, 0xb8, 0x00, 0xca, 0xb5, 0x00, 0xd0, 0x2a, 0xb4, 0x00, 0x24, 0x2a, 0xb4, 0x00, 0x24, 0xb4, 0x00, 0xd3, 0x2a, 0xb4, 0x00, 0x21, 0xb4, 0x00, 0xd3, 0x0a, 0x61, 0xb8, 0x00, 0xce, 0xb5, 0x00, 0xd3, 0xa7, 0x00, 0x33, 0x2a, 0xb4, 0x00, 0x21, 0x2a, 0xb4, 0x00, 0x21, 0xb4, 0x00, 0xd3, 0x2a, 0xb4, 0x00, 0x24, 0xb4, 0x00, 0xd3, 0xb8, 0x00, 0xce, 0xb5, 0x00, 0xd3, 0x2a, 0xb4, 0x00, 0x24, 0x2a, 0xb4, 0x00, 0x24, 0xb4, 0x00, 0xd0, 0x2a, 0xb4, 0x00, 0x21, 0xb4, 0x00, 0xd0, 0xb8, 0x00, 0xca, 0xb5, 0x00, 0xd0, 0x2a, 0xb4, 0x00, 0x21, 0xb6, 0x00, 0xd6, 0x99, 0x00, 0x11, 0x2a, 0xb4, 0x00, 0x24, 0xb6, 0x00, 0xd6, 0x99, 0x00, 0x07, 0x04, 0xa7, 0x00, 0x04, 0x03, 0xac])
theorem bl_W_relate : b_W_relate = lb_W_relate := congrArg ByteArray.mk (xar _)
abbrev y_W_givePair : MethodName := ⟨"ProgramGate$Walker", "givePair", "(LProgramGate$Instruction;LProgramGate$State;)V"⟩
abbrev b_W_givePair : ByteArray := prog_9_method_15_code
abbrev t_W_givePair : Option FieldType := none
def lb_W_givePair : ByteArray := .mk (.mk [0x2c, 0xb4, 0x00, 0x65, 0x2b, 0xb4, 0x00, 0x76, 0x32, 0x2a, 0xb4, 0x00, 0x21, 0xb6, 0x00, 0x97, 0x2b, 0xb4, 0x00, 0x69, 0x02, 0x9f, 0x00, 0x13, 0x2c, 0xb4, 0x00, 0x65, 0x2b, 0xb4, 0x00, 0x69, 0x32, 0x2a, 0xb4, 0x00, 0x24, 0xb6, 0x00, 0x97, 0xb1])
theorem bl_W_givePair : b_W_givePair = lb_W_givePair := congrArg ByteArray.mk (xar _)
abbrev y_W_part : MethodName := ⟨"ProgramGate$Walker", "part", "(LProgramGate$Instruction;I)Z"⟩
abbrev b_W_part : ByteArray := prog_9_method_13_code
abbrev t_W_part : Option FieldType := (some .boolean)
def lb_W_part : ByteArray := .mk (.mk [0x2a, 0xb4, 0x00, 0x12, 0x1c, 0x32, 0x2a, 0xb4, 0x00, 0x0c, 0xb6, 0x00, 0x88, 0x2b, 0xb4, 0x00, 0x4e, 0x10, 0x0f, 0xa0, 0x00, 0x28, 0x2a, 0xb4, 0x00, 0x16, 0x1c, 0x04, 0x54, 0x2a, 0xb4, 0x00, 0x0c, 0xb4, 0x00, 0x65, 0x2b, 0xb4, 0x00, 0x69, 0x32, 0x4e, 0x2d, 0x2d, 0xb4, 0x00, 0x6c, 0x2b, 0xb4, 0x00, 0x5f, 0xb8, 0x00, 0xb4, 0xb5, 0x00, 0x6c, 0x04, 0xac, 0x2a, 0x2b, 0xb6, 0x00, 0xba, 0x2a, 0xb4, 0x00, 0x16, 0x1c, 0x2a, 0x2b, 0xb4, 0x00, 0x4e, 0xb6, 0x00, 0xbe, 0x54, 0x2a, 0x2b, 0x2a, 0xb4, 0x00, 0x12, 0x1c, 0x32, 0xb6, 0x00, 0xc2, 0x2a, 0x2b, 0xb6, 0x00, 0xba, 0x2a, 0x2b, 0xb4, 0x00, 0x4e, 0x04, 0x82, 0xb6, 0x00, 0xbe, 0x3e, 0x2a, 0x2b, 0x2a, 0xb4, 0x00, 0x0c, 0xb6, 0x00, 0xc2, 0x1d, 0xac])
theorem bl_W_part : b_W_part = lb_W_part := congrArg ByteArray.mk (xar _)
abbrev y_jM_min_I : MethodName := ⟨"java/lang/Math", "min", "(II)I"⟩
abbrev b_jM_min_I : ByteArray := prog_18_method_69_code
abbrev t_jM_min_I : Option FieldType := (some .int)
def lb_jM_min_I : ByteArray := .mk (.mk [0x1a, 0x1b, 0xa3, 0x00, 0x07, 0x1a, 0xa7, 0x00, 0x04, 0x1b, 0xac])
theorem bl_jM_min_I : b_jM_min_I = lb_jM_min_I := congrArg ByteArray.mk (xar _)
abbrev y_K_meet : MethodName := ⟨"ProgramGate$Known", "meet", "(LProgramGate$Known;)V"⟩
abbrev b_K_meet : ByteArray := prog_3_method_11_code
abbrev t_K_meet : Option FieldType := none
def lb_K_meet : ByteArray := .mk (.mk [0x2a, 0x2a, 0xb4, 0x00, 0x0f, 0x2b, 0xb4, 0x00, 0x0f, 0x7e, 0x2a, 0xb4, 0x00, 0x13, 0x2b, 0xb4, 0x00, 0x13, 0x82, 0x02, 0x82, 0x7e, 0xb5, 0x00, 0x0f, 0x2a, 0x59, 0xb4, 0x00, 0x13, 0x2a, 0xb4, 0x00, 0x0f, 0x7e, 0xb5, 0x00, 0x13, 0x2a, 0x2a, 0xb4, 0x00, 0x16, 0x2b, 0xb4, 0x00, 0x16, 0xb8, 0x00, 0x40, 0x2a, 0xb4, 0x00, 0x1c, 0x2b, 0xb4, 0x00, 0x1c, 0xb8, 0x00, 0x46, 0xb6, 0x00, 0x35, 0x2a, 0x2a, 0xb4, 0x00, 0x23, 0x2b, 0xb4, 0x00, 0x23, 0xb8, 0x00, 0x40, 0x2a, 0xb4, 0x00, 0x28, 0x2b, 0xb4, 0x00, 0x28, 0xb8, 0x00, 0x46, 0xb6, 0x00, 0x39, 0x2a, 0x2a, 0xb4, 0x00, 0x2b, 0x2b, 0xb4, 0x00, 0x2b, 0xb8, 0x00, 0x49, 0xb5, 0x00, 0x2b, 0xb1])
theorem bl_K_meet : b_K_meet = lb_K_meet := congrArg ByteArray.mk (xar _)
abbrev y_W_fetch : MethodName := ⟨"ProgramGate$Walker", "fetch", "(LProgramGate$Known;LProgramGate$Known;)V"⟩
abbrev b_W_fetch : ByteArray := prog_9_method_11_code
abbrev t_W_fetch : Option FieldType := none
def lb_W_fetch : ByteArray := .mk (.mk [0x2c, 0xb4, 0x00, 0x57, 0x88, 0x3e, 0x2c, 0xb4, 0x00, 0x7c, 0x88, 0x36, 0x04, 0x2b, 0x2a, 0xb4, 0x00, 0x0c, 0xb4, 0x00, 0x81, 0x1d, 0x32, 0xb6, 0x00, 0x97, 0x1d, 0x04, 0x60, 0x36, 0x05, 0x15, 0x05, 0x15, 0x04, 0xa3, 0x00, 0x17, 0x2b, 0x2a, 0xb4, 0x00, 0x0c, 0xb4, 0x00, 0x81, 0x15, 0x05, 0x32, 0xb6, 0x00, 0xae, 0x84, 0x05, 0x01, 0xa7, 0xff, 0xe8, 0xb1])
theorem bl_W_fetch : b_W_fetch = lb_W_fetch := congrArg ByteArray.mk (xar _)
abbrev y_W_store : MethodName := ⟨"ProgramGate$Walker", "store", "(LProgramGate$Known;LProgramGate$Known;)V"⟩
abbrev b_W_store : ByteArray := prog_9_method_12_code
abbrev t_W_store : Option FieldType := none
def lb_W_store : ByteArray := .mk (.mk [0x2c, 0xb6, 0x00, 0xb1, 0x99, 0x00, 0x15, 0x2a, 0xb4, 0x00, 0x0c, 0xb4, 0x00, 0x81, 0x2c, 0xb4, 0x00, 0x57, 0x88, 0x32, 0x2b, 0xb6, 0x00, 0x97, 0xb1, 0x2c, 0xb4, 0x00, 0x57, 0x88, 0x3e, 0x1d, 0x85, 0x2c, 0xb4, 0x00, 0x7c, 0x94, 0x9d, 0x00, 0x25, 0x2a, 0xb4, 0x00, 0x0c, 0xb4, 0x00, 0x81, 0x1d, 0x32, 0xb4, 0x00, 0x6f, 0x99, 0x00, 0x10, 0x2a, 0xb4, 0x00, 0x0c, 0xb4, 0x00, 0x81, 0x1d, 0x32, 0x2b, 0xb6, 0x00, 0xae, 0x84, 0x03, 0x01, 0xa7, 0xff, 0xd7, 0xb1])
theorem bl_W_store : b_W_store = lb_W_store := congrArg ByteArray.mk (xar _)
abbrev y_O_lowestBits : MethodName := ⟨"ProgramGate$Operation", "lowestBits", "(LProgramGate$Known;LProgramGate$Known;)I"⟩
abbrev b_O_lowestBits : ByteArray := prog_5_method_3_code
abbrev t_O_lowestBits : Option FieldType := (some .int)
def lb_O_lowestBits : ByteArray := .mk (.mk [0x2a, 0xb4, 0x00, 0x31, 0x2b, 0xb4, 0x00, 0x31, 0x7e, 0x02, 0x82, 0x3d, 0x1c, 0x1c, 0x74, 0x7e, 0x04, 0x64, 0xac])
theorem bl_O_lowestBits : b_O_lowestBits = lb_O_lowestBits := congrArg ByteArray.mk (xar _)
abbrev y_G_isInt : MethodName := ⟨"ProgramGate", "isInt", "(J)Z"⟩
abbrev b_G_isInt : ByteArray := prog_1_method_12_code
abbrev t_G_isInt : Option FieldType := (some .boolean)
def lb_G_isInt : ByteArray := .mk (.mk [0x1e, 0x14, 0x00, 0x66, 0x94, 0x9b, 0x00, 0x0f, 0x1e, 0x14, 0x00, 0x68, 0x94, 0x9d, 0x00, 0x07, 0x04, 0xa7, 0x00, 0x04, 0x03, 0xac])
theorem bl_G_isInt : b_G_isInt = lb_G_isInt := congrArg ByteArray.mk (xar _)
abbrev y_O_sum : MethodName := ⟨"ProgramGate$Operation", "sum", "(LProgramGate$Known;LProgramGate$Known;LProgramGate$Known;)V"⟩
abbrev b_O_sum : ByteArray := prog_5_method_4_code
abbrev t_O_sum : Option FieldType := none
def lb_O_sum : ByteArray := .mk (.mk [0x2c, 0x2a, 0x2b, 0xb8, 0x00, 0x35, 0xb5, 0x00, 0x31, 0x2c, 0x2a, 0xb4, 0x00, 0x39, 0x2b, 0xb4, 0x00, 0x39, 0x60, 0x2c, 0xb4, 0x00, 0x31, 0x7e, 0xb5, 0x00, 0x39, 0x2a, 0xb4, 0x00, 0x3c, 0x2b, 0xb4, 0x00, 0x3c, 0x61, 0x14, 0x00, 0x40, 0x94, 0x9d, 0x00, 0x19, 0x2c, 0x2a, 0xb4, 0x00, 0x42, 0x2b, 0xb4, 0x00, 0x42, 0x61, 0x2a, 0xb4, 0x00, 0x3c, 0x2b, 0xb4, 0x00, 0x3c, 0x61, 0xb6, 0x00, 0x45, 0x2a, 0xb4, 0x00, 0x49, 0x2b, 0xb4, 0x00, 0x49, 0x61, 0xb8, 0x00, 0x4c, 0x99, 0x00, 0x28, 0x2a, 0xb4, 0x00, 0x50, 0x2b, 0xb4, 0x00, 0x50, 0x61, 0xb8, 0x00, 0x4c, 0x99, 0x00, 0x19, 0x2c, 0x2a, 0xb4, 0x00, 0x49, 0x2b, 0xb4, 0x00, 0x49, 0x61, 0x2a, 0xb4, 0x00, 0x50, 0x2b, 0xb4, 0x00, 0x50, 0x61, 0xb6, 0x00, 0x53, 0x2b, 0xb6, 0x00, 0x56, 0x99, 0x00, 0x30, 0x2b, 0xb4, 0x00, 0x42, 0x14, 0x00, 0x59, 0x94, 0x9d, 0x00, 0x25, 0x2a, 0xb4, 0x00, 0x3c, 0x2b, 0xb4, 0x00, 0x42, 0x61, 0x14, 0x00, 0x40, 0x94, 0x9d, 0x00, 0x15, 0x2c, 0x2a, 0xb4, 0x00, 0x5b, 0x2b, 0xb4, 0x00, 0x42, 0x88, 0x64, 0x03, 0xb8, 0x00, 0x5e, 0xb5, 0x00, 0x5b, 0xb1])
theorem bl_O_sum : b_O_sum = lb_O_sum := congrArg ByteArray.mk (xar _)
abbrev y_O_difference : MethodName := ⟨"ProgramGate$Operation", "difference", "(LProgramGate$Known;LProgramGate$Known;LProgramGate$Known;)V"⟩
abbrev b_O_difference : ByteArray := prog_5_method_5_code
abbrev t_O_difference : Option FieldType := none
def lb_O_difference : ByteArray := .mk (.mk [0x2c, 0x2a, 0x2b, 0xb8, 0x00, 0x35, 0xb5, 0x00, 0x31, 0x2c, 0x2a, 0xb4, 0x00, 0x39, 0x2b, 0xb4, 0x00, 0x39, 0x64, 0x2c, 0xb4, 0x00, 0x31, 0x7e, 0xb5, 0x00, 0x39, 0x2a, 0xb4, 0x00, 0x42, 0x2b, 0xb4, 0x00, 0x3c, 0x65, 0x09, 0x94, 0x9b, 0x00, 0x19, 0x2c, 0x2a, 0xb4, 0x00, 0x42, 0x2b, 0xb4, 0x00, 0x3c, 0x65, 0x2a, 0xb4, 0x00, 0x3c, 0x2b, 0xb4, 0x00, 0x42, 0x65, 0xb6, 0x00, 0x45, 0x2a, 0xb4, 0x00, 0x49, 0x2b, 0xb4, 0x00, 0x50, 0x65, 0xb8, 0x00, 0x4c, 0x99, 0x00, 0x28, 0x2a, 0xb4, 0x00, 0x50, 0x2b, 0xb4, 0x00, 0x49, 0x65, 0xb8, 0x00, 0x4c, 0x99, 0x00, 0x19, 0x2c, 0x2a, 0xb4, 0x00, 0x49, 0x2b, 0xb4, 0x00, 0x50, 0x65, 0x2a, 0xb4, 0x00, 0x50, 0x2b, 0xb4, 0x00, 0x49, 0x65, 0xb6, 0x00, 0x53, 0xb1])
theorem bl_O_difference : b_O_difference = lb_O_difference := congrArg ByteArray.mk (xar _)
abbrev y_O_product : MethodName := ⟨"ProgramGate$Operation", "product", "(LProgramGate$Known;LProgramGate$Known;LProgramGate$Known;)V"⟩
abbrev b_O_product : ByteArray := prog_5_method_6_code
abbrev t_O_product : Option FieldType := none
def lb_O_product : ByteArray := .mk (.mk [0x2c, 0x2a, 0x2b, 0xb8, 0x00, 0x35, 0xb5, 0x00, 0x31, 0x2c, 0x2a, 0xb4, 0x00, 0x39, 0x2b, 0xb4, 0x00, 0x39, 0x68, 0x2c, 0xb4, 0x00, 0x31, 0x7e, 0xb5, 0x00, 0x39, 0x2a, 0xb4, 0x00, 0x3c, 0x2b, 0xb4, 0x00, 0x3c, 0x69, 0x10, 0x20, 0x7d, 0x09, 0x94, 0x9a, 0x00, 0x19, 0x2c, 0x2a, 0xb4, 0x00, 0x42, 0x2b, 0xb4, 0x00, 0x42, 0x69, 0x2a, 0xb4, 0x00, 0x3c, 0x2b, 0xb4, 0x00, 0x3c, 0x69, 0xb6, 0x00, 0x45, 0xb1])
theorem bl_O_product : b_O_product = lb_O_product := congrArg ByteArray.mk (xar _)
abbrev y_K_zeros : MethodName := ⟨"ProgramGate$Known", "zeros", "()I"⟩
abbrev b_K_zeros : ByteArray := prog_3_method_9_code
abbrev t_K_zeros : Option FieldType := (some .int)
def lb_K_zeros : ByteArray := .mk (.mk [0x2a, 0xb4, 0x00, 0x0f, 0x2a, 0xb4, 0x00, 0x13, 0x02, 0x82, 0x7e, 0xac])
theorem bl_K_zeros : b_K_zeros = lb_K_zeros := congrArg ByteArray.mk (xar _)
abbrev y_O_bothOnes : MethodName := ⟨"ProgramGate$Operation", "bothOnes", "(LProgramGate$Known;LProgramGate$Known;LProgramGate$Known;)V"⟩
abbrev b_O_bothOnes : ByteArray := prog_5_method_7_code
abbrev t_O_bothOnes : Option FieldType := none
def lb_O_bothOnes : ByteArray := .mk (.mk [0x2c, 0x2a, 0xb4, 0x00, 0x39, 0x2b, 0xb4, 0x00, 0x39, 0x7e, 0xb5, 0x00, 0x39, 0x2c, 0x2c, 0xb4, 0x00, 0x39, 0x2a, 0xb6, 0x00, 0x64, 0x80, 0x2b, 0xb6, 0x00, 0x64, 0x80, 0xb5, 0x00, 0x31, 0x2c, 0x2a, 0xb4, 0x00, 0x3c, 0x2b, 0xb4, 0x00, 0x3c, 0xb8, 0x00, 0x68, 0xb5, 0x00, 0x3c, 0xb1])
theorem bl_O_bothOnes : b_O_bothOnes = lb_O_bothOnes := congrArg ByteArray.mk (xar _)
abbrev y_O_eitherOne : MethodName := ⟨"ProgramGate$Operation", "eitherOne", "(LProgramGate$Known;LProgramGate$Known;LProgramGate$Known;)V"⟩
abbrev b_O_eitherOne : ByteArray := prog_5_method_8_code
abbrev t_O_eitherOne : Option FieldType := none
def lb_O_eitherOne : ByteArray := .mk (.mk [0x2c, 0x2a, 0xb4, 0x00, 0x39, 0x2b, 0xb4, 0x00, 0x39, 0x80, 0xb5, 0x00, 0x39, 0x2c, 0x2c, 0xb4, 0x00, 0x39, 0x2a, 0xb6, 0x00, 0x64, 0x2b, 0xb6, 0x00, 0x64, 0x7e, 0x80, 0xb5, 0x00, 0x31, 0x2c, 0x2a, 0xb4, 0x00, 0x42, 0x2b, 0xb4, 0x00, 0x42, 0xb8, 0x00, 0x6c, 0xb5, 0x00, 0x42, 0xb1])
theorem bl_O_eitherOne : b_O_eitherOne = lb_O_eitherOne := congrArg ByteArray.mk (xar _)
abbrev y_O_unlikeBits : MethodName := ⟨"ProgramGate$Operation", "unlikeBits", "(LProgramGate$Known;LProgramGate$Known;LProgramGate$Known;)V"⟩
abbrev b_O_unlikeBits : ByteArray := prog_5_method_9_code
abbrev t_O_unlikeBits : Option FieldType := none
def lb_O_unlikeBits : ByteArray := .mk (.mk [0x2c, 0x2a, 0xb4, 0x00, 0x31, 0x2b, 0xb4, 0x00, 0x31, 0x7e, 0xb5, 0x00, 0x31, 0x2c, 0x2a, 0xb4, 0x00, 0x39, 0x2b, 0xb4, 0x00, 0x39, 0x82, 0x2c, 0xb4, 0x00, 0x31, 0x7e, 0xb5, 0x00, 0x39, 0xb1])
theorem bl_O_unlikeBits : b_O_unlikeBits = lb_O_unlikeBits := congrArg ByteArray.mk (xar _)
abbrev y_O_quotient : MethodName := ⟨"ProgramGate$Operation", "quotient", "(LProgramGate$Known;LProgramGate$Known;LProgramGate$Known;)V"⟩
abbrev b_O_quotient : ByteArray := prog_5_method_11_code
abbrev t_O_quotient : Option FieldType := none
def lb_O_quotient : ByteArray := .mk (.mk [0x2b, 0xb4, 0x00, 0x42, 0x09, 0x94, 0x9e, 0x00, 0x22, 0x2b, 0xb4, 0x00, 0x3c, 0x09, 0x94, 0x9e, 0x00, 0x19, 0x2c, 0x2a, 0xb4, 0x00, 0x42, 0x2b, 0xb4, 0x00, 0x3c, 0x6d, 0x2a, 0xb4, 0x00, 0x3c, 0x2b, 0xb4, 0x00, 0x42, 0x6d, 0xb6, 0x00, 0x45, 0xb1])
theorem bl_O_quotient : b_O_quotient = lb_O_quotient := congrArg ByteArray.mk (xar _)
abbrev y_O_rest : MethodName := ⟨"ProgramGate$Operation", "rest", "(LProgramGate$Known;LProgramGate$Known;LProgramGate$Known;)V"⟩
abbrev b_O_rest : ByteArray := prog_5_method_12_code
abbrev t_O_rest : Option FieldType := none
def lb_O_rest : ByteArray := .mk (.mk [0x2b, 0xb4, 0x00, 0x42, 0x09, 0x94, 0x9e, 0x00, 0x15, 0x2c, 0x09, 0x2a, 0xb4, 0x00, 0x3c, 0x2b, 0xb4, 0x00, 0x3c, 0x0a, 0x65, 0xb8, 0x00, 0x68, 0xb6, 0x00, 0x45, 0xb1])
theorem bl_O_rest : b_O_rest = lb_O_rest := congrArg ByteArray.mk (xar _)
abbrev y_O_shifted : MethodName := ⟨"ProgramGate$Operation", "shifted", "(ILProgramGate$Known;LProgramGate$Known;LProgramGate$Known;)V"⟩
abbrev b_O_shifted : ByteArray := prog_5_method_10_code
abbrev t_O_shifted : Option FieldType := none
def lb_O_shifted : ByteArray := .mk (.mk [0x2c, 0xb6, 0x00, 0x56, 0x9a, 0x00, 0x04, 0xb1, 0x2c, 0xb4, 0x00, 0x42, 0x88, 0x10, 0x1f, 0x7e, 0x36, 0x04, 0x1a, 0x10, 0x07, 0xa0, 0x00, 0x23, 0x2d, 0x2b, 0xb4, 0x00, 0x31, 0x15, 0x04, 0x78, 0x02, 0x15, 0x04, 0x78, 0x02, 0x82, 0x80, 0xb5, 0x00, 0x31, 0x2d, 0x2b, 0xb4, 0x00, 0x39, 0x15, 0x04, 0x78, 0xb5, 0x00, 0x39, 0xa7, 0x00, 0x63, 0x1a, 0x10, 0x08, 0xa0, 0x00, 0x35, 0x2d, 0x2b, 0xb4, 0x00, 0x31, 0x15, 0x04, 0x7c, 0x02, 0x15, 0x04, 0x7c, 0x02, 0x82, 0x80, 0xb5, 0x00, 0x31, 0x2d, 0x2b, 0xb4, 0x00, 0x39, 0x15, 0x04, 0x7c, 0xb5, 0x00, 0x39, 0x2d, 0x2b, 0xb4, 0x00, 0x42, 0x15, 0x04, 0x7d, 0x2b, 0xb4, 0x00, 0x3c, 0x15, 0x04, 0x7d, 0xb6, 0x00, 0x45, 0xa7, 0x00, 0x2b, 0x2d, 0x2b, 0xb4, 0x00, 0x31, 0x15, 0x04, 0x7a, 0xb5, 0x00, 0x31, 0x2d, 0x2b, 0xb4, 0x00, 0x39, 0x15, 0x04, 0x7a, 0xb5, 0x00, 0x39, 0x2d, 0x2b, 0xb4, 0x00, 0x49, 0x15, 0x04, 0x7b, 0x2b, 0xb4, 0x00, 0x50, 0x15, 0x04, 0x7b, 0xb6, 0x00, 0x53, 0xb1])
theorem bl_O_shifted : b_O_shifted = lb_O_shifted := congrArg ByteArray.mk (xar _)
abbrev y_O_outcome : MethodName := ⟨"ProgramGate$Operation", "outcome", "(ILProgramGate$Known;LProgramGate$Known;LProgramGate$Known;)Z"⟩
abbrev b_O_outcome : ByteArray := prog_5_method_2_code
abbrev t_O_outcome : Option FieldType := (some .boolean)
def lb_O_outcome : ByteArray := .mk (.mk [0x2d, 0xb6, 0x00, 0x09, 0x1a, 0xaa, 0x00, 0x00, 0x00, 0x00, 0x00, 0x83, 0x00, 0x00, 0x00, 0x01, 0x00, 0x00, 0x00, 0x0b, 0x00, 0x00, 0x00, 0x3b, 0x00, 0x00, 0x00, 0x44, 0x00, 0x00, 0x00, 0x4d, 0x00, 0x00, 0x00, 0x56, 0x00, 0x00, 0x00, 0x5f, 0x00, 0x00, 0x00, 0x68, 0x00, 0x00, 0x00, 0x83, 0x00, 0x00, 0x00, 0x83, 0x00, 0x00, 0x00, 0x83, 0x00, 0x00, 0x00, 0x71, 0x00, 0x00, 0x00, 0x7a, 0x2b, 0x2c, 0x2d, 0xb8, 0x00, 0x0e, 0xa7, 0x00, 0x49, 0x2b, 0x2c, 0x2d, 0xb8, 0x00, 0x14, 0xa7, 0x00, 0x40, 0x2b, 0x2c, 0x2d, 0xb8, 0x00, 0x17, 0xa7, 0x00, 0x37, 0x2b, 0x2c, 0x2d, 0xb8, 0x00, 0x1a, 0xa7, 0x00, 0x2e, 0x2b, 0x2c, 0x2d, 0xb8, 0x00, 0x1d, 0xa7, 0x00, 0x25, 0x2b, 0x2c, 0x2d, 0xb8, 0x00, 0x20, 0xa7, 0x00, 0x1c, 0x2b, 0x2c, 0x2d, 0xb8, 0x00, 0x23, 0xa7, 0x00, 0x13, 0x2b, 0x2c, 0x2d, 0xb8, 0x00, 0x26, 0xa7, 0x00, 0x0a, 0x1a, 0x2b, 0x2c, 0x2d, 0xb8, 0x00, 0x29, 0x2d, 0xb6, 0x00, 0x2d, 0xac])
theorem bl_O_outcome : b_O_outcome = lb_O_outcome := congrArg ByteArray.mk (xar _)
abbrev y_W_change : MethodName := ⟨"ProgramGate$Walker", "change", "(LProgramGate$Instruction;)Z"⟩
abbrev b_W_change : ByteArray := prog_9_method_10_code
abbrev t_W_change : Option FieldType := (some .boolean)
def lb_W_change : ByteArray := .mk (.mk [0x2a, 0xb4, 0x00, 0x0c, 0xb4, 0x00, 0x65, 0x2b, 0xb4, 0x00, 0x76, 0x32, 0x4d, 0x2a, 0x2b, 0xb6, 0x00, 0x53, 0x4e, 0x2b, 0xb4, 0x00, 0x4e, 0xab, 0x00, 0x00, 0x00, 0x65, 0x00, 0x00, 0x00, 0x04, 0x00, 0x00, 0x00, 0x00, 0x00, 0x00, 0x00, 0x29, 0x00, 0x00, 0x00, 0x0c, 0x00, 0x00, 0x00, 0x30, 0x00, 0x00, 0x00, 0x0d, 0x00, 0x00, 0x00, 0x38, 0x00, 0x00, 0x00, 0x0e, 0x00, 0x00, 0x00, 0x40, 0x2c, 0x2d, 0xb6, 0x00, 0x97, 0x04, 0xac, 0x2a, 0x2c, 0x2d, 0xb6, 0x00, 0x9a, 0x04, 0xac, 0x2a, 0x2c, 0x2d, 0xb6, 0x00, 0x9e, 0x04, 0xac, 0x2b, 0xb4, 0x00, 0x62, 0x07, 0xa0, 0x00, 0x0a, 0x2c, 0xb6, 0x00, 0xa1, 0xa7, 0x00, 0x17, 0x2c, 0x2b, 0xb4, 0x00, 0x62, 0x04, 0xa0, 0x00, 0x09, 0x11, 0x00, 0xff, 0xa7, 0x00, 0x05, 0x12, 0xa4, 0xb6, 0x00, 0xa5, 0x04, 0xac, 0x2b, 0xb4, 0x00, 0x4e, 0x2c, 0x2d, 0x2a, 0xb4, 0x00, 0x21, 0xb8, 0x00, 0xa8, 0x36, 0x04, 0x2c, 0x2a, 0xb4, 0x00, 0x21, 0xb6, 0x00, 0x97, 0x15, 0x04, 0xac])
theorem bl_W_change : b_W_change = lb_W_change := congrArg ByteArray.mk (xar _)
abbrev y_W_placeAfter : MethodName := ⟨"ProgramGate$Walker", "placeAfter", "(I)I"⟩
abbrev b_W_placeAfter : ByteArray := prog_9_method_8_code
abbrev t_W_placeAfter : Option FieldType := (some .int)
def lb_W_placeAfter : ByteArray := .mk (.mk [0x2a, 0xb4, 0x00, 0x2a, 0xb4, 0x00, 0x46, 0x1b, 0x32, 0x4d, 0x2c, 0xb4, 0x00, 0x4e, 0x10, 0x17, 0xa0, 0x00, 0x18, 0x2a, 0xb4, 0x00, 0x27, 0x2a, 0xb4, 0x00, 0x0c, 0xb6, 0x00, 0x88, 0x2a, 0x04, 0xb5, 0x00, 0x3c, 0x2a, 0xb6, 0x00, 0x8c, 0xac, 0x2c, 0xb4, 0x00, 0x4e, 0x10, 0x16, 0xa0, 0x00, 0x0c, 0x1b, 0x04, 0x60, 0x2c, 0xb4, 0x00, 0x62, 0x60, 0xac, 0x2c, 0xb4, 0x00, 0x4e, 0x10, 0x0f, 0xa1, 0x00, 0x0c, 0x2a, 0x2c, 0x1b, 0xb6, 0x00, 0x90, 0xa7, 0x00, 0x08, 0x2a, 0x2c, 0xb6, 0x00, 0x94, 0x3e, 0x1d, 0x99, 0x00, 0x09, 0x1b, 0x04, 0x60, 0xa7, 0x00, 0x07, 0x2a, 0xb6, 0x00, 0x8c, 0xac])
theorem bl_W_placeAfter : b_W_placeAfter = lb_W_placeAfter := congrArg ByteArray.mk (xar _)
abbrev y_W_judge : MethodName := ⟨"ProgramGate$Walker", "judge", "()I"⟩
abbrev b_W_judge : ByteArray := prog_9_method_2_code
abbrev t_W_judge : Option FieldType := (some .int)
def lb_W_judge : ByteArray := .mk (.mk [0x2a, 0xb6, 0x00, 0x2e, 0x03, 0x3c, 0x03, 0x3d, 0x1b, 0x02, 0x9f, 0x00, 0x2e, 0x1c, 0x9a, 0x00, 0x2a, 0x2a, 0xb4, 0x00, 0x31, 0x11, 0x01, 0x2c, 0xa3, 0x00, 0x20, 0x2a, 0x59, 0xb4, 0x00, 0x31, 0x04, 0x60, 0xb5, 0x00, 0x31, 0x2a, 0x1b, 0xb6, 0x00, 0x35, 0x3d, 0x1c, 0x9a, 0xff, 0xdc, 0x2a, 0x1b, 0xb6, 0x00, 0x39, 0x3c, 0xa7, 0xff, 0xd3, 0x1c, 0x9a, 0x00, 0x07, 0x03, 0xa7, 0x00, 0x09, 0x10, 0x64, 0x1c, 0x68, 0x1b, 0x60, 0xac])
theorem bl_W_judge : b_W_judge = lb_W_judge := congrArg ByteArray.mk (xar _)
abbrev y_G_walk : MethodName := ⟨"ProgramGate", "walk", "()I"⟩
abbrev b_G_walk : ByteArray := prog_1_method_6_code
abbrev t_G_walk : Option FieldType := (some .int)
def lb_G_walk : ByteArray := .mk (.mk [0x2a, 0xb4, 0x00, 0x1c, 0xb6, 0x00, 0x3e, 0xac])
theorem bl_G_walk : b_G_walk = lb_G_walk := congrArg ByteArray.mk (xar _)
abbrev y_G_steps : MethodName := ⟨"ProgramGate", "steps", "()I"⟩
abbrev b_G_steps : ByteArray := prog_1_method_7_code
abbrev t_G_steps : Option FieldType := (some .int)
def lb_G_steps : ByteArray := .mk (.mk [0x2a, 0xb4, 0x00, 0x1c, 0xb4, 0x00, 0x42, 0xac])
theorem bl_G_steps : b_G_steps = lb_G_steps := congrArg ByteArray.mk (xar _)
abbrev y_G_ran : MethodName := ⟨"ProgramGate", "ran", "()I"⟩
abbrev b_G_ran : ByteArray := prog_1_method_9_code
abbrev t_G_ran : Option FieldType := (some .int)
def lb_G_ran : ByteArray := .mk (.mk [0x2a, 0xb4, 0x00, 0x25, 0xb4, 0x00, 0x49, 0xac])
theorem bl_G_ran : b_G_ran = lb_G_ran := congrArg ByteArray.mk (xar _)
abbrev y_K_told : MethodName := ⟨"ProgramGate$Known", "told", "(I)J"⟩
abbrev b_K_told : ByteArray := prog_3_method_14_code
abbrev t_K_told : Option FieldType := (some .long)
def lb_K_told : ByteArray := .mk (.mk [0x2a, 0xb4, 0x00, 0x09, 0x9a, 0x00, 0x07, 0x14, 0x00, 0x5c, 0xad, 0x1b, 0xaa, 0x00, 0x00, 0x00, 0x00, 0x00, 0x00, 0x56, 0x00, 0x00, 0x00, 0x00, 0x00, 0x00, 0x00, 0x06, 0x00, 0x00, 0x00, 0x2c, 0x00, 0x00, 0x00, 0x34, 0x00, 0x00, 0x00, 0x3c, 0x00, 0x00, 0x00, 0x41, 0x00, 0x00, 0x00, 0x46, 0x00, 0x00, 0x00, 0x4b, 0x00, 0x00, 0x00, 0x50, 0x2a, 0xb4, 0x00, 0x0f, 0xb8, 0x00, 0x31, 0xad, 0x2a, 0xb4, 0x00, 0x13, 0xb8, 0x00, 0x31, 0xad, 0x2a, 0xb4, 0x00, 0x16, 0xad, 0x2a, 0xb4, 0x00, 0x1c, 0xad, 0x2a, 0xb4, 0x00, 0x23, 0xad, 0x2a, 0xb4, 0x00, 0x28, 0xad, 0x2a, 0xb4, 0x00, 0x2b, 0x85, 0xad, 0x14, 0x00, 0x5c, 0xad])
theorem bl_K_told : b_K_told = lb_K_told := congrArg ByteArray.mk (xar _)
abbrev y_G_known : MethodName := ⟨"ProgramGate", "known", "(II)J"⟩
abbrev b_G_known : ByteArray := prog_1_method_10_code
abbrev t_G_known : Option FieldType := (some .long)
def lb_G_known : ByteArray := .mk (.mk [0x1b, 0x9b, 0x00, 0x13, 0x1b, 0x10, 0x06, 0xa2, 0x00, 0x0d, 0x2a, 0xb4, 0x00, 0x1c, 0xb4, 0x00, 0x4c, 0x9a, 0x00, 0x07, 0x14, 0x00, 0x50, 0xad, 0x2a, 0xb4, 0x00, 0x1c, 0xb4, 0x00, 0x52, 0xb4, 0x00, 0x56, 0x1b, 0x32, 0x1c, 0xb6, 0x00, 0x5c, 0xad])
theorem bl_G_known : b_G_known = lb_G_known := congrArg ByteArray.mk (xar _)
abbrev y_M_begin : MethodName := ⟨"ProgramGate$Machine", "begin", "(I)V"⟩
abbrev b_M_begin : ByteArray := prog_4_method_3_code
abbrev t_M_begin : Option FieldType := none
def lb_M_begin : ByteArray := .mk (.mk [0x2a, 0x03, 0xb5, 0x00, 0x28, 0x03, 0x3d, 0x1c, 0x10, 0x06, 0xa2, 0x00, 0x10, 0x2a, 0xb4, 0x00, 0x09, 0x1c, 0x03, 0x4f, 0x84, 0x02, 0x01, 0xa7, 0xff, 0xf0, 0x03, 0x3d, 0x1c, 0x07, 0xa2, 0x00, 0x10, 0x2a, 0xb4, 0x00, 0x0f, 0x1c, 0x03, 0x4f, 0x84, 0x02, 0x01, 0xa7, 0xff, 0xf1, 0x2a, 0xb4, 0x00, 0x09, 0x04, 0x2a, 0xb4, 0x00, 0x16, 0xb4, 0x00, 0x3e, 0x4f, 0x2a, 0xb4, 0x00, 0x09, 0x05, 0x1b, 0x4f, 0xb1])
theorem bl_M_begin : b_M_begin = lb_M_begin := congrArg ByteArray.mk (xar _)
abbrev y_M_holds : MethodName := ⟨"ProgramGate$Machine", "holds", "(III)Z"⟩
abbrev b_M_holds : ByteArray := prog_4_method_9_code
abbrev t_M_holds : Option FieldType := (some .boolean)
def lb_M_holds : ByteArray := .mk (.mk [0x1a, 0xaa, 0x00, 0x00, 0x00, 0x00, 0x00, 0x68, 0x00, 0x00, 0x00, 0x10, 0x00, 0x00, 0x00, 0x14, 0x00, 0x00, 0x00, 0x23, 0x00, 0x00, 0x00, 0x2e, 0x00, 0x00, 0x00, 0x39, 0x00, 0x00, 0x00, 0x4b, 0x00, 0x00, 0x00, 0x5d, 0x1b, 0x1c, 0xa0, 0x00, 0x07, 0x04, 0xa7, 0x00, 0x04, 0x03, 0xac, 0x1b, 0x1c, 0x9f, 0x00, 0x07, 0x04, 0xa7, 0x00, 0x04, 0x03, 0xac, 0x1b, 0xb8, 0x00, 0x50, 0x1c, 0xb8, 0x00, 0x50, 0x94, 0x9c, 0x00, 0x07, 0x04, 0xa7, 0x00, 0x04, 0x03, 0xac, 0x1b, 0xb8, 0x00, 0x50, 0x1c, 0xb8, 0x00, 0x50, 0x94, 0x9b, 0x00, 0x07, 0x04, 0xa7, 0x00, 0x04, 0x03, 0xac, 0x1b, 0x1c, 0xa2, 0x00, 0x07, 0x04, 0xa7, 0x00, 0x04, 0x03, 0xac, 0x1b, 0x1c, 0xa1, 0x00, 0x07, 0x04, 0xa7, 0x00, 0x04, 0x03, 0xac])
theorem bl_M_holds : b_M_holds = lb_M_holds := congrArg ByteArray.mk (xar _)
abbrev y_R_thrown : MethodName := ⟨"ProgramGateModel", "thrown", "()I"⟩
abbrev b_R_thrown : ByteArray := prog_11_method_2_code
abbrev t_R_thrown : Option FieldType := (some .int)
def lb_R_thrown : ByteArray := .mk (.mk [0x2a, 0xb4, 0x00, 0x3f, 0xac])
theorem bl_R_thrown : b_R_thrown = lb_R_thrown := congrArg ByteArray.mk (xar _)
abbrev y_R_within : MethodName := ⟨"ProgramGateModel", "within", "(III)Z"⟩
abbrev b_R_within : ByteArray := prog_11_method_4_code
abbrev t_R_within : Option FieldType := (some .boolean)
def lb_R_within : ByteArray := .mk (.mk [0x1a, 0x1b, 0xa1, 0x00, 0x0c, 0x1a, 0x1c, 0xa3, 0x00, 0x07, 0x04, 0xa7, 0x00, 0x04, 0x03, 0xac])
theorem bl_R_within : b_R_within = lb_R_within := congrArg ByteArray.mk (xar _)
abbrev y_R_add : MethodName := ⟨"ProgramGateModel", "add", "(IIIII)I"⟩
abbrev b_R_add : ByteArray := prog_11_method_5_code
abbrev t_R_add : Option FieldType := (some .int)
def lb_R_add : ByteArray := .mk (.mk [0x2a, 0x03, 0xb5, 0x00, 0x3f, 0x2a, 0xb4, 0x00, 0x43, 0x10, 0x18, 0xa2, 0x00, 0x23, 0x1b, 0x03, 0x10, 0x17, 0xb8, 0x00, 0x46, 0x99, 0x00, 0x19, 0x1c, 0x03, 0x08, 0xb8, 0x00, 0x46, 0x99, 0x00, 0x10, 0x1d, 0x02, 0x08, 0xb8, 0x00, 0x46, 0x99, 0x00, 0x07, 0x04, 0xa7, 0x00, 0x04, 0x03, 0x36, 0x06, 0x1b, 0x10, 0x0e, 0x9f, 0x00, 0x09, 0x1b, 0x10, 0x0f, 0xa0, 0x00, 0x1e, 0x15, 0x06, 0x99, 0x00, 0x16, 0x1d, 0x9b, 0x00, 0x12, 0x15, 0x04, 0x03, 0x10, 0x10, 0xb8, 0x00, 0x46, 0x99, 0x00, 0x07, 0x04, 0xa7, 0x00, 0x04, 0x03, 0x36, 0x06, 0x1b, 0x10, 0x0e, 0xa0, 0x00, 0x24, 0x15, 0x06, 0x99, 0x00, 0x19, 0x15, 0x05, 0x04, 0x9f, 0x00, 0x0f, 0x15, 0x05, 0x05, 0x9f, 0x00, 0x09, 0x15, 0x05, 0x07, 0xa0, 0x00, 0x07, 0x04, 0xa7, 0x00, 0x04, 0x03, 0x36, 0x06, 0xa7, 0x00, 0x26, 0x1b, 0x10, 0x0f, 0xa1, 0x00, 0x20, 0x1b, 0x10, 0x16, 0xa3, 0x00, 0x1a, 0x15, 0x06, 0x99, 0x00, 0x12, 0x15, 0x05, 0x04, 0x10, 0x17, 0xb8, 0x00, 0x46, 0x99, 0x00, 0x07, 0x04, 0xa7, 0x00, 0x04, 0x03, 0x36, 0x06, 0x15, 0x06, 0x9a, 0x00, 0x05, 0x02, 0xac, 0x2a, 0xb4, 0x00, 0x07, 0x2a, 0xb4, 0x00, 0x43, 0x1b, 0x4f, 0x2a, 0xb4, 0x00, 0x0d, 0x2a, 0xb4, 0x00, 0x43, 0x1c, 0x4f, 0x2a, 0xb4, 0x00, 0x10, 0x2a, 0xb4, 0x00, 0x43, 0x1d, 0x4f, 0x2a, 0xb4, 0x00, 0x13, 0x2a, 0xb4, 0x00, 0x43, 0x15, 0x04, 0x4f, 0x2a, 0xb4, 0x00, 0x16, 0x2a, 0xb4, 0x00, 0x43, 0x15, 0x05, 0x4f, 0x2a, 0x59, 0xb4, 0x00, 0x43, 0x04, 0x60, 0xb5, 0x00, 0x43, 0x2a, 0xb4, 0x00, 0x43, 0xac])
theorem bl_R_add : b_R_add = lb_R_add := congrArg ByteArray.mk (xar _)
abbrev y_R_clear : MethodName := ⟨"ProgramGateModel", "clear", "()I"⟩
abbrev b_R_clear : ByteArray := prog_11_method_6_code
abbrev t_R_clear : Option FieldType := (some .int)
def lb_R_clear : ByteArray := .mk (.mk [0x2a, 0x03, 0xb5, 0x00, 0x3f, 0x2a, 0xb4, 0x00, 0x43, 0x3c, 0x2a, 0x03, 0xb5, 0x00, 0x43, 0x1b, 0xac])
theorem bl_R_clear : b_R_clear = lb_R_clear := congrArg ByteArray.mk (xar _)
abbrev y_R_size : MethodName := ⟨"ProgramGateModel", "size", "()I"⟩
abbrev b_R_size : ByteArray := prog_11_method_7_code
abbrev t_R_size : Option FieldType := (some .int)
def lb_R_size : ByteArray := .mk (.mk [0x2a, 0x03, 0xb5, 0x00, 0x3f, 0x2a, 0xb4, 0x00, 0x43, 0xac])
theorem bl_R_size : b_R_size = lb_R_size := congrArg ByteArray.mk (xar _)
abbrev y_R_packet : MethodName := ⟨"ProgramGateModel", "packet", "(JJI)Z"⟩
abbrev b_R_packet : ByteArray := prog_11_method_8_code
abbrev t_R_packet : Option FieldType := (some .boolean)
def lb_R_packet : ByteArray := .mk (.mk [0x2a, 0x03, 0xb5, 0x00, 0x3f, 0x15, 0x05, 0x03, 0x10, 0x10, 0xb8, 0x00, 0x46, 0x9a, 0x00, 0x05, 0x03, 0xac, 0x2a, 0x15, 0x05, 0xb5, 0x00, 0x4a, 0x03, 0x36, 0x06, 0x15, 0x06, 0x15, 0x05, 0xa2, 0x00, 0x30, 0x2a, 0xb4, 0x00, 0x19, 0x15, 0x06, 0x15, 0x06, 0x10, 0x08, 0xa2, 0x00, 0x0d, 0x1f, 0x10, 0x08, 0x15, 0x06, 0x68, 0x7b, 0xa7, 0x00, 0x0d, 0x21, 0x10, 0x08, 0x15, 0x06, 0x10, 0x08, 0x64, 0x68, 0x7b, 0x14, 0x00, 0x4d, 0x7f, 0x88, 0x4f, 0x84, 0x06, 0x01, 0xa7, 0xff, 0xcf, 0x04, 0xac])
theorem bl_R_packet : b_R_packet = lb_R_packet := congrArg ByteArray.mk (xar _)
abbrev y_R_nothing : MethodName := ⟨"ProgramGateModel", "nothing", "(I)V"⟩
abbrev b_R_nothing : ByteArray := prog_11_method_10_code
abbrev t_R_nothing : Option FieldType := none
def lb_R_nothing : ByteArray := .mk (.mk [0x2a, 0xb4, 0x00, 0x1c, 0x1b, 0x04, 0x54, 0x2a, 0xb4, 0x00, 0x20, 0x1b, 0x03, 0x4f, 0x2a, 0xb4, 0x00, 0x23, 0x1b, 0x03, 0x4f, 0x2a, 0xb4, 0x00, 0x26, 0x1b, 0x09, 0x50, 0x2a, 0xb4, 0x00, 0x2a, 0x1b, 0x14, 0x00, 0x4f, 0x50, 0x2a, 0xb4, 0x00, 0x2d, 0x1b, 0x14, 0x00, 0x51, 0x50, 0x2a, 0xb4, 0x00, 0x30, 0x1b, 0x14, 0x00, 0x53, 0x50, 0x2a, 0xb4, 0x00, 0x33, 0x1b, 0x03, 0x4f, 0xb1])
theorem bl_R_nothing : b_R_nothing = lb_R_nothing := congrArg ByteArray.mk (xar _)
abbrev y_R_greater : MethodName := ⟨"ProgramGateModel", "greater", "(JJ)J"⟩
abbrev b_R_greater : ByteArray := prog_11_method_13_code
abbrev t_R_greater : Option FieldType := (some .long)
def lb_R_greater : ByteArray := .mk (.mk [0x1e, 0x20, 0x94, 0x9e, 0x00, 0x07, 0x1e, 0xa7, 0x00, 0x04, 0x20, 0xad])
theorem bl_R_greater : b_R_greater = lb_R_greater := congrArg ByteArray.mk (xar _)
abbrev y_R_lesser : MethodName := ⟨"ProgramGateModel", "lesser", "(JJ)J"⟩
abbrev b_R_lesser : ByteArray := prog_11_method_12_code
abbrev t_R_lesser : Option FieldType := (some .long)
def lb_R_lesser : ByteArray := .mk (.mk [0x1e, 0x20, 0x94, 0x9c, 0x00, 0x07, 0x1e, 0xa7, 0x00, 0x04, 0x20, 0xad])
theorem bl_R_lesser : b_R_lesser = lb_R_lesser := congrArg ByteArray.mk (xar _)
abbrev y_R_tighten : MethodName := ⟨"ProgramGateModel", "tighten", "(I)Z"⟩
abbrev b_R_tighten : ByteArray := prog_11_method_15_code
abbrev t_R_tighten : Option FieldType := (some .boolean)
def lb_R_tighten : ByteArray := .mk (.mk [0x2a, 0xb4, 0x00, 0x26, 0x1b, 0x2a, 0xb4, 0x00, 0x26, 0x1b, 0x2f, 0x2a, 0xb4, 0x00, 0x23, 0x1b, 0x2e, 0x85, 0x14, 0x00, 0x4f, 0x7f, 0xb8, 0x00, 0x59, 0x50, 0x2a, 0xb4, 0x00, 0x2a, 0x1b, 0x2a, 0xb4, 0x00, 0x2a, 0x1b, 0x2f, 0x2a, 0xb4, 0x00, 0x23, 0x1b, 0x2e, 0x2a, 0xb4, 0x00, 0x20, 0x1b, 0x2e, 0x02, 0x82, 0x80, 0x85, 0x14, 0x00, 0x4f, 0x7f, 0xb8, 0x00, 0x5d, 0x50, 0x2a, 0xb4, 0x00, 0x26, 0x1b, 0x2f, 0x14, 0x00, 0x60, 0x94, 0x9c, 0x00, 0x07, 0x04, 0xa7, 0x00, 0x04, 0x03, 0x2a, 0xb4, 0x00, 0x2a, 0x1b, 0x2f, 0x14, 0x00, 0x60, 0x94, 0x9c, 0x00, 0x07, 0x04, 0xa7, 0x00, 0x04, 0x03, 0xa0, 0x00, 0x31, 0x2a, 0xb4, 0x00, 0x2d, 0x1b, 0x2a, 0xb4, 0x00, 0x2d, 0x1b, 0x2f, 0x2a, 0xb4, 0x00, 0x26, 0x1b, 0x2f, 0x88, 0x85, 0xb8, 0x00, 0x59, 0x50, 0x2a, 0xb4, 0x00, 0x30, 0x1b, 0x2a, 0xb4, 0x00, 0x30, 0x1b, 0x2f, 0x2a, 0xb4, 0x00, 0x2a, 0x1b, 0x2f, 0x88, 0x85, 0xb8, 0x00, 0x5d, 0x50, 0x2a, 0xb4, 0x00, 0x2d, 0x1b, 0x2f, 0x09, 0x94, 0x9c, 0x00, 0x07, 0x04, 0xa7, 0x00, 0x04, 0x03, 0x2a, 0xb4, 0x00, 0x30, 0x1b, 0x2f, 0x09, 0x94, 0x9c, 0x00, 0x07, 0x04, 0xa7, 0x00, 0x04, 0x03, 0xa0, 0x00, 0x35, 0x2a, 0xb4, 0x00, 0x26, 0x1b, 0x2a, 0xb4, 0x00, 0x26, 0x1b, 0x2f, 0x2a, 0xb4, 0x00, 0x2d, 0x1b, 0x2f, 0x14, 0x00, 0x4f, 0x7f, 0xb8, 0x00, 0x59, 0x50, 0x2a, 0xb4, 0x00, 0x2a, 0x1b, 0x2a, 0xb4, 0x00, 0x2a, 0x1b, 0x2f, 0x2a, 0xb4, 0x00, 0x30, 0x1b, 0x2f, 0x14, 0x00, 0x4f, 0x7f, 0xb8, 0x00, 0x5d, 0x50, 0x2a, 0xb4, 0x00, 0x26, 0x1b, 0x2f, 0x2a, 0xb4, 0x00, 0x2a, 0x1b, 0x2f, 0x83, 0x88, 0x3d, 0x02, 0x3e, 0x1c, 0x1d, 0x7e, 0x99, 0x00, 0x0a, 0x1d, 0x04, 0x78, 0x3e, 0xa7, 0xff, 0xf6, 0x2a, 0xb4, 0x00, 0x26, 0x1b, 0x2f, 0x88, 0x36, 0x04, 0x2a, 0xb4, 0x00, 0x20, 0x1b, 0x2e, 0x1d, 0x7e, 0x2a, 0xb4, 0x00, 0x23, 0x1b, 0x2e, 0x15, 0x04, 0x82, 0x7e, 0x9a, 0x00, 0x07, 0x04, 0xa7, 0x00, 0x04, 0x03, 0x36, 0x05, 0x2a, 0xb4, 0x00, 0x20, 0x1b, 0x2a, 0xb4, 0x00, 0x20, 0x1b, 0x2e, 0x1d, 0x80, 0x4f, 0x2a, 0xb4, 0x00, 0x23, 0x1b, 0x2a, 0xb4, 0x00, 0x23, 0x1b, 0x2e, 0x1d, 0x02, 0x82, 0x7e, 0x15, 0x04, 0x1d, 0x7e, 0x80, 0x4f, 0x15, 0x05, 0x99, 0x00, 0x27, 0x2a, 0xb4, 0x00, 0x26, 0x1b, 0x2f, 0x2a, 0xb4, 0x00, 0x2a, 0x1b, 0x2f, 0x94, 0x9d, 0x00, 0x17, 0x2a, 0xb4, 0x00, 0x2d, 0x1b, 0x2f, 0x2a, 0xb4, 0x00, 0x30, 0x1b, 0x2f, 0x94, 0x9d, 0x00, 0x07, 0x04, 0xa7, 0x00, 0x04, 0x03, 0xac])
theorem bl_R_tighten : b_R_tighten = lb_R_tighten := congrArg ByteArray.mk (xar _)
abbrev y_R_setUp : MethodName := ⟨"ProgramGateModel", "setUp", "()V"⟩
abbrev b_R_setUp : ByteArray := prog_11_method_28_code
abbrev t_R_setUp : Option FieldType := none
def lb_R_setUp : ByteArray := .mk (.mk [0x03, 0x3c, 0x1b, 0x11, 0x01, 0x00, 0xa2, 0x00, 0x10, 0x2a, 0xb4, 0x00, 0x1c, 0x1b, 0x03, 0x54, 0x84, 0x01, 0x01, 0xa7, 0xff, 0xef, 0x2a, 0x04, 0xb6, 0x00, 0x55, 0x2a, 0xb4, 0x00, 0x2a, 0x04, 0x14, 0x00, 0x8e, 0x50, 0x2a, 0xb4, 0x00, 0x2d, 0x04, 0x09, 0x50, 0x2a, 0xb4, 0x00, 0x30, 0x04, 0x14, 0x00, 0x8e, 0x50, 0x2a, 0x04, 0xb6, 0x00, 0x7b, 0x3c, 0x2a, 0xb4, 0x00, 0x1c, 0x05, 0x1b, 0x54, 0x2a, 0x05, 0xb6, 0x00, 0x55, 0xb1])
theorem bl_R_setUp : b_R_setUp = lb_R_setUp := congrArg ByteArray.mk (xar _)
abbrev y_R_readsA : MethodName := ⟨"ProgramGateModel", "readsA", "(I)Z"⟩
abbrev b_R_readsA : ByteArray := prog_11_method_29_code
abbrev t_R_readsA : Option FieldType := (some .boolean)
def lb_R_readsA : ByteArray := .mk (.mk [0x1a, 0x04, 0xa1, 0x00, 0x09, 0x1a, 0x10, 0x0b, 0xa4, 0x00, 0x15, 0x1a, 0x10, 0x0d, 0x9f, 0x00, 0x0f, 0x1a, 0x10, 0x10, 0xa1, 0x00, 0x0d, 0x1a, 0x10, 0x15, 0xa3, 0x00, 0x07, 0x04, 0xa7, 0x00, 0x04, 0x03, 0xac])
theorem bl_R_readsA : b_R_readsA = lb_R_readsA := congrArg ByteArray.mk (xar _)
abbrev y_R_readsB : MethodName := ⟨"ProgramGateModel", "readsB", "(I)Z"⟩
abbrev b_R_readsB : ByteArray := prog_11_method_30_code
abbrev t_R_readsB : Option FieldType := (some .boolean)
def lb_R_readsB : ByteArray := .mk (.mk [0x1a, 0x10, 0x15, 0xa3, 0x00, 0x07, 0x04, 0xa7, 0x00, 0x04, 0x03, 0xac])
theorem bl_R_readsB : b_R_readsB = lb_R_readsB := congrArg ByteArray.mk (xar _)
abbrev y_R_copy : MethodName := ⟨"ProgramGateModel", "copy", "(II)V"⟩
abbrev b_R_copy : ByteArray := prog_11_method_9_code
abbrev t_R_copy : Option FieldType := none
def lb_R_copy : ByteArray := .mk (.mk [0x2a, 0xb4, 0x00, 0x1c, 0x1c, 0x2a, 0xb4, 0x00, 0x1c, 0x1b, 0x33, 0x54, 0x2a, 0xb4, 0x00, 0x20, 0x1c, 0x2a, 0xb4, 0x00, 0x20, 0x1b, 0x2e, 0x4f, 0x2a, 0xb4, 0x00, 0x23, 0x1c, 0x2a, 0xb4, 0x00, 0x23, 0x1b, 0x2e, 0x4f, 0x2a, 0xb4, 0x00, 0x26, 0x1c, 0x2a, 0xb4, 0x00, 0x26, 0x1b, 0x2f, 0x50, 0x2a, 0xb4, 0x00, 0x2a, 0x1c, 0x2a, 0xb4, 0x00, 0x2a, 0x1b, 0x2f, 0x50, 0x2a, 0xb4, 0x00, 0x2d, 0x1c, 0x2a, 0xb4, 0x00, 0x2d, 0x1b, 0x2f, 0x50, 0x2a, 0xb4, 0x00, 0x30, 0x1c, 0x2a, 0xb4, 0x00, 0x30, 0x1b, 0x2f, 0x50, 0x2a, 0xb4, 0x00, 0x33, 0x1c, 0x2a, 0xb4, 0x00, 0x33, 0x1b, 0x2e, 0x4f, 0xb1])
theorem bl_R_copy : b_R_copy = lb_R_copy := congrArg ByteArray.mk (xar _)
abbrev y_R_number : MethodName := ⟨"ProgramGateModel", "number", "(II)V"⟩
abbrev b_R_number : ByteArray := prog_11_method_11_code
abbrev t_R_number : Option FieldType := none
def lb_R_number : ByteArray := .mk (.mk [0x2a, 0x1b, 0xb6, 0x00, 0x55, 0x2a, 0xb4, 0x00, 0x20, 0x1b, 0x02, 0x4f, 0x2a, 0xb4, 0x00, 0x23, 0x1b, 0x1c, 0x4f, 0x2a, 0xb4, 0x00, 0x26, 0x1b, 0x1c, 0x85, 0x14, 0x00, 0x4f, 0x7f, 0x50, 0x2a, 0xb4, 0x00, 0x2a, 0x1b, 0x1c, 0x85, 0x14, 0x00, 0x4f, 0x7f, 0x50, 0x2a, 0xb4, 0x00, 0x2d, 0x1b, 0x1c, 0x85, 0x50, 0x2a, 0xb4, 0x00, 0x30, 0x1b, 0x1c, 0x85, 0x50, 0xb1])
theorem bl_R_number : b_R_number = lb_R_number := congrArg ByteArray.mk (xar _)
abbrev y_R_alarm : MethodName := ⟨"ProgramGateModel", "alarm", "()I"⟩
abbrev b_R_alarm : ByteArray := prog_11_method_31_code
abbrev t_R_alarm : Option FieldType := (some .int)
def lb_R_alarm : ByteArray := .mk (.mk [0x2a, 0xb4, 0x00, 0x90, 0x2a, 0xb4, 0x00, 0x43, 0xa1, 0x00, 0x05, 0x04, 0xac, 0x2a, 0xb4, 0x00, 0x93, 0x11, 0x01, 0x2c, 0xa4, 0x00, 0x05, 0x05, 0xac, 0x2a, 0xb4, 0x00, 0x07, 0x2a, 0xb4, 0x00, 0x90, 0x2e, 0x3c, 0x2a, 0xb4, 0x00, 0x0d, 0x2a, 0xb4, 0x00, 0x90, 0x2e, 0x3d, 0x2a, 0xb4, 0x00, 0x10, 0x2a, 0xb4, 0x00, 0x90, 0x2e, 0x3e, 0x1b, 0xb8, 0x00, 0x96, 0x99, 0x00, 0x0c, 0x2a, 0xb4, 0x00, 0x1c, 0x1c, 0x33, 0x99, 0x00, 0x26, 0x1b, 0xb8, 0x00, 0x99, 0x99, 0x00, 0x10, 0x1d, 0x9b, 0x00, 0x0c, 0x2a, 0xb4, 0x00, 0x1c, 0x1d, 0x33, 0x99, 0x00, 0x12, 0x1b, 0x10, 0x17, 0xa0, 0x00, 0x0e, 0x2a, 0xb4, 0x00, 0x1c, 0x03, 0x33, 0x9a, 0x00, 0x05, 0x06, 0xac, 0x2a, 0x1c, 0x11, 0x01, 0x00, 0xb6, 0x00, 0x80, 0x1d, 0x9b, 0x00, 0x0e, 0x2a, 0x1d, 0x11, 0x01, 0x01, 0xb6, 0x00, 0x80, 0xa7, 0x00, 0x13, 0x2a, 0x11, 0x01, 0x01, 0x2a, 0xb4, 0x00, 0x13, 0x2a, 0xb4, 0x00, 0x90, 0x2e, 0xb6, 0x00, 0x9c, 0x1b, 0x10, 0x0a, 0x9f, 0x00, 0x09, 0x1b, 0x10, 0x0b, 0xa0, 0x00, 0x12, 0x2a, 0xb4, 0x00, 0x26, 0x11, 0x01, 0x01, 0x2f, 0x09, 0x94, 0x9a, 0x00, 0x05, 0x07, 0xac, 0x1b, 0x10, 0x0c, 0x9f, 0x00, 0x09, 0x1b, 0x10, 0x0d, 0xa0, 0x00, 0x14, 0x2a, 0xb4, 0x00, 0x2a, 0x11, 0x01, 0x01, 0x2f, 0x14, 0x00, 0x9f, 0x94, 0x9e, 0x00, 0x05, 0x08, 0xac, 0x03, 0x36, 0x04, 0x15, 0x04, 0x07, 0xa2, 0x00, 0x3d, 0x1b, 0x10, 0x0c, 0xa0, 0x00, 0x37, 0x15, 0x04, 0x85, 0x2a, 0xb4, 0x00, 0x26, 0x11, 0x01, 0x01, 0x2f, 0x94, 0x9b, 0x00, 0x22, 0x15, 0x04, 0x85, 0x2a, 0xb4, 0x00, 0x2a, 0x11, 0x01, 0x01, 0x2f, 0x94, 0x9d, 0x00, 0x13, 0x2a, 0xb4, 0x00, 0x1c, 0x10, 0x06, 0x15, 0x04, 0x60, 0x33, 0x9a, 0x00, 0x06, 0x10, 0x06, 0xac, 0x84, 0x04, 0x01, 0xa7, 0xff, 0xc3, 0x1b, 0x10, 0x0e, 0xa0, 0x00, 0x26, 0x2a, 0xb4, 0x00, 0x13, 0x2a, 0xb4, 0x00, 0x90, 0x2e, 0x2a, 0xb4, 0x00, 0x16, 0x2a, 0xb4, 0x00, 0x90, 0x2e, 0x60, 0x2a, 0xb4, 0x00, 0x33, 0x11, 0x01, 0x01, 0x2e, 0xa4, 0x00, 0x08, 0x10, 0x07, 0xa7, 0x00, 0x04, 0x03, 0xac])
theorem bl_R_alarm : b_R_alarm = lb_R_alarm := congrArg ByteArray.mk (xar _)
abbrev y_R_alike : MethodName := ⟨"ProgramGateModel", "alike", "()Z"⟩
abbrev b_R_alike : ByteArray := prog_11_method_24_code
abbrev t_R_alike : Option FieldType := (some .boolean)
def lb_R_alike : ByteArray := .mk (.mk [0x2a, 0xb4, 0x00, 0x20, 0x11, 0x01, 0x00, 0x2e, 0x2a, 0xb4, 0x00, 0x20, 0x11, 0x01, 0x01, 0x2e, 0x7e, 0x2a, 0xb4, 0x00, 0x23, 0x11, 0x01, 0x00, 0x2e, 0x2a, 0xb4, 0x00, 0x23, 0x11, 0x01, 0x01, 0x2e, 0x82, 0x7e, 0x9a, 0x00, 0x07, 0x04, 0xa7, 0x00, 0x04, 0x03, 0x3c, 0x2a, 0x11, 0x01, 0x02, 0xb6, 0x00, 0x55, 0x2a, 0xb4, 0x00, 0x20, 0x11, 0x01, 0x02, 0x2a, 0xb4, 0x00, 0x20, 0x11, 0x01, 0x00, 0x2e, 0x2a, 0xb4, 0x00, 0x20, 0x11, 0x01, 0x01, 0x2e, 0x80, 0x4f, 0x2a, 0xb4, 0x00, 0x23, 0x11, 0x01, 0x02, 0x2a, 0xb4, 0x00, 0x23, 0x11, 0x01, 0x00, 0x2e, 0x2a, 0xb4, 0x00, 0x23, 0x11, 0x01, 0x01, 0x2e, 0x80, 0x4f, 0x2a, 0xb4, 0x00, 0x26, 0x11, 0x01, 0x02, 0x2a, 0xb4, 0x00, 0x26, 0x11, 0x01, 0x00, 0x2f, 0x2a, 0xb4, 0x00, 0x26, 0x11, 0x01, 0x01, 0x2f, 0xb8, 0x00, 0x59, 0x50, 0x2a, 0xb4, 0x00, 0x2a, 0x11, 0x01, 0x02, 0x2a, 0xb4, 0x00, 0x2a, 0x11, 0x01, 0x00, 0x2f, 0x2a, 0xb4, 0x00, 0x2a, 0x11, 0x01, 0x01, 0x2f, 0xb8, 0x00, 0x5d, 0x50, 0x2a, 0xb4, 0x00, 0x2d, 0x11, 0x01, 0x02, 0x2a, 0xb4, 0x00, 0x2d, 0x11, 0x01, 0x00, 0x2f, 0x2a, 0xb4, 0x00, 0x2d, 0x11, 0x01, 0x01, 0x2f, 0xb8, 0x00, 0x59, 0x50, 0x2a, 0xb4, 0x00, 0x30, 0x11, 0x01, 0x02, 0x2a, 0xb4, 0x00, 0x30, 0x11, 0x01, 0x00, 0x2f, 0x2a, 0xb4, 0x00, 0x30, 0x11, 0x01, 0x01, 0x2f, 0xb8, 0x00, 0x5d, 0x50, 0x2a, 0xb4, 0x00, 0x33, 0x11, 0x01, 0x02, 0x2a, 0xb4, 0x00, 0x33, 0x11, 0x01, 0x00, 0x2e, 0x2a, 0xb4, 0x00, 0x33, 0x11, 0x01, 0x01, 0x2e, 0xa4, 0x00, 0x0e, 0x2a, 0xb4, 0x00, 0x33, 0x11, 0x01, 0x00, 0x2e, 0xa7, 0x00, 0x0b, 0x2a, 0xb4, 0x00, 0x33, 0x11, 0x01, 0x01, 0x2e, 0x4f, 0x1b, 0x99, 0x00, 0x11, 0x2a, 0x11, 0x01, 0x02, 0xb6, 0x00, 0x7b, 0x99, 0x00, 0x07, 0x04, 0xa7, 0x00, 0x04, 0x03, 0x3c, 0x2a, 0x11, 0x01, 0x02, 0x11, 0x01, 0x03, 0xb6, 0x00, 0x80, 0x1b, 0xac])
theorem bl_R_alike : b_R_alike = lb_R_alike := congrArg ByteArray.mk (xar _)
abbrev y_R_isExact : MethodName := ⟨"ProgramGateModel", "isExact", "(I)Z"⟩
abbrev b_R_isExact : ByteArray := prog_11_method_14_code
abbrev t_R_isExact : Option FieldType := (some .boolean)
def lb_R_isExact : ByteArray := .mk (.mk [0x2a, 0xb4, 0x00, 0x26, 0x1b, 0x2f, 0x2a, 0xb4, 0x00, 0x2a, 0x1b, 0x2f, 0x94, 0x9a, 0x00, 0x07, 0x04, 0xa7, 0x00, 0x04, 0x03, 0xac])
theorem bl_R_isExact : b_R_isExact = lb_R_isExact := congrArg ByteArray.mk (xar _)
abbrev y_R_less : MethodName := ⟨"ProgramGateModel", "less", "(Z)Z"⟩
abbrev b_R_less : ByteArray := prog_11_method_25_code
abbrev t_R_less : Option FieldType := (some .boolean)
def lb_R_less : ByteArray := .mk (.mk [0x1b, 0x99, 0x00, 0x40, 0x2a, 0xb4, 0x00, 0x2a, 0x11, 0x01, 0x02, 0x2a, 0xb4, 0x00, 0x2a, 0x11, 0x01, 0x00, 0x2f, 0x2a, 0xb4, 0x00, 0x2a, 0x11, 0x01, 0x01, 0x2f, 0x0a, 0x65, 0xb8, 0x00, 0x5d, 0x50, 0x2a, 0xb4, 0x00, 0x26, 0x11, 0x01, 0x03, 0x2a, 0xb4, 0x00, 0x26, 0x11, 0x01, 0x01, 0x2f, 0x2a, 0xb4, 0x00, 0x26, 0x11, 0x01, 0x00, 0x2f, 0x0a, 0x61, 0xb8, 0x00, 0x59, 0x50, 0xa7, 0x00, 0x39, 0x2a, 0xb4, 0x00, 0x26, 0x11, 0x01, 0x02, 0x2a, 0xb4, 0x00, 0x26, 0x11, 0x01, 0x00, 0x2f, 0x2a, 0xb4, 0x00, 0x26, 0x11, 0x01, 0x01, 0x2f, 0xb8, 0x00, 0x59, 0x50, 0x2a, 0xb4, 0x00, 0x2a, 0x11, 0x01, 0x03, 0x2a, 0xb4, 0x00, 0x2a, 0x11, 0x01, 0x01, 0x2f, 0x2a, 0xb4, 0x00, 0x2a, 0x11, 0x01, 0x00, 0x2f, 0xb8, 0x00, 0x5d, 0x50, 0x2a, 0x11, 0x01, 0x02, 0xb6, 0x00, 0x7b, 0x3d, 0x2a, 0x11, 0x01, 0x03, 0xb6, 0x00, 0x7b, 0x99, 0x00, 0x0b, 0x1c, 0x99, 0x00, 0x07, 0x04, 0xa7, 0x00, 0x04, 0x03, 0xac])
theorem bl_R_less : b_R_less = lb_R_less := congrArg ByteArray.mk (xar _)
abbrev y_R_lessSigned : MethodName := ⟨"ProgramGateModel", "lessSigned", "(Z)Z"⟩
abbrev b_R_lessSigned : ByteArray := prog_11_method_26_code
abbrev t_R_lessSigned : Option FieldType := (some .boolean)
def lb_R_lessSigned : ByteArray := .mk (.mk [0x1b, 0x99, 0x00, 0x40, 0x2a, 0xb4, 0x00, 0x30, 0x11, 0x01, 0x02, 0x2a, 0xb4, 0x00, 0x30, 0x11, 0x01, 0x00, 0x2f, 0x2a, 0xb4, 0x00, 0x30, 0x11, 0x01, 0x01, 0x2f, 0x0a, 0x65, 0xb8, 0x00, 0x5d, 0x50, 0x2a, 0xb4, 0x00, 0x2d, 0x11, 0x01, 0x03, 0x2a, 0xb4, 0x00, 0x2d, 0x11, 0x01, 0x01, 0x2f, 0x2a, 0xb4, 0x00, 0x2d, 0x11, 0x01, 0x00, 0x2f, 0x0a, 0x61, 0xb8, 0x00, 0x59, 0x50, 0xa7, 0x00, 0x39, 0x2a, 0xb4, 0x00, 0x2d, 0x11, 0x01, 0x02, 0x2a, 0xb4, 0x00, 0x2d, 0x11, 0x01, 0x00, 0x2f, 0x2a, 0xb4, 0x00, 0x2d, 0x11, 0x01, 0x01, 0x2f, 0xb8, 0x00, 0x59, 0x50, 0x2a, 0xb4, 0x00, 0x30, 0x11, 0x01, 0x03, 0x2a, 0xb4, 0x00, 0x30, 0x11, 0x01, 0x01, 0x2f, 0x2a, 0xb4, 0x00, 0x30, 0x11, 0x01, 0x00, 0x2f, 0xb8, 0x00, 0x5d, 0x50, 0x2a, 0x11, 0x01, 0x02, 0xb6, 0x00, 0x7b, 0x3d, 0x2a, 0x11, 0x01, 0x03, 0xb6, 0x00, 0x7b, 0x99, 0x00, 0x0b, 0x1c, 0x99, 0x00, 0x07, 0x04, 0xa7, 0x00, 0x04, 0x03, 0xac])
theorem bl_R_lessSigned : b_R_lessSigned = lb_R_lessSigned := congrArg ByteArray.mk (xar _)
abbrev y_R_compare : MethodName := ⟨"ProgramGateModel", "compare", "(IZ)Z"⟩
abbrev b_R_compare : ByteArray := prog_11_method_27_code
abbrev t_R_compare : Option FieldType := (some .boolean)
def lb_R_compare : ByteArray := .mk (.mk [0x2a, 0x11, 0x01, 0x00, 0x11, 0x01, 0x02, 0xb6, 0x00, 0x80, 0x2a, 0x11, 0x01, 0x01, 0x11, 0x01, 0x03, 0xb6, 0x00, 0x80, 0x1b, 0x10, 0x12, 0xa2, 0x00, 0x3c, 0x1c, 0x99, 0x00, 0x0a, 0x2a, 0xb6, 0x00, 0x83, 0xa7, 0x00, 0x30, 0x2a, 0x11, 0x01, 0x00, 0xb6, 0x00, 0x6a, 0x99, 0x00, 0x21, 0x2a, 0x11, 0x01, 0x01, 0xb6, 0x00, 0x6a, 0x99, 0x00, 0x17, 0x2a, 0xb4, 0x00, 0x26, 0x11, 0x01, 0x00, 0x2f, 0x2a, 0xb4, 0x00, 0x26, 0x11, 0x01, 0x01, 0x2f, 0x94, 0x99, 0x00, 0x07, 0x04, 0xa7, 0x00, 0x04, 0x03, 0xac, 0x1b, 0x10, 0x14, 0xa2, 0x00, 0x0b, 0x2a, 0x1c, 0xb6, 0x00, 0x87, 0xa7, 0x00, 0x08, 0x2a, 0x1c, 0xb6, 0x00, 0x8b, 0xac])
theorem bl_R_compare : b_R_compare = lb_R_compare := congrArg ByteArray.mk (xar _)
abbrev y_R_wait : MethodName := ⟨"ProgramGateModel", "wait", "(III)V"⟩
abbrev b_R_wait : ByteArray := prog_11_method_35_code
abbrev t_R_wait : Option FieldType := none
def lb_R_wait : ByteArray := .mk (.mk [0x2a, 0x59, 0xb4, 0x00, 0xa6, 0x04, 0x60, 0xb5, 0x00, 0xa6, 0x2a, 0xb4, 0x00, 0x36, 0x2a, 0xb4, 0x00, 0xa6, 0x1b, 0x4f, 0x03, 0x36, 0x04, 0x15, 0x04, 0x10, 0x0a, 0xa2, 0x00, 0x19, 0x2a, 0x15, 0x04, 0x10, 0x0a, 0x2a, 0xb4, 0x00, 0xa6, 0x68, 0x15, 0x04, 0x60, 0xb6, 0x00, 0x80, 0x84, 0x04, 0x01, 0xa7, 0xff, 0xe6, 0x1c, 0x9b, 0x00, 0x13, 0x2a, 0x11, 0x01, 0x02, 0x10, 0x0a, 0x2a, 0xb4, 0x00, 0xa6, 0x68, 0x1c, 0x60, 0xb6, 0x00, 0x80, 0x1d, 0x9b, 0x00, 0x13, 0x2a, 0x11, 0x01, 0x03, 0x10, 0x0a, 0x2a, 0xb4, 0x00, 0xa6, 0x68, 0x1d, 0x60, 0xb6, 0x00, 0x80, 0xb1])
theorem bl_R_wait : b_R_wait = lb_R_wait := congrArg ByteArray.mk (xar _)
abbrev y_R_part : MethodName := ⟨"ProgramGateModel", "part", "(IIII)Z"⟩
abbrev b_R_part : ByteArray := prog_11_method_36_code
abbrev t_R_part : Option FieldType := (some .boolean)
def lb_R_part : ByteArray := .mk (.mk [0x1b, 0x05, 0x70, 0x9a, 0x00, 0x07, 0x04, 0xa7, 0x00, 0x04, 0x03, 0x36, 0x05, 0x2a, 0x1b, 0x15, 0x05, 0xb6, 0x00, 0xa9, 0x99, 0x00, 0x0b, 0x2a, 0x15, 0x04, 0x1c, 0x1d, 0xb6, 0x00, 0xad, 0x2a, 0x1b, 0x15, 0x05, 0x9a, 0x00, 0x07, 0x04, 0xa7, 0x00, 0x04, 0x03, 0xb6, 0x00, 0xa9, 0x9a, 0x00, 0x05, 0x03, 0xac, 0x2a, 0x11, 0x01, 0x02, 0x1c, 0xb6, 0x00, 0x80, 0x1d, 0x9b, 0x00, 0x0b, 0x2a, 0x11, 0x01, 0x03, 0x1d, 0xb6, 0x00, 0x80, 0x2a, 0x59, 0xb4, 0x00, 0x90, 0x04, 0x60, 0xb5, 0x00, 0x90, 0x04, 0xac])
theorem bl_R_part : b_R_part = lb_R_part := congrArg ByteArray.mk (xar _)
abbrev y_R_lowest : MethodName := ⟨"ProgramGateModel", "lowest", "()I"⟩
abbrev b_R_lowest : ByteArray := prog_11_method_17_code
abbrev t_R_lowest : Option FieldType := (some .int)
def lb_R_lowest : ByteArray := .mk (.mk [0x2a, 0xb4, 0x00, 0x20, 0x11, 0x01, 0x00, 0x2e, 0x2a, 0xb4, 0x00, 0x20, 0x11, 0x01, 0x01, 0x2e, 0x7e, 0x3c, 0x03, 0x3d, 0x03, 0x3e, 0x1d, 0x10, 0x20, 0xa2, 0x00, 0x18, 0x1b, 0x1d, 0x7a, 0x04, 0x7e, 0x04, 0xa0, 0x00, 0x0f, 0x1c, 0x04, 0x1d, 0x78, 0x80, 0x3d, 0x84, 0x03, 0x01, 0xa7, 0xff, 0xe8, 0x1c, 0xac])
theorem bl_R_lowest : b_R_lowest = lb_R_lowest := congrArg ByteArray.mk (xar _)
abbrev y_R_knows : MethodName := ⟨"ProgramGateModel", "knows", "(II)V"⟩
abbrev b_R_knows : ByteArray := prog_11_method_18_code
abbrev t_R_knows : Option FieldType := none
def lb_R_knows : ByteArray := .mk (.mk [0x2a, 0xb4, 0x00, 0x20, 0x11, 0x01, 0x02, 0x1b, 0x4f, 0x2a, 0xb4, 0x00, 0x23, 0x11, 0x01, 0x02, 0x1c, 0x1b, 0x7e, 0x4f, 0xb1])
theorem bl_R_knows : b_R_knows = lb_R_knows := congrArg ByteArray.mk (xar _)
abbrev y_R_bitsOf : MethodName := ⟨"ProgramGateModel", "bitsOf", "(I)V"⟩
abbrev b_R_bitsOf : ByteArray := prog_11_method_19_code
abbrev t_R_bitsOf : Option FieldType := none
def lb_R_bitsOf : ByteArray := .mk (.mk [0x2a, 0xb4, 0x00, 0x23, 0x11, 0x01, 0x00, 0x2e, 0x3d, 0x2a, 0xb4, 0x00, 0x23, 0x11, 0x01, 0x01, 0x2e, 0x3e, 0x1b, 0x04, 0x9f, 0x00, 0x0d, 0x1b, 0x05, 0x9f, 0x00, 0x08, 0x1b, 0x06, 0xa0, 0x00, 0x27, 0x2a, 0x2a, 0xb6, 0x00, 0x62, 0x1b, 0x04, 0xa0, 0x00, 0x09, 0x1c, 0x1d, 0x60, 0xa7, 0x00, 0x11, 0x1b, 0x05, 0xa0, 0x00, 0x09, 0x1c, 0x1d, 0x64, 0xa7, 0x00, 0x06, 0x1c, 0x1d, 0x68, 0xb6, 0x00, 0x66, 0xa7, 0x01, 0x1d, 0x1b, 0x07, 0xa0, 0x00, 0x38, 0x2a, 0x2a, 0xb4, 0x00, 0x20, 0x11, 0x01, 0x00, 0x2e, 0x2a, 0xb4, 0x00, 0x20, 0x11, 0x01, 0x01, 0x2e, 0x7e, 0x2a, 0xb4, 0x00, 0x20, 0x11, 0x01, 0x00, 0x2e, 0x1c, 0x02, 0x82, 0x7e, 0x80, 0x2a, 0xb4, 0x00, 0x20, 0x11, 0x01, 0x01, 0x2e, 0x1d, 0x02, 0x82, 0x7e, 0x80, 0x1c, 0x1d, 0x7e, 0xb6, 0x00, 0x66, 0xa7, 0x00, 0xe3, 0x1b, 0x08, 0xa0, 0x00, 0x22, 0x2a, 0x2a, 0xb4, 0x00, 0x20, 0x11, 0x01, 0x00, 0x2e, 0x2a, 0xb4, 0x00, 0x20, 0x11, 0x01, 0x01, 0x2e, 0x7e, 0x1c, 0x80, 0x1d, 0x80, 0x1c, 0x1d, 0x80, 0xb6, 0x00, 0x66, 0xa7, 0x00, 0xbf, 0x1b, 0x10, 0x06, 0xa0, 0x00, 0x1e, 0x2a, 0x2a, 0xb4, 0x00, 0x20, 0x11, 0x01, 0x00, 0x2e, 0x2a, 0xb4, 0x00, 0x20, 0x11, 0x01, 0x01, 0x2e, 0x7e, 0x1c, 0x1d, 0x82, 0xb6, 0x00, 0x66, 0xa7, 0x00, 0x9e, 0x1b, 0x10, 0x09, 0xa3, 0x00, 0x98, 0x2a, 0x11, 0x01, 0x01, 0xb6, 0x00, 0x6a, 0x99, 0x00, 0x8e, 0x2a, 0xb4, 0x00, 0x26, 0x11, 0x01, 0x01, 0x2f, 0x88, 0x10, 0x1f, 0x7e, 0x36, 0x04, 0x1b, 0x10, 0x07, 0xa0, 0x00, 0x0c, 0x02, 0x15, 0x04, 0x78, 0x02, 0x82, 0xa7, 0x00, 0x13, 0x1b, 0x10, 0x08, 0xa0, 0x00, 0x0c, 0x02, 0x15, 0x04, 0x7c, 0x02, 0x82, 0xa7, 0x00, 0x04, 0x03, 0x36, 0x05, 0x1b, 0x10, 0x07, 0xa0, 0x00, 0x11, 0x2a, 0xb4, 0x00, 0x20, 0x11, 0x01, 0x00, 0x2e, 0x15, 0x04, 0x78, 0xa7, 0x00, 0x22, 0x1b, 0x10, 0x08, 0xa0, 0x00, 0x11, 0x2a, 0xb4, 0x00, 0x20, 0x11, 0x01, 0x00, 0x2e, 0x15, 0x04, 0x7c, 0xa7, 0x00, 0x0e, 0x2a, 0xb4, 0x00, 0x20, 0x11, 0x01, 0x00, 0x2e, 0x15, 0x04, 0x7a, 0x36, 0x06, 0x2a, 0x15, 0x06, 0x15, 0x05, 0x80, 0x1b, 0x10, 0x07, 0xa0, 0x00, 0x0a, 0x1c, 0x15, 0x04, 0x78, 0xa7, 0x00, 0x14, 0x1b, 0x10, 0x08, 0xa0, 0x00, 0x0a, 0x1c, 0x15, 0x04, 0x7c, 0xa7, 0x00, 0x07, 0x1c, 0x15, 0x04, 0x7a, 0xb6, 0x00, 0x66, 0xb1])
theorem bl_R_bitsOf : b_R_bitsOf = lb_R_bitsOf := congrArg ByteArray.mk (xar _)
abbrev y_R_bound : MethodName := ⟨"ProgramGateModel", "bound", "(JJ)V"⟩
abbrev b_R_bound : ByteArray := prog_11_method_20_code
abbrev t_R_bound : Option FieldType := none
def lb_R_bound : ByteArray := .mk (.mk [0x2a, 0xb4, 0x00, 0x26, 0x11, 0x01, 0x02, 0x1f, 0x50, 0x2a, 0xb4, 0x00, 0x2a, 0x11, 0x01, 0x02, 0x21, 0x50, 0xb1])
theorem bl_R_bound : b_R_bound = lb_R_bound := congrArg ByteArray.mk (xar _)
abbrev y_R_boundSigned : MethodName := ⟨"ProgramGateModel", "boundSigned", "(JJ)V"⟩
abbrev b_R_boundSigned : ByteArray := prog_11_method_21_code
abbrev t_R_boundSigned : Option FieldType := none
def lb_R_boundSigned : ByteArray := .mk (.mk [0x1f, 0x14, 0x00, 0x51, 0x94, 0x9b, 0x00, 0x1d, 0x21, 0x14, 0x00, 0x60, 0x94, 0x9c, 0x00, 0x15, 0x2a, 0xb4, 0x00, 0x2d, 0x11, 0x01, 0x02, 0x1f, 0x50, 0x2a, 0xb4, 0x00, 0x30, 0x11, 0x01, 0x02, 0x21, 0x50, 0xb1])
theorem bl_R_boundSigned : b_R_boundSigned = lb_R_boundSigned := congrArg ByteArray.mk (xar _)
abbrev y_R_boundsOf : MethodName := ⟨"ProgramGateModel", "boundsOf", "(I)V"⟩
abbrev b_R_boundsOf : ByteArray := prog_11_method_22_code
abbrev t_R_boundsOf : Option FieldType := none
def lb_R_boundsOf : ByteArray := .mk (.mk [0x2a, 0xb4, 0x00, 0x26, 0x11, 0x01, 0x01, 0x2f, 0x88, 0x10, 0x1f, 0x7e, 0x3d, 0x1b, 0x04, 0xa0, 0x00, 0x6a, 0x2a, 0xb4, 0x00, 0x2a, 0x11, 0x01, 0x00, 0x2f, 0x2a, 0xb4, 0x00, 0x2a, 0x11, 0x01, 0x01, 0x2f, 0x61, 0x14, 0x00, 0x4f, 0x94, 0x9d, 0x00, 0x29, 0x2a, 0x2a, 0xb4, 0x00, 0x26, 0x11, 0x01, 0x00, 0x2f, 0x2a, 0xb4, 0x00, 0x26, 0x11, 0x01, 0x01, 0x2f, 0x61, 0x2a, 0xb4, 0x00, 0x2a, 0x11, 0x01, 0x00, 0x2f, 0x2a, 0xb4, 0x00, 0x2a, 0x11, 0x01, 0x01, 0x2f, 0x61, 0xb6, 0x00, 0x6e, 0x2a, 0x2a, 0xb4, 0x00, 0x2d, 0x11, 0x01, 0x00, 0x2f, 0x2a, 0xb4, 0x00, 0x2d, 0x11, 0x01, 0x01, 0x2f, 0x61, 0x2a, 0xb4, 0x00, 0x30, 0x11, 0x01, 0x00, 0x2f, 0x2a, 0xb4, 0x00, 0x30, 0x11, 0x01, 0x01, 0x2f, 0x61, 0xb6, 0x00, 0x72, 0xa7, 0x01, 0xa9, 0x1b, 0x05, 0xa0, 0x00, 0x66, 0x2a, 0xb4, 0x00, 0x26, 0x11, 0x01, 0x00, 0x2f, 0x2a, 0xb4, 0x00, 0x2a, 0x11, 0x01, 0x01, 0x2f, 0x94, 0x9b, 0x00, 0x29, 0x2a, 0x2a, 0xb4, 0x00, 0x26, 0x11, 0x01, 0x00, 0x2f, 0x2a, 0xb4, 0x00, 0x2a, 0x11, 0x01, 0x01, 0x2f, 0x65, 0x2a, 0xb4, 0x00, 0x2a, 0x11, 0x01, 0x00, 0x2f, 0x2a, 0xb4, 0x00, 0x26, 0x11, 0x01, 0x01, 0x2f, 0x65, 0xb6, 0x00, 0x6e, 0x2a, 0x2a, 0xb4, 0x00, 0x2d, 0x11, 0x01, 0x00, 0x2f, 0x2a, 0xb4, 0x00, 0x30, 0x11, 0x01, 0x01, 0x2f, 0x65, 0x2a, 0xb4, 0x00, 0x30, 0x11, 0x01, 0x00, 0x2f, 0x2a, 0xb4, 0x00, 0x2d, 0x11, 0x01, 0x01, 0x2f, 0x65, 0xb6, 0x00, 0x72, 0xa7, 0x01, 0x41, 0x1b, 0x06, 0xa0, 0x00, 0x51, 0x2a, 0xb4, 0x00, 0x2a, 0x11, 0x01, 0x00, 0x2f, 0x09, 0x94, 0x99, 0x00, 0x1b, 0x2a, 0xb4, 0x00, 0x2a, 0x11, 0x01, 0x01, 0x2f, 0x14, 0x00, 0x4f, 0x2a, 0xb4, 0x00, 0x2a, 0x11, 0x01, 0x00, 0x2f, 0x6d, 0x94, 0x9d, 0x01, 0x17, 0x2a, 0x2a, 0xb4, 0x00, 0x26, 0x11, 0x01, 0x00, 0x2f, 0x2a, 0xb4, 0x00, 0x26, 0x11, 0x01, 0x01, 0x2f, 0x69, 0x2a, 0xb4, 0x00, 0x2a, 0x11, 0x01, 0x00, 0x2f, 0x2a, 0xb4, 0x00, 0x2a, 0x11, 0x01, 0x01, 0x2f, 0x69, 0xb6, 0x00, 0x6e, 0xa7, 0x00, 0xee, 0x1b, 0x07, 0xa0, 0x00, 0x21, 0x2a, 0xb4, 0x00, 0x2a, 0x11, 0x01, 0x02, 0x2a, 0xb4, 0x00, 0x2a, 0x11, 0x01, 0x00, 0x2f, 0x2a, 0xb4, 0x00, 0x2a, 0x11, 0x01, 0x01, 0x2f, 0xb8, 0x00, 0x5d, 0x50, 0xa7, 0x00, 0xcb, 0x1b, 0x08, 0xa0, 0x00, 0x21, 0x2a, 0xb4, 0x00, 0x26, 0x11, 0x01, 0x02, 0x2a, 0xb4, 0x00, 0x26, 0x11, 0x01, 0x00, 0x2f, 0x2a, 0xb4, 0x00, 0x26, 0x11, 0x01, 0x01, 0x2f, 0xb8, 0x00, 0x59, 0x50, 0xa7, 0x00, 0xa8, 0x1b, 0x10, 0x08, 0xa0, 0x00, 0x28, 0x2a, 0x11, 0x01, 0x01, 0xb6, 0x00, 0x6a, 0x99, 0x00, 0x1e, 0x2a, 0x2a, 0xb4, 0x00, 0x26, 0x11, 0x01, 0x00, 0x2f, 0x1c, 0x7b, 0x2a, 0xb4, 0x00, 0x2a, 0x11, 0x01, 0x00, 0x2f, 0x1c, 0x7b, 0xb6, 0x00, 0x6e, 0xa7, 0x00, 0x7d, 0x1b, 0x10, 0x09, 0xa0, 0x00, 0x28, 0x2a, 0x11, 0x01, 0x01, 0xb6, 0x00, 0x6a, 0x99, 0x00, 0x1e, 0x2a, 0x2a, 0xb4, 0x00, 0x2d, 0x11, 0x01, 0x00, 0x2f, 0x1c, 0x7b, 0x2a, 0xb4, 0x00, 0x30, 0x11, 0x01, 0x00, 0x2f, 0x1c, 0x7b, 0xb6, 0x00, 0x72, 0xa7, 0x00, 0x52, 0x1b, 0x10, 0x0a, 0xa0, 0x00, 0x2c, 0x2a, 0x2a, 0xb4, 0x00, 0x26, 0x11, 0x01, 0x00, 0x2f, 0x2a, 0xb4, 0x00, 0x2a, 0x11, 0x01, 0x01, 0x2f, 0x6d, 0x2a, 0xb4, 0x00, 0x2a, 0x11, 0x01, 0x00, 0x2f, 0x2a, 0xb4, 0x00, 0x26, 0x11, 0x01, 0x01, 0x2f, 0x6d, 0xb6, 0x00, 0x6e, 0xa7, 0x00, 0x23, 0x1b, 0x10, 0x0b, 0xa0, 0x00, 0x1d, 0x2a, 0x09, 0x2a, 0xb4, 0x00, 0x2a, 0x11, 0x01, 0x00, 0x2f, 0x2a, 0xb4, 0x00, 0x2a, 0x11, 0x01, 0x01, 0x2f, 0x0a, 0x65, 0xb8, 0x00, 0x5d, 0xb6, 0x00, 0x6e, 0xb1])
theorem bl_R_boundsOf : b_R_boundsOf = lb_R_boundsOf := congrArg ByteArray.mk (xar _)
abbrev y_R_operate : MethodName := ⟨"ProgramGateModel", "operate", "(I)Z"⟩
abbrev b_R_operate : ByteArray := prog_11_method_23_code
abbrev t_R_operate : Option FieldType := (some .boolean)
def lb_R_operate : ByteArray := .mk (.mk [0x2a, 0x11, 0x01, 0x02, 0xb6, 0x00, 0x55, 0x2a, 0x1b, 0xb6, 0x00, 0x75, 0x2a, 0x1b, 0xb6, 0x00, 0x78, 0x2a, 0x11, 0x01, 0x02, 0xb6, 0x00, 0x7b, 0x3d, 0x1b, 0x04, 0xa0, 0x00, 0x58, 0x2a, 0x11, 0x01, 0x01, 0xb6, 0x00, 0x6a, 0x99, 0x00, 0x4e, 0x2a, 0xb4, 0x00, 0x26, 0x11, 0x01, 0x01, 0x2f, 0x14, 0x00, 0x7e, 0x94, 0x9d, 0x00, 0x3f, 0x2a, 0xb4, 0x00, 0x2a, 0x11, 0x01, 0x00, 0x2f, 0x2a, 0xb4, 0x00, 0x26, 0x11, 0x01, 0x01, 0x2f, 0x61, 0x14, 0x00, 0x4f, 0x94, 0x9d, 0x00, 0x27, 0x2a, 0xb4, 0x00, 0x33, 0x11, 0x01, 0x00, 0x2e, 0x2a, 0xb4, 0x00, 0x26, 0x11, 0x01, 0x01, 0x2f, 0x88, 0x64, 0x3e, 0x2a, 0xb4, 0x00, 0x33, 0x11, 0x01, 0x02, 0x1d, 0x9e, 0x00, 0x07, 0x1d, 0xa7, 0x00, 0x04, 0x03, 0x4f, 0x1c, 0xac])
theorem bl_R_operate : b_R_operate = lb_R_operate := congrArg ByteArray.mk (xar _)
abbrev y_R_meet : MethodName := ⟨"ProgramGateModel", "meet", "(II)V"⟩
abbrev b_R_meet : ByteArray := prog_11_method_16_code
abbrev t_R_meet : Option FieldType := none
def lb_R_meet : ByteArray := .mk (.mk [0x2a, 0xb4, 0x00, 0x20, 0x1b, 0x2a, 0xb4, 0x00, 0x20, 0x1b, 0x2e, 0x2a, 0xb4, 0x00, 0x20, 0x1c, 0x2e, 0x7e, 0x2a, 0xb4, 0x00, 0x23, 0x1b, 0x2e, 0x2a, 0xb4, 0x00, 0x23, 0x1c, 0x2e, 0x82, 0x02, 0x82, 0x7e, 0x4f, 0x2a, 0xb4, 0x00, 0x23, 0x1b, 0x2a, 0xb4, 0x00, 0x23, 0x1b, 0x2e, 0x2a, 0xb4, 0x00, 0x20, 0x1b, 0x2e, 0x7e, 0x4f, 0x2a, 0xb4, 0x00, 0x26, 0x1b, 0x2a, 0xb4, 0x00, 0x26, 0x1b, 0x2f, 0x2a, 0xb4, 0x00, 0x26, 0x1c, 0x2f, 0xb8, 0x00, 0x5d, 0x50, 0x2a, 0xb4, 0x00, 0x2a, 0x1b, 0x2a, 0xb4, 0x00, 0x2a, 0x1b, 0x2f, 0x2a, 0xb4, 0x00, 0x2a, 0x1c, 0x2f, 0xb8, 0x00, 0x59, 0x50, 0x2a, 0xb4, 0x00, 0x2d, 0x1b, 0x2a, 0xb4, 0x00, 0x2d, 0x1b, 0x2f, 0x2a, 0xb4, 0x00, 0x2d, 0x1c, 0x2f, 0xb8, 0x00, 0x5d, 0x50, 0x2a, 0xb4, 0x00, 0x30, 0x1b, 0x2a, 0xb4, 0x00, 0x30, 0x1b, 0x2f, 0x2a, 0xb4, 0x00, 0x30, 0x1c, 0x2f, 0xb8, 0x00, 0x59, 0x50, 0x2a, 0xb4, 0x00, 0x33, 0x1b, 0x2a, 0xb4, 0x00, 0x33, 0x1b, 0x2e, 0x2a, 0xb4, 0x00, 0x33, 0x1c, 0x2e, 0xa2, 0x00, 0x0c, 0x2a, 0xb4, 0x00, 0x33, 0x1b, 0x2e, 0xa7, 0x00, 0x09, 0x2a, 0xb4, 0x00, 0x33, 0x1c, 0x2e, 0x4f, 0xb1])
theorem bl_R_meet : b_R_meet = lb_R_meet := congrArg ByteArray.mk (xar _)
abbrev y_R_get : MethodName := ⟨"ProgramGateModel", "get", "(I)V"⟩
abbrev b_R_get : ByteArray := prog_11_method_32_code
abbrev t_R_get : Option FieldType := none
def lb_R_get : ByteArray := .mk (.mk [0x2a, 0x10, 0x06, 0x2a, 0xb4, 0x00, 0x26, 0x11, 0x01, 0x01, 0x2f, 0x88, 0x60, 0x11, 0x01, 0x02, 0xb6, 0x00, 0x80, 0x2a, 0xb4, 0x00, 0x26, 0x11, 0x01, 0x01, 0x2f, 0x88, 0x04, 0x60, 0x3d, 0x1c, 0x85, 0x2a, 0xb4, 0x00, 0x2a, 0x11, 0x01, 0x01, 0x2f, 0x94, 0x9d, 0x00, 0x14, 0x2a, 0x11, 0x01, 0x02, 0x10, 0x06, 0x1c, 0x60, 0xb6, 0x00, 0xa1, 0x84, 0x02, 0x01, 0xa7, 0xff, 0xe4, 0x2a, 0x11, 0x01, 0x02, 0x1b, 0xb6, 0x00, 0x80, 0xb1])
theorem bl_R_get : b_R_get = lb_R_get := congrArg ByteArray.mk (xar _)
abbrev y_R_put : MethodName := ⟨"ProgramGateModel", "put", "()V"⟩
abbrev b_R_put : ByteArray := prog_11_method_33_code
abbrev t_R_put : Option FieldType := none
def lb_R_put : ByteArray := .mk (.mk [0x2a, 0x11, 0x01, 0x01, 0xb6, 0x00, 0x6a, 0x99, 0x00, 0x17, 0x2a, 0x11, 0x01, 0x00, 0x10, 0x06, 0x2a, 0xb4, 0x00, 0x26, 0x11, 0x01, 0x01, 0x2f, 0x88, 0x60, 0xb6, 0x00, 0x80, 0xb1, 0x2a, 0xb4, 0x00, 0x26, 0x11, 0x01, 0x01, 0x2f, 0x88, 0x3c, 0x1b, 0x85, 0x2a, 0xb4, 0x00, 0x2a, 0x11, 0x01, 0x01, 0x2f, 0x94, 0x9d, 0x00, 0x20, 0x2a, 0xb4, 0x00, 0x1c, 0x10, 0x06, 0x1b, 0x60, 0x33, 0x99, 0x00, 0x0e, 0x2a, 0x10, 0x06, 0x1b, 0x60, 0x11, 0x01, 0x00, 0xb6, 0x00, 0xa1, 0x84, 0x01, 0x01, 0xa7, 0xff, 0xd8, 0xb1])
theorem bl_R_put : b_R_put = lb_R_put := congrArg ByteArray.mk (xar _)
abbrev y_R_load : MethodName := ⟨"ProgramGateModel", "load", "(II)V"⟩
abbrev b_R_load : ByteArray := prog_11_method_34_code
abbrev t_R_load : Option FieldType := none
def lb_R_load : ByteArray := .mk (.mk [0x2a, 0x11, 0x01, 0x02, 0xb6, 0x00, 0x55, 0x1c, 0x07, 0xa2, 0x00, 0x43, 0x2a, 0xb4, 0x00, 0x2a, 0x11, 0x01, 0x02, 0x1c, 0x04, 0xa0, 0x00, 0x09, 0x14, 0x00, 0x4d, 0xa7, 0x00, 0x06, 0x14, 0x00, 0xa4, 0x50, 0x2a, 0xb4, 0x00, 0x2d, 0x11, 0x01, 0x02, 0x09, 0x50, 0x2a, 0xb4, 0x00, 0x30, 0x11, 0x01, 0x02, 0x2a, 0xb4, 0x00, 0x2a, 0x11, 0x01, 0x02, 0x2f, 0x50, 0x2a, 0x11, 0x01, 0x02, 0xb6, 0x00, 0x7b, 0x3e, 0x2a, 0xb4, 0x00, 0x1c, 0x11, 0x01, 0x02, 0x1d, 0x54, 0x2a, 0x11, 0x01, 0x02, 0x1b, 0xb6, 0x00, 0x80, 0xb1])
theorem bl_R_load : b_R_load = lb_R_load := congrArg ByteArray.mk (xar _)
abbrev y_R_pass : MethodName := ⟨"ProgramGateModel", "pass", "()Z"⟩
abbrev b_R_pass : ByteArray := prog_11_method_37_code
abbrev t_R_pass : Option FieldType := (some .boolean)
def lb_R_pass : ByteArray := .mk (.mk [0x2a, 0xb4, 0x00, 0x07, 0x2a, 0xb4, 0x00, 0x90, 0x2e, 0x3c, 0x2a, 0xb4, 0x00, 0x0d, 0x2a, 0xb4, 0x00, 0x90, 0x2e, 0x3d, 0x2a, 0xb4, 0x00, 0x10, 0x2a, 0xb4, 0x00, 0x90, 0x2e, 0x3e, 0x2a, 0xb4, 0x00, 0x90, 0x04, 0x60, 0x2a, 0xb4, 0x00, 0x16, 0x2a, 0xb4, 0x00, 0x90, 0x2e, 0x60, 0x36, 0x04, 0x1b, 0x10, 0x17, 0xa0, 0x00, 0x26, 0x2a, 0x04, 0xb5, 0x00, 0xb1, 0x03, 0x36, 0x05, 0x15, 0x05, 0x10, 0x06, 0xa2, 0x00, 0x15, 0x2a, 0x15, 0x05, 0x11, 0x00, 0xfa, 0x15, 0x05, 0x60, 0xb6, 0x00, 0x80, 0x84, 0x05, 0x01, 0xa7, 0xff, 0xea, 0x03, 0xac, 0x1b, 0x10, 0x10, 0xa1, 0x00, 0x13, 0x1b, 0x10, 0x15, 0xa3, 0x00, 0x0d, 0x2a, 0x1b, 0x1c, 0x1d, 0x15, 0x04, 0xb6, 0x00, 0xb5, 0xac, 0x04, 0x36, 0x05, 0x1b, 0x9a, 0x00, 0x0e, 0x2a, 0x11, 0x01, 0x01, 0x1c, 0xb6, 0x00, 0x80, 0xa7, 0x00, 0x85, 0x1b, 0x10, 0x0b, 0xa3, 0x00, 0x15, 0x2a, 0x1b, 0xb6, 0x00, 0xb9, 0x36, 0x05, 0x2a, 0x11, 0x01, 0x02, 0x1c, 0xb6, 0x00, 0x80, 0xa7, 0x00, 0x6d, 0x1b, 0x10, 0x0c, 0xa0, 0x00, 0x0b, 0x2a, 0x1c, 0xb6, 0x00, 0xbc, 0xa7, 0x00, 0x5f, 0x1b, 0x10, 0x0d, 0xa0, 0x00, 0x0a, 0x2a, 0xb6, 0x00, 0xbf, 0xa7, 0x00, 0x52, 0x1b, 0x10, 0x0e, 0xa0, 0x00, 0x14, 0x2a, 0x1c, 0x2a, 0xb4, 0x00, 0x16, 0x2a, 0xb4, 0x00, 0x90, 0x2e, 0xb6, 0x00, 0xc2, 0xa7, 0x00, 0x3b, 0x1b, 0x10, 0x0f, 0xa0, 0x00, 0x35, 0x2a, 0x15, 0x04, 0x02, 0x02, 0xb6, 0x00, 0xad, 0x2a, 0xb4, 0x00, 0x33, 0x1d, 0x2a, 0xb4, 0x00, 0x33, 0x1d, 0x2e, 0x2a, 0xb4, 0x00, 0x13, 0x2a, 0xb4, 0x00, 0x90, 0x2e, 0xa4, 0x00, 0x0c, 0x2a, 0xb4, 0x00, 0x33, 0x1d, 0x2e, 0xa7, 0x00, 0x0c, 0x2a, 0xb4, 0x00, 0x13, 0x2a, 0xb4, 0x00, 0x90, 0x2e, 0x4f, 0x2a, 0x1b, 0x10, 0x16, 0xa0, 0x00, 0x08, 0x15, 0x04, 0xa7, 0x00, 0x09, 0x2a, 0xb4, 0x00, 0x90, 0x04, 0x60, 0xb5, 0x00, 0x90, 0x15, 0x05, 0xac])
theorem bl_R_pass : b_R_pass = lb_R_pass := congrArg ByteArray.mk (xar _)
abbrev y_R_walk : MethodName := ⟨"ProgramGateModel", "walk", "()I"⟩
abbrev b_R_walk : ByteArray := prog_11_method_38_code
abbrev t_R_walk : Option FieldType := (some .int)
def lb_R_walk : ByteArray := .mk (.mk [0x2a, 0x03, 0xb5, 0x00, 0x3f, 0x2a, 0x03, 0xb5, 0x00, 0x93, 0x2a, 0x03, 0xb5, 0x00, 0xb1, 0x2a, 0x03, 0xb5, 0x00, 0xa6, 0x2a, 0x03, 0xb5, 0x00, 0x90, 0x2a, 0xb6, 0x00, 0xc5, 0x04, 0x3c, 0x1b, 0x99, 0x00, 0x72, 0x2a, 0x59, 0xb4, 0x00, 0x93, 0x04, 0x60, 0xb5, 0x00, 0x93, 0x2a, 0xb6, 0x00, 0xc8, 0x3d, 0x1c, 0x9e, 0x00, 0x0d, 0x10, 0x64, 0x1c, 0x68, 0x2a, 0xb4, 0x00, 0x90, 0x60, 0xac, 0x2a, 0xb6, 0x00, 0xcb, 0x9a, 0x00, 0x4b, 0x2a, 0xb4, 0x00, 0xa6, 0x9e, 0x00, 0x07, 0x04, 0xa7, 0x00, 0x04, 0x03, 0x3c, 0x03, 0x3e, 0x1d, 0x10, 0x0a, 0xa2, 0x00, 0x17, 0x2a, 0x10, 0x0a, 0x2a, 0xb4, 0x00, 0xa6, 0x68, 0x1d, 0x60, 0x1d, 0xb6, 0x00, 0x80, 0x84, 0x03, 0x01, 0xa7, 0xff, 0xe9, 0x2a, 0x2a, 0xb4, 0x00, 0x36, 0x2a, 0xb4, 0x00, 0xa6, 0x2e, 0xb5, 0x00, 0x90, 0x2a, 0x1b, 0x99, 0x00, 0x0c, 0x2a, 0xb4, 0x00, 0xa6, 0x04, 0x64, 0xa7, 0x00, 0x04, 0x03, 0xb5, 0x00, 0xa6, 0xa7, 0xff, 0x90, 0x03, 0xac])
theorem bl_R_walk : b_R_walk = lb_R_walk := congrArg ByteArray.mk (xar _)
abbrev y_R_steps : MethodName := ⟨"ProgramGateModel", "steps", "()I"⟩
abbrev b_R_steps : ByteArray := prog_11_method_39_code
abbrev t_R_steps : Option FieldType := (some .int)
def lb_R_steps : ByteArray := .mk (.mk [0x2a, 0x03, 0xb5, 0x00, 0x3f, 0x2a, 0xb4, 0x00, 0x93, 0xac])
theorem bl_R_steps : b_R_steps = lb_R_steps := congrArg ByteArray.mk (xar _)
abbrev y_R_known : MethodName := ⟨"ProgramGateModel", "known", "(II)J"⟩
abbrev b_R_known : ByteArray := prog_11_method_40_code
abbrev t_R_known : Option FieldType := (some .long)
def lb_R_known : ByteArray := .mk (.mk [0x2a, 0x03, 0xb5, 0x00, 0x3f, 0x1b, 0x03, 0x08, 0xb8, 0x00, 0x46, 0x99, 0x00, 0x21, 0x1c, 0x03, 0x10, 0x06, 0xb8, 0x00, 0x46, 0x99, 0x00, 0x17, 0x2a, 0xb4, 0x00, 0xb1, 0x99, 0x00, 0x10, 0x2a, 0xb4, 0x00, 0x1c, 0x11, 0x00, 0xfa, 0x1b, 0x60, 0x33, 0x9a, 0x00, 0x07, 0x14, 0x00, 0xce, 0xad, 0x11, 0x00, 0xfa, 0x1b, 0x60, 0x3e, 0x1c, 0x9a, 0x00, 0x11, 0x2a, 0xb4, 0x00, 0x20, 0x1d, 0x2e, 0x85, 0x14, 0x00, 0x4f, 0x7f, 0xa7, 0x00, 0x55, 0x1c, 0x04, 0xa0, 0x00, 0x11, 0x2a, 0xb4, 0x00, 0x23, 0x1d, 0x2e, 0x85, 0x14, 0x00, 0x4f, 0x7f, 0xa7, 0x00, 0x42, 0x1c, 0x05, 0xa0, 0x00, 0x0c, 0x2a, 0xb4, 0x00, 0x26, 0x1d, 0x2f, 0xa7, 0x00, 0x34, 0x1c, 0x06, 0xa0, 0x00, 0x0c, 0x2a, 0xb4, 0x00, 0x2a, 0x1d, 0x2f, 0xa7, 0x00, 0x26, 0x1c, 0x07, 0xa0, 0x00, 0x0c, 0x2a, 0xb4, 0x00, 0x2d, 0x1d, 0x2f, 0xa7, 0x00, 0x18, 0x1c, 0x08, 0xa0, 0x00, 0x0c, 0x2a, 0xb4, 0x00, 0x30, 0x1d, 0x2f, 0xa7, 0x00, 0x0a, 0x2a, 0xb4, 0x00, 0x33, 0x1d, 0x2e, 0x85, 0xad])
theorem bl_R_known : b_R_known = lb_R_known := congrArg ByteArray.mk (xar _)
abbrev y_R_refuse : MethodName := ⟨"ProgramGateModel", "refuse", "(I)I"⟩
abbrev b_R_refuse : ByteArray := prog_11_method_3_code
abbrev t_R_refuse : Option FieldType := (some .int)
def lb_R_refuse : ByteArray := .mk (.mk [0x2a, 0x1b, 0xb5, 0x00, 0x3f, 0x03, 0xac])
theorem bl_R_refuse : b_R_refuse = lb_R_refuse := congrArg ByteArray.mk (xar _)
abbrev y_R_unsignedRest : MethodName := ⟨"ProgramGateModel", "unsignedRest", "(II)I"⟩
abbrev b_R_unsignedRest : ByteArray := prog_11_method_41_code
abbrev t_R_unsignedRest : Option FieldType := (some .int)
def lb_R_unsignedRest : ByteArray := .mk (.mk [0x1a, 0x85, 0x14, 0x00, 0x4f, 0x7f, 0x1b, 0x85, 0x14, 0x00, 0x4f, 0x7f, 0x71, 0x88, 0xac])
theorem bl_R_unsignedRest : b_R_unsignedRest = lb_R_unsignedRest := congrArg ByteArray.mk (xar _)
abbrev y_R_reckon : MethodName := ⟨"ProgramGateModel", "reckon", "(III)I"⟩
abbrev b_R_reckon : ByteArray := prog_11_method_42_code
abbrev t_R_reckon : Option FieldType := (some .int)
def lb_R_reckon : ByteArray := .mk (.mk [0x1a, 0xaa, 0x00, 0x00, 0x00, 0x00, 0x00, 0x79, 0x00, 0x00, 0x00, 0x00, 0x00, 0x00, 0x00, 0x0a, 0x00, 0x00, 0x00, 0x3b, 0x00, 0x00, 0x00, 0x3d, 0x00, 0x00, 0x00, 0x41, 0x00, 0x00, 0x00, 0x45, 0x00, 0x00, 0x00, 0x49, 0x00, 0x00, 0x00, 0x4d, 0x00, 0x00, 0x00, 0x51, 0x00, 0x00, 0x00, 0x55, 0x00, 0x00, 0x00, 0x5c, 0x00, 0x00, 0x00, 0x63, 0x00, 0x00, 0x00, 0x6a, 0x1c, 0xac, 0x1b, 0x1c, 0x60, 0xac, 0x1b, 0x1c, 0x64, 0xac, 0x1b, 0x1c, 0x68, 0xac, 0x1b, 0x1c, 0x7e, 0xac, 0x1b, 0x1c, 0x80, 0xac, 0x1b, 0x1c, 0x82, 0xac, 0x1b, 0x1c, 0x10, 0x1f, 0x7e, 0x78, 0xac, 0x1b, 0x1c, 0x10, 0x1f, 0x7e, 0x7c, 0xac, 0x1b, 0x1c, 0x10, 0x1f, 0x7e, 0x7a, 0xac, 0x1b, 0x85, 0x14, 0x00, 0x4f, 0x7f, 0x1c, 0x85, 0x14, 0x00, 0x4f, 0x7f, 0x6d, 0x88, 0xac, 0x1b, 0x1c, 0xb8, 0x00, 0xd0, 0xac])
theorem bl_R_reckon : b_R_reckon = lb_R_reckon := congrArg ByteArray.mk (xar _)
abbrev y_R_bytesAt : MethodName := ⟨"ProgramGateModel", "bytesAt", "(II)I"⟩
abbrev b_R_bytesAt : ByteArray := prog_11_method_44_code
abbrev t_R_bytesAt : Option FieldType := (some .int)
def lb_R_bytesAt : ByteArray := .mk (.mk [0x03, 0x3e, 0x1c, 0x04, 0x64, 0x36, 0x04, 0x15, 0x04, 0x9b, 0x00, 0x18, 0x1d, 0x10, 0x08, 0x78, 0x2a, 0xb4, 0x00, 0x19, 0x1b, 0x15, 0x04, 0x60, 0x2e, 0x80, 0x3e, 0x84, 0x04, 0xff, 0xa7, 0xff, 0xe9, 0x1d, 0xac])
theorem bl_R_bytesAt : b_R_bytesAt = lb_R_bytesAt := congrArg ByteArray.mk (xar _)
abbrev y_R_holds : MethodName := ⟨"ProgramGateModel", "holds", "(III)Z"⟩
abbrev b_R_holds : ByteArray := prog_11_method_43_code
abbrev t_R_holds : Option FieldType := (some .boolean)
def lb_R_holds : ByteArray := .mk (.mk [0x1a, 0x10, 0x14, 0xa2, 0x00, 0x1b, 0x1b, 0x85, 0x14, 0x00, 0x4f, 0x7f, 0x1c, 0x85, 0x14, 0x00, 0x4f, 0x7f, 0x94, 0x9c, 0x00, 0x07, 0x04, 0xa7, 0x00, 0x11, 0x03, 0xa7, 0x00, 0x0d, 0x1b, 0x1c, 0xa2, 0x00, 0x07, 0x04, 0xa7, 0x00, 0x04, 0x03, 0x3e, 0x1a, 0x10, 0x12, 0xa2, 0x00, 0x10, 0x1b, 0x1c, 0xa0, 0x00, 0x07, 0x04, 0xa7, 0x00, 0x08, 0x03, 0xa7, 0x00, 0x04, 0x1d, 0x36, 0x04, 0x15, 0x04, 0x1a, 0x05, 0x70, 0x9a, 0x00, 0x07, 0x04, 0xa7, 0x00, 0x04, 0x03, 0xa0, 0x00, 0x07, 0x04, 0xa7, 0x00, 0x04, 0x03, 0xac])
theorem bl_R_holds : b_R_holds = lb_R_holds := congrArg ByteArray.mk (xar _)
abbrev y_R_run : MethodName := ⟨"ProgramGateModel", "run", "(I)I"⟩
abbrev b_R_run : ByteArray := prog_11_method_45_code
abbrev t_R_run : Option FieldType := (some .int)
def lb_R_run : ByteArray := .mk (.mk [0x2a, 0x03, 0xb5, 0x00, 0x3f, 0x2a, 0x03, 0xb5, 0x00, 0xd4, 0x03, 0x3d, 0x1c, 0x10, 0x06, 0xa2, 0x00, 0x25, 0x2a, 0xb4, 0x00, 0x39, 0x1c, 0x1c, 0x04, 0xa0, 0x00, 0x0a, 0x2a, 0xb4, 0x00, 0x4a, 0xa7, 0x00, 0x0d, 0x1c, 0x05, 0xa0, 0x00, 0x07, 0x1b, 0xa7, 0x00, 0x04, 0x03, 0x4f, 0x84, 0x02, 0x01, 0xa7, 0xff, 0xdb, 0x03, 0x3d, 0x1c, 0x07, 0xa2, 0x00, 0x10, 0x2a, 0xb4, 0x00, 0x3c, 0x1c, 0x03, 0x4f, 0x84, 0x02, 0x01, 0xa7, 0xff, 0xf1, 0x03, 0x3d, 0x1c, 0x2a, 0xb4, 0x00, 0x43, 0xa2, 0x01, 0x6e, 0x2a, 0xb4, 0x00, 0x07, 0x1c, 0x2e, 0x10, 0x17, 0x9f, 0x01, 0x63, 0x2a, 0x59, 0xb4, 0x00, 0xd4, 0x04, 0x60, 0xb5, 0x00, 0xd4, 0x2a, 0xb4, 0x00, 0x07, 0x1c, 0x2e, 0x3e, 0x2a, 0xb4, 0x00, 0x0d, 0x1c, 0x2e, 0x36, 0x04, 0x2a, 0xb4, 0x00, 0x10, 0x1c, 0x2e, 0x9c, 0x00, 0x0c, 0x2a, 0xb4, 0x00, 0x13, 0x1c, 0x2e, 0xa7, 0x00, 0x0e, 0x2a, 0xb4, 0x00, 0x39, 0x2a, 0xb4, 0x00, 0x10, 0x1c, 0x2e, 0x2e, 0x36, 0x05, 0x1d, 0x10, 0x16, 0xa0, 0x00, 0x07, 0x04, 0xa7, 0x00, 0x04, 0x03, 0x36, 0x06, 0x1d, 0x10, 0x0a, 0x9f, 0x00, 0x09, 0x1d, 0x10, 0x0b, 0xa0, 0x00, 0x0e, 0x15, 0x05, 0x9a, 0x00, 0x09, 0x2a, 0x05, 0xb6, 0x00, 0xd7, 0xac, 0x1d, 0x10, 0x0c, 0x9f, 0x00, 0x09, 0x1d, 0x10, 0x0d, 0xa0, 0x00, 0x13, 0x15, 0x05, 0x03, 0x06, 0xb8, 0x00, 0x46, 0x9a, 0x00, 0x09, 0x2a, 0x06, 0xb6, 0x00, 0xd7, 0xac, 0x1d, 0x10, 0x0b, 0xa3, 0x00, 0x1a, 0x2a, 0xb4, 0x00, 0x39, 0x15, 0x04, 0x1d, 0x2a, 0xb4, 0x00, 0x39, 0x15, 0x04, 0x2e, 0x15, 0x05, 0xb8, 0x00, 0xdb, 0x4f, 0xa7, 0x00, 0xb5, 0x1d, 0x10, 0x0c, 0xa0, 0x00, 0x14, 0x2a, 0xb4, 0x00, 0x39, 0x15, 0x04, 0x2a, 0xb4, 0x00, 0x3c, 0x15, 0x05, 0x2e, 0x4f, 0xa7, 0x00, 0x9e, 0x1d, 0x10, 0x0d, 0xa0, 0x00, 0x14, 0x2a, 0xb4, 0x00, 0x3c, 0x15, 0x05, 0x2a, 0xb4, 0x00, 0x39, 0x15, 0x04, 0x2e, 0x4f, 0xa7, 0x00, 0x87, 0x1d, 0x10, 0x0e, 0xa0, 0x00, 0x44, 0x15, 0x05, 0x85, 0x14, 0x00, 0x4f, 0x7f, 0x2a, 0xb4, 0x00, 0x13, 0x1c, 0x2e, 0x85, 0x61, 0x37, 0x07, 0x16, 0x07, 0x2a, 0xb4, 0x00, 0x16, 0x1c, 0x2e, 0x85, 0x61, 0x2a, 0xb4, 0x00, 0x4a, 0x85, 0x94, 0x9e, 0x00, 0x09, 0x2a, 0x06, 0xb6, 0x00, 0xd7, 0xac, 0x2a, 0xb4, 0x00, 0x39, 0x15, 0x04, 0x2a, 0x16, 0x07, 0x88, 0x2a, 0xb4, 0x00, 0x16, 0x1c, 0x2e, 0xb6, 0x00, 0xdf, 0x4f, 0xa7, 0x00, 0x40, 0x1d, 0x10, 0x0f, 0xa0, 0x00, 0x25, 0x15, 0x05, 0x85, 0x14, 0x00, 0x4f, 0x7f, 0x2a, 0xb4, 0x00, 0x13, 0x1c, 0x2e, 0x85, 0x61, 0x2a, 0xb4, 0x00, 0x4a, 0x85, 0x94, 0x9e, 0x00, 0x07, 0x04, 0xa7, 0x00, 0x04, 0x03, 0x36, 0x06, 0xa7, 0x00, 0x18, 0x1d, 0x10, 0x15, 0xa3, 0x00, 0x12, 0x1d, 0x2a, 0xb4, 0x00, 0x39, 0x15, 0x04, 0x2e, 0x15, 0x05, 0xb8, 0x00, 0xe2, 0x36, 0x06, 0x15, 0x06, 0x99, 0x00, 0x10, 0x1c, 0x04, 0x60, 0x2a, 0xb4, 0x00, 0x16, 0x1c, 0x2e, 0x60, 0xa7, 0x00, 0x06, 0x1c, 0x04, 0x60, 0x3d, 0xa7, 0xfe, 0x90, 0x1c, 0x2a, 0xb4, 0x00, 0x43, 0xa1, 0x00, 0x09, 0x2a, 0x04, 0xb6, 0x00, 0xd7, 0xac, 0x2a, 0x59, 0xb4, 0x00, 0xd4, 0x04, 0x60, 0xb5, 0x00, 0xd4, 0x2a, 0xb4, 0x00, 0x39, 0x03, 0x2e, 0xac])
theorem bl_R_run : b_R_run = lb_R_run := congrArg ByteArray.mk (xar _)
abbrev y_R_ran : MethodName := ⟨"ProgramGateModel", "ran", "()I"⟩
abbrev b_R_ran : ByteArray := prog_11_method_46_code
abbrev t_R_ran : Option FieldType := (some .int)
def lb_R_ran : ByteArray := .mk (.mk [0x2a, 0x03, 0xb5, 0x00, 0x3f, 0x2a, 0xb4, 0x00, 0xd4, 0xac])
theorem bl_R_ran : b_R_ran = lb_R_ran := congrArg ByteArray.mk (xar _)
abbrev y_Q_init : MethodName := ⟨"ProgramGate$Program", "<init>", "()V"⟩
abbrev b_Q_init : ByteArray := prog_7_method_1_code
abbrev t_Q_init : Option FieldType := none
def lb_Q_init : ByteArray := .mk (.mk [0x2a, 0xb7, 0x00, 0x03, 0x2a, 0x10, 0x18, 0xbd, 0x00, 0x09, 0xb5, 0x00, 0x0b, 0x03, 0x3c, 0x1b, 0x10, 0x18, 0xa2, 0x00, 0x16, 0x2a, 0xb4, 0x00, 0x0b, 0x1b, 0xbb, 0x00, 0x09, 0x59, 0xb7, 0x00, 0x11, 0x53, 0x84, 0x01, 0x01, 0xa7, 0xff, 0xea, 0xb1])
theorem bl_Q_init : b_Q_init = lb_Q_init := congrArg ByteArray.mk (xar _)
abbrev y_P_init : MethodName := ⟨"ProgramGate$Packet", "<init>", "()V"⟩
abbrev b_P_init : ByteArray := prog_6_method_1_code
abbrev t_P_init : Option FieldType := none
def lb_P_init : ByteArray := .mk (.mk [0x2a, 0xb7, 0x00, 0x03, 0x2a, 0x10, 0x10, 0xbc, 0x0a, 0xb5, 0x00, 0x09, 0xb1])
theorem bl_P_init : b_P_init = lb_P_init := congrArg ByteArray.mk (xar _)
abbrev y_S_init : MethodName := ⟨"ProgramGate$State", "<init>", "()V"⟩
abbrev b_S_init : ByteArray := prog_8_method_1_code
abbrev t_S_init : Option FieldType := none
def lb_S_init : ByteArray := .mk (.mk [0x2a, 0xb7, 0x00, 0x03, 0x2a, 0x10, 0x06, 0xbd, 0x00, 0x09, 0xb5, 0x00, 0x0b, 0x2a, 0x07, 0xbd, 0x00, 0x09, 0xb5, 0x00, 0x11, 0x03, 0x3c, 0x1b, 0x10, 0x06, 0xa2, 0x00, 0x16, 0x2a, 0xb4, 0x00, 0x0b, 0x1b, 0xbb, 0x00, 0x09, 0x59, 0xb7, 0x00, 0x14, 0x53, 0x84, 0x01, 0x01, 0xa7, 0xff, 0xea, 0x03, 0x3c, 0x1b, 0x07, 0xa2, 0x00, 0x16, 0x2a, 0xb4, 0x00, 0x11, 0x1b, 0xbb, 0x00, 0x09, 0x59, 0xb7, 0x00, 0x14, 0x53, 0x84, 0x01, 0x01, 0xa7, 0xff, 0xeb, 0xb1])
theorem bl_S_init : b_S_init = lb_S_init := congrArg ByteArray.mk (xar _)
abbrev y_W_init : MethodName := ⟨"ProgramGate$Walker", "<init>", "(LProgramGate$Program;)V"⟩
abbrev b_W_init : ByteArray := prog_9_method_1_code
abbrev t_W_init : Option FieldType := none
def lb_W_init : ByteArray := .mk (.mk [0x2a, 0xb7, 0x00, 0x03, 0x2a, 0xbb, 0x00, 0x09, 0x59, 0xb7, 0x00, 0x0b, 0xb5, 0x00, 0x0c, 0x2a, 0x10, 0x18, 0xbd, 0x00, 0x09, 0xb5, 0x00, 0x12, 0x2a, 0x10, 0x18, 0xbc, 0x04, 0xb5, 0x00, 0x16, 0x2a, 0xbb, 0x00, 0x1a, 0x59, 0xb7, 0x00, 0x1c, 0xb5, 0x00, 0x1d, 0x2a, 0xbb, 0x00, 0x1a, 0x59, 0xb7, 0x00, 0x1c, 0xb5, 0x00, 0x21, 0x2a, 0xbb, 0x00, 0x1a, 0x59, 0xb7, 0x00, 0x1c, 0xb5, 0x00, 0x24, 0x2a, 0xbb, 0x00, 0x09, 0x59, 0xb7, 0x00, 0x0b, 0xb5, 0x00, 0x27, 0x2a, 0x2b, 0xb5, 0x00, 0x2a, 0x03, 0x3d, 0x1c, 0x10, 0x18, 0xa2, 0x00, 0x16, 0x2a, 0xb4, 0x00, 0x12, 0x1c, 0xbb, 0x00, 0x09, 0x59, 0xb7, 0x00, 0x0b, 0x53, 0x84, 0x02, 0x01, 0xa7, 0xff, 0xea, 0xb1])
theorem bl_W_init : b_W_init = lb_W_init := congrArg ByteArray.mk (xar _)
abbrev y_M_init : MethodName := ⟨"ProgramGate$Machine", "<init>", "(LProgramGate$Program;LProgramGate$Packet;)V"⟩
abbrev b_M_init : ByteArray := prog_4_method_1_code
abbrev t_M_init : Option FieldType := none
def lb_M_init : ByteArray := .mk (.mk [0x2a, 0xb7, 0x00, 0x03, 0x2a, 0x10, 0x06, 0xbc, 0x0a, 0xb5, 0x00, 0x09, 0x2a, 0x07, 0xbc, 0x0a, 0xb5, 0x00, 0x0f, 0x2a, 0x2b, 0xb5, 0x00, 0x12, 0x2a, 0x2c, 0xb5, 0x00, 0x16, 0xb1])
theorem bl_M_init : b_M_init = lb_M_init := congrArg ByteArray.mk (xar _)
abbrev y_G_init : MethodName := ⟨"ProgramGate", "<init>", "()V"⟩
abbrev b_G_init : ByteArray := prog_1_method_1_code
abbrev t_G_init : Option FieldType := none
def lb_G_init : ByteArray := .mk (.mk [0x2a, 0xb7, 0x00, 0x01, 0x2a, 0xbb, 0x00, 0x07, 0x59, 0xb7, 0x00, 0x09, 0xb5, 0x00, 0x0a, 0x2a, 0xbb, 0x00, 0x10, 0x59, 0xb7, 0x00, 0x12, 0xb5, 0x00, 0x13, 0x2a, 0xbb, 0x00, 0x17, 0x59, 0x2a, 0xb4, 0x00, 0x0a, 0xb7, 0x00, 0x19, 0xb5, 0x00, 0x1c, 0x2a, 0xbb, 0x00, 0x20, 0x59, 0x2a, 0xb4, 0x00, 0x0a, 0x2a, 0xb4, 0x00, 0x13, 0xb7, 0x00, 0x22, 0xb5, 0x00, 0x25, 0xb1])
theorem bl_G_init : b_G_init = lb_G_init := congrArg ByteArray.mk (xar _)
abbrev y_M_checkedPlace : MethodName := ⟨"ProgramGate$Machine", "checkedPlace", "(I)I"⟩
abbrev b_M_checkedPlace : ByteArray := prog_4_method_5_code
abbrev t_M_checkedPlace : Option FieldType := (some .int)
def lb_M_checkedPlace : ByteArray := .mk (.mk [0x1b, 0x9b, 0x00, 0x08, 0x1b, 0x07, 0xa1, 0x00, 0x0d, 0xbb, 0x00, 0x60, 0x59, 0x12, 0x62, 0xb7, 0x00, 0x64, 0xbf, 0x1b, 0xac])
theorem bl_M_checkedPlace : b_M_checkedPlace = lb_M_checkedPlace := congrArg ByteArray.mk (xar _)
abbrev y_M_load : MethodName := ⟨"ProgramGate$Machine", "load", "(JI)I"⟩
abbrev b_M_load : ByteArray := prog_4_method_6_code
abbrev t_M_load : Option FieldType := (some .int)
def lb_M_load : ByteArray := .mk (.mk [0x1f, 0x1d, 0x85, 0x61, 0x2a, 0xb4, 0x00, 0x16, 0xb4, 0x00, 0x3e, 0x85, 0x94, 0x9e, 0x00, 0x0d, 0xbb, 0x00, 0x60, 0x59, 0x12, 0x65, 0xb7, 0x00, 0x64, 0xbf, 0x03, 0x36, 0x04, 0x03, 0x36, 0x05, 0x15, 0x05, 0x1d, 0xa2, 0x00, 0x21, 0x15, 0x04, 0x2a, 0xb4, 0x00, 0x16, 0xb4, 0x00, 0x67, 0x1f, 0x88, 0x15, 0x05, 0x60, 0x2e, 0x10, 0x08, 0x15, 0x05, 0x68, 0x78, 0x80, 0x36, 0x04, 0x84, 0x05, 0x01, 0xa7, 0xff, 0xdf, 0x15, 0x04, 0xac])
theorem bl_M_load : b_M_load = lb_M_load := congrArg ByteArray.mk (xar _)
abbrev y_M_checkedDivisor : MethodName := ⟨"ProgramGate$Machine", "checkedDivisor", "(I)J"⟩
abbrev b_M_checkedDivisor : ByteArray := prog_4_method_8_code
abbrev t_M_checkedDivisor : Option FieldType := (some .long)
def lb_M_checkedDivisor : ByteArray := .mk (.mk [0x1a, 0x9a, 0x00, 0x0d, 0xbb, 0x00, 0x6d, 0x59, 0x12, 0x6f, 0xb7, 0x00, 0x71, 0xbf, 0x1a, 0xb8, 0x00, 0x50, 0xad])
theorem bl_M_checkedDivisor : b_M_checkedDivisor = lb_M_checkedDivisor := congrArg ByteArray.mk (xar _)
abbrev y_M_compute : MethodName := ⟨"ProgramGate$Machine", "compute", "(III)I"⟩
abbrev b_M_compute : ByteArray := prog_4_method_7_code
abbrev t_M_compute : Option FieldType := (some .int)
def lb_M_compute : ByteArray := .mk (.mk [0x1a, 0xaa, 0x00, 0x00, 0x00, 0x00, 0x00, 0x7e, 0x00, 0x00, 0x00, 0x01, 0x00, 0x00, 0x00, 0x0b, 0x00, 0x00, 0x00, 0x3b, 0x00, 0x00, 0x00, 0x3f, 0x00, 0x00, 0x00, 0x43, 0x00, 0x00, 0x00, 0x47, 0x00, 0x00, 0x00, 0x4b, 0x00, 0x00, 0x00, 0x4f, 0x00, 0x00, 0x00, 0x53, 0x00, 0x00, 0x00, 0x5a, 0x00, 0x00, 0x00, 0x61, 0x00, 0x00, 0x00, 0x68, 0x00, 0x00, 0x00, 0x73, 0x1b, 0x1c, 0x60, 0xac, 0x1b, 0x1c, 0x64, 0xac, 0x1b, 0x1c, 0x68, 0xac, 0x1b, 0x1c, 0x7e, 0xac, 0x1b, 0x1c, 0x80, 0xac, 0x1b, 0x1c, 0x82, 0xac, 0x1b, 0x1c, 0x10, 0x1f, 0x7e, 0x78, 0xac, 0x1b, 0x1c, 0x10, 0x1f, 0x7e, 0x7c, 0xac, 0x1b, 0x1c, 0x10, 0x1f, 0x7e, 0x7a, 0xac, 0x1b, 0xb8, 0x00, 0x50, 0x1c, 0xb8, 0x00, 0x6a, 0x6d, 0x88, 0xac, 0x1b, 0xb8, 0x00, 0x50, 0x1c, 0xb8, 0x00, 0x6a, 0x71, 0x88, 0xac, 0x1c, 0xac])
theorem bl_M_compute : b_M_compute = lb_M_compute := congrArg ByteArray.mk (xar _)
abbrev y_M_make : MethodName := ⟨"ProgramGate$Machine", "make", "(LProgramGate$Instruction;)Z"⟩
abbrev b_M_make : ByteArray := prog_4_method_4_code
abbrev t_M_make : Option FieldType := (some .boolean)
def lb_M_make : ByteArray := .mk (.mk [0x2b, 0xb4, 0x00, 0x43, 0x02, 0xa0, 0x00, 0x0a, 0x2b, 0xb4, 0x00, 0x46, 0xa7, 0x00, 0x0c, 0x2a, 0xb4, 0x00, 0x09, 0x2b, 0xb4, 0x00, 0x43, 0x2e, 0x3d, 0x2b, 0xb4, 0x00, 0x2b, 0x10, 0x16, 0xa0, 0x00, 0x05, 0x04, 0xac, 0x2b, 0xb4, 0x00, 0x2b, 0x10, 0x10, 0xa1, 0x00, 0x15, 0x2b, 0xb4, 0x00, 0x2b, 0x2a, 0xb4, 0x00, 0x09, 0x2b, 0xb4, 0x00, 0x49, 0x2e, 0x1c, 0xb8, 0x00, 0x4c, 0xac, 0x2b, 0xb4, 0x00, 0x2b, 0x10, 0x0f, 0xa0, 0x00, 0x1f, 0x1c, 0xb8, 0x00, 0x50, 0x2b, 0xb4, 0x00, 0x46, 0x85, 0x61, 0x2a, 0xb4, 0x00, 0x16, 0xb4, 0x00, 0x3e, 0x85, 0x94, 0x9e, 0x00, 0x07, 0x04, 0xa7, 0x00, 0x04, 0x03, 0xac, 0x2b, 0xb4, 0x00, 0x2b, 0x10, 0x0d, 0xa0, 0x00, 0x19, 0x2a, 0xb4, 0x00, 0x0f, 0x2a, 0x1c, 0xb6, 0x00, 0x54, 0x2a, 0xb4, 0x00, 0x09, 0x2b, 0xb4, 0x00, 0x49, 0x2e, 0x4f, 0xa7, 0x00, 0x63, 0x2b, 0xb4, 0x00, 0x2b, 0x10, 0x0c, 0xa0, 0x00, 0x19, 0x2a, 0xb4, 0x00, 0x09, 0x2b, 0xb4, 0x00, 0x49, 0x2a, 0xb4, 0x00, 0x0f, 0x2a, 0x1c, 0xb6, 0x00, 0x54, 0x2e, 0x4f, 0xa7, 0x00, 0x44, 0x2b, 0xb4, 0x00, 0x2b, 0x10, 0x0e, 0xa0, 0x00, 0x21, 0x2a, 0xb4, 0x00, 0x09, 0x2b, 0xb4, 0x00, 0x49, 0x2a, 0x1c, 0xb8, 0x00, 0x50, 0x2b, 0xb4, 0x00, 0x46, 0x85, 0x61, 0x2b, 0xb4, 0x00, 0x34, 0xb6, 0x00, 0x58, 0x4f, 0xa7, 0x00, 0x1d, 0x2a, 0xb4, 0x00, 0x09, 0x2b, 0xb4, 0x00, 0x49, 0x2b, 0xb4, 0x00, 0x2b, 0x2a, 0xb4, 0x00, 0x09, 0x2b, 0xb4, 0x00, 0x49, 0x2e, 0x1c, 0xb8, 0x00, 0x5c, 0x4f, 0x03, 0xac])
theorem bl_M_make : b_M_make = lb_M_make := congrArg ByteArray.mk (xar _)
abbrev y_M_answer : MethodName := ⟨"ProgramGate$Machine", "answer", "(I)I"⟩
abbrev b_M_answer : ByteArray := prog_4_method_2_code
abbrev t_M_answer : Option FieldType := (some .int)
def lb_M_answer : ByteArray := .mk (.mk [0x2a, 0x1b, 0xb6, 0x00, 0x1a, 0x03, 0x3d, 0x10, 0x18, 0x3e, 0x1d, 0x9e, 0x00, 0x51, 0x1c, 0x2a, 0xb4, 0x00, 0x12, 0xb4, 0x00, 0x1e, 0xa2, 0x00, 0x46, 0x2a, 0xb4, 0x00, 0x12, 0xb4, 0x00, 0x24, 0x1c, 0x32, 0x3a, 0x04, 0x2a, 0x59, 0xb4, 0x00, 0x28, 0x04, 0x60, 0xb5, 0x00, 0x28, 0x19, 0x04, 0xb4, 0x00, 0x2b, 0x10, 0x17, 0xa0, 0x00, 0x0a, 0x2a, 0xb4, 0x00, 0x09, 0x03, 0x2e, 0xac, 0x1c, 0x2a, 0x19, 0x04, 0xb6, 0x00, 0x30, 0x99, 0x00, 0x0d, 0x04, 0x19, 0x04, 0xb4, 0x00, 0x34, 0x60, 0xa7, 0x00, 0x04, 0x04, 0x60, 0x3d, 0x84, 0x03, 0xff, 0xa7, 0xff, 0xb1, 0xbb, 0x00, 0x37, 0x59, 0x12, 0x39, 0xb7, 0x00, 0x3b, 0xbf])
theorem bl_M_answer : b_M_answer = lb_M_answer := congrArg ByteArray.mk (xar _)
abbrev y_G_run : MethodName := ⟨"ProgramGate", "run", "(I)I"⟩
abbrev b_G_run : ByteArray := prog_1_method_8_code
abbrev t_G_run : Option FieldType := (some .int)
def lb_G_run : ByteArray := .mk (.mk [0x2a, 0xb4, 0x00, 0x25, 0x1b, 0xb6, 0x00, 0x45, 0xac])
theorem bl_G_run : b_G_run = lb_G_run := congrArg ByteArray.mk (xar _)
abbrev y_L_run : MethodName := ⟨"ProgramGateLaw", "run", "(LProgramGate;I[J)I"⟩
abbrev b_L_run : ByteArray := method_3_code
abbrev t_L_run : Option FieldType := (some .int)
def lb_L_run : ByteArray := .mk (.mk [0x2c, 0x03, 0x2a, 0x1b, 0xb6, 0x00, 0x07, 0x85, 0x50, 0xa7, 0x00, 0x0c, 0x4e, 0x04, 0xac, 0x4e, 0x05, 0xac, 0x4e, 0x06, 0xac, 0x03, 0xac])
theorem bl_L_run : b_L_run = lb_L_run := congrArg ByteArray.mk (xar _)
abbrev y_R_init : MethodName := ⟨"ProgramGateModel", "<init>", "()V"⟩
abbrev b_R_init : ByteArray := prog_11_method_1_code
abbrev t_R_init : Option FieldType := none
def lb_R_init : ByteArray := .mk (.mk [0x2a, 0xb7, 0x00, 0x01, 0x2a, 0x10, 0x18, 0xbc, 0x0a, 0xb5, 0x00, 0x07, 0x2a, 0x10, 0x18, 0xbc, 0x0a, 0xb5, 0x00, 0x0d, 0x2a, 0x10, 0x18, 0xbc, 0x0a, 0xb5, 0x00, 0x10, 0x2a, 0x10, 0x18, 0xbc, 0x0a, 0xb5, 0x00, 0x13, 0x2a, 0x10, 0x18, 0xbc, 0x0a, 0xb5, 0x00, 0x16, 0x2a, 0x10, 0x10, 0xbc, 0x0a, 0xb5, 0x00, 0x19, 0x2a, 0x11, 0x01, 0x04, 0xbc, 0x04, 0xb5, 0x00, 0x1c, 0x2a, 0x11, 0x01, 0x04, 0xbc, 0x0a, 0xb5, 0x00, 0x20, 0x2a, 0x11, 0x01, 0x04, 0xbc, 0x0a, 0xb5, 0x00, 0x23, 0x2a, 0x11, 0x01, 0x04, 0xbc, 0x0b, 0xb5, 0x00, 0x26, 0x2a, 0x11, 0x01, 0x04, 0xbc, 0x0b, 0xb5, 0x00, 0x2a, 0x2a, 0x11, 0x01, 0x04, 0xbc, 0x0b, 0xb5, 0x00, 0x2d, 0x2a, 0x11, 0x01, 0x04, 0xbc, 0x0b, 0xb5, 0x00, 0x30, 0x2a, 0x11, 0x01, 0x04, 0xbc, 0x0a, 0xb5, 0x00, 0x33, 0x2a, 0x10, 0x19, 0xbc, 0x0a, 0xb5, 0x00, 0x36, 0x2a, 0x10, 0x06, 0xbc, 0x0a, 0xb5, 0x00, 0x39, 0x2a, 0x07, 0xbc, 0x0a, 0xb5, 0x00, 0x3c, 0xb1])
theorem bl_R_init : b_R_init = lb_R_init := congrArg ByteArray.mk (xar _)
end
section
theorem tw_1 : Cond.initialized "ProgramGate" ∈ xT := List.mem_filter.mpr ⟨List.mem_append_right _ (List.mem_of_getElem? (i := 1) (by decide +kernel)), by decide +kernel⟩
theorem tw_3 : Cond.initialized "ProgramGate$Instruction" ∈ xT := List.mem_filter.mpr ⟨List.mem_append_right _ (List.mem_of_getElem? (i := 3) (by decide +kernel)), by decide +kernel⟩
theorem tw_4 : Cond.initialized "ProgramGate$Packet" ∈ xT := List.mem_filter.mpr ⟨List.mem_append_right _ (List.mem_of_getElem? (i := 4) (by decide +kernel)), by decide +kernel⟩
theorem tw_5 : Cond.initialized "ProgramGate$Walker" ∈ xT := List.mem_filter.mpr ⟨List.mem_append_right _ (List.mem_of_getElem? (i := 5) (by decide +kernel)), by decide +kernel⟩
theorem tw_6 : Cond.initialized "ProgramGate$State" ∈ xT := List.mem_filter.mpr ⟨List.mem_append_right _ (List.mem_of_getElem? (i := 6) (by decide +kernel)), by decide +kernel⟩
theorem tw_7 : Cond.initialized "ProgramGate$Known" ∈ xT := List.mem_filter.mpr ⟨List.mem_append_right _ (List.mem_of_getElem? (i := 7) (by decide +kernel)), by decide +kernel⟩
theorem tw_9 : Cond.initialized "ProgramGateModel" ∈ xT := List.mem_filter.mpr ⟨List.mem_append_right _ (List.mem_of_getElem? (i := 9) (by decide +kernel)), by decide +kernel⟩
theorem tw_10 : Cond.initialized "java/lang/Math" ∈ xT := List.mem_filter.mpr ⟨List.mem_append_right _ (List.mem_of_getElem? (i := 10) (by decide +kernel)), by decide +kernel⟩
theorem tw_11 : Cond.initialized "java/lang/Long" ∈ xT := List.mem_filter.mpr ⟨List.mem_append_right _ (List.mem_of_getElem? (i := 11) (by decide +kernel)), by decide +kernel⟩
theorem tw_12 : Cond.initialized "java/lang/Integer" ∈ xT := List.mem_filter.mpr ⟨List.mem_append_right _ (List.mem_of_getElem? (i := 12) (by decide +kernel)), by decide +kernel⟩
theorem tw_13 : Cond.initialized "ProgramGate$Operation" ∈ xT := List.mem_filter.mpr ⟨List.mem_append_right _ (List.mem_of_getElem? (i := 13) (by decide +kernel)), by decide +kernel⟩
theorem tw_26 : Cond.instanceMethod (⟨"java/lang/Object", "<init>", "()V"⟩ : MethodName) ∈ xT := List.mem_filter.mpr ⟨List.mem_append_right _ (List.mem_of_getElem? (i := 26) (by decide +kernel)), by decide +kernel⟩
theorem tw_40 : Cond.methodLink "ProgramGate$Instruction" 3 (⟨"java/lang/Object", "<init>", "()V"⟩ : MethodName) ∈ xT := List.mem_filter.mpr ⟨List.mem_append_right _ (List.mem_of_getElem? (i := 40) (by decide +kernel)), by decide +kernel⟩
theorem tw_42 : Cond.fieldLink "ProgramGate$Instruction" 9 "ProgramGate$Instruction" "op" "I" ∈ xT := List.mem_filter.mpr ⟨List.mem_append_right _ (List.mem_of_getElem? (i := 42) (by decide +kernel)), by decide +kernel⟩
theorem tw_43 : Cond.fieldLink "ProgramGate$Walker" 78 "ProgramGate$Instruction" "op" "I" ∈ xT := List.mem_filter.mpr ⟨List.mem_append_right _ (List.mem_of_getElem? (i := 43) (by decide +kernel)), by decide +kernel⟩
theorem tw_44 : Cond.fieldLink "ProgramGate$Instruction" 15 "ProgramGate$Instruction" "a" "I" ∈ xT := List.mem_filter.mpr ⟨List.mem_append_right _ (List.mem_of_getElem? (i := 44) (by decide +kernel)), by decide +kernel⟩
theorem tw_46 : Cond.fieldLink "ProgramGate$Walker" 118 "ProgramGate$Instruction" "a" "I" ∈ xT := List.mem_filter.mpr ⟨List.mem_append_right _ (List.mem_of_getElem? (i := 46) (by decide +kernel)), by decide +kernel⟩
theorem tw_47 : Cond.fieldLink "ProgramGate$Instruction" 18 "ProgramGate$Instruction" "b" "I" ∈ xT := List.mem_filter.mpr ⟨List.mem_append_right _ (List.mem_of_getElem? (i := 47) (by decide +kernel)), by decide +kernel⟩
theorem tw_49 : Cond.fieldLink "ProgramGate$Walker" 105 "ProgramGate$Instruction" "b" "I" ∈ xT := List.mem_filter.mpr ⟨List.mem_append_right _ (List.mem_of_getElem? (i := 49) (by decide +kernel)), by decide +kernel⟩
theorem tw_50 : Cond.fieldLink "ProgramGate$Instruction" 21 "ProgramGate$Instruction" "n" "I" ∈ xT := List.mem_filter.mpr ⟨List.mem_append_right _ (List.mem_of_getElem? (i := 50) (by decide +kernel)), by decide +kernel⟩
theorem tw_52 : Cond.fieldLink "ProgramGate$Walker" 95 "ProgramGate$Instruction" "n" "I" ∈ xT := List.mem_filter.mpr ⟨List.mem_append_right _ (List.mem_of_getElem? (i := 52) (by decide +kernel)), by decide +kernel⟩
theorem tw_54 : Cond.fieldLink "ProgramGate$Instruction" 24 "ProgramGate$Instruction" "offset" "I" ∈ xT := List.mem_filter.mpr ⟨List.mem_append_right _ (List.mem_of_getElem? (i := 54) (by decide +kernel)), by decide +kernel⟩
theorem tw_55 : Cond.fieldLink "ProgramGate$Walker" 98 "ProgramGate$Instruction" "offset" "I" ∈ xT := List.mem_filter.mpr ⟨List.mem_append_right _ (List.mem_of_getElem? (i := 55) (by decide +kernel)), by decide +kernel⟩
theorem tw_56 : Cond.lays "ProgramGate$Instruction" "ProgramGate$Instruction" "op" "I" ∈ xT := List.mem_filter.mpr ⟨List.mem_append_right _ (List.mem_of_getElem? (i := 56) (by decide +kernel)), by decide +kernel⟩
theorem tw_58 : Cond.lays "ProgramGate$Instruction" "ProgramGate$Instruction" "a" "I" ∈ xT := List.mem_filter.mpr ⟨List.mem_append_right _ (List.mem_of_getElem? (i := 58) (by decide +kernel)), by decide +kernel⟩
theorem tw_60 : Cond.lays "ProgramGate$Instruction" "ProgramGate$Instruction" "b" "I" ∈ xT := List.mem_filter.mpr ⟨List.mem_append_right _ (List.mem_of_getElem? (i := 60) (by decide +kernel)), by decide +kernel⟩
theorem tw_62 : Cond.lays "ProgramGate$Instruction" "ProgramGate$Instruction" "n" "I" ∈ xT := List.mem_filter.mpr ⟨List.mem_append_right _ (List.mem_of_getElem? (i := 62) (by decide +kernel)), by decide +kernel⟩
theorem tw_64 : Cond.lays "ProgramGate$Instruction" "ProgramGate$Instruction" "offset" "I" ∈ xT := List.mem_filter.mpr ⟨List.mem_append_right _ (List.mem_of_getElem? (i := 64) (by decide +kernel)), by decide +kernel⟩
theorem tw_69 : Cond.fieldLink "ProgramGate" 51 "ProgramGate$Program" "instructions" "[LProgramGate$Instruction;" ∈ xT := List.mem_filter.mpr ⟨List.mem_append_right _ (List.mem_of_getElem? (i := 69) (by decide +kernel)), by decide +kernel⟩
theorem tw_70 : Cond.fieldLink "ProgramGate$Walker" 70 "ProgramGate$Program" "instructions" "[LProgramGate$Instruction;" ∈ xT := List.mem_filter.mpr ⟨List.mem_append_right _ (List.mem_of_getElem? (i := 70) (by decide +kernel)), by decide +kernel⟩
theorem tw_71 : Cond.fieldLink "ProgramGate" 41 "ProgramGate$Program" "count" "I" ∈ xT := List.mem_filter.mpr ⟨List.mem_append_right _ (List.mem_of_getElem? (i := 71) (by decide +kernel)), by decide +kernel⟩
theorem tw_73 : Cond.fieldLink "ProgramGate$Walker" 65 "ProgramGate$Program" "count" "I" ∈ xT := List.mem_filter.mpr ⟨List.mem_append_right _ (List.mem_of_getElem? (i := 73) (by decide +kernel)), by decide +kernel⟩
theorem tw_74 : Cond.laysFinal "ProgramGate$Program" "ProgramGate$Program" "instructions" "[LProgramGate$Instruction;" ∈ xT := List.mem_filter.mpr ⟨List.mem_append_right _ (List.mem_of_getElem? (i := 74) (by decide +kernel)), by decide +kernel⟩
theorem tw_76 : Cond.lays "ProgramGate$Program" "ProgramGate$Program" "count" "I" ∈ xT := List.mem_filter.mpr ⟨List.mem_append_right _ (List.mem_of_getElem? (i := 76) (by decide +kernel)), by decide +kernel⟩
theorem tw_85 : Cond.fieldLink "ProgramGate$Packet" 9 "ProgramGate$Packet" "values" "[I" ∈ xT := List.mem_filter.mpr ⟨List.mem_append_right _ (List.mem_of_getElem? (i := 85) (by decide +kernel)), by decide +kernel⟩
theorem tw_87 : Cond.fieldLink "ProgramGate$Packet" 15 "ProgramGate$Packet" "length" "I" ∈ xT := List.mem_filter.mpr ⟨List.mem_append_right _ (List.mem_of_getElem? (i := 87) (by decide +kernel)), by decide +kernel⟩
theorem tw_88 : Cond.fieldLink "ProgramGate$Machine" 62 "ProgramGate$Packet" "length" "I" ∈ xT := List.mem_filter.mpr ⟨List.mem_append_right _ (List.mem_of_getElem? (i := 88) (by decide +kernel)), by decide +kernel⟩
theorem tw_89 : Cond.laysFinal "ProgramGate$Packet" "ProgramGate$Packet" "values" "[I" ∈ xT := List.mem_filter.mpr ⟨List.mem_append_right _ (List.mem_of_getElem? (i := 89) (by decide +kernel)), by decide +kernel⟩
theorem tw_91 : Cond.lays "ProgramGate$Packet" "ProgramGate$Packet" "length" "I" ∈ xT := List.mem_filter.mpr ⟨List.mem_append_right _ (List.mem_of_getElem? (i := 91) (by decide +kernel)), by decide +kernel⟩
theorem tw_113 : Cond.methodLink "ProgramGate$Known" 3 (⟨"java/lang/Object", "<init>", "()V"⟩ : MethodName) ∈ xT := List.mem_filter.mpr ⟨List.mem_append_right _ (List.mem_of_getElem? (i := 113) (by decide +kernel)), by decide +kernel⟩
theorem tw_114 : Cond.fieldLink "ProgramGate$Known" 9 "ProgramGate$Known" "set" "Z" ∈ xT := List.mem_filter.mpr ⟨List.mem_append_right _ (List.mem_of_getElem? (i := 114) (by decide +kernel)), by decide +kernel⟩
theorem tw_115 : Cond.fieldLink "ProgramGate$State" 21 "ProgramGate$Known" "set" "Z" ∈ xT := List.mem_filter.mpr ⟨List.mem_append_right _ (List.mem_of_getElem? (i := 115) (by decide +kernel)), by decide +kernel⟩
theorem tw_116 : Cond.fieldLink "ProgramGate$Walker" 111 "ProgramGate$Known" "set" "Z" ∈ xT := List.mem_filter.mpr ⟨List.mem_append_right _ (List.mem_of_getElem? (i := 116) (by decide +kernel)), by decide +kernel⟩
theorem tw_117 : Cond.fieldLink "ProgramGate$Known" 15 "ProgramGate$Known" "bits" "I" ∈ xT := List.mem_filter.mpr ⟨List.mem_append_right _ (List.mem_of_getElem? (i := 117) (by decide +kernel)), by decide +kernel⟩
theorem tw_118 : Cond.fieldLink "ProgramGate$Operation" 49 "ProgramGate$Known" "bits" "I" ∈ xT := List.mem_filter.mpr ⟨List.mem_append_right _ (List.mem_of_getElem? (i := 118) (by decide +kernel)), by decide +kernel⟩
theorem tw_119 : Cond.fieldLink "ProgramGate$Known" 19 "ProgramGate$Known" "ones" "I" ∈ xT := List.mem_filter.mpr ⟨List.mem_append_right _ (List.mem_of_getElem? (i := 119) (by decide +kernel)), by decide +kernel⟩
theorem tw_120 : Cond.fieldLink "ProgramGate$Operation" 57 "ProgramGate$Known" "ones" "I" ∈ xT := List.mem_filter.mpr ⟨List.mem_append_right _ (List.mem_of_getElem? (i := 120) (by decide +kernel)), by decide +kernel⟩
theorem tw_121 : Cond.fieldLink "ProgramGate$Known" 22 "ProgramGate$Known" "low" "J" ∈ xT := List.mem_filter.mpr ⟨List.mem_append_right _ (List.mem_of_getElem? (i := 121) (by decide +kernel)), by decide +kernel⟩
theorem tw_122 : Cond.fieldLink "ProgramGate$Operation" 66 "ProgramGate$Known" "low" "J" ∈ xT := List.mem_filter.mpr ⟨List.mem_append_right _ (List.mem_of_getElem? (i := 122) (by decide +kernel)), by decide +kernel⟩
theorem tw_123 : Cond.fieldLink "ProgramGate$Walker" 87 "ProgramGate$Known" "low" "J" ∈ xT := List.mem_filter.mpr ⟨List.mem_append_right _ (List.mem_of_getElem? (i := 123) (by decide +kernel)), by decide +kernel⟩
theorem tw_124 : Cond.fieldLink "ProgramGate$Known" 28 "ProgramGate$Known" "high" "J" ∈ xT := List.mem_filter.mpr ⟨List.mem_append_right _ (List.mem_of_getElem? (i := 124) (by decide +kernel)), by decide +kernel⟩
theorem tw_125 : Cond.fieldLink "ProgramGate$Operation" 60 "ProgramGate$Known" "high" "J" ∈ xT := List.mem_filter.mpr ⟨List.mem_append_right _ (List.mem_of_getElem? (i := 125) (by decide +kernel)), by decide +kernel⟩
theorem tw_126 : Cond.fieldLink "ProgramGate$Walker" 124 "ProgramGate$Known" "high" "J" ∈ xT := List.mem_filter.mpr ⟨List.mem_append_right _ (List.mem_of_getElem? (i := 126) (by decide +kernel)), by decide +kernel⟩
theorem tw_127 : Cond.fieldLink "ProgramGate$Known" 35 "ProgramGate$Known" "least" "J" ∈ xT := List.mem_filter.mpr ⟨List.mem_append_right _ (List.mem_of_getElem? (i := 127) (by decide +kernel)), by decide +kernel⟩
theorem tw_128 : Cond.fieldLink "ProgramGate$Operation" 73 "ProgramGate$Known" "least" "J" ∈ xT := List.mem_filter.mpr ⟨List.mem_append_right _ (List.mem_of_getElem? (i := 128) (by decide +kernel)), by decide +kernel⟩
theorem tw_129 : Cond.fieldLink "ProgramGate$Walker" 211 "ProgramGate$Known" "least" "J" ∈ xT := List.mem_filter.mpr ⟨List.mem_append_right _ (List.mem_of_getElem? (i := 129) (by decide +kernel)), by decide +kernel⟩
theorem tw_130 : Cond.fieldLink "ProgramGate$Known" 40 "ProgramGate$Known" "most" "J" ∈ xT := List.mem_filter.mpr ⟨List.mem_append_right _ (List.mem_of_getElem? (i := 130) (by decide +kernel)), by decide +kernel⟩
theorem tw_131 : Cond.fieldLink "ProgramGate$Operation" 80 "ProgramGate$Known" "most" "J" ∈ xT := List.mem_filter.mpr ⟨List.mem_append_right _ (List.mem_of_getElem? (i := 131) (by decide +kernel)), by decide +kernel⟩
theorem tw_132 : Cond.fieldLink "ProgramGate$Walker" 208 "ProgramGate$Known" "most" "J" ∈ xT := List.mem_filter.mpr ⟨List.mem_append_right _ (List.mem_of_getElem? (i := 132) (by decide +kernel)), by decide +kernel⟩
theorem tw_133 : Cond.fieldLink "ProgramGate$Known" 43 "ProgramGate$Known" "safe" "I" ∈ xT := List.mem_filter.mpr ⟨List.mem_append_right _ (List.mem_of_getElem? (i := 133) (by decide +kernel)), by decide +kernel⟩
theorem tw_134 : Cond.fieldLink "ProgramGate$Walker" 108 "ProgramGate$Known" "safe" "I" ∈ xT := List.mem_filter.mpr ⟨List.mem_append_right _ (List.mem_of_getElem? (i := 134) (by decide +kernel)), by decide +kernel⟩
theorem tw_135 : Cond.fieldLink "ProgramGate$Operation" 91 "ProgramGate$Known" "safe" "I" ∈ xT := List.mem_filter.mpr ⟨List.mem_append_right _ (List.mem_of_getElem? (i := 135) (by decide +kernel)), by decide +kernel⟩
theorem tw_136 : Cond.lays "ProgramGate$Known" "ProgramGate$Known" "set" "Z" ∈ xT := List.mem_filter.mpr ⟨List.mem_append_right _ (List.mem_of_getElem? (i := 136) (by decide +kernel)), by decide +kernel⟩
theorem tw_138 : Cond.lays "ProgramGate$Known" "ProgramGate$Known" "bits" "I" ∈ xT := List.mem_filter.mpr ⟨List.mem_append_right _ (List.mem_of_getElem? (i := 138) (by decide +kernel)), by decide +kernel⟩
theorem tw_140 : Cond.lays "ProgramGate$Known" "ProgramGate$Known" "ones" "I" ∈ xT := List.mem_filter.mpr ⟨List.mem_append_right _ (List.mem_of_getElem? (i := 140) (by decide +kernel)), by decide +kernel⟩
theorem tw_142 : Cond.lays "ProgramGate$Known" "ProgramGate$Known" "low" "J" ∈ xT := List.mem_filter.mpr ⟨List.mem_append_right _ (List.mem_of_getElem? (i := 142) (by decide +kernel)), by decide +kernel⟩
theorem tw_144 : Cond.lays "ProgramGate$Known" "ProgramGate$Known" "high" "J" ∈ xT := List.mem_filter.mpr ⟨List.mem_append_right _ (List.mem_of_getElem? (i := 144) (by decide +kernel)), by decide +kernel⟩
theorem tw_146 : Cond.lays "ProgramGate$Known" "ProgramGate$Known" "least" "J" ∈ xT := List.mem_filter.mpr ⟨List.mem_append_right _ (List.mem_of_getElem? (i := 146) (by decide +kernel)), by decide +kernel⟩
theorem tw_148 : Cond.lays "ProgramGate$Known" "ProgramGate$Known" "most" "J" ∈ xT := List.mem_filter.mpr ⟨List.mem_append_right _ (List.mem_of_getElem? (i := 148) (by decide +kernel)), by decide +kernel⟩
theorem tw_150 : Cond.lays "ProgramGate$Known" "ProgramGate$Known" "safe" "I" ∈ xT := List.mem_filter.mpr ⟨List.mem_append_right _ (List.mem_of_getElem? (i := 150) (by decide +kernel)), by decide +kernel⟩
theorem tw_153 : Cond.fieldLink "ProgramGate$State" 11 "ProgramGate$State" "registers" "[LProgramGate$Known;" ∈ xT := List.mem_filter.mpr ⟨List.mem_append_right _ (List.mem_of_getElem? (i := 153) (by decide +kernel)), by decide +kernel⟩
theorem tw_154 : Cond.fieldLink "ProgramGate$Walker" 101 "ProgramGate$State" "registers" "[LProgramGate$Known;" ∈ xT := List.mem_filter.mpr ⟨List.mem_append_right _ (List.mem_of_getElem? (i := 154) (by decide +kernel)), by decide +kernel⟩
theorem tw_155 : Cond.fieldLink "ProgramGate" 86 "ProgramGate$State" "registers" "[LProgramGate$Known;" ∈ xT := List.mem_filter.mpr ⟨List.mem_append_right _ (List.mem_of_getElem? (i := 155) (by decide +kernel)), by decide +kernel⟩
theorem tw_156 : Cond.fieldLink "ProgramGate$State" 17 "ProgramGate$State" "places" "[LProgramGate$Known;" ∈ xT := List.mem_filter.mpr ⟨List.mem_append_right _ (List.mem_of_getElem? (i := 156) (by decide +kernel)), by decide +kernel⟩
theorem tw_157 : Cond.fieldLink "ProgramGate$Walker" 129 "ProgramGate$State" "places" "[LProgramGate$Known;" ∈ xT := List.mem_filter.mpr ⟨List.mem_append_right _ (List.mem_of_getElem? (i := 157) (by decide +kernel)), by decide +kernel⟩
theorem tw_158 : Cond.laysFinal "ProgramGate$State" "ProgramGate$State" "registers" "[LProgramGate$Known;" ∈ xT := List.mem_filter.mpr ⟨List.mem_append_right _ (List.mem_of_getElem? (i := 158) (by decide +kernel)), by decide +kernel⟩
theorem tw_160 : Cond.laysFinal "ProgramGate$State" "ProgramGate$State" "places" "[LProgramGate$Known;" ∈ xT := List.mem_filter.mpr ⟨List.mem_append_right _ (List.mem_of_getElem? (i := 160) (by decide +kernel)), by decide +kernel⟩
theorem tw_166 : Cond.fieldLink "ProgramGate$Walker" 42 "ProgramGate$Walker" "program" "LProgramGate$Program;" ∈ xT := List.mem_filter.mpr ⟨List.mem_append_right _ (List.mem_of_getElem? (i := 166) (by decide +kernel)), by decide +kernel⟩
theorem tw_167 : Cond.fieldLink "ProgramGate$Walker" 12 "ProgramGate$Walker" "now" "LProgramGate$State;" ∈ xT := List.mem_filter.mpr ⟨List.mem_append_right _ (List.mem_of_getElem? (i := 167) (by decide +kernel)), by decide +kernel⟩
theorem tw_168 : Cond.fieldLink "ProgramGate$Walker" 18 "ProgramGate$Walker" "waiting" "[LProgramGate$State;" ∈ xT := List.mem_filter.mpr ⟨List.mem_append_right _ (List.mem_of_getElem? (i := 168) (by decide +kernel)), by decide +kernel⟩
theorem tw_169 : Cond.fieldLink "ProgramGate$Walker" 22 "ProgramGate$Walker" "waits" "[Z" ∈ xT := List.mem_filter.mpr ⟨List.mem_append_right _ (List.mem_of_getElem? (i := 169) (by decide +kernel)), by decide +kernel⟩
theorem tw_170 : Cond.fieldLink "ProgramGate$Walker" 29 "ProgramGate$Walker" "number" "LProgramGate$Known;" ∈ xT := List.mem_filter.mpr ⟨List.mem_append_right _ (List.mem_of_getElem? (i := 170) (by decide +kernel)), by decide +kernel⟩
theorem tw_171 : Cond.fieldLink "ProgramGate$Walker" 33 "ProgramGate$Walker" "first" "LProgramGate$Known;" ∈ xT := List.mem_filter.mpr ⟨List.mem_append_right _ (List.mem_of_getElem? (i := 171) (by decide +kernel)), by decide +kernel⟩
theorem tw_172 : Cond.fieldLink "ProgramGate$Walker" 36 "ProgramGate$Walker" "second" "LProgramGate$Known;" ∈ xT := List.mem_filter.mpr ⟨List.mem_append_right _ (List.mem_of_getElem? (i := 172) (by decide +kernel)), by decide +kernel⟩
theorem tw_173 : Cond.fieldLink "ProgramGate$Walker" 39 "ProgramGate$Walker" "atEnd" "LProgramGate$State;" ∈ xT := List.mem_filter.mpr ⟨List.mem_append_right _ (List.mem_of_getElem? (i := 173) (by decide +kernel)), by decide +kernel⟩
theorem tw_174 : Cond.fieldLink "ProgramGate" 82 "ProgramGate$Walker" "atEnd" "LProgramGate$State;" ∈ xT := List.mem_filter.mpr ⟨List.mem_append_right _ (List.mem_of_getElem? (i := 174) (by decide +kernel)), by decide +kernel⟩
theorem tw_175 : Cond.fieldLink "ProgramGate$Walker" 60 "ProgramGate$Walker" "ended" "Z" ∈ xT := List.mem_filter.mpr ⟨List.mem_append_right _ (List.mem_of_getElem? (i := 175) (by decide +kernel)), by decide +kernel⟩
theorem tw_176 : Cond.fieldLink "ProgramGate" 76 "ProgramGate$Walker" "ended" "Z" ∈ xT := List.mem_filter.mpr ⟨List.mem_append_right _ (List.mem_of_getElem? (i := 176) (by decide +kernel)), by decide +kernel⟩
theorem tw_177 : Cond.fieldLink "ProgramGate$Walker" 49 "ProgramGate$Walker" "stepsMade" "I" ∈ xT := List.mem_filter.mpr ⟨List.mem_append_right _ (List.mem_of_getElem? (i := 177) (by decide +kernel)), by decide +kernel⟩
theorem tw_178 : Cond.fieldLink "ProgramGate" 66 "ProgramGate$Walker" "stepsMade" "I" ∈ xT := List.mem_filter.mpr ⟨List.mem_append_right _ (List.mem_of_getElem? (i := 178) (by decide +kernel)), by decide +kernel⟩
theorem tw_179 : Cond.laysFinal "ProgramGate$Walker" "ProgramGate$Walker" "program" "LProgramGate$Program;" ∈ xT := List.mem_filter.mpr ⟨List.mem_append_right _ (List.mem_of_getElem? (i := 179) (by decide +kernel)), by decide +kernel⟩
theorem tw_181 : Cond.laysFinal "ProgramGate$Walker" "ProgramGate$Walker" "now" "LProgramGate$State;" ∈ xT := List.mem_filter.mpr ⟨List.mem_append_right _ (List.mem_of_getElem? (i := 181) (by decide +kernel)), by decide +kernel⟩
theorem tw_183 : Cond.laysFinal "ProgramGate$Walker" "ProgramGate$Walker" "waiting" "[LProgramGate$State;" ∈ xT := List.mem_filter.mpr ⟨List.mem_append_right _ (List.mem_of_getElem? (i := 183) (by decide +kernel)), by decide +kernel⟩
theorem tw_185 : Cond.laysFinal "ProgramGate$Walker" "ProgramGate$Walker" "waits" "[Z" ∈ xT := List.mem_filter.mpr ⟨List.mem_append_right _ (List.mem_of_getElem? (i := 185) (by decide +kernel)), by decide +kernel⟩
theorem tw_187 : Cond.laysFinal "ProgramGate$Walker" "ProgramGate$Walker" "number" "LProgramGate$Known;" ∈ xT := List.mem_filter.mpr ⟨List.mem_append_right _ (List.mem_of_getElem? (i := 187) (by decide +kernel)), by decide +kernel⟩
theorem tw_189 : Cond.laysFinal "ProgramGate$Walker" "ProgramGate$Walker" "first" "LProgramGate$Known;" ∈ xT := List.mem_filter.mpr ⟨List.mem_append_right _ (List.mem_of_getElem? (i := 189) (by decide +kernel)), by decide +kernel⟩
theorem tw_191 : Cond.laysFinal "ProgramGate$Walker" "ProgramGate$Walker" "second" "LProgramGate$Known;" ∈ xT := List.mem_filter.mpr ⟨List.mem_append_right _ (List.mem_of_getElem? (i := 191) (by decide +kernel)), by decide +kernel⟩
theorem tw_193 : Cond.laysFinal "ProgramGate$Walker" "ProgramGate$Walker" "atEnd" "LProgramGate$State;" ∈ xT := List.mem_filter.mpr ⟨List.mem_append_right _ (List.mem_of_getElem? (i := 193) (by decide +kernel)), by decide +kernel⟩
theorem tw_195 : Cond.lays "ProgramGate$Walker" "ProgramGate$Walker" "ended" "Z" ∈ xT := List.mem_filter.mpr ⟨List.mem_append_right _ (List.mem_of_getElem? (i := 195) (by decide +kernel)), by decide +kernel⟩
theorem tw_197 : Cond.lays "ProgramGate$Walker" "ProgramGate$Walker" "stepsMade" "I" ∈ xT := List.mem_filter.mpr ⟨List.mem_append_right _ (List.mem_of_getElem? (i := 197) (by decide +kernel)), by decide +kernel⟩
theorem tw_208 : Cond.fieldLink "ProgramGate$Machine" 22 "ProgramGate$Machine" "packet" "LProgramGate$Packet;" ∈ xT := List.mem_filter.mpr ⟨List.mem_append_right _ (List.mem_of_getElem? (i := 208) (by decide +kernel)), by decide +kernel⟩
theorem tw_209 : Cond.fieldLink "ProgramGate$Machine" 9 "ProgramGate$Machine" "registers" "[I" ∈ xT := List.mem_filter.mpr ⟨List.mem_append_right _ (List.mem_of_getElem? (i := 209) (by decide +kernel)), by decide +kernel⟩
theorem tw_210 : Cond.fieldLink "ProgramGate$Machine" 15 "ProgramGate$Machine" "stack" "[I" ∈ xT := List.mem_filter.mpr ⟨List.mem_append_right _ (List.mem_of_getElem? (i := 210) (by decide +kernel)), by decide +kernel⟩
theorem tw_211 : Cond.fieldLink "ProgramGate$Machine" 40 "ProgramGate$Machine" "instructionsMade" "I" ∈ xT := List.mem_filter.mpr ⟨List.mem_append_right _ (List.mem_of_getElem? (i := 211) (by decide +kernel)), by decide +kernel⟩
theorem tw_212 : Cond.fieldLink "ProgramGate" 73 "ProgramGate$Machine" "instructionsMade" "I" ∈ xT := List.mem_filter.mpr ⟨List.mem_append_right _ (List.mem_of_getElem? (i := 212) (by decide +kernel)), by decide +kernel⟩
theorem tw_213 : Cond.laysFinal "ProgramGate$Machine" "ProgramGate$Machine" "program" "LProgramGate$Program;" ∈ xT := List.mem_filter.mpr ⟨List.mem_append_right _ (List.mem_of_getElem? (i := 213) (by decide +kernel)), by decide +kernel⟩
theorem tw_215 : Cond.laysFinal "ProgramGate$Machine" "ProgramGate$Machine" "packet" "LProgramGate$Packet;" ∈ xT := List.mem_filter.mpr ⟨List.mem_append_right _ (List.mem_of_getElem? (i := 215) (by decide +kernel)), by decide +kernel⟩
theorem tw_217 : Cond.laysFinal "ProgramGate$Machine" "ProgramGate$Machine" "registers" "[I" ∈ xT := List.mem_filter.mpr ⟨List.mem_append_right _ (List.mem_of_getElem? (i := 217) (by decide +kernel)), by decide +kernel⟩
theorem tw_219 : Cond.laysFinal "ProgramGate$Machine" "ProgramGate$Machine" "stack" "[I" ∈ xT := List.mem_filter.mpr ⟨List.mem_append_right _ (List.mem_of_getElem? (i := 219) (by decide +kernel)), by decide +kernel⟩
theorem tw_221 : Cond.lays "ProgramGate$Machine" "ProgramGate$Machine" "instructionsMade" "I" ∈ xT := List.mem_filter.mpr ⟨List.mem_append_right _ (List.mem_of_getElem? (i := 221) (by decide +kernel)), by decide +kernel⟩
theorem tw_224 : Cond.fieldLink "ProgramGate" 10 "ProgramGate" "program" "LProgramGate$Program;" ∈ xT := List.mem_filter.mpr ⟨List.mem_append_right _ (List.mem_of_getElem? (i := 224) (by decide +kernel)), by decide +kernel⟩
theorem tw_225 : Cond.fieldLink "ProgramGate" 19 "ProgramGate" "bytes" "LProgramGate$Packet;" ∈ xT := List.mem_filter.mpr ⟨List.mem_append_right _ (List.mem_of_getElem? (i := 225) (by decide +kernel)), by decide +kernel⟩
theorem tw_226 : Cond.fieldLink "ProgramGate" 28 "ProgramGate" "walker" "LProgramGate$Walker;" ∈ xT := List.mem_filter.mpr ⟨List.mem_append_right _ (List.mem_of_getElem? (i := 226) (by decide +kernel)), by decide +kernel⟩
theorem tw_227 : Cond.fieldLink "ProgramGate" 37 "ProgramGate" "machine" "LProgramGate$Machine;" ∈ xT := List.mem_filter.mpr ⟨List.mem_append_right _ (List.mem_of_getElem? (i := 227) (by decide +kernel)), by decide +kernel⟩
theorem tw_228 : Cond.laysFinal "ProgramGate" "ProgramGate" "program" "LProgramGate$Program;" ∈ xT := List.mem_filter.mpr ⟨List.mem_append_right _ (List.mem_of_getElem? (i := 228) (by decide +kernel)), by decide +kernel⟩
theorem tw_230 : Cond.laysFinal "ProgramGate" "ProgramGate" "bytes" "LProgramGate$Packet;" ∈ xT := List.mem_filter.mpr ⟨List.mem_append_right _ (List.mem_of_getElem? (i := 230) (by decide +kernel)), by decide +kernel⟩
theorem tw_232 : Cond.laysFinal "ProgramGate" "ProgramGate" "walker" "LProgramGate$Walker;" ∈ xT := List.mem_filter.mpr ⟨List.mem_append_right _ (List.mem_of_getElem? (i := 232) (by decide +kernel)), by decide +kernel⟩
theorem tw_234 : Cond.laysFinal "ProgramGate" "ProgramGate" "machine" "LProgramGate$Machine;" ∈ xT := List.mem_filter.mpr ⟨List.mem_append_right _ (List.mem_of_getElem? (i := 234) (by decide +kernel)), by decide +kernel⟩
theorem tw_241 : Cond.methodLink "ProgramGate" 45 (⟨"ProgramGate$Instruction", "allowed", "(IIIII)Z"⟩ : MethodName) ∈ xT := List.mem_filter.mpr ⟨List.mem_append_right _ (List.mem_of_getElem? (i := 241) (by decide +kernel)), by decide +kernel⟩
theorem tw_242 : Cond.static (⟨"ProgramGate$Instruction", "allowed", "(IIIII)Z"⟩ : MethodName) ∈ xT := List.mem_filter.mpr ⟨List.mem_append_right _ (List.mem_of_getElem? (i := 242) (by decide +kernel)), by decide +kernel⟩
theorem tw_243 : Cond.code (⟨"ProgramGate$Instruction", "allowed", "(IIIII)Z"⟩ : MethodName) prog_2_method_2_code 6 (some .boolean) ∈ xT := List.mem_filter.mpr ⟨List.mem_append_right _ (List.mem_of_getElem? (i := 243) (by decide +kernel)), by decide +kernel⟩
theorem tw_244 : Cond.methodLink "ProgramGate" 55 (⟨"ProgramGate$Instruction", "become", "(IIIII)V"⟩ : MethodName) ∈ xT := List.mem_filter.mpr ⟨List.mem_append_right _ (List.mem_of_getElem? (i := 244) (by decide +kernel)), by decide +kernel⟩
theorem tw_245 : Cond.instanceMethod (⟨"ProgramGate$Instruction", "become", "(IIIII)V"⟩ : MethodName) ∈ xT := List.mem_filter.mpr ⟨List.mem_append_right _ (List.mem_of_getElem? (i := 245) (by decide +kernel)), by decide +kernel⟩
theorem tw_246 : Cond.selects "ProgramGate$Instruction" (⟨"ProgramGate$Instruction", "become", "(IIIII)V"⟩ : MethodName) (⟨"ProgramGate$Instruction", "become", "(IIIII)V"⟩ : MethodName) ∈ xT := List.mem_filter.mpr ⟨List.mem_append_right _ (List.mem_of_getElem? (i := 246) (by decide +kernel)), by decide +kernel⟩
theorem tw_247 : Cond.code (⟨"ProgramGate$Instruction", "become", "(IIIII)V"⟩ : MethodName) prog_2_method_3_code 6 none ∈ xT := List.mem_filter.mpr ⟨List.mem_append_right _ (List.mem_of_getElem? (i := 247) (by decide +kernel)), by decide +kernel⟩
theorem tw_260 : Cond.methodLink "ProgramGate" 59 (⟨"ProgramGate$Packet", "become", "(JJI)V"⟩ : MethodName) ∈ xT := List.mem_filter.mpr ⟨List.mem_append_right _ (List.mem_of_getElem? (i := 260) (by decide +kernel)), by decide +kernel⟩
theorem tw_261 : Cond.instanceMethod (⟨"ProgramGate$Packet", "become", "(JJI)V"⟩ : MethodName) ∈ xT := List.mem_filter.mpr ⟨List.mem_append_right _ (List.mem_of_getElem? (i := 261) (by decide +kernel)), by decide +kernel⟩
theorem tw_262 : Cond.selects "ProgramGate$Packet" (⟨"ProgramGate$Packet", "become", "(JJI)V"⟩ : MethodName) (⟨"ProgramGate$Packet", "become", "(JJI)V"⟩ : MethodName) ∈ xT := List.mem_filter.mpr ⟨List.mem_append_right _ (List.mem_of_getElem? (i := 262) (by decide +kernel)), by decide +kernel⟩
theorem tw_263 : Cond.code (⟨"ProgramGate$Packet", "become", "(JJI)V"⟩ : MethodName) prog_6_method_2_code 9 none ∈ xT := List.mem_filter.mpr ⟨List.mem_append_right _ (List.mem_of_getElem? (i := 263) (by decide +kernel)), by decide +kernel⟩
theorem tw_268 : Cond.methodLink "ProgramGate" 62 (⟨"ProgramGate$Walker", "judge", "()I"⟩ : MethodName) ∈ xT := List.mem_filter.mpr ⟨List.mem_append_right _ (List.mem_of_getElem? (i := 268) (by decide +kernel)), by decide +kernel⟩
theorem tw_269 : Cond.instanceMethod (⟨"ProgramGate$Walker", "judge", "()I"⟩ : MethodName) ∈ xT := List.mem_filter.mpr ⟨List.mem_append_right _ (List.mem_of_getElem? (i := 269) (by decide +kernel)), by decide +kernel⟩
theorem tw_270 : Cond.selects "ProgramGate$Walker" (⟨"ProgramGate$Walker", "judge", "()I"⟩ : MethodName) (⟨"ProgramGate$Walker", "judge", "()I"⟩ : MethodName) ∈ xT := List.mem_filter.mpr ⟨List.mem_append_right _ (List.mem_of_getElem? (i := 270) (by decide +kernel)), by decide +kernel⟩
theorem tw_271 : Cond.code (⟨"ProgramGate$Walker", "judge", "()I"⟩ : MethodName) prog_9_method_2_code 3 (some .int) ∈ xT := List.mem_filter.mpr ⟨List.mem_append_right _ (List.mem_of_getElem? (i := 271) (by decide +kernel)), by decide +kernel⟩
theorem tw_272 : Cond.methodLink "ProgramGate$Walker" 46 (⟨"ProgramGate$Walker", "begin", "()V"⟩ : MethodName) ∈ xT := List.mem_filter.mpr ⟨List.mem_append_right _ (List.mem_of_getElem? (i := 272) (by decide +kernel)), by decide +kernel⟩
theorem tw_274 : Cond.instanceMethod (⟨"ProgramGate$Walker", "begin", "()V"⟩ : MethodName) ∈ xT := List.mem_filter.mpr ⟨List.mem_append_right _ (List.mem_of_getElem? (i := 274) (by decide +kernel)), by decide +kernel⟩
theorem tw_275 : Cond.code (⟨"ProgramGate$Walker", "begin", "()V"⟩ : MethodName) prog_9_method_3_code 2 none ∈ xT := List.mem_filter.mpr ⟨List.mem_append_right _ (List.mem_of_getElem? (i := 275) (by decide +kernel)), by decide +kernel⟩
theorem tw_276 : Cond.methodLink "ProgramGate$Walker" 64 (⟨"ProgramGate$State", "begin", "()V"⟩ : MethodName) ∈ xT := List.mem_filter.mpr ⟨List.mem_append_right _ (List.mem_of_getElem? (i := 276) (by decide +kernel)), by decide +kernel⟩
theorem tw_277 : Cond.instanceMethod (⟨"ProgramGate$State", "begin", "()V"⟩ : MethodName) ∈ xT := List.mem_filter.mpr ⟨List.mem_append_right _ (List.mem_of_getElem? (i := 277) (by decide +kernel)), by decide +kernel⟩
theorem tw_278 : Cond.selects "ProgramGate$State" (⟨"ProgramGate$State", "begin", "()V"⟩ : MethodName) (⟨"ProgramGate$State", "begin", "()V"⟩ : MethodName) ∈ xT := List.mem_filter.mpr ⟨List.mem_append_right _ (List.mem_of_getElem? (i := 278) (by decide +kernel)), by decide +kernel⟩
theorem tw_279 : Cond.code (⟨"ProgramGate$State", "begin", "()V"⟩ : MethodName) prog_8_method_2_code 2 none ∈ xT := List.mem_filter.mpr ⟨List.mem_append_right _ (List.mem_of_getElem? (i := 279) (by decide +kernel)), by decide +kernel⟩
theorem tw_280 : Cond.methodLink "ProgramGate$State" 25 (⟨"ProgramGate$Known", "becomeUpTo", "(I)V"⟩ : MethodName) ∈ xT := List.mem_filter.mpr ⟨List.mem_append_right _ (List.mem_of_getElem? (i := 280) (by decide +kernel)), by decide +kernel⟩
theorem tw_281 : Cond.instanceMethod (⟨"ProgramGate$Known", "becomeUpTo", "(I)V"⟩ : MethodName) ∈ xT := List.mem_filter.mpr ⟨List.mem_append_right _ (List.mem_of_getElem? (i := 281) (by decide +kernel)), by decide +kernel⟩
theorem tw_282 : Cond.selects "ProgramGate$Known" (⟨"ProgramGate$Known", "becomeUpTo", "(I)V"⟩ : MethodName) (⟨"ProgramGate$Known", "becomeUpTo", "(I)V"⟩ : MethodName) ∈ xT := List.mem_filter.mpr ⟨List.mem_append_right _ (List.mem_of_getElem? (i := 282) (by decide +kernel)), by decide +kernel⟩
theorem tw_283 : Cond.code (⟨"ProgramGate$Known", "becomeUpTo", "(I)V"⟩ : MethodName) prog_3_method_4_code 2 none ∈ xT := List.mem_filter.mpr ⟨List.mem_append_right _ (List.mem_of_getElem? (i := 283) (by decide +kernel)), by decide +kernel⟩
theorem tw_284 : Cond.methodLink "ProgramGate$Known" 46 (⟨"ProgramGate$Known", "becomeNothing", "()V"⟩ : MethodName) ∈ xT := List.mem_filter.mpr ⟨List.mem_append_right _ (List.mem_of_getElem? (i := 284) (by decide +kernel)), by decide +kernel⟩
theorem tw_285 : Cond.instanceMethod (⟨"ProgramGate$Known", "becomeNothing", "()V"⟩ : MethodName) ∈ xT := List.mem_filter.mpr ⟨List.mem_append_right _ (List.mem_of_getElem? (i := 285) (by decide +kernel)), by decide +kernel⟩
theorem tw_286 : Cond.selects "ProgramGate$Known" (⟨"ProgramGate$Known", "becomeNothing", "()V"⟩ : MethodName) (⟨"ProgramGate$Known", "becomeNothing", "()V"⟩ : MethodName) ∈ xT := List.mem_filter.mpr ⟨List.mem_append_right _ (List.mem_of_getElem? (i := 286) (by decide +kernel)), by decide +kernel⟩
theorem tw_287 : Cond.code (⟨"ProgramGate$Known", "becomeNothing", "()V"⟩ : MethodName) prog_3_method_2_code 1 none ∈ xT := List.mem_filter.mpr ⟨List.mem_append_right _ (List.mem_of_getElem? (i := 287) (by decide +kernel)), by decide +kernel⟩
theorem tw_288 : Cond.constantLong "ProgramGate$Known" 26 4294967295 ∈ xT := List.mem_filter.mpr ⟨List.mem_append_right _ (List.mem_of_getElem? (i := 288) (by decide +kernel)), by decide +kernel⟩
theorem tw_289 : Cond.constantLong "ProgramGate$Known" 33 (-2147483648) ∈ xT := List.mem_filter.mpr ⟨List.mem_append_right _ (List.mem_of_getElem? (i := 289) (by decide +kernel)), by decide +kernel⟩
theorem tw_290 : Cond.constantLong "ProgramGate$Known" 38 2147483647 ∈ xT := List.mem_filter.mpr ⟨List.mem_append_right _ (List.mem_of_getElem? (i := 290) (by decide +kernel)), by decide +kernel⟩
theorem tw_291 : Cond.methodLink "ProgramGate$Known" 53 (⟨"ProgramGate$Known", "boundUnsigned", "(JJ)V"⟩ : MethodName) ∈ xT := List.mem_filter.mpr ⟨List.mem_append_right _ (List.mem_of_getElem? (i := 291) (by decide +kernel)), by decide +kernel⟩
theorem tw_292 : Cond.instanceMethod (⟨"ProgramGate$Known", "boundUnsigned", "(JJ)V"⟩ : MethodName) ∈ xT := List.mem_filter.mpr ⟨List.mem_append_right _ (List.mem_of_getElem? (i := 292) (by decide +kernel)), by decide +kernel⟩
theorem tw_293 : Cond.selects "ProgramGate$Known" (⟨"ProgramGate$Known", "boundUnsigned", "(JJ)V"⟩ : MethodName) (⟨"ProgramGate$Known", "boundUnsigned", "(JJ)V"⟩ : MethodName) ∈ xT := List.mem_filter.mpr ⟨List.mem_append_right _ (List.mem_of_getElem? (i := 293) (by decide +kernel)), by decide +kernel⟩
theorem tw_294 : Cond.code (⟨"ProgramGate$Known", "boundUnsigned", "(JJ)V"⟩ : MethodName) prog_3_method_6_code 5 none ∈ xT := List.mem_filter.mpr ⟨List.mem_append_right _ (List.mem_of_getElem? (i := 294) (by decide +kernel)), by decide +kernel⟩
theorem tw_295 : Cond.methodLink "ProgramGate$Known" 57 (⟨"ProgramGate$Known", "boundSigned", "(JJ)V"⟩ : MethodName) ∈ xT := List.mem_filter.mpr ⟨List.mem_append_right _ (List.mem_of_getElem? (i := 295) (by decide +kernel)), by decide +kernel⟩
theorem tw_296 : Cond.instanceMethod (⟨"ProgramGate$Known", "boundSigned", "(JJ)V"⟩ : MethodName) ∈ xT := List.mem_filter.mpr ⟨List.mem_append_right _ (List.mem_of_getElem? (i := 296) (by decide +kernel)), by decide +kernel⟩
theorem tw_297 : Cond.selects "ProgramGate$Known" (⟨"ProgramGate$Known", "boundSigned", "(JJ)V"⟩ : MethodName) (⟨"ProgramGate$Known", "boundSigned", "(JJ)V"⟩ : MethodName) ∈ xT := List.mem_filter.mpr ⟨List.mem_append_right _ (List.mem_of_getElem? (i := 297) (by decide +kernel)), by decide +kernel⟩
theorem tw_298 : Cond.code (⟨"ProgramGate$Known", "boundSigned", "(JJ)V"⟩ : MethodName) prog_3_method_7_code 5 none ∈ xT := List.mem_filter.mpr ⟨List.mem_append_right _ (List.mem_of_getElem? (i := 298) (by decide +kernel)), by decide +kernel⟩
theorem tw_299 : Cond.methodLink "ProgramGate$Known" 60 (⟨"ProgramGate$Known", "tighten", "()Z"⟩ : MethodName) ∈ xT := List.mem_filter.mpr ⟨List.mem_append_right _ (List.mem_of_getElem? (i := 299) (by decide +kernel)), by decide +kernel⟩
theorem tw_300 : Cond.instanceMethod (⟨"ProgramGate$Known", "tighten", "()Z"⟩ : MethodName) ∈ xT := List.mem_filter.mpr ⟨List.mem_append_right _ (List.mem_of_getElem? (i := 300) (by decide +kernel)), by decide +kernel⟩
theorem tw_301 : Cond.selects "ProgramGate$Known" (⟨"ProgramGate$Known", "tighten", "()Z"⟩ : MethodName) (⟨"ProgramGate$Known", "tighten", "()Z"⟩ : MethodName) ∈ xT := List.mem_filter.mpr ⟨List.mem_append_right _ (List.mem_of_getElem? (i := 301) (by decide +kernel)), by decide +kernel⟩
theorem tw_302 : Cond.code (⟨"ProgramGate$Known", "tighten", "()Z"⟩ : MethodName) prog_3_method_13_code 2 (some .boolean) ∈ xT := List.mem_filter.mpr ⟨List.mem_append_right _ (List.mem_of_getElem? (i := 302) (by decide +kernel)), by decide +kernel⟩
theorem tw_304 : Cond.static (⟨"ProgramGate", "unsigned", "(I)J"⟩ : MethodName) ∈ xT := List.mem_filter.mpr ⟨List.mem_append_right _ (List.mem_of_getElem? (i := 304) (by decide +kernel)), by decide +kernel⟩
theorem tw_305 : Cond.code (⟨"ProgramGate", "unsigned", "(I)J"⟩ : MethodName) prog_1_method_11_code 1 (some .long) ∈ xT := List.mem_filter.mpr ⟨List.mem_append_right _ (List.mem_of_getElem? (i := 305) (by decide +kernel)), by decide +kernel⟩
theorem tw_306 : Cond.constantLong "ProgramGate" 98 4294967295 ∈ xT := List.mem_filter.mpr ⟨List.mem_append_right _ (List.mem_of_getElem? (i := 306) (by decide +kernel)), by decide +kernel⟩
theorem tw_307 : Cond.methodLink "ProgramGate$Known" 70 (⟨"java/lang/Math", "max", "(JJ)J"⟩ : MethodName) ∈ xT := List.mem_filter.mpr ⟨List.mem_append_right _ (List.mem_of_getElem? (i := 307) (by decide +kernel)), by decide +kernel⟩
theorem tw_308 : Cond.static (⟨"java/lang/Math", "max", "(JJ)J"⟩ : MethodName) ∈ xT := List.mem_filter.mpr ⟨List.mem_append_right _ (List.mem_of_getElem? (i := 308) (by decide +kernel)), by decide +kernel⟩
theorem tw_309 : Cond.code (⟨"java/lang/Math", "max", "(JJ)J"⟩ : MethodName) prog_18_method_66_code 4 (some .long) ∈ xT := List.mem_filter.mpr ⟨List.mem_append_right _ (List.mem_of_getElem? (i := 309) (by decide +kernel)), by decide +kernel⟩
theorem tw_310 : Cond.methodLink "ProgramGate$Known" 64 (⟨"java/lang/Math", "min", "(JJ)J"⟩ : MethodName) ∈ xT := List.mem_filter.mpr ⟨List.mem_append_right _ (List.mem_of_getElem? (i := 310) (by decide +kernel)), by decide +kernel⟩
theorem tw_311 : Cond.static (⟨"java/lang/Math", "min", "(JJ)J"⟩ : MethodName) ∈ xT := List.mem_filter.mpr ⟨List.mem_append_right _ (List.mem_of_getElem? (i := 311) (by decide +kernel)), by decide +kernel⟩
theorem tw_312 : Cond.code (⟨"java/lang/Math", "min", "(JJ)J"⟩ : MethodName) prog_18_method_70_code 4 (some .long) ∈ xT := List.mem_filter.mpr ⟨List.mem_append_right _ (List.mem_of_getElem? (i := 312) (by decide +kernel)), by decide +kernel⟩
theorem tw_313 : Cond.constantLong "ProgramGate$Known" 82 2147483648 ∈ xT := List.mem_filter.mpr ⟨List.mem_append_right _ (List.mem_of_getElem? (i := 313) (by decide +kernel)), by decide +kernel⟩
theorem tw_314 : Cond.constantLong "ProgramGate$Known" 84 (-1) ∈ xT := List.mem_filter.mpr ⟨List.mem_append_right _ (List.mem_of_getElem? (i := 314) (by decide +kernel)), by decide +kernel⟩
theorem tw_315 : Cond.methodLink "ProgramGate$Known" 86 (⟨"java/lang/Long", "numberOfLeadingZeros", "(J)I"⟩ : MethodName) ∈ xT := List.mem_filter.mpr ⟨List.mem_append_right _ (List.mem_of_getElem? (i := 315) (by decide +kernel)), by decide +kernel⟩
theorem tw_316 : Cond.static (⟨"java/lang/Long", "numberOfLeadingZeros", "(J)I"⟩ : MethodName) ∈ xT := List.mem_filter.mpr ⟨List.mem_append_right _ (List.mem_of_getElem? (i := 316) (by decide +kernel)), by decide +kernel⟩
theorem tw_317 : Cond.code (⟨"java/lang/Long", "numberOfLeadingZeros", "(J)I"⟩ : MethodName) prog_17_method_48_code 3 (some .int) ∈ xT := List.mem_filter.mpr ⟨List.mem_append_right _ (List.mem_of_getElem? (i := 317) (by decide +kernel)), by decide +kernel⟩
theorem tw_318 : Cond.methodLink "java/lang/Long" 308 (⟨"java/lang/Integer", "numberOfLeadingZeros", "(I)I"⟩ : MethodName) ∈ xT := List.mem_filter.mpr ⟨List.mem_append_right _ (List.mem_of_getElem? (i := 318) (by decide +kernel)), by decide +kernel⟩
theorem tw_319 : Cond.static (⟨"java/lang/Integer", "numberOfLeadingZeros", "(I)I"⟩ : MethodName) ∈ xT := List.mem_filter.mpr ⟨List.mem_append_right _ (List.mem_of_getElem? (i := 319) (by decide +kernel)), by decide +kernel⟩
theorem tw_320 : Cond.code (⟨"java/lang/Integer", "numberOfLeadingZeros", "(I)I"⟩ : MethodName) prog_16_method_47_code 2 (some .int) ∈ xT := List.mem_filter.mpr ⟨List.mem_append_right _ (List.mem_of_getElem? (i := 320) (by decide +kernel)), by decide +kernel⟩
theorem tw_321 : Cond.constant "java/lang/Integer" 264 65536 ∈ xT := List.mem_filter.mpr ⟨List.mem_append_right _ (List.mem_of_getElem? (i := 321) (by decide +kernel)), by decide +kernel⟩
theorem tw_322 : Cond.methodLink "ProgramGate$Known" 76 (⟨"ProgramGate$Known", "contradicts", "(II)Z"⟩ : MethodName) ∈ xT := List.mem_filter.mpr ⟨List.mem_append_right _ (List.mem_of_getElem? (i := 322) (by decide +kernel)), by decide +kernel⟩
theorem tw_323 : Cond.instanceMethod (⟨"ProgramGate$Known", "contradicts", "(II)Z"⟩ : MethodName) ∈ xT := List.mem_filter.mpr ⟨List.mem_append_right _ (List.mem_of_getElem? (i := 323) (by decide +kernel)), by decide +kernel⟩
theorem tw_324 : Cond.selects "ProgramGate$Known" (⟨"ProgramGate$Known", "contradicts", "(II)Z"⟩ : MethodName) (⟨"ProgramGate$Known", "contradicts", "(II)Z"⟩ : MethodName) ∈ xT := List.mem_filter.mpr ⟨List.mem_append_right _ (List.mem_of_getElem? (i := 324) (by decide +kernel)), by decide +kernel⟩
theorem tw_325 : Cond.code (⟨"ProgramGate$Known", "contradicts", "(II)Z"⟩ : MethodName) prog_3_method_10_code 3 (some .boolean) ∈ xT := List.mem_filter.mpr ⟨List.mem_append_right _ (List.mem_of_getElem? (i := 325) (by decide +kernel)), by decide +kernel⟩
theorem tw_326 : Cond.methodLink "ProgramGate$State" 29 (⟨"ProgramGate$Known", "becomeNothing", "()V"⟩ : MethodName) ∈ xT := List.mem_filter.mpr ⟨List.mem_append_right _ (List.mem_of_getElem? (i := 326) (by decide +kernel)), by decide +kernel⟩
theorem tw_327 : Cond.methodLink "ProgramGate$Walker" 53 (⟨"ProgramGate$Walker", "alarmAt", "(I)I"⟩ : MethodName) ∈ xT := List.mem_filter.mpr ⟨List.mem_append_right _ (List.mem_of_getElem? (i := 327) (by decide +kernel)), by decide +kernel⟩
theorem tw_329 : Cond.instanceMethod (⟨"ProgramGate$Walker", "alarmAt", "(I)I"⟩ : MethodName) ∈ xT := List.mem_filter.mpr ⟨List.mem_append_right _ (List.mem_of_getElem? (i := 329) (by decide +kernel)), by decide +kernel⟩
theorem tw_330 : Cond.code (⟨"ProgramGate$Walker", "alarmAt", "(I)I"⟩ : MethodName) prog_9_method_4_code 3 (some .int) ∈ xT := List.mem_filter.mpr ⟨List.mem_append_right _ (List.mem_of_getElem? (i := 330) (by decide +kernel)), by decide +kernel⟩
theorem tw_331 : Cond.methodLink "ProgramGate$Walker" 74 (⟨"ProgramGate$Walker", "readsUnset", "(LProgramGate$Instruction;)Z"⟩ : MethodName) ∈ xT := List.mem_filter.mpr ⟨List.mem_append_right _ (List.mem_of_getElem? (i := 331) (by decide +kernel)), by decide +kernel⟩
theorem tw_333 : Cond.instanceMethod (⟨"ProgramGate$Walker", "readsUnset", "(LProgramGate$Instruction;)Z"⟩ : MethodName) ∈ xT := List.mem_filter.mpr ⟨List.mem_append_right _ (List.mem_of_getElem? (i := 333) (by decide +kernel)), by decide +kernel⟩
theorem tw_334 : Cond.code (⟨"ProgramGate$Walker", "readsUnset", "(LProgramGate$Instruction;)Z"⟩ : MethodName) prog_9_method_5_code 2 (some .boolean) ∈ xT := List.mem_filter.mpr ⟨List.mem_append_right _ (List.mem_of_getElem? (i := 334) (by decide +kernel)), by decide +kernel⟩
theorem tw_335 : Cond.methodLink "ProgramGate$Walker" 114 (⟨"ProgramGate$Instruction", "readsA", "()Z"⟩ : MethodName) ∈ xT := List.mem_filter.mpr ⟨List.mem_append_right _ (List.mem_of_getElem? (i := 335) (by decide +kernel)), by decide +kernel⟩
theorem tw_336 : Cond.instanceMethod (⟨"ProgramGate$Instruction", "readsA", "()Z"⟩ : MethodName) ∈ xT := List.mem_filter.mpr ⟨List.mem_append_right _ (List.mem_of_getElem? (i := 336) (by decide +kernel)), by decide +kernel⟩
theorem tw_337 : Cond.selects "ProgramGate$Instruction" (⟨"ProgramGate$Instruction", "readsA", "()Z"⟩ : MethodName) (⟨"ProgramGate$Instruction", "readsA", "()Z"⟩ : MethodName) ∈ xT := List.mem_filter.mpr ⟨List.mem_append_right _ (List.mem_of_getElem? (i := 337) (by decide +kernel)), by decide +kernel⟩
theorem tw_338 : Cond.code (⟨"ProgramGate$Instruction", "readsA", "()Z"⟩ : MethodName) prog_2_method_4_code 1 (some .boolean) ∈ xT := List.mem_filter.mpr ⟨List.mem_append_right _ (List.mem_of_getElem? (i := 338) (by decide +kernel)), by decide +kernel⟩
theorem tw_339 : Cond.methodLink "ProgramGate$Walker" 121 (⟨"ProgramGate$Instruction", "readsB", "()Z"⟩ : MethodName) ∈ xT := List.mem_filter.mpr ⟨List.mem_append_right _ (List.mem_of_getElem? (i := 339) (by decide +kernel)), by decide +kernel⟩
theorem tw_340 : Cond.instanceMethod (⟨"ProgramGate$Instruction", "readsB", "()Z"⟩ : MethodName) ∈ xT := List.mem_filter.mpr ⟨List.mem_append_right _ (List.mem_of_getElem? (i := 340) (by decide +kernel)), by decide +kernel⟩
theorem tw_341 : Cond.selects "ProgramGate$Instruction" (⟨"ProgramGate$Instruction", "readsB", "()Z"⟩ : MethodName) (⟨"ProgramGate$Instruction", "readsB", "()Z"⟩ : MethodName) ∈ xT := List.mem_filter.mpr ⟨List.mem_append_right _ (List.mem_of_getElem? (i := 341) (by decide +kernel)), by decide +kernel⟩
theorem tw_342 : Cond.code (⟨"ProgramGate$Instruction", "readsB", "()Z"⟩ : MethodName) prog_2_method_5_code 1 (some .boolean) ∈ xT := List.mem_filter.mpr ⟨List.mem_append_right _ (List.mem_of_getElem? (i := 342) (by decide +kernel)), by decide +kernel⟩
theorem tw_343 : Cond.methodLink "ProgramGate$Walker" 83 (⟨"ProgramGate$Walker", "knownOfY", "(LProgramGate$Instruction;)LProgramGate$Known;"⟩ : MethodName) ∈ xT := List.mem_filter.mpr ⟨List.mem_append_right _ (List.mem_of_getElem? (i := 343) (by decide +kernel)), by decide +kernel⟩
theorem tw_345 : Cond.instanceMethod (⟨"ProgramGate$Walker", "knownOfY", "(LProgramGate$Instruction;)LProgramGate$Known;"⟩ : MethodName) ∈ xT := List.mem_filter.mpr ⟨List.mem_append_right _ (List.mem_of_getElem? (i := 345) (by decide +kernel)), by decide +kernel⟩
theorem tw_346 : Cond.code (⟨"ProgramGate$Walker", "knownOfY", "(LProgramGate$Instruction;)LProgramGate$Known;"⟩ : MethodName) prog_9_method_7_code 2 (some (.object "ProgramGate$Known")) ∈ xT := List.mem_filter.mpr ⟨List.mem_append_right _ (List.mem_of_getElem? (i := 346) (by decide +kernel)), by decide +kernel⟩
theorem tw_347 : Cond.methodLink "ProgramGate$Walker" 132 (⟨"ProgramGate$Known", "becomeNumber", "(I)V"⟩ : MethodName) ∈ xT := List.mem_filter.mpr ⟨List.mem_append_right _ (List.mem_of_getElem? (i := 347) (by decide +kernel)), by decide +kernel⟩
theorem tw_348 : Cond.instanceMethod (⟨"ProgramGate$Known", "becomeNumber", "(I)V"⟩ : MethodName) ∈ xT := List.mem_filter.mpr ⟨List.mem_append_right _ (List.mem_of_getElem? (i := 348) (by decide +kernel)), by decide +kernel⟩
theorem tw_349 : Cond.selects "ProgramGate$Known" (⟨"ProgramGate$Known", "becomeNumber", "(I)V"⟩ : MethodName) (⟨"ProgramGate$Known", "becomeNumber", "(I)V"⟩ : MethodName) ∈ xT := List.mem_filter.mpr ⟨List.mem_append_right _ (List.mem_of_getElem? (i := 349) (by decide +kernel)), by decide +kernel⟩
theorem tw_350 : Cond.code (⟨"ProgramGate$Known", "becomeNumber", "(I)V"⟩ : MethodName) prog_3_method_3_code 2 none ∈ xT := List.mem_filter.mpr ⟨List.mem_append_right _ (List.mem_of_getElem? (i := 350) (by decide +kernel)), by decide +kernel⟩
theorem tw_351 : Cond.methodLink "ProgramGate$Walker" 91 (⟨"ProgramGate$Walker", "alarmOfPlaces", "(ILProgramGate$Known;)I"⟩ : MethodName) ∈ xT := List.mem_filter.mpr ⟨List.mem_append_right _ (List.mem_of_getElem? (i := 351) (by decide +kernel)), by decide +kernel⟩
theorem tw_353 : Cond.instanceMethod (⟨"ProgramGate$Walker", "alarmOfPlaces", "(ILProgramGate$Known;)I"⟩ : MethodName) ∈ xT := List.mem_filter.mpr ⟨List.mem_append_right _ (List.mem_of_getElem? (i := 353) (by decide +kernel)), by decide +kernel⟩
theorem tw_354 : Cond.code (⟨"ProgramGate$Walker", "alarmOfPlaces", "(ILProgramGate$Known;)I"⟩ : MethodName) prog_9_method_6_code 4 (some .int) ∈ xT := List.mem_filter.mpr ⟨List.mem_append_right _ (List.mem_of_getElem? (i := 354) (by decide +kernel)), by decide +kernel⟩
theorem tw_355 : Cond.constantLong "ProgramGate$Walker" 127 4 ∈ xT := List.mem_filter.mpr ⟨List.mem_append_right _ (List.mem_of_getElem? (i := 355) (by decide +kernel)), by decide +kernel⟩
theorem tw_356 : Cond.methodLink "ProgramGate$Walker" 57 (⟨"ProgramGate$Walker", "placeAfter", "(I)I"⟩ : MethodName) ∈ xT := List.mem_filter.mpr ⟨List.mem_append_right _ (List.mem_of_getElem? (i := 356) (by decide +kernel)), by decide +kernel⟩
theorem tw_358 : Cond.instanceMethod (⟨"ProgramGate$Walker", "placeAfter", "(I)I"⟩ : MethodName) ∈ xT := List.mem_filter.mpr ⟨List.mem_append_right _ (List.mem_of_getElem? (i := 358) (by decide +kernel)), by decide +kernel⟩
theorem tw_359 : Cond.code (⟨"ProgramGate$Walker", "placeAfter", "(I)I"⟩ : MethodName) prog_9_method_8_code 4 (some .int) ∈ xT := List.mem_filter.mpr ⟨List.mem_append_right _ (List.mem_of_getElem? (i := 359) (by decide +kernel)), by decide +kernel⟩
theorem tw_360 : Cond.methodLink "ProgramGate$Walker" 136 (⟨"ProgramGate$State", "take", "(LProgramGate$State;)V"⟩ : MethodName) ∈ xT := List.mem_filter.mpr ⟨List.mem_append_right _ (List.mem_of_getElem? (i := 360) (by decide +kernel)), by decide +kernel⟩
theorem tw_361 : Cond.instanceMethod (⟨"ProgramGate$State", "take", "(LProgramGate$State;)V"⟩ : MethodName) ∈ xT := List.mem_filter.mpr ⟨List.mem_append_right _ (List.mem_of_getElem? (i := 361) (by decide +kernel)), by decide +kernel⟩
theorem tw_362 : Cond.selects "ProgramGate$State" (⟨"ProgramGate$State", "take", "(LProgramGate$State;)V"⟩ : MethodName) (⟨"ProgramGate$State", "take", "(LProgramGate$State;)V"⟩ : MethodName) ∈ xT := List.mem_filter.mpr ⟨List.mem_append_right _ (List.mem_of_getElem? (i := 362) (by decide +kernel)), by decide +kernel⟩
theorem tw_363 : Cond.code (⟨"ProgramGate$State", "take", "(LProgramGate$State;)V"⟩ : MethodName) prog_8_method_3_code 3 none ∈ xT := List.mem_filter.mpr ⟨List.mem_append_right _ (List.mem_of_getElem? (i := 363) (by decide +kernel)), by decide +kernel⟩
theorem tw_364 : Cond.methodLink "ProgramGate$State" 32 (⟨"ProgramGate$Known", "take", "(LProgramGate$Known;)V"⟩ : MethodName) ∈ xT := List.mem_filter.mpr ⟨List.mem_append_right _ (List.mem_of_getElem? (i := 364) (by decide +kernel)), by decide +kernel⟩
theorem tw_365 : Cond.instanceMethod (⟨"ProgramGate$Known", "take", "(LProgramGate$Known;)V"⟩ : MethodName) ∈ xT := List.mem_filter.mpr ⟨List.mem_append_right _ (List.mem_of_getElem? (i := 365) (by decide +kernel)), by decide +kernel⟩
theorem tw_366 : Cond.selects "ProgramGate$Known" (⟨"ProgramGate$Known", "take", "(LProgramGate$Known;)V"⟩ : MethodName) (⟨"ProgramGate$Known", "take", "(LProgramGate$Known;)V"⟩ : MethodName) ∈ xT := List.mem_filter.mpr ⟨List.mem_append_right _ (List.mem_of_getElem? (i := 366) (by decide +kernel)), by decide +kernel⟩
theorem tw_367 : Cond.code (⟨"ProgramGate$Known", "take", "(LProgramGate$Known;)V"⟩ : MethodName) prog_3_method_5_code 2 none ∈ xT := List.mem_filter.mpr ⟨List.mem_append_right _ (List.mem_of_getElem? (i := 367) (by decide +kernel)), by decide +kernel⟩
theorem tw_368 : Cond.methodLink "ProgramGate$Walker" 140 (⟨"ProgramGate$Walker", "resume", "()I"⟩ : MethodName) ∈ xT := List.mem_filter.mpr ⟨List.mem_append_right _ (List.mem_of_getElem? (i := 368) (by decide +kernel)), by decide +kernel⟩
theorem tw_370 : Cond.instanceMethod (⟨"ProgramGate$Walker", "resume", "()I"⟩ : MethodName) ∈ xT := List.mem_filter.mpr ⟨List.mem_append_right _ (List.mem_of_getElem? (i := 370) (by decide +kernel)), by decide +kernel⟩
theorem tw_371 : Cond.code (⟨"ProgramGate$Walker", "resume", "()I"⟩ : MethodName) prog_9_method_9_code 2 (some .int) ∈ xT := List.mem_filter.mpr ⟨List.mem_append_right _ (List.mem_of_getElem? (i := 371) (by decide +kernel)), by decide +kernel⟩
theorem tw_372 : Cond.methodLink "ProgramGate$Walker" 144 (⟨"ProgramGate$Walker", "part", "(LProgramGate$Instruction;I)Z"⟩ : MethodName) ∈ xT := List.mem_filter.mpr ⟨List.mem_append_right _ (List.mem_of_getElem? (i := 372) (by decide +kernel)), by decide +kernel⟩
theorem tw_374 : Cond.instanceMethod (⟨"ProgramGate$Walker", "part", "(LProgramGate$Instruction;I)Z"⟩ : MethodName) ∈ xT := List.mem_filter.mpr ⟨List.mem_append_right _ (List.mem_of_getElem? (i := 374) (by decide +kernel)), by decide +kernel⟩
theorem tw_375 : Cond.code (⟨"ProgramGate$Walker", "part", "(LProgramGate$Instruction;I)Z"⟩ : MethodName) prog_9_method_13_code 4 (some .boolean) ∈ xT := List.mem_filter.mpr ⟨List.mem_append_right _ (List.mem_of_getElem? (i := 375) (by decide +kernel)), by decide +kernel⟩
theorem tw_376 : Cond.methodLink "ProgramGate$Walker" 180 (⟨"java/lang/Math", "max", "(II)I"⟩ : MethodName) ∈ xT := List.mem_filter.mpr ⟨List.mem_append_right _ (List.mem_of_getElem? (i := 376) (by decide +kernel)), by decide +kernel⟩
theorem tw_377 : Cond.static (⟨"java/lang/Math", "max", "(II)I"⟩ : MethodName) ∈ xT := List.mem_filter.mpr ⟨List.mem_append_right _ (List.mem_of_getElem? (i := 377) (by decide +kernel)), by decide +kernel⟩
theorem tw_378 : Cond.code (⟨"java/lang/Math", "max", "(II)I"⟩ : MethodName) prog_18_method_65_code 2 (some .int) ∈ xT := List.mem_filter.mpr ⟨List.mem_append_right _ (List.mem_of_getElem? (i := 378) (by decide +kernel)), by decide +kernel⟩
theorem tw_379 : Cond.methodLink "ProgramGate$Walker" 186 (⟨"ProgramGate$Walker", "takePair", "(LProgramGate$Instruction;)V"⟩ : MethodName) ∈ xT := List.mem_filter.mpr ⟨List.mem_append_right _ (List.mem_of_getElem? (i := 379) (by decide +kernel)), by decide +kernel⟩
theorem tw_381 : Cond.instanceMethod (⟨"ProgramGate$Walker", "takePair", "(LProgramGate$Instruction;)V"⟩ : MethodName) ∈ xT := List.mem_filter.mpr ⟨List.mem_append_right _ (List.mem_of_getElem? (i := 381) (by decide +kernel)), by decide +kernel⟩
theorem tw_382 : Cond.code (⟨"ProgramGate$Walker", "takePair", "(LProgramGate$Instruction;)V"⟩ : MethodName) prog_9_method_14_code 2 none ∈ xT := List.mem_filter.mpr ⟨List.mem_append_right _ (List.mem_of_getElem? (i := 382) (by decide +kernel)), by decide +kernel⟩
theorem tw_383 : Cond.methodLink "ProgramGate$Walker" 151 (⟨"ProgramGate$Known", "take", "(LProgramGate$Known;)V"⟩ : MethodName) ∈ xT := List.mem_filter.mpr ⟨List.mem_append_right _ (List.mem_of_getElem? (i := 383) (by decide +kernel)), by decide +kernel⟩
theorem tw_384 : Cond.methodLink "ProgramGate$Walker" 190 (⟨"ProgramGate$Walker", "relate", "(I)Z"⟩ : MethodName) ∈ xT := List.mem_filter.mpr ⟨List.mem_append_right _ (List.mem_of_getElem? (i := 384) (by decide +kernel)), by decide +kernel⟩
theorem tw_386 : Cond.instanceMethod (⟨"ProgramGate$Walker", "relate", "(I)Z"⟩ : MethodName) ∈ xT := List.mem_filter.mpr ⟨List.mem_append_right _ (List.mem_of_getElem? (i := 386) (by decide +kernel)), by decide +kernel⟩
theorem tw_387 : Cond.code (⟨"ProgramGate$Walker", "relate", "(I)Z"⟩ : MethodName) prog_9_method_16_code 2 (some .boolean) ∈ xT := List.mem_filter.mpr ⟨List.mem_append_right _ (List.mem_of_getElem? (i := 387) (by decide +kernel)), by decide +kernel⟩
theorem tw_388 : Cond.methodLink "ProgramGate$Walker" 198 (⟨"ProgramGate$Known", "join", "(LProgramGate$Known;)Z"⟩ : MethodName) ∈ xT := List.mem_filter.mpr ⟨List.mem_append_right _ (List.mem_of_getElem? (i := 388) (by decide +kernel)), by decide +kernel⟩
theorem tw_389 : Cond.instanceMethod (⟨"ProgramGate$Known", "join", "(LProgramGate$Known;)Z"⟩ : MethodName) ∈ xT := List.mem_filter.mpr ⟨List.mem_append_right _ (List.mem_of_getElem? (i := 389) (by decide +kernel)), by decide +kernel⟩
theorem tw_390 : Cond.selects "ProgramGate$Known" (⟨"ProgramGate$Known", "join", "(LProgramGate$Known;)Z"⟩ : MethodName) (⟨"ProgramGate$Known", "join", "(LProgramGate$Known;)Z"⟩ : MethodName) ∈ xT := List.mem_filter.mpr ⟨List.mem_append_right _ (List.mem_of_getElem? (i := 390) (by decide +kernel)), by decide +kernel⟩
theorem tw_391 : Cond.code (⟨"ProgramGate$Known", "join", "(LProgramGate$Known;)Z"⟩ : MethodName) prog_3_method_12_code 2 (some .boolean) ∈ xT := List.mem_filter.mpr ⟨List.mem_append_right _ (List.mem_of_getElem? (i := 391) (by decide +kernel)), by decide +kernel⟩
theorem tw_392 : Cond.methodLink "ProgramGate$Known" 80 (⟨"java/lang/Math", "max", "(II)I"⟩ : MethodName) ∈ xT := List.mem_filter.mpr ⟨List.mem_append_right _ (List.mem_of_getElem? (i := 392) (by decide +kernel)), by decide +kernel⟩
theorem tw_393 : Cond.methodLink "ProgramGate$Walker" 177 (⟨"ProgramGate$Known", "isExact", "()Z"⟩ : MethodName) ∈ xT := List.mem_filter.mpr ⟨List.mem_append_right _ (List.mem_of_getElem? (i := 393) (by decide +kernel)), by decide +kernel⟩
theorem tw_394 : Cond.instanceMethod (⟨"ProgramGate$Known", "isExact", "()Z"⟩ : MethodName) ∈ xT := List.mem_filter.mpr ⟨List.mem_append_right _ (List.mem_of_getElem? (i := 394) (by decide +kernel)), by decide +kernel⟩
theorem tw_395 : Cond.selects "ProgramGate$Known" (⟨"ProgramGate$Known", "isExact", "()Z"⟩ : MethodName) (⟨"ProgramGate$Known", "isExact", "()Z"⟩ : MethodName) ∈ xT := List.mem_filter.mpr ⟨List.mem_append_right _ (List.mem_of_getElem? (i := 395) (by decide +kernel)), by decide +kernel⟩
theorem tw_396 : Cond.code (⟨"ProgramGate$Known", "isExact", "()Z"⟩ : MethodName) prog_3_method_8_code 1 (some .boolean) ∈ xT := List.mem_filter.mpr ⟨List.mem_append_right _ (List.mem_of_getElem? (i := 396) (by decide +kernel)), by decide +kernel⟩
theorem tw_397 : Cond.methodLink "ProgramGate$Walker" 202 (⟨"java/lang/Math", "min", "(JJ)J"⟩ : MethodName) ∈ xT := List.mem_filter.mpr ⟨List.mem_append_right _ (List.mem_of_getElem? (i := 397) (by decide +kernel)), by decide +kernel⟩
theorem tw_398 : Cond.methodLink "ProgramGate$Walker" 206 (⟨"java/lang/Math", "max", "(JJ)J"⟩ : MethodName) ∈ xT := List.mem_filter.mpr ⟨List.mem_append_right _ (List.mem_of_getElem? (i := 398) (by decide +kernel)), by decide +kernel⟩
theorem tw_399 : Cond.methodLink "ProgramGate$Walker" 214 (⟨"ProgramGate$Known", "tighten", "()Z"⟩ : MethodName) ∈ xT := List.mem_filter.mpr ⟨List.mem_append_right _ (List.mem_of_getElem? (i := 399) (by decide +kernel)), by decide +kernel⟩
theorem tw_400 : Cond.methodLink "ProgramGate$Walker" 194 (⟨"ProgramGate$Walker", "givePair", "(LProgramGate$Instruction;LProgramGate$State;)V"⟩ : MethodName) ∈ xT := List.mem_filter.mpr ⟨List.mem_append_right _ (List.mem_of_getElem? (i := 400) (by decide +kernel)), by decide +kernel⟩
theorem tw_402 : Cond.instanceMethod (⟨"ProgramGate$Walker", "givePair", "(LProgramGate$Instruction;LProgramGate$State;)V"⟩ : MethodName) ∈ xT := List.mem_filter.mpr ⟨List.mem_append_right _ (List.mem_of_getElem? (i := 402) (by decide +kernel)), by decide +kernel⟩
theorem tw_403 : Cond.code (⟨"ProgramGate$Walker", "givePair", "(LProgramGate$Instruction;LProgramGate$State;)V"⟩ : MethodName) prog_9_method_15_code 3 none ∈ xT := List.mem_filter.mpr ⟨List.mem_append_right _ (List.mem_of_getElem? (i := 403) (by decide +kernel)), by decide +kernel⟩
theorem tw_404 : Cond.methodLink "ProgramGate$Walker" 148 (⟨"ProgramGate$Walker", "change", "(LProgramGate$Instruction;)Z"⟩ : MethodName) ∈ xT := List.mem_filter.mpr ⟨List.mem_append_right _ (List.mem_of_getElem? (i := 404) (by decide +kernel)), by decide +kernel⟩
theorem tw_406 : Cond.instanceMethod (⟨"ProgramGate$Walker", "change", "(LProgramGate$Instruction;)Z"⟩ : MethodName) ∈ xT := List.mem_filter.mpr ⟨List.mem_append_right _ (List.mem_of_getElem? (i := 406) (by decide +kernel)), by decide +kernel⟩
theorem tw_407 : Cond.code (⟨"ProgramGate$Walker", "change", "(LProgramGate$Instruction;)Z"⟩ : MethodName) prog_9_method_10_code 5 (some .boolean) ∈ xT := List.mem_filter.mpr ⟨List.mem_append_right _ (List.mem_of_getElem? (i := 407) (by decide +kernel)), by decide +kernel⟩
theorem tw_408 : Cond.methodLink "ProgramGate$Walker" 154 (⟨"ProgramGate$Walker", "fetch", "(LProgramGate$Known;LProgramGate$Known;)V"⟩ : MethodName) ∈ xT := List.mem_filter.mpr ⟨List.mem_append_right _ (List.mem_of_getElem? (i := 408) (by decide +kernel)), by decide +kernel⟩
theorem tw_410 : Cond.instanceMethod (⟨"ProgramGate$Walker", "fetch", "(LProgramGate$Known;LProgramGate$Known;)V"⟩ : MethodName) ∈ xT := List.mem_filter.mpr ⟨List.mem_append_right _ (List.mem_of_getElem? (i := 410) (by decide +kernel)), by decide +kernel⟩
theorem tw_411 : Cond.code (⟨"ProgramGate$Walker", "fetch", "(LProgramGate$Known;LProgramGate$Known;)V"⟩ : MethodName) prog_9_method_11_code 6 none ∈ xT := List.mem_filter.mpr ⟨List.mem_append_right _ (List.mem_of_getElem? (i := 411) (by decide +kernel)), by decide +kernel⟩
theorem tw_412 : Cond.methodLink "ProgramGate$Walker" 174 (⟨"ProgramGate$Known", "meet", "(LProgramGate$Known;)V"⟩ : MethodName) ∈ xT := List.mem_filter.mpr ⟨List.mem_append_right _ (List.mem_of_getElem? (i := 412) (by decide +kernel)), by decide +kernel⟩
theorem tw_413 : Cond.instanceMethod (⟨"ProgramGate$Known", "meet", "(LProgramGate$Known;)V"⟩ : MethodName) ∈ xT := List.mem_filter.mpr ⟨List.mem_append_right _ (List.mem_of_getElem? (i := 413) (by decide +kernel)), by decide +kernel⟩
theorem tw_414 : Cond.selects "ProgramGate$Known" (⟨"ProgramGate$Known", "meet", "(LProgramGate$Known;)V"⟩ : MethodName) (⟨"ProgramGate$Known", "meet", "(LProgramGate$Known;)V"⟩ : MethodName) ∈ xT := List.mem_filter.mpr ⟨List.mem_append_right _ (List.mem_of_getElem? (i := 414) (by decide +kernel)), by decide +kernel⟩
theorem tw_415 : Cond.code (⟨"ProgramGate$Known", "meet", "(LProgramGate$Known;)V"⟩ : MethodName) prog_3_method_11_code 2 none ∈ xT := List.mem_filter.mpr ⟨List.mem_append_right _ (List.mem_of_getElem? (i := 415) (by decide +kernel)), by decide +kernel⟩
theorem tw_416 : Cond.methodLink "ProgramGate$Known" 73 (⟨"java/lang/Math", "min", "(II)I"⟩ : MethodName) ∈ xT := List.mem_filter.mpr ⟨List.mem_append_right _ (List.mem_of_getElem? (i := 416) (by decide +kernel)), by decide +kernel⟩
theorem tw_417 : Cond.static (⟨"java/lang/Math", "min", "(II)I"⟩ : MethodName) ∈ xT := List.mem_filter.mpr ⟨List.mem_append_right _ (List.mem_of_getElem? (i := 417) (by decide +kernel)), by decide +kernel⟩
theorem tw_418 : Cond.code (⟨"java/lang/Math", "min", "(II)I"⟩ : MethodName) prog_18_method_69_code 2 (some .int) ∈ xT := List.mem_filter.mpr ⟨List.mem_append_right _ (List.mem_of_getElem? (i := 418) (by decide +kernel)), by decide +kernel⟩
theorem tw_419 : Cond.methodLink "ProgramGate$Walker" 158 (⟨"ProgramGate$Walker", "store", "(LProgramGate$Known;LProgramGate$Known;)V"⟩ : MethodName) ∈ xT := List.mem_filter.mpr ⟨List.mem_append_right _ (List.mem_of_getElem? (i := 419) (by decide +kernel)), by decide +kernel⟩
theorem tw_421 : Cond.instanceMethod (⟨"ProgramGate$Walker", "store", "(LProgramGate$Known;LProgramGate$Known;)V"⟩ : MethodName) ∈ xT := List.mem_filter.mpr ⟨List.mem_append_right _ (List.mem_of_getElem? (i := 421) (by decide +kernel)), by decide +kernel⟩
theorem tw_422 : Cond.code (⟨"ProgramGate$Walker", "store", "(LProgramGate$Known;LProgramGate$Known;)V"⟩ : MethodName) prog_9_method_12_code 4 none ∈ xT := List.mem_filter.mpr ⟨List.mem_append_right _ (List.mem_of_getElem? (i := 422) (by decide +kernel)), by decide +kernel⟩
theorem tw_423 : Cond.methodLink "ProgramGate$Walker" 161 (⟨"ProgramGate$Known", "becomeNothing", "()V"⟩ : MethodName) ∈ xT := List.mem_filter.mpr ⟨List.mem_append_right _ (List.mem_of_getElem? (i := 423) (by decide +kernel)), by decide +kernel⟩
theorem tw_424 : Cond.constant "ProgramGate$Walker" 164 65535 ∈ xT := List.mem_filter.mpr ⟨List.mem_append_right _ (List.mem_of_getElem? (i := 424) (by decide +kernel)), by decide +kernel⟩
theorem tw_425 : Cond.methodLink "ProgramGate$Walker" 165 (⟨"ProgramGate$Known", "becomeUpTo", "(I)V"⟩ : MethodName) ∈ xT := List.mem_filter.mpr ⟨List.mem_append_right _ (List.mem_of_getElem? (i := 425) (by decide +kernel)), by decide +kernel⟩
theorem tw_426 : Cond.methodLink "ProgramGate$Walker" 168 (⟨"ProgramGate$Operation", "outcome", "(ILProgramGate$Known;LProgramGate$Known;LProgramGate$Known;)Z"⟩ : MethodName) ∈ xT := List.mem_filter.mpr ⟨List.mem_append_right _ (List.mem_of_getElem? (i := 426) (by decide +kernel)), by decide +kernel⟩
theorem tw_427 : Cond.static (⟨"ProgramGate$Operation", "outcome", "(ILProgramGate$Known;LProgramGate$Known;LProgramGate$Known;)Z"⟩ : MethodName) ∈ xT := List.mem_filter.mpr ⟨List.mem_append_right _ (List.mem_of_getElem? (i := 427) (by decide +kernel)), by decide +kernel⟩
theorem tw_428 : Cond.code (⟨"ProgramGate$Operation", "outcome", "(ILProgramGate$Known;LProgramGate$Known;LProgramGate$Known;)Z"⟩ : MethodName) prog_5_method_2_code 4 (some .boolean) ∈ xT := List.mem_filter.mpr ⟨List.mem_append_right _ (List.mem_of_getElem? (i := 428) (by decide +kernel)), by decide +kernel⟩
theorem tw_429 : Cond.methodLink "ProgramGate$Operation" 9 (⟨"ProgramGate$Known", "becomeNothing", "()V"⟩ : MethodName) ∈ xT := List.mem_filter.mpr ⟨List.mem_append_right _ (List.mem_of_getElem? (i := 429) (by decide +kernel)), by decide +kernel⟩
theorem tw_430 : Cond.methodLink "ProgramGate$Operation" 14 (⟨"ProgramGate$Operation", "sum", "(LProgramGate$Known;LProgramGate$Known;LProgramGate$Known;)V"⟩ : MethodName) ∈ xT := List.mem_filter.mpr ⟨List.mem_append_right _ (List.mem_of_getElem? (i := 430) (by decide +kernel)), by decide +kernel⟩
theorem tw_431 : Cond.static (⟨"ProgramGate$Operation", "sum", "(LProgramGate$Known;LProgramGate$Known;LProgramGate$Known;)V"⟩ : MethodName) ∈ xT := List.mem_filter.mpr ⟨List.mem_append_right _ (List.mem_of_getElem? (i := 431) (by decide +kernel)), by decide +kernel⟩
theorem tw_432 : Cond.code (⟨"ProgramGate$Operation", "sum", "(LProgramGate$Known;LProgramGate$Known;LProgramGate$Known;)V"⟩ : MethodName) prog_5_method_4_code 3 none ∈ xT := List.mem_filter.mpr ⟨List.mem_append_right _ (List.mem_of_getElem? (i := 432) (by decide +kernel)), by decide +kernel⟩
theorem tw_433 : Cond.methodLink "ProgramGate$Operation" 53 (⟨"ProgramGate$Operation", "lowestBits", "(LProgramGate$Known;LProgramGate$Known;)I"⟩ : MethodName) ∈ xT := List.mem_filter.mpr ⟨List.mem_append_right _ (List.mem_of_getElem? (i := 433) (by decide +kernel)), by decide +kernel⟩
theorem tw_434 : Cond.static (⟨"ProgramGate$Operation", "lowestBits", "(LProgramGate$Known;LProgramGate$Known;)I"⟩ : MethodName) ∈ xT := List.mem_filter.mpr ⟨List.mem_append_right _ (List.mem_of_getElem? (i := 434) (by decide +kernel)), by decide +kernel⟩
theorem tw_435 : Cond.code (⟨"ProgramGate$Operation", "lowestBits", "(LProgramGate$Known;LProgramGate$Known;)I"⟩ : MethodName) prog_5_method_3_code 3 (some .int) ∈ xT := List.mem_filter.mpr ⟨List.mem_append_right _ (List.mem_of_getElem? (i := 435) (by decide +kernel)), by decide +kernel⟩
theorem tw_436 : Cond.constantLong "ProgramGate$Operation" 64 4294967295 ∈ xT := List.mem_filter.mpr ⟨List.mem_append_right _ (List.mem_of_getElem? (i := 436) (by decide +kernel)), by decide +kernel⟩
theorem tw_437 : Cond.methodLink "ProgramGate$Operation" 69 (⟨"ProgramGate$Known", "boundUnsigned", "(JJ)V"⟩ : MethodName) ∈ xT := List.mem_filter.mpr ⟨List.mem_append_right _ (List.mem_of_getElem? (i := 437) (by decide +kernel)), by decide +kernel⟩
theorem tw_439 : Cond.static (⟨"ProgramGate", "isInt", "(J)Z"⟩ : MethodName) ∈ xT := List.mem_filter.mpr ⟨List.mem_append_right _ (List.mem_of_getElem? (i := 439) (by decide +kernel)), by decide +kernel⟩
theorem tw_440 : Cond.code (⟨"ProgramGate", "isInt", "(J)Z"⟩ : MethodName) prog_1_method_12_code 2 (some .boolean) ∈ xT := List.mem_filter.mpr ⟨List.mem_append_right _ (List.mem_of_getElem? (i := 440) (by decide +kernel)), by decide +kernel⟩
theorem tw_441 : Cond.constantLong "ProgramGate" 102 (-2147483648) ∈ xT := List.mem_filter.mpr ⟨List.mem_append_right _ (List.mem_of_getElem? (i := 441) (by decide +kernel)), by decide +kernel⟩
theorem tw_442 : Cond.constantLong "ProgramGate" 104 2147483647 ∈ xT := List.mem_filter.mpr ⟨List.mem_append_right _ (List.mem_of_getElem? (i := 442) (by decide +kernel)), by decide +kernel⟩
theorem tw_443 : Cond.methodLink "ProgramGate$Operation" 83 (⟨"ProgramGate$Known", "boundSigned", "(JJ)V"⟩ : MethodName) ∈ xT := List.mem_filter.mpr ⟨List.mem_append_right _ (List.mem_of_getElem? (i := 443) (by decide +kernel)), by decide +kernel⟩
theorem tw_444 : Cond.methodLink "ProgramGate$Operation" 86 (⟨"ProgramGate$Known", "isExact", "()Z"⟩ : MethodName) ∈ xT := List.mem_filter.mpr ⟨List.mem_append_right _ (List.mem_of_getElem? (i := 444) (by decide +kernel)), by decide +kernel⟩
theorem tw_445 : Cond.constantLong "ProgramGate$Operation" 89 20 ∈ xT := List.mem_filter.mpr ⟨List.mem_append_right _ (List.mem_of_getElem? (i := 445) (by decide +kernel)), by decide +kernel⟩
theorem tw_446 : Cond.methodLink "ProgramGate$Operation" 94 (⟨"java/lang/Math", "max", "(II)I"⟩ : MethodName) ∈ xT := List.mem_filter.mpr ⟨List.mem_append_right _ (List.mem_of_getElem? (i := 446) (by decide +kernel)), by decide +kernel⟩
theorem tw_447 : Cond.methodLink "ProgramGate$Operation" 20 (⟨"ProgramGate$Operation", "difference", "(LProgramGate$Known;LProgramGate$Known;LProgramGate$Known;)V"⟩ : MethodName) ∈ xT := List.mem_filter.mpr ⟨List.mem_append_right _ (List.mem_of_getElem? (i := 447) (by decide +kernel)), by decide +kernel⟩
theorem tw_448 : Cond.static (⟨"ProgramGate$Operation", "difference", "(LProgramGate$Known;LProgramGate$Known;LProgramGate$Known;)V"⟩ : MethodName) ∈ xT := List.mem_filter.mpr ⟨List.mem_append_right _ (List.mem_of_getElem? (i := 448) (by decide +kernel)), by decide +kernel⟩
theorem tw_449 : Cond.code (⟨"ProgramGate$Operation", "difference", "(LProgramGate$Known;LProgramGate$Known;LProgramGate$Known;)V"⟩ : MethodName) prog_5_method_5_code 3 none ∈ xT := List.mem_filter.mpr ⟨List.mem_append_right _ (List.mem_of_getElem? (i := 449) (by decide +kernel)), by decide +kernel⟩
theorem tw_450 : Cond.methodLink "ProgramGate$Operation" 23 (⟨"ProgramGate$Operation", "product", "(LProgramGate$Known;LProgramGate$Known;LProgramGate$Known;)V"⟩ : MethodName) ∈ xT := List.mem_filter.mpr ⟨List.mem_append_right _ (List.mem_of_getElem? (i := 450) (by decide +kernel)), by decide +kernel⟩
theorem tw_451 : Cond.static (⟨"ProgramGate$Operation", "product", "(LProgramGate$Known;LProgramGate$Known;LProgramGate$Known;)V"⟩ : MethodName) ∈ xT := List.mem_filter.mpr ⟨List.mem_append_right _ (List.mem_of_getElem? (i := 451) (by decide +kernel)), by decide +kernel⟩
theorem tw_452 : Cond.code (⟨"ProgramGate$Operation", "product", "(LProgramGate$Known;LProgramGate$Known;LProgramGate$Known;)V"⟩ : MethodName) prog_5_method_6_code 3 none ∈ xT := List.mem_filter.mpr ⟨List.mem_append_right _ (List.mem_of_getElem? (i := 452) (by decide +kernel)), by decide +kernel⟩
theorem tw_453 : Cond.methodLink "ProgramGate$Operation" 26 (⟨"ProgramGate$Operation", "bothOnes", "(LProgramGate$Known;LProgramGate$Known;LProgramGate$Known;)V"⟩ : MethodName) ∈ xT := List.mem_filter.mpr ⟨List.mem_append_right _ (List.mem_of_getElem? (i := 453) (by decide +kernel)), by decide +kernel⟩
theorem tw_454 : Cond.static (⟨"ProgramGate$Operation", "bothOnes", "(LProgramGate$Known;LProgramGate$Known;LProgramGate$Known;)V"⟩ : MethodName) ∈ xT := List.mem_filter.mpr ⟨List.mem_append_right _ (List.mem_of_getElem? (i := 454) (by decide +kernel)), by decide +kernel⟩
theorem tw_455 : Cond.code (⟨"ProgramGate$Operation", "bothOnes", "(LProgramGate$Known;LProgramGate$Known;LProgramGate$Known;)V"⟩ : MethodName) prog_5_method_7_code 3 none ∈ xT := List.mem_filter.mpr ⟨List.mem_append_right _ (List.mem_of_getElem? (i := 455) (by decide +kernel)), by decide +kernel⟩
theorem tw_456 : Cond.methodLink "ProgramGate$Operation" 100 (⟨"ProgramGate$Known", "zeros", "()I"⟩ : MethodName) ∈ xT := List.mem_filter.mpr ⟨List.mem_append_right _ (List.mem_of_getElem? (i := 456) (by decide +kernel)), by decide +kernel⟩
theorem tw_457 : Cond.instanceMethod (⟨"ProgramGate$Known", "zeros", "()I"⟩ : MethodName) ∈ xT := List.mem_filter.mpr ⟨List.mem_append_right _ (List.mem_of_getElem? (i := 457) (by decide +kernel)), by decide +kernel⟩
theorem tw_458 : Cond.selects "ProgramGate$Known" (⟨"ProgramGate$Known", "zeros", "()I"⟩ : MethodName) (⟨"ProgramGate$Known", "zeros", "()I"⟩ : MethodName) ∈ xT := List.mem_filter.mpr ⟨List.mem_append_right _ (List.mem_of_getElem? (i := 458) (by decide +kernel)), by decide +kernel⟩
theorem tw_459 : Cond.code (⟨"ProgramGate$Known", "zeros", "()I"⟩ : MethodName) prog_3_method_9_code 1 (some .int) ∈ xT := List.mem_filter.mpr ⟨List.mem_append_right _ (List.mem_of_getElem? (i := 459) (by decide +kernel)), by decide +kernel⟩
theorem tw_460 : Cond.methodLink "ProgramGate$Operation" 104 (⟨"java/lang/Math", "min", "(JJ)J"⟩ : MethodName) ∈ xT := List.mem_filter.mpr ⟨List.mem_append_right _ (List.mem_of_getElem? (i := 460) (by decide +kernel)), by decide +kernel⟩
theorem tw_461 : Cond.methodLink "ProgramGate$Operation" 29 (⟨"ProgramGate$Operation", "eitherOne", "(LProgramGate$Known;LProgramGate$Known;LProgramGate$Known;)V"⟩ : MethodName) ∈ xT := List.mem_filter.mpr ⟨List.mem_append_right _ (List.mem_of_getElem? (i := 461) (by decide +kernel)), by decide +kernel⟩
theorem tw_462 : Cond.static (⟨"ProgramGate$Operation", "eitherOne", "(LProgramGate$Known;LProgramGate$Known;LProgramGate$Known;)V"⟩ : MethodName) ∈ xT := List.mem_filter.mpr ⟨List.mem_append_right _ (List.mem_of_getElem? (i := 462) (by decide +kernel)), by decide +kernel⟩
theorem tw_463 : Cond.code (⟨"ProgramGate$Operation", "eitherOne", "(LProgramGate$Known;LProgramGate$Known;LProgramGate$Known;)V"⟩ : MethodName) prog_5_method_8_code 3 none ∈ xT := List.mem_filter.mpr ⟨List.mem_append_right _ (List.mem_of_getElem? (i := 463) (by decide +kernel)), by decide +kernel⟩
theorem tw_464 : Cond.methodLink "ProgramGate$Operation" 108 (⟨"java/lang/Math", "max", "(JJ)J"⟩ : MethodName) ∈ xT := List.mem_filter.mpr ⟨List.mem_append_right _ (List.mem_of_getElem? (i := 464) (by decide +kernel)), by decide +kernel⟩
theorem tw_465 : Cond.methodLink "ProgramGate$Operation" 32 (⟨"ProgramGate$Operation", "unlikeBits", "(LProgramGate$Known;LProgramGate$Known;LProgramGate$Known;)V"⟩ : MethodName) ∈ xT := List.mem_filter.mpr ⟨List.mem_append_right _ (List.mem_of_getElem? (i := 465) (by decide +kernel)), by decide +kernel⟩
theorem tw_466 : Cond.static (⟨"ProgramGate$Operation", "unlikeBits", "(LProgramGate$Known;LProgramGate$Known;LProgramGate$Known;)V"⟩ : MethodName) ∈ xT := List.mem_filter.mpr ⟨List.mem_append_right _ (List.mem_of_getElem? (i := 466) (by decide +kernel)), by decide +kernel⟩
theorem tw_467 : Cond.code (⟨"ProgramGate$Operation", "unlikeBits", "(LProgramGate$Known;LProgramGate$Known;LProgramGate$Known;)V"⟩ : MethodName) prog_5_method_9_code 3 none ∈ xT := List.mem_filter.mpr ⟨List.mem_append_right _ (List.mem_of_getElem? (i := 467) (by decide +kernel)), by decide +kernel⟩
theorem tw_468 : Cond.methodLink "ProgramGate$Operation" 35 (⟨"ProgramGate$Operation", "quotient", "(LProgramGate$Known;LProgramGate$Known;LProgramGate$Known;)V"⟩ : MethodName) ∈ xT := List.mem_filter.mpr ⟨List.mem_append_right _ (List.mem_of_getElem? (i := 468) (by decide +kernel)), by decide +kernel⟩
theorem tw_469 : Cond.static (⟨"ProgramGate$Operation", "quotient", "(LProgramGate$Known;LProgramGate$Known;LProgramGate$Known;)V"⟩ : MethodName) ∈ xT := List.mem_filter.mpr ⟨List.mem_append_right _ (List.mem_of_getElem? (i := 469) (by decide +kernel)), by decide +kernel⟩
theorem tw_470 : Cond.code (⟨"ProgramGate$Operation", "quotient", "(LProgramGate$Known;LProgramGate$Known;LProgramGate$Known;)V"⟩ : MethodName) prog_5_method_11_code 3 none ∈ xT := List.mem_filter.mpr ⟨List.mem_append_right _ (List.mem_of_getElem? (i := 470) (by decide +kernel)), by decide +kernel⟩
theorem tw_471 : Cond.methodLink "ProgramGate$Operation" 38 (⟨"ProgramGate$Operation", "rest", "(LProgramGate$Known;LProgramGate$Known;LProgramGate$Known;)V"⟩ : MethodName) ∈ xT := List.mem_filter.mpr ⟨List.mem_append_right _ (List.mem_of_getElem? (i := 471) (by decide +kernel)), by decide +kernel⟩
theorem tw_472 : Cond.static (⟨"ProgramGate$Operation", "rest", "(LProgramGate$Known;LProgramGate$Known;LProgramGate$Known;)V"⟩ : MethodName) ∈ xT := List.mem_filter.mpr ⟨List.mem_append_right _ (List.mem_of_getElem? (i := 472) (by decide +kernel)), by decide +kernel⟩
theorem tw_473 : Cond.code (⟨"ProgramGate$Operation", "rest", "(LProgramGate$Known;LProgramGate$Known;LProgramGate$Known;)V"⟩ : MethodName) prog_5_method_12_code 3 none ∈ xT := List.mem_filter.mpr ⟨List.mem_append_right _ (List.mem_of_getElem? (i := 473) (by decide +kernel)), by decide +kernel⟩
theorem tw_474 : Cond.methodLink "ProgramGate$Operation" 41 (⟨"ProgramGate$Operation", "shifted", "(ILProgramGate$Known;LProgramGate$Known;LProgramGate$Known;)V"⟩ : MethodName) ∈ xT := List.mem_filter.mpr ⟨List.mem_append_right _ (List.mem_of_getElem? (i := 474) (by decide +kernel)), by decide +kernel⟩
theorem tw_475 : Cond.static (⟨"ProgramGate$Operation", "shifted", "(ILProgramGate$Known;LProgramGate$Known;LProgramGate$Known;)V"⟩ : MethodName) ∈ xT := List.mem_filter.mpr ⟨List.mem_append_right _ (List.mem_of_getElem? (i := 475) (by decide +kernel)), by decide +kernel⟩
theorem tw_476 : Cond.code (⟨"ProgramGate$Operation", "shifted", "(ILProgramGate$Known;LProgramGate$Known;LProgramGate$Known;)V"⟩ : MethodName) prog_5_method_10_code 5 none ∈ xT := List.mem_filter.mpr ⟨List.mem_append_right _ (List.mem_of_getElem? (i := 476) (by decide +kernel)), by decide +kernel⟩
theorem tw_477 : Cond.methodLink "ProgramGate$Operation" 45 (⟨"ProgramGate$Known", "tighten", "()Z"⟩ : MethodName) ∈ xT := List.mem_filter.mpr ⟨List.mem_append_right _ (List.mem_of_getElem? (i := 477) (by decide +kernel)), by decide +kernel⟩
theorem tw_490 : Cond.constantLong "ProgramGate" 80 4611686018427387904 ∈ xT := List.mem_filter.mpr ⟨List.mem_append_right _ (List.mem_of_getElem? (i := 490) (by decide +kernel)), by decide +kernel⟩
theorem tw_491 : Cond.methodLink "ProgramGate" 92 (⟨"ProgramGate$Known", "told", "(I)J"⟩ : MethodName) ∈ xT := List.mem_filter.mpr ⟨List.mem_append_right _ (List.mem_of_getElem? (i := 491) (by decide +kernel)), by decide +kernel⟩
theorem tw_492 : Cond.instanceMethod (⟨"ProgramGate$Known", "told", "(I)J"⟩ : MethodName) ∈ xT := List.mem_filter.mpr ⟨List.mem_append_right _ (List.mem_of_getElem? (i := 492) (by decide +kernel)), by decide +kernel⟩
theorem tw_493 : Cond.selects "ProgramGate$Known" (⟨"ProgramGate$Known", "told", "(I)J"⟩ : MethodName) (⟨"ProgramGate$Known", "told", "(I)J"⟩ : MethodName) ∈ xT := List.mem_filter.mpr ⟨List.mem_append_right _ (List.mem_of_getElem? (i := 493) (by decide +kernel)), by decide +kernel⟩
theorem tw_494 : Cond.code (⟨"ProgramGate$Known", "told", "(I)J"⟩ : MethodName) prog_3_method_14_code 2 (some .long) ∈ xT := List.mem_filter.mpr ⟨List.mem_append_right _ (List.mem_of_getElem? (i := 494) (by decide +kernel)), by decide +kernel⟩
theorem tw_495 : Cond.constantLong "ProgramGate$Known" 92 4611686018427387904 ∈ xT := List.mem_filter.mpr ⟨List.mem_append_right _ (List.mem_of_getElem? (i := 495) (by decide +kernel)), by decide +kernel⟩
theorem tw_643 : Cond.fieldLink "ProgramGateModel" 63 "ProgramGateModel" "thrown" "I" ∈ xT := List.mem_filter.mpr ⟨List.mem_append_right _ (List.mem_of_getElem? (i := 643) (by decide +kernel)), by decide +kernel⟩
theorem tw_644 : Cond.fieldLink "ProgramGateModel" 67 "ProgramGateModel" "count" "I" ∈ xT := List.mem_filter.mpr ⟨List.mem_append_right _ (List.mem_of_getElem? (i := 644) (by decide +kernel)), by decide +kernel⟩
theorem tw_645 : Cond.fieldLink "ProgramGateModel" 7 "ProgramGateModel" "ops" "[I" ∈ xT := List.mem_filter.mpr ⟨List.mem_append_right _ (List.mem_of_getElem? (i := 645) (by decide +kernel)), by decide +kernel⟩
theorem tw_646 : Cond.fieldLink "ProgramGateModel" 13 "ProgramGateModel" "as" "[I" ∈ xT := List.mem_filter.mpr ⟨List.mem_append_right _ (List.mem_of_getElem? (i := 646) (by decide +kernel)), by decide +kernel⟩
theorem tw_647 : Cond.fieldLink "ProgramGateModel" 16 "ProgramGateModel" "bs" "[I" ∈ xT := List.mem_filter.mpr ⟨List.mem_append_right _ (List.mem_of_getElem? (i := 647) (by decide +kernel)), by decide +kernel⟩
theorem tw_648 : Cond.fieldLink "ProgramGateModel" 19 "ProgramGateModel" "ns" "[I" ∈ xT := List.mem_filter.mpr ⟨List.mem_append_right _ (List.mem_of_getElem? (i := 648) (by decide +kernel)), by decide +kernel⟩
theorem tw_649 : Cond.fieldLink "ProgramGateModel" 22 "ProgramGateModel" "offsets" "[I" ∈ xT := List.mem_filter.mpr ⟨List.mem_append_right _ (List.mem_of_getElem? (i := 649) (by decide +kernel)), by decide +kernel⟩
theorem tw_650 : Cond.fieldLink "ProgramGateModel" 74 "ProgramGateModel" "length" "I" ∈ xT := List.mem_filter.mpr ⟨List.mem_append_right _ (List.mem_of_getElem? (i := 650) (by decide +kernel)), by decide +kernel⟩
theorem tw_651 : Cond.fieldLink "ProgramGateModel" 25 "ProgramGateModel" "bytes" "[I" ∈ xT := List.mem_filter.mpr ⟨List.mem_append_right _ (List.mem_of_getElem? (i := 651) (by decide +kernel)), by decide +kernel⟩
theorem tw_652 : Cond.fieldLink "ProgramGateModel" 28 "ProgramGateModel" "set" "[Z" ∈ xT := List.mem_filter.mpr ⟨List.mem_append_right _ (List.mem_of_getElem? (i := 652) (by decide +kernel)), by decide +kernel⟩
theorem tw_653 : Cond.fieldLink "ProgramGateModel" 32 "ProgramGateModel" "bits" "[I" ∈ xT := List.mem_filter.mpr ⟨List.mem_append_right _ (List.mem_of_getElem? (i := 653) (by decide +kernel)), by decide +kernel⟩
theorem tw_654 : Cond.fieldLink "ProgramGateModel" 35 "ProgramGateModel" "ones" "[I" ∈ xT := List.mem_filter.mpr ⟨List.mem_append_right _ (List.mem_of_getElem? (i := 654) (by decide +kernel)), by decide +kernel⟩
theorem tw_655 : Cond.fieldLink "ProgramGateModel" 38 "ProgramGateModel" "low" "[J" ∈ xT := List.mem_filter.mpr ⟨List.mem_append_right _ (List.mem_of_getElem? (i := 655) (by decide +kernel)), by decide +kernel⟩
theorem tw_656 : Cond.fieldLink "ProgramGateModel" 42 "ProgramGateModel" "high" "[J" ∈ xT := List.mem_filter.mpr ⟨List.mem_append_right _ (List.mem_of_getElem? (i := 656) (by decide +kernel)), by decide +kernel⟩
theorem tw_657 : Cond.fieldLink "ProgramGateModel" 45 "ProgramGateModel" "least" "[J" ∈ xT := List.mem_filter.mpr ⟨List.mem_append_right _ (List.mem_of_getElem? (i := 657) (by decide +kernel)), by decide +kernel⟩
theorem tw_658 : Cond.fieldLink "ProgramGateModel" 48 "ProgramGateModel" "most" "[J" ∈ xT := List.mem_filter.mpr ⟨List.mem_append_right _ (List.mem_of_getElem? (i := 658) (by decide +kernel)), by decide +kernel⟩
theorem tw_659 : Cond.fieldLink "ProgramGateModel" 51 "ProgramGateModel" "safe" "[I" ∈ xT := List.mem_filter.mpr ⟨List.mem_append_right _ (List.mem_of_getElem? (i := 659) (by decide +kernel)), by decide +kernel⟩
theorem tw_660 : Cond.fieldLink "ProgramGateModel" 144 "ProgramGateModel" "place" "I" ∈ xT := List.mem_filter.mpr ⟨List.mem_append_right _ (List.mem_of_getElem? (i := 660) (by decide +kernel)), by decide +kernel⟩
theorem tw_661 : Cond.fieldLink "ProgramGateModel" 147 "ProgramGateModel" "steps" "I" ∈ xT := List.mem_filter.mpr ⟨List.mem_append_right _ (List.mem_of_getElem? (i := 661) (by decide +kernel)), by decide +kernel⟩
theorem tw_662 : Cond.fieldLink "ProgramGateModel" 177 "ProgramGateModel" "ended" "Z" ∈ xT := List.mem_filter.mpr ⟨List.mem_append_right _ (List.mem_of_getElem? (i := 662) (by decide +kernel)), by decide +kernel⟩
theorem tw_663 : Cond.fieldLink "ProgramGateModel" 166 "ProgramGateModel" "waiting" "I" ∈ xT := List.mem_filter.mpr ⟨List.mem_append_right _ (List.mem_of_getElem? (i := 663) (by decide +kernel)), by decide +kernel⟩
theorem tw_664 : Cond.fieldLink "ProgramGateModel" 54 "ProgramGateModel" "waits" "[I" ∈ xT := List.mem_filter.mpr ⟨List.mem_append_right _ (List.mem_of_getElem? (i := 664) (by decide +kernel)), by decide +kernel⟩
theorem tw_665 : Cond.fieldLink "ProgramGateModel" 212 "ProgramGateModel" "ran" "I" ∈ xT := List.mem_filter.mpr ⟨List.mem_append_right _ (List.mem_of_getElem? (i := 665) (by decide +kernel)), by decide +kernel⟩
theorem tw_666 : Cond.fieldLink "ProgramGateModel" 57 "ProgramGateModel" "registers" "[I" ∈ xT := List.mem_filter.mpr ⟨List.mem_append_right _ (List.mem_of_getElem? (i := 666) (by decide +kernel)), by decide +kernel⟩
theorem tw_667 : Cond.fieldLink "ProgramGateModel" 60 "ProgramGateModel" "stack" "[I" ∈ xT := List.mem_filter.mpr ⟨List.mem_append_right _ (List.mem_of_getElem? (i := 667) (by decide +kernel)), by decide +kernel⟩
theorem tw_668 : Cond.lays "ProgramGateModel" "ProgramGateModel" "thrown" "I" ∈ xT := List.mem_filter.mpr ⟨List.mem_append_right _ (List.mem_of_getElem? (i := 668) (by decide +kernel)), by decide +kernel⟩
theorem tw_670 : Cond.lays "ProgramGateModel" "ProgramGateModel" "count" "I" ∈ xT := List.mem_filter.mpr ⟨List.mem_append_right _ (List.mem_of_getElem? (i := 670) (by decide +kernel)), by decide +kernel⟩
theorem tw_672 : Cond.laysFinal "ProgramGateModel" "ProgramGateModel" "ops" "[I" ∈ xT := List.mem_filter.mpr ⟨List.mem_append_right _ (List.mem_of_getElem? (i := 672) (by decide +kernel)), by decide +kernel⟩
theorem tw_674 : Cond.laysFinal "ProgramGateModel" "ProgramGateModel" "as" "[I" ∈ xT := List.mem_filter.mpr ⟨List.mem_append_right _ (List.mem_of_getElem? (i := 674) (by decide +kernel)), by decide +kernel⟩
theorem tw_676 : Cond.laysFinal "ProgramGateModel" "ProgramGateModel" "bs" "[I" ∈ xT := List.mem_filter.mpr ⟨List.mem_append_right _ (List.mem_of_getElem? (i := 676) (by decide +kernel)), by decide +kernel⟩
theorem tw_678 : Cond.laysFinal "ProgramGateModel" "ProgramGateModel" "ns" "[I" ∈ xT := List.mem_filter.mpr ⟨List.mem_append_right _ (List.mem_of_getElem? (i := 678) (by decide +kernel)), by decide +kernel⟩
theorem tw_680 : Cond.laysFinal "ProgramGateModel" "ProgramGateModel" "offsets" "[I" ∈ xT := List.mem_filter.mpr ⟨List.mem_append_right _ (List.mem_of_getElem? (i := 680) (by decide +kernel)), by decide +kernel⟩
theorem tw_682 : Cond.lays "ProgramGateModel" "ProgramGateModel" "length" "I" ∈ xT := List.mem_filter.mpr ⟨List.mem_append_right _ (List.mem_of_getElem? (i := 682) (by decide +kernel)), by decide +kernel⟩
theorem tw_684 : Cond.laysFinal "ProgramGateModel" "ProgramGateModel" "bytes" "[I" ∈ xT := List.mem_filter.mpr ⟨List.mem_append_right _ (List.mem_of_getElem? (i := 684) (by decide +kernel)), by decide +kernel⟩
theorem tw_686 : Cond.laysFinal "ProgramGateModel" "ProgramGateModel" "set" "[Z" ∈ xT := List.mem_filter.mpr ⟨List.mem_append_right _ (List.mem_of_getElem? (i := 686) (by decide +kernel)), by decide +kernel⟩
theorem tw_688 : Cond.laysFinal "ProgramGateModel" "ProgramGateModel" "bits" "[I" ∈ xT := List.mem_filter.mpr ⟨List.mem_append_right _ (List.mem_of_getElem? (i := 688) (by decide +kernel)), by decide +kernel⟩
theorem tw_690 : Cond.laysFinal "ProgramGateModel" "ProgramGateModel" "ones" "[I" ∈ xT := List.mem_filter.mpr ⟨List.mem_append_right _ (List.mem_of_getElem? (i := 690) (by decide +kernel)), by decide +kernel⟩
theorem tw_692 : Cond.laysFinal "ProgramGateModel" "ProgramGateModel" "low" "[J" ∈ xT := List.mem_filter.mpr ⟨List.mem_append_right _ (List.mem_of_getElem? (i := 692) (by decide +kernel)), by decide +kernel⟩
theorem tw_694 : Cond.laysFinal "ProgramGateModel" "ProgramGateModel" "high" "[J" ∈ xT := List.mem_filter.mpr ⟨List.mem_append_right _ (List.mem_of_getElem? (i := 694) (by decide +kernel)), by decide +kernel⟩
theorem tw_696 : Cond.laysFinal "ProgramGateModel" "ProgramGateModel" "least" "[J" ∈ xT := List.mem_filter.mpr ⟨List.mem_append_right _ (List.mem_of_getElem? (i := 696) (by decide +kernel)), by decide +kernel⟩
theorem tw_698 : Cond.laysFinal "ProgramGateModel" "ProgramGateModel" "most" "[J" ∈ xT := List.mem_filter.mpr ⟨List.mem_append_right _ (List.mem_of_getElem? (i := 698) (by decide +kernel)), by decide +kernel⟩
theorem tw_700 : Cond.laysFinal "ProgramGateModel" "ProgramGateModel" "safe" "[I" ∈ xT := List.mem_filter.mpr ⟨List.mem_append_right _ (List.mem_of_getElem? (i := 700) (by decide +kernel)), by decide +kernel⟩
theorem tw_702 : Cond.lays "ProgramGateModel" "ProgramGateModel" "place" "I" ∈ xT := List.mem_filter.mpr ⟨List.mem_append_right _ (List.mem_of_getElem? (i := 702) (by decide +kernel)), by decide +kernel⟩
theorem tw_704 : Cond.lays "ProgramGateModel" "ProgramGateModel" "steps" "I" ∈ xT := List.mem_filter.mpr ⟨List.mem_append_right _ (List.mem_of_getElem? (i := 704) (by decide +kernel)), by decide +kernel⟩
theorem tw_706 : Cond.lays "ProgramGateModel" "ProgramGateModel" "ended" "Z" ∈ xT := List.mem_filter.mpr ⟨List.mem_append_right _ (List.mem_of_getElem? (i := 706) (by decide +kernel)), by decide +kernel⟩
theorem tw_708 : Cond.lays "ProgramGateModel" "ProgramGateModel" "waiting" "I" ∈ xT := List.mem_filter.mpr ⟨List.mem_append_right _ (List.mem_of_getElem? (i := 708) (by decide +kernel)), by decide +kernel⟩
theorem tw_710 : Cond.laysFinal "ProgramGateModel" "ProgramGateModel" "waits" "[I" ∈ xT := List.mem_filter.mpr ⟨List.mem_append_right _ (List.mem_of_getElem? (i := 710) (by decide +kernel)), by decide +kernel⟩
theorem tw_712 : Cond.lays "ProgramGateModel" "ProgramGateModel" "ran" "I" ∈ xT := List.mem_filter.mpr ⟨List.mem_append_right _ (List.mem_of_getElem? (i := 712) (by decide +kernel)), by decide +kernel⟩
theorem tw_714 : Cond.laysFinal "ProgramGateModel" "ProgramGateModel" "registers" "[I" ∈ xT := List.mem_filter.mpr ⟨List.mem_append_right _ (List.mem_of_getElem? (i := 714) (by decide +kernel)), by decide +kernel⟩
theorem tw_716 : Cond.laysFinal "ProgramGateModel" "ProgramGateModel" "stack" "[I" ∈ xT := List.mem_filter.mpr ⟨List.mem_append_right _ (List.mem_of_getElem? (i := 716) (by decide +kernel)), by decide +kernel⟩
theorem tw_728 : Cond.methodLink "ProgramGateModel" 70 (⟨"ProgramGateModel", "within", "(III)Z"⟩ : MethodName) ∈ xT := List.mem_filter.mpr ⟨List.mem_append_right _ (List.mem_of_getElem? (i := 728) (by decide +kernel)), by decide +kernel⟩
theorem tw_729 : Cond.static (⟨"ProgramGateModel", "within", "(III)Z"⟩ : MethodName) ∈ xT := List.mem_filter.mpr ⟨List.mem_append_right _ (List.mem_of_getElem? (i := 729) (by decide +kernel)), by decide +kernel⟩
theorem tw_730 : Cond.code (⟨"ProgramGateModel", "within", "(III)Z"⟩ : MethodName) prog_11_method_4_code 3 (some .boolean) ∈ xT := List.mem_filter.mpr ⟨List.mem_append_right _ (List.mem_of_getElem? (i := 730) (by decide +kernel)), by decide +kernel⟩
theorem tw_743 : Cond.constantLong "ProgramGateModel" 77 255 ∈ xT := List.mem_filter.mpr ⟨List.mem_append_right _ (List.mem_of_getElem? (i := 743) (by decide +kernel)), by decide +kernel⟩
theorem tw_748 : Cond.methodLink "ProgramGateModel" 197 (⟨"ProgramGateModel", "setUp", "()V"⟩ : MethodName) ∈ xT := List.mem_filter.mpr ⟨List.mem_append_right _ (List.mem_of_getElem? (i := 748) (by decide +kernel)), by decide +kernel⟩
theorem tw_750 : Cond.instanceMethod (⟨"ProgramGateModel", "setUp", "()V"⟩ : MethodName) ∈ xT := List.mem_filter.mpr ⟨List.mem_append_right _ (List.mem_of_getElem? (i := 750) (by decide +kernel)), by decide +kernel⟩
theorem tw_751 : Cond.code (⟨"ProgramGateModel", "setUp", "()V"⟩ : MethodName) prog_11_method_28_code 2 none ∈ xT := List.mem_filter.mpr ⟨List.mem_append_right _ (List.mem_of_getElem? (i := 751) (by decide +kernel)), by decide +kernel⟩
theorem tw_752 : Cond.methodLink "ProgramGateModel" 85 (⟨"ProgramGateModel", "nothing", "(I)V"⟩ : MethodName) ∈ xT := List.mem_filter.mpr ⟨List.mem_append_right _ (List.mem_of_getElem? (i := 752) (by decide +kernel)), by decide +kernel⟩
theorem tw_754 : Cond.instanceMethod (⟨"ProgramGateModel", "nothing", "(I)V"⟩ : MethodName) ∈ xT := List.mem_filter.mpr ⟨List.mem_append_right _ (List.mem_of_getElem? (i := 754) (by decide +kernel)), by decide +kernel⟩
theorem tw_755 : Cond.code (⟨"ProgramGateModel", "nothing", "(I)V"⟩ : MethodName) prog_11_method_10_code 2 none ∈ xT := List.mem_filter.mpr ⟨List.mem_append_right _ (List.mem_of_getElem? (i := 755) (by decide +kernel)), by decide +kernel⟩
theorem tw_756 : Cond.constantLong "ProgramGateModel" 79 4294967295 ∈ xT := List.mem_filter.mpr ⟨List.mem_append_right _ (List.mem_of_getElem? (i := 756) (by decide +kernel)), by decide +kernel⟩
theorem tw_757 : Cond.constantLong "ProgramGateModel" 81 (-2147483648) ∈ xT := List.mem_filter.mpr ⟨List.mem_append_right _ (List.mem_of_getElem? (i := 757) (by decide +kernel)), by decide +kernel⟩
theorem tw_758 : Cond.constantLong "ProgramGateModel" 83 2147483647 ∈ xT := List.mem_filter.mpr ⟨List.mem_append_right _ (List.mem_of_getElem? (i := 758) (by decide +kernel)), by decide +kernel⟩
theorem tw_759 : Cond.constantLong "ProgramGateModel" 142 16 ∈ xT := List.mem_filter.mpr ⟨List.mem_append_right _ (List.mem_of_getElem? (i := 759) (by decide +kernel)), by decide +kernel⟩
theorem tw_760 : Cond.methodLink "ProgramGateModel" 123 (⟨"ProgramGateModel", "tighten", "(I)Z"⟩ : MethodName) ∈ xT := List.mem_filter.mpr ⟨List.mem_append_right _ (List.mem_of_getElem? (i := 760) (by decide +kernel)), by decide +kernel⟩
theorem tw_762 : Cond.instanceMethod (⟨"ProgramGateModel", "tighten", "(I)Z"⟩ : MethodName) ∈ xT := List.mem_filter.mpr ⟨List.mem_append_right _ (List.mem_of_getElem? (i := 762) (by decide +kernel)), by decide +kernel⟩
theorem tw_763 : Cond.code (⟨"ProgramGateModel", "tighten", "(I)Z"⟩ : MethodName) prog_11_method_15_code 6 (some .boolean) ∈ xT := List.mem_filter.mpr ⟨List.mem_append_right _ (List.mem_of_getElem? (i := 763) (by decide +kernel)), by decide +kernel⟩
theorem tw_764 : Cond.methodLink "ProgramGateModel" 89 (⟨"ProgramGateModel", "greater", "(JJ)J"⟩ : MethodName) ∈ xT := List.mem_filter.mpr ⟨List.mem_append_right _ (List.mem_of_getElem? (i := 764) (by decide +kernel)), by decide +kernel⟩
theorem tw_765 : Cond.static (⟨"ProgramGateModel", "greater", "(JJ)J"⟩ : MethodName) ∈ xT := List.mem_filter.mpr ⟨List.mem_append_right _ (List.mem_of_getElem? (i := 765) (by decide +kernel)), by decide +kernel⟩
theorem tw_766 : Cond.code (⟨"ProgramGateModel", "greater", "(JJ)J"⟩ : MethodName) prog_11_method_13_code 4 (some .long) ∈ xT := List.mem_filter.mpr ⟨List.mem_append_right _ (List.mem_of_getElem? (i := 766) (by decide +kernel)), by decide +kernel⟩
theorem tw_767 : Cond.methodLink "ProgramGateModel" 93 (⟨"ProgramGateModel", "lesser", "(JJ)J"⟩ : MethodName) ∈ xT := List.mem_filter.mpr ⟨List.mem_append_right _ (List.mem_of_getElem? (i := 767) (by decide +kernel)), by decide +kernel⟩
theorem tw_768 : Cond.static (⟨"ProgramGateModel", "lesser", "(JJ)J"⟩ : MethodName) ∈ xT := List.mem_filter.mpr ⟨List.mem_append_right _ (List.mem_of_getElem? (i := 768) (by decide +kernel)), by decide +kernel⟩
theorem tw_769 : Cond.code (⟨"ProgramGateModel", "lesser", "(JJ)J"⟩ : MethodName) prog_11_method_12_code 4 (some .long) ∈ xT := List.mem_filter.mpr ⟨List.mem_append_right _ (List.mem_of_getElem? (i := 769) (by decide +kernel)), by decide +kernel⟩
theorem tw_770 : Cond.constantLong "ProgramGateModel" 96 2147483648 ∈ xT := List.mem_filter.mpr ⟨List.mem_append_right _ (List.mem_of_getElem? (i := 770) (by decide +kernel)), by decide +kernel⟩
theorem tw_771 : Cond.methodLink "ProgramGateModel" 200 (⟨"ProgramGateModel", "alarm", "()I"⟩ : MethodName) ∈ xT := List.mem_filter.mpr ⟨List.mem_append_right _ (List.mem_of_getElem? (i := 771) (by decide +kernel)), by decide +kernel⟩
theorem tw_773 : Cond.instanceMethod (⟨"ProgramGateModel", "alarm", "()I"⟩ : MethodName) ∈ xT := List.mem_filter.mpr ⟨List.mem_append_right _ (List.mem_of_getElem? (i := 773) (by decide +kernel)), by decide +kernel⟩
theorem tw_774 : Cond.code (⟨"ProgramGateModel", "alarm", "()I"⟩ : MethodName) prog_11_method_31_code 5 (some .int) ∈ xT := List.mem_filter.mpr ⟨List.mem_append_right _ (List.mem_of_getElem? (i := 774) (by decide +kernel)), by decide +kernel⟩
theorem tw_775 : Cond.methodLink "ProgramGateModel" 150 (⟨"ProgramGateModel", "readsA", "(I)Z"⟩ : MethodName) ∈ xT := List.mem_filter.mpr ⟨List.mem_append_right _ (List.mem_of_getElem? (i := 775) (by decide +kernel)), by decide +kernel⟩
theorem tw_776 : Cond.static (⟨"ProgramGateModel", "readsA", "(I)Z"⟩ : MethodName) ∈ xT := List.mem_filter.mpr ⟨List.mem_append_right _ (List.mem_of_getElem? (i := 776) (by decide +kernel)), by decide +kernel⟩
theorem tw_777 : Cond.code (⟨"ProgramGateModel", "readsA", "(I)Z"⟩ : MethodName) prog_11_method_29_code 1 (some .boolean) ∈ xT := List.mem_filter.mpr ⟨List.mem_append_right _ (List.mem_of_getElem? (i := 777) (by decide +kernel)), by decide +kernel⟩
theorem tw_778 : Cond.methodLink "ProgramGateModel" 153 (⟨"ProgramGateModel", "readsB", "(I)Z"⟩ : MethodName) ∈ xT := List.mem_filter.mpr ⟨List.mem_append_right _ (List.mem_of_getElem? (i := 778) (by decide +kernel)), by decide +kernel⟩
theorem tw_779 : Cond.static (⟨"ProgramGateModel", "readsB", "(I)Z"⟩ : MethodName) ∈ xT := List.mem_filter.mpr ⟨List.mem_append_right _ (List.mem_of_getElem? (i := 779) (by decide +kernel)), by decide +kernel⟩
theorem tw_780 : Cond.code (⟨"ProgramGateModel", "readsB", "(I)Z"⟩ : MethodName) prog_11_method_30_code 1 (some .boolean) ∈ xT := List.mem_filter.mpr ⟨List.mem_append_right _ (List.mem_of_getElem? (i := 780) (by decide +kernel)), by decide +kernel⟩
theorem tw_781 : Cond.methodLink "ProgramGateModel" 128 (⟨"ProgramGateModel", "copy", "(II)V"⟩ : MethodName) ∈ xT := List.mem_filter.mpr ⟨List.mem_append_right _ (List.mem_of_getElem? (i := 781) (by decide +kernel)), by decide +kernel⟩
theorem tw_783 : Cond.instanceMethod (⟨"ProgramGateModel", "copy", "(II)V"⟩ : MethodName) ∈ xT := List.mem_filter.mpr ⟨List.mem_append_right _ (List.mem_of_getElem? (i := 783) (by decide +kernel)), by decide +kernel⟩
theorem tw_784 : Cond.code (⟨"ProgramGateModel", "copy", "(II)V"⟩ : MethodName) prog_11_method_9_code 3 none ∈ xT := List.mem_filter.mpr ⟨List.mem_append_right _ (List.mem_of_getElem? (i := 784) (by decide +kernel)), by decide +kernel⟩
theorem tw_785 : Cond.methodLink "ProgramGateModel" 156 (⟨"ProgramGateModel", "number", "(II)V"⟩ : MethodName) ∈ xT := List.mem_filter.mpr ⟨List.mem_append_right _ (List.mem_of_getElem? (i := 785) (by decide +kernel)), by decide +kernel⟩
theorem tw_787 : Cond.instanceMethod (⟨"ProgramGateModel", "number", "(II)V"⟩ : MethodName) ∈ xT := List.mem_filter.mpr ⟨List.mem_append_right _ (List.mem_of_getElem? (i := 787) (by decide +kernel)), by decide +kernel⟩
theorem tw_788 : Cond.code (⟨"ProgramGateModel", "number", "(II)V"⟩ : MethodName) prog_11_method_11_code 3 none ∈ xT := List.mem_filter.mpr ⟨List.mem_append_right _ (List.mem_of_getElem? (i := 788) (by decide +kernel)), by decide +kernel⟩
theorem tw_789 : Cond.constantLong "ProgramGateModel" 159 3 ∈ xT := List.mem_filter.mpr ⟨List.mem_append_right _ (List.mem_of_getElem? (i := 789) (by decide +kernel)), by decide +kernel⟩
theorem tw_790 : Cond.methodLink "ProgramGateModel" 203 (⟨"ProgramGateModel", "pass", "()Z"⟩ : MethodName) ∈ xT := List.mem_filter.mpr ⟨List.mem_append_right _ (List.mem_of_getElem? (i := 790) (by decide +kernel)), by decide +kernel⟩
theorem tw_792 : Cond.instanceMethod (⟨"ProgramGateModel", "pass", "()Z"⟩ : MethodName) ∈ xT := List.mem_filter.mpr ⟨List.mem_append_right _ (List.mem_of_getElem? (i := 792) (by decide +kernel)), by decide +kernel⟩
theorem tw_793 : Cond.code (⟨"ProgramGateModel", "pass", "()Z"⟩ : MethodName) prog_11_method_37_code 6 (some .boolean) ∈ xT := List.mem_filter.mpr ⟨List.mem_append_right _ (List.mem_of_getElem? (i := 793) (by decide +kernel)), by decide +kernel⟩
theorem tw_794 : Cond.methodLink "ProgramGateModel" 181 (⟨"ProgramGateModel", "part", "(IIII)Z"⟩ : MethodName) ∈ xT := List.mem_filter.mpr ⟨List.mem_append_right _ (List.mem_of_getElem? (i := 794) (by decide +kernel)), by decide +kernel⟩
theorem tw_796 : Cond.instanceMethod (⟨"ProgramGateModel", "part", "(IIII)Z"⟩ : MethodName) ∈ xT := List.mem_filter.mpr ⟨List.mem_append_right _ (List.mem_of_getElem? (i := 796) (by decide +kernel)), by decide +kernel⟩
theorem tw_797 : Cond.code (⟨"ProgramGateModel", "part", "(IIII)Z"⟩ : MethodName) prog_11_method_36_code 6 (some .boolean) ∈ xT := List.mem_filter.mpr ⟨List.mem_append_right _ (List.mem_of_getElem? (i := 797) (by decide +kernel)), by decide +kernel⟩
theorem tw_798 : Cond.methodLink "ProgramGateModel" 169 (⟨"ProgramGateModel", "compare", "(IZ)Z"⟩ : MethodName) ∈ xT := List.mem_filter.mpr ⟨List.mem_append_right _ (List.mem_of_getElem? (i := 798) (by decide +kernel)), by decide +kernel⟩
theorem tw_800 : Cond.instanceMethod (⟨"ProgramGateModel", "compare", "(IZ)Z"⟩ : MethodName) ∈ xT := List.mem_filter.mpr ⟨List.mem_append_right _ (List.mem_of_getElem? (i := 800) (by decide +kernel)), by decide +kernel⟩
theorem tw_801 : Cond.code (⟨"ProgramGateModel", "compare", "(IZ)Z"⟩ : MethodName) prog_11_method_27_code 3 (some .boolean) ∈ xT := List.mem_filter.mpr ⟨List.mem_append_right _ (List.mem_of_getElem? (i := 801) (by decide +kernel)), by decide +kernel⟩
theorem tw_802 : Cond.methodLink "ProgramGateModel" 131 (⟨"ProgramGateModel", "alike", "()Z"⟩ : MethodName) ∈ xT := List.mem_filter.mpr ⟨List.mem_append_right _ (List.mem_of_getElem? (i := 802) (by decide +kernel)), by decide +kernel⟩
theorem tw_804 : Cond.instanceMethod (⟨"ProgramGateModel", "alike", "()Z"⟩ : MethodName) ∈ xT := List.mem_filter.mpr ⟨List.mem_append_right _ (List.mem_of_getElem? (i := 804) (by decide +kernel)), by decide +kernel⟩
theorem tw_805 : Cond.code (⟨"ProgramGateModel", "alike", "()Z"⟩ : MethodName) prog_11_method_24_code 2 (some .boolean) ∈ xT := List.mem_filter.mpr ⟨List.mem_append_right _ (List.mem_of_getElem? (i := 805) (by decide +kernel)), by decide +kernel⟩
theorem tw_806 : Cond.methodLink "ProgramGateModel" 106 (⟨"ProgramGateModel", "isExact", "(I)Z"⟩ : MethodName) ∈ xT := List.mem_filter.mpr ⟨List.mem_append_right _ (List.mem_of_getElem? (i := 806) (by decide +kernel)), by decide +kernel⟩
theorem tw_808 : Cond.instanceMethod (⟨"ProgramGateModel", "isExact", "(I)Z"⟩ : MethodName) ∈ xT := List.mem_filter.mpr ⟨List.mem_append_right _ (List.mem_of_getElem? (i := 808) (by decide +kernel)), by decide +kernel⟩
theorem tw_809 : Cond.code (⟨"ProgramGateModel", "isExact", "(I)Z"⟩ : MethodName) prog_11_method_14_code 2 (some .boolean) ∈ xT := List.mem_filter.mpr ⟨List.mem_append_right _ (List.mem_of_getElem? (i := 809) (by decide +kernel)), by decide +kernel⟩
theorem tw_810 : Cond.methodLink "ProgramGateModel" 135 (⟨"ProgramGateModel", "less", "(Z)Z"⟩ : MethodName) ∈ xT := List.mem_filter.mpr ⟨List.mem_append_right _ (List.mem_of_getElem? (i := 810) (by decide +kernel)), by decide +kernel⟩
theorem tw_812 : Cond.instanceMethod (⟨"ProgramGateModel", "less", "(Z)Z"⟩ : MethodName) ∈ xT := List.mem_filter.mpr ⟨List.mem_append_right _ (List.mem_of_getElem? (i := 812) (by decide +kernel)), by decide +kernel⟩
theorem tw_813 : Cond.code (⟨"ProgramGateModel", "less", "(Z)Z"⟩ : MethodName) prog_11_method_25_code 3 (some .boolean) ∈ xT := List.mem_filter.mpr ⟨List.mem_append_right _ (List.mem_of_getElem? (i := 813) (by decide +kernel)), by decide +kernel⟩
theorem tw_814 : Cond.methodLink "ProgramGateModel" 139 (⟨"ProgramGateModel", "lessSigned", "(Z)Z"⟩ : MethodName) ∈ xT := List.mem_filter.mpr ⟨List.mem_append_right _ (List.mem_of_getElem? (i := 814) (by decide +kernel)), by decide +kernel⟩
theorem tw_816 : Cond.instanceMethod (⟨"ProgramGateModel", "lessSigned", "(Z)Z"⟩ : MethodName) ∈ xT := List.mem_filter.mpr ⟨List.mem_append_right _ (List.mem_of_getElem? (i := 816) (by decide +kernel)), by decide +kernel⟩
theorem tw_817 : Cond.code (⟨"ProgramGateModel", "lessSigned", "(Z)Z"⟩ : MethodName) prog_11_method_26_code 3 (some .boolean) ∈ xT := List.mem_filter.mpr ⟨List.mem_append_right _ (List.mem_of_getElem? (i := 817) (by decide +kernel)), by decide +kernel⟩
theorem tw_818 : Cond.methodLink "ProgramGateModel" 173 (⟨"ProgramGateModel", "wait", "(III)V"⟩ : MethodName) ∈ xT := List.mem_filter.mpr ⟨List.mem_append_right _ (List.mem_of_getElem? (i := 818) (by decide +kernel)), by decide +kernel⟩
theorem tw_820 : Cond.instanceMethod (⟨"ProgramGateModel", "wait", "(III)V"⟩ : MethodName) ∈ xT := List.mem_filter.mpr ⟨List.mem_append_right _ (List.mem_of_getElem? (i := 820) (by decide +kernel)), by decide +kernel⟩
theorem tw_821 : Cond.code (⟨"ProgramGateModel", "wait", "(III)V"⟩ : MethodName) prog_11_method_35_code 5 none ∈ xT := List.mem_filter.mpr ⟨List.mem_append_right _ (List.mem_of_getElem? (i := 821) (by decide +kernel)), by decide +kernel⟩
theorem tw_822 : Cond.methodLink "ProgramGateModel" 185 (⟨"ProgramGateModel", "operate", "(I)Z"⟩ : MethodName) ∈ xT := List.mem_filter.mpr ⟨List.mem_append_right _ (List.mem_of_getElem? (i := 822) (by decide +kernel)), by decide +kernel⟩
theorem tw_824 : Cond.instanceMethod (⟨"ProgramGateModel", "operate", "(I)Z"⟩ : MethodName) ∈ xT := List.mem_filter.mpr ⟨List.mem_append_right _ (List.mem_of_getElem? (i := 824) (by decide +kernel)), by decide +kernel⟩
theorem tw_825 : Cond.code (⟨"ProgramGateModel", "operate", "(I)Z"⟩ : MethodName) prog_11_method_23_code 4 (some .boolean) ∈ xT := List.mem_filter.mpr ⟨List.mem_append_right _ (List.mem_of_getElem? (i := 825) (by decide +kernel)), by decide +kernel⟩
theorem tw_826 : Cond.methodLink "ProgramGateModel" 117 (⟨"ProgramGateModel", "bitsOf", "(I)V"⟩ : MethodName) ∈ xT := List.mem_filter.mpr ⟨List.mem_append_right _ (List.mem_of_getElem? (i := 826) (by decide +kernel)), by decide +kernel⟩
theorem tw_828 : Cond.instanceMethod (⟨"ProgramGateModel", "bitsOf", "(I)V"⟩ : MethodName) ∈ xT := List.mem_filter.mpr ⟨List.mem_append_right _ (List.mem_of_getElem? (i := 828) (by decide +kernel)), by decide +kernel⟩
theorem tw_829 : Cond.code (⟨"ProgramGateModel", "bitsOf", "(I)V"⟩ : MethodName) prog_11_method_19_code 7 none ∈ xT := List.mem_filter.mpr ⟨List.mem_append_right _ (List.mem_of_getElem? (i := 829) (by decide +kernel)), by decide +kernel⟩
theorem tw_830 : Cond.methodLink "ProgramGateModel" 98 (⟨"ProgramGateModel", "lowest", "()I"⟩ : MethodName) ∈ xT := List.mem_filter.mpr ⟨List.mem_append_right _ (List.mem_of_getElem? (i := 830) (by decide +kernel)), by decide +kernel⟩
theorem tw_832 : Cond.instanceMethod (⟨"ProgramGateModel", "lowest", "()I"⟩ : MethodName) ∈ xT := List.mem_filter.mpr ⟨List.mem_append_right _ (List.mem_of_getElem? (i := 832) (by decide +kernel)), by decide +kernel⟩
theorem tw_833 : Cond.code (⟨"ProgramGateModel", "lowest", "()I"⟩ : MethodName) prog_11_method_17_code 4 (some .int) ∈ xT := List.mem_filter.mpr ⟨List.mem_append_right _ (List.mem_of_getElem? (i := 833) (by decide +kernel)), by decide +kernel⟩
theorem tw_834 : Cond.methodLink "ProgramGateModel" 102 (⟨"ProgramGateModel", "knows", "(II)V"⟩ : MethodName) ∈ xT := List.mem_filter.mpr ⟨List.mem_append_right _ (List.mem_of_getElem? (i := 834) (by decide +kernel)), by decide +kernel⟩
theorem tw_836 : Cond.instanceMethod (⟨"ProgramGateModel", "knows", "(II)V"⟩ : MethodName) ∈ xT := List.mem_filter.mpr ⟨List.mem_append_right _ (List.mem_of_getElem? (i := 836) (by decide +kernel)), by decide +kernel⟩
theorem tw_837 : Cond.code (⟨"ProgramGateModel", "knows", "(II)V"⟩ : MethodName) prog_11_method_18_code 3 none ∈ xT := List.mem_filter.mpr ⟨List.mem_append_right _ (List.mem_of_getElem? (i := 837) (by decide +kernel)), by decide +kernel⟩
theorem tw_838 : Cond.methodLink "ProgramGateModel" 120 (⟨"ProgramGateModel", "boundsOf", "(I)V"⟩ : MethodName) ∈ xT := List.mem_filter.mpr ⟨List.mem_append_right _ (List.mem_of_getElem? (i := 838) (by decide +kernel)), by decide +kernel⟩
theorem tw_840 : Cond.instanceMethod (⟨"ProgramGateModel", "boundsOf", "(I)V"⟩ : MethodName) ∈ xT := List.mem_filter.mpr ⟨List.mem_append_right _ (List.mem_of_getElem? (i := 840) (by decide +kernel)), by decide +kernel⟩
theorem tw_841 : Cond.code (⟨"ProgramGateModel", "boundsOf", "(I)V"⟩ : MethodName) prog_11_method_22_code 3 none ∈ xT := List.mem_filter.mpr ⟨List.mem_append_right _ (List.mem_of_getElem? (i := 841) (by decide +kernel)), by decide +kernel⟩
theorem tw_842 : Cond.methodLink "ProgramGateModel" 110 (⟨"ProgramGateModel", "bound", "(JJ)V"⟩ : MethodName) ∈ xT := List.mem_filter.mpr ⟨List.mem_append_right _ (List.mem_of_getElem? (i := 842) (by decide +kernel)), by decide +kernel⟩
theorem tw_844 : Cond.instanceMethod (⟨"ProgramGateModel", "bound", "(JJ)V"⟩ : MethodName) ∈ xT := List.mem_filter.mpr ⟨List.mem_append_right _ (List.mem_of_getElem? (i := 844) (by decide +kernel)), by decide +kernel⟩
theorem tw_845 : Cond.code (⟨"ProgramGateModel", "bound", "(JJ)V"⟩ : MethodName) prog_11_method_20_code 5 none ∈ xT := List.mem_filter.mpr ⟨List.mem_append_right _ (List.mem_of_getElem? (i := 845) (by decide +kernel)), by decide +kernel⟩
theorem tw_846 : Cond.methodLink "ProgramGateModel" 114 (⟨"ProgramGateModel", "boundSigned", "(JJ)V"⟩ : MethodName) ∈ xT := List.mem_filter.mpr ⟨List.mem_append_right _ (List.mem_of_getElem? (i := 846) (by decide +kernel)), by decide +kernel⟩
theorem tw_848 : Cond.instanceMethod (⟨"ProgramGateModel", "boundSigned", "(JJ)V"⟩ : MethodName) ∈ xT := List.mem_filter.mpr ⟨List.mem_append_right _ (List.mem_of_getElem? (i := 848) (by decide +kernel)), by decide +kernel⟩
theorem tw_849 : Cond.code (⟨"ProgramGateModel", "boundSigned", "(JJ)V"⟩ : MethodName) prog_11_method_21_code 5 none ∈ xT := List.mem_filter.mpr ⟨List.mem_append_right _ (List.mem_of_getElem? (i := 849) (by decide +kernel)), by decide +kernel⟩
theorem tw_850 : Cond.constantLong "ProgramGateModel" 126 20 ∈ xT := List.mem_filter.mpr ⟨List.mem_append_right _ (List.mem_of_getElem? (i := 850) (by decide +kernel)), by decide +kernel⟩
theorem tw_851 : Cond.methodLink "ProgramGateModel" 188 (⟨"ProgramGateModel", "get", "(I)V"⟩ : MethodName) ∈ xT := List.mem_filter.mpr ⟨List.mem_append_right _ (List.mem_of_getElem? (i := 851) (by decide +kernel)), by decide +kernel⟩
theorem tw_853 : Cond.instanceMethod (⟨"ProgramGateModel", "get", "(I)V"⟩ : MethodName) ∈ xT := List.mem_filter.mpr ⟨List.mem_append_right _ (List.mem_of_getElem? (i := 853) (by decide +kernel)), by decide +kernel⟩
theorem tw_854 : Cond.code (⟨"ProgramGateModel", "get", "(I)V"⟩ : MethodName) prog_11_method_32_code 3 none ∈ xT := List.mem_filter.mpr ⟨List.mem_append_right _ (List.mem_of_getElem? (i := 854) (by decide +kernel)), by decide +kernel⟩
theorem tw_855 : Cond.methodLink "ProgramGateModel" 161 (⟨"ProgramGateModel", "meet", "(II)V"⟩ : MethodName) ∈ xT := List.mem_filter.mpr ⟨List.mem_append_right _ (List.mem_of_getElem? (i := 855) (by decide +kernel)), by decide +kernel⟩
theorem tw_857 : Cond.instanceMethod (⟨"ProgramGateModel", "meet", "(II)V"⟩ : MethodName) ∈ xT := List.mem_filter.mpr ⟨List.mem_append_right _ (List.mem_of_getElem? (i := 857) (by decide +kernel)), by decide +kernel⟩
theorem tw_858 : Cond.code (⟨"ProgramGateModel", "meet", "(II)V"⟩ : MethodName) prog_11_method_16_code 3 none ∈ xT := List.mem_filter.mpr ⟨List.mem_append_right _ (List.mem_of_getElem? (i := 858) (by decide +kernel)), by decide +kernel⟩
theorem tw_859 : Cond.methodLink "ProgramGateModel" 191 (⟨"ProgramGateModel", "put", "()V"⟩ : MethodName) ∈ xT := List.mem_filter.mpr ⟨List.mem_append_right _ (List.mem_of_getElem? (i := 859) (by decide +kernel)), by decide +kernel⟩
theorem tw_861 : Cond.instanceMethod (⟨"ProgramGateModel", "put", "()V"⟩ : MethodName) ∈ xT := List.mem_filter.mpr ⟨List.mem_append_right _ (List.mem_of_getElem? (i := 861) (by decide +kernel)), by decide +kernel⟩
theorem tw_862 : Cond.code (⟨"ProgramGateModel", "put", "()V"⟩ : MethodName) prog_11_method_33_code 2 none ∈ xT := List.mem_filter.mpr ⟨List.mem_append_right _ (List.mem_of_getElem? (i := 862) (by decide +kernel)), by decide +kernel⟩
theorem tw_863 : Cond.methodLink "ProgramGateModel" 194 (⟨"ProgramGateModel", "load", "(II)V"⟩ : MethodName) ∈ xT := List.mem_filter.mpr ⟨List.mem_append_right _ (List.mem_of_getElem? (i := 863) (by decide +kernel)), by decide +kernel⟩
theorem tw_865 : Cond.instanceMethod (⟨"ProgramGateModel", "load", "(II)V"⟩ : MethodName) ∈ xT := List.mem_filter.mpr ⟨List.mem_append_right _ (List.mem_of_getElem? (i := 865) (by decide +kernel)), by decide +kernel⟩
theorem tw_866 : Cond.code (⟨"ProgramGateModel", "load", "(II)V"⟩ : MethodName) prog_11_method_34_code 4 none ∈ xT := List.mem_filter.mpr ⟨List.mem_append_right _ (List.mem_of_getElem? (i := 866) (by decide +kernel)), by decide +kernel⟩
theorem tw_867 : Cond.constantLong "ProgramGateModel" 164 65535 ∈ xT := List.mem_filter.mpr ⟨List.mem_append_right _ (List.mem_of_getElem? (i := 867) (by decide +kernel)), by decide +kernel⟩
theorem tw_876 : Cond.constantLong "ProgramGateModel" 206 4611686018427387904 ∈ xT := List.mem_filter.mpr ⟨List.mem_append_right _ (List.mem_of_getElem? (i := 876) (by decide +kernel)), by decide +kernel⟩
theorem tw_881 : Cond.methodLink "ProgramGateModel" 215 (⟨"ProgramGateModel", "refuse", "(I)I"⟩ : MethodName) ∈ xT := List.mem_filter.mpr ⟨List.mem_append_right _ (List.mem_of_getElem? (i := 881) (by decide +kernel)), by decide +kernel⟩
theorem tw_883 : Cond.instanceMethod (⟨"ProgramGateModel", "refuse", "(I)I"⟩ : MethodName) ∈ xT := List.mem_filter.mpr ⟨List.mem_append_right _ (List.mem_of_getElem? (i := 883) (by decide +kernel)), by decide +kernel⟩
theorem tw_884 : Cond.code (⟨"ProgramGateModel", "refuse", "(I)I"⟩ : MethodName) prog_11_method_3_code 2 (some .int) ∈ xT := List.mem_filter.mpr ⟨List.mem_append_right _ (List.mem_of_getElem? (i := 884) (by decide +kernel)), by decide +kernel⟩
theorem tw_885 : Cond.methodLink "ProgramGateModel" 219 (⟨"ProgramGateModel", "reckon", "(III)I"⟩ : MethodName) ∈ xT := List.mem_filter.mpr ⟨List.mem_append_right _ (List.mem_of_getElem? (i := 885) (by decide +kernel)), by decide +kernel⟩
theorem tw_886 : Cond.static (⟨"ProgramGateModel", "reckon", "(III)I"⟩ : MethodName) ∈ xT := List.mem_filter.mpr ⟨List.mem_append_right _ (List.mem_of_getElem? (i := 886) (by decide +kernel)), by decide +kernel⟩
theorem tw_887 : Cond.code (⟨"ProgramGateModel", "reckon", "(III)I"⟩ : MethodName) prog_11_method_42_code 3 (some .int) ∈ xT := List.mem_filter.mpr ⟨List.mem_append_right _ (List.mem_of_getElem? (i := 887) (by decide +kernel)), by decide +kernel⟩
theorem tw_888 : Cond.methodLink "ProgramGateModel" 208 (⟨"ProgramGateModel", "unsignedRest", "(II)I"⟩ : MethodName) ∈ xT := List.mem_filter.mpr ⟨List.mem_append_right _ (List.mem_of_getElem? (i := 888) (by decide +kernel)), by decide +kernel⟩
theorem tw_889 : Cond.static (⟨"ProgramGateModel", "unsignedRest", "(II)I"⟩ : MethodName) ∈ xT := List.mem_filter.mpr ⟨List.mem_append_right _ (List.mem_of_getElem? (i := 889) (by decide +kernel)), by decide +kernel⟩
theorem tw_890 : Cond.code (⟨"ProgramGateModel", "unsignedRest", "(II)I"⟩ : MethodName) prog_11_method_41_code 2 (some .int) ∈ xT := List.mem_filter.mpr ⟨List.mem_append_right _ (List.mem_of_getElem? (i := 890) (by decide +kernel)), by decide +kernel⟩
theorem tw_891 : Cond.methodLink "ProgramGateModel" 223 (⟨"ProgramGateModel", "bytesAt", "(II)I"⟩ : MethodName) ∈ xT := List.mem_filter.mpr ⟨List.mem_append_right _ (List.mem_of_getElem? (i := 891) (by decide +kernel)), by decide +kernel⟩
theorem tw_893 : Cond.instanceMethod (⟨"ProgramGateModel", "bytesAt", "(II)I"⟩ : MethodName) ∈ xT := List.mem_filter.mpr ⟨List.mem_append_right _ (List.mem_of_getElem? (i := 893) (by decide +kernel)), by decide +kernel⟩
theorem tw_894 : Cond.code (⟨"ProgramGateModel", "bytesAt", "(II)I"⟩ : MethodName) prog_11_method_44_code 5 (some .int) ∈ xT := List.mem_filter.mpr ⟨List.mem_append_right _ (List.mem_of_getElem? (i := 894) (by decide +kernel)), by decide +kernel⟩
theorem tw_895 : Cond.methodLink "ProgramGateModel" 226 (⟨"ProgramGateModel", "holds", "(III)Z"⟩ : MethodName) ∈ xT := List.mem_filter.mpr ⟨List.mem_append_right _ (List.mem_of_getElem? (i := 895) (by decide +kernel)), by decide +kernel⟩
theorem tw_896 : Cond.static (⟨"ProgramGateModel", "holds", "(III)Z"⟩ : MethodName) ∈ xT := List.mem_filter.mpr ⟨List.mem_append_right _ (List.mem_of_getElem? (i := 896) (by decide +kernel)), by decide +kernel⟩
theorem tw_897 : Cond.code (⟨"ProgramGateModel", "holds", "(III)Z"⟩ : MethodName) prog_11_method_43_code 5 (some .boolean) ∈ xT := List.mem_filter.mpr ⟨List.mem_append_right _ (List.mem_of_getElem? (i := 897) (by decide +kernel)), by decide +kernel⟩
theorem xw_objinst : Cond.instanceMethod Lib.objectInit ∈ xT := tw_26
theorem xw_objcode : Cond.code Lib.objectInit ⟨#[0xb1]⟩ 1 none ∈ xT := List.mem_filter.mpr ⟨List.mem_append_right _ (List.mem_of_getElem? (i := 27) (by decide +kernel)), by decide +kernel⟩
theorem nw_0 : ("ProgramGate$Program", 17, (⟨"ProgramGate$Instruction", "<init>", "()V"⟩ : MethodName), "ProgramGate") ∈ xNw := List.mem_of_getElem? (i := 0) rfl
theorem nw_1 : ("ProgramGate", 18, (⟨"ProgramGate$Packet", "<init>", "()V"⟩ : MethodName), "ProgramGate") ∈ xNw := List.mem_of_getElem? (i := 1) rfl
theorem nw_2 : ("ProgramGate$State", 20, (⟨"ProgramGate$Known", "<init>", "()V"⟩ : MethodName), "ProgramGate") ∈ xNw := List.mem_of_getElem? (i := 2) rfl
theorem nw_3 : ("ProgramGate$Walker", 28, (⟨"ProgramGate$Known", "<init>", "()V"⟩ : MethodName), "ProgramGate") ∈ xNw := List.mem_of_getElem? (i := 3) rfl
theorem nw_4 : ("ProgramGate$Known", 49, (⟨"ProgramGate", "unsigned", "(I)J"⟩ : MethodName), "ProgramGate") ∈ xNw := List.mem_of_getElem? (i := 4) rfl
theorem nw_5 : ("ProgramGate$Operation", 76, (⟨"ProgramGate", "isInt", "(J)Z"⟩ : MethodName), "ProgramGate") ∈ xNw := List.mem_of_getElem? (i := 5) rfl
theorem nw_6 : ("ProgramGate$Machine", 80, (⟨"ProgramGate", "unsigned", "(I)J"⟩ : MethodName), "ProgramGate") ∈ xNw := List.mem_of_getElem? (i := 6) rfl
end
section
def xfix {α : Type} (b : α) (s : α → α) : Nat → α
  | 0 => b
  | n + 1 => s (xfix b s n)
theorem xfix_ind {α : Type} {b : α} {s : α → α} {P : α → Prop} (h0 : P b) (h1 : ∀ r, P r → P (s r)) : ∀ n, P (xfix b s n)
  | 0 => h0
  | n + 1 => h1 _ (xfix_ind h0 h1 n)
/-! Worlds as functions, and the judgement xK: a method's frame, with everything that stays the same hidden. -/
abbrev xe : Type := (Nat × vp_A) ⊕ (Nat × List Value)
abbrev xw : Type := Nat → Option xe
def xtr (cT : Nat → ClassId) (x : xe) : va_E := match x with
  | .inl q => .inl (cT q.1, q.2)
  | .inr o => .inr o
/-- every entry of the world lies in the heap -/
def xH (D : va_G) (cT : Nat → ClassId) (w : xw) (H : Heap) : Prop := ∀ (a : Nat) (x : xe), w a = some x → va_at D xcl (a, xtr cT x) H
def xA (w : xw) (sz : Nat) : Nat → Prop := fun q => (w q).isSome = true ∨ sz ≤ q
def xJ (D : va_G) (cT : Nat → ClassId) (A : Nat → Prop) (H0 : Heap) (w : xw) (sz : Nat) (H : Heap) (locs : List Loc) : Prop := xH D cT w H ∧ va_S A H0 H locs ∧ (∀ a, (w a).isSome = true → A a) ∧ H.size = sz ∧ ∀ q, H0.size ≤ q → A q
def xE (U : State) : Prop := (∀ x ∈ xNw, va_Nw (.methodLinkNest x.1 x.2.1 x.2.2.1 x.2.2.2) U) ∧ ∀ C ∈ xAO, va_AO C U
theorem xE.warm {s U : State} (hW : s.WarmedH U.vm) (h : xE s) : xE U := ⟨fun x hx => va_Nw.warmM hW (h.1 x hx), fun C hC => va_AO.moved hW.alike (h.2 C hC)⟩
theorem xE.same {s U : State} (hv : s.vm = U.vm) (h : xE s) : xE U := ⟨fun x hx => va_Nw.same rfl hv (h.1 x hx), fun C hC => va_AO.moved (by rw [hv]; exact Vm.Alike.refl _) (h.2 C hC)⟩
def xZ (p : Program) (s : State) (m : MethodId) (c : Code) (cc : ByteArray) (args : Array Value) (own : String) (D : va_G) (cT : Nat → ClassId) : Prop := p.tables.exec = Jvm.exec ∧ c.code = cc ∧ s.vm.findClass own = some m.cls ∧ (∀ x ∈ xT, x.before args s = true) ∧ va_K D xcl (xtys cT) s ∧ xE s
def xC (ci : Nat) (C : String) (T : u_T) (N : Nat) (ty : Nat → FieldType) : Prop := xcl[ci]? = some (C, T, N) ∧ (∀ x ∈ u_ws C T N, x ∈ xT) ∧ (∀ k, k < N → parseFieldDescriptor (T k).2.2.1 = some (ty k)) ∧ ∀ a, a < N → ∀ b, b < N → a ≠ b → (T a).2.1 ≠ (T b).2.1
def xB (D : va_G) (cT : Nat → ClassId) (w : xw) (sz : Nat) (U : State) : Prop := xH D cT w U.heap ∧ U.heap.size = sz ∧ va_K D xcl (xtys cT) U ∧ xE U
abbrev xR : Type := Option Value × xw × Nat
def xQ (D : va_G) (cT : Nat → ClassId) (w : xw) (sz : Nat) (r : xR) : Array Value → State → Outcome → State → Prop := fun _ st oc t => oc = .returned r.1 ∧ xH D cT r.2.1 t.heap ∧ t.heap.size = r.2.2 ∧ (∀ a, (r.2.1 a).isSome = true → xA w sz a) ∧ va_F (xA w sz) st t
def xM (l : Launch) (y : MethodName) (bytes : ByteArray) (maxL : Nat) (ret : Option FieldType) (R : Room) (D : va_G) (cT : Nat → ClassId) (as : List Value) (w : xw) (sz : Nat) (r : xR) : Prop :=
  Met l y (.code y bytes maxL ret :: xT) R (va_Pc as (xB D cT w sz)) (xQ D cT w sz r) R.cells R.slots (xA w sz)
/-- launch, class numbers, array classes, arguments, world and size at the start -/
abbrev xX : Type := Launch × va_G × (Nat → ClassId) × List Value × xw × Nat
def xK (cc : ByteArray) (nL : Nat) (own nm : String) (ret : Option FieldType) (R : Room) (X : xX) (lv : List (Nat × Value)) (st : List Value) (w : xw) (sz cl sl pc : Nat) (r : xR) : Prop :=
  ∀ (p : Program) (e : Env) (s : State) (m : MethodId) (below : List Frame) (meth : Method) (c : Code) (H : Heap) (locs : List Loc) (ls : Array Slot),
    xZ p s m c cc X.2.2.2.1.toArray own X.2.1 X.2.2.1 → c.maxLocals = nL → meth.name = nm → meth.sig.returnType = ret → meth.locks = false → xJ X.2.1 X.2.2.1 (xA X.2.2.2.2.1 X.2.2.2.2.2) s.heap w sz H locs → lv_has ls nL lv →
    W p X.1 e R s m X.2.2.2.1.toArray below meth c H locs cl sl (MQ below (xQ X.2.1 X.2.2.1 X.2.2.2.2.1 X.2.2.2.2.2 r) X.2.2.2.1.toArray s R.cells R.slots (xA X.2.2.2.2.1 X.2.2.2.2.2)) (F0 m pc ls st)
def xD (cc : ByteArray) (pc : Nat) (i : Instr) (n pc' : Nat) : Prop := decode cc pc = .ok (i, n) ∧ pc' = pc + n
theorem xd_of {cc : ByteArray} {pc : Nat} {i : Instr} {n pc' : Nat} (h : (decide (decode cc pc = .ok (i, n)) && Nat.beq pc' (pc + n)) = true) : xD cc pc i n pc' := by
  rw [Bool.and_eq_true, decide_eq_true_eq] at h
  exact ⟨h.1, Nat.eq_of_beq_eq_true h.2⟩
theorem xb {α β : Type} {o : Option α} {k : α → Option β} {r : β} (h : o.bind k = some r) : ∃ x, o = some x ∧ k x = some r := by
  cases o with
  | none => cases h
  | some x => exact ⟨x, rfl, h⟩
theorem xif {ρ : Type} {c : Prop} {dc : Decidable c} {a b : Option ρ} {r : ρ} (h : (@ite _ c dc a b) = some r) : (c ∧ a = some r) ∨ (¬ c ∧ b = some r) := by
  by_cases hc : c
  · rw [if_pos hc] at h; exact Or.inl ⟨hc, h⟩
  · rw [if_neg hc] at h; exact Or.inr ⟨hc, h⟩
theorem xif0 {ρ : Type} {c : Prop} {dc : Decidable c} {b : Option ρ} {r : ρ} (h : (@ite _ c dc none b) = some r) : ¬ c ∧ b = some r := by
  by_cases hc : c
  · rw [if_pos hc] at h; cases h
  · rw [if_neg hc] at h; exact ⟨hc, h⟩
def xfI (w : xw) (a ci k : Nat) : Option Int32 := match w a with
  | some (.inr o) => if o.1 = ci then (match o.2[k]? with | some (.int x) => some x | _ => none) else none
  | _ => none
theorem xfI_inv {w : xw} {a ci k : Nat} {x : Int32} (h : xfI w a ci k = some x) : ∃ fs, w a = some (.inr (ci, fs)) ∧ fs[k]? = some (.int x) := by
  unfold xfI at h
  split at h
  · rename_i o ho
    obtain ⟨c, fs⟩ := o
    split at h
    · rename_i hc
      split at h
      · rename_i y hy
        cases h
        have hc : c = ci := hc
        subst hc
        exact ⟨fs, ho, hy⟩
      · cases h
    · cases h
  · cases h
def xfL (w : xw) (a ci k : Nat) : Option Int64 := match w a with
  | some (.inr o) => if o.1 = ci then (match o.2[k]? with | some (.long x) => some x | _ => none) else none
  | _ => none
theorem xfL_inv {w : xw} {a ci k : Nat} {x : Int64} (h : xfL w a ci k = some x) : ∃ fs, w a = some (.inr (ci, fs)) ∧ fs[k]? = some (.long x) := by
  unfold xfL at h
  split at h
  · rename_i o ho
    obtain ⟨c, fs⟩ := o
    split at h
    · rename_i hc
      split at h
      · rename_i y hy
        cases h
        have hc : c = ci := hc
        subst hc
        exact ⟨fs, ho, hy⟩
      · cases h
    · cases h
  · cases h
def xfR (w : xw) (a ci k : Nat) : Option Nat := match w a with
  | some (.inr o) => if o.1 = ci then (match o.2[k]? with | some (.ref x) => some x | _ => none) else none
  | _ => none
theorem xfR_inv {w : xw} {a ci k : Nat} {x : Nat} (h : xfR w a ci k = some x) : ∃ fs, w a = some (.inr (ci, fs)) ∧ fs[k]? = some (.ref x) := by
  unfold xfR at h
  split at h
  · rename_i o ho
    obtain ⟨c, fs⟩ := o
    split at h
    · rename_i hc
      split at h
      · rename_i y hy
        cases h
        have hc : c = ci := hc
        subst hc
        exact ⟨fs, ho, hy⟩
      · cases h
    · cases h
  · cases h
def xck (w : xw) (a ci : Nat) : Option Unit := match w a with
  | some (.inr o) => if o.1 = ci then some () else none
  | _ => none
theorem xck_inv {w : xw} {a ci : Nat} {u : Unit} (h : xck w a ci = some u) : ∃ fs, w a = some (.inr (ci, fs)) := by
  unfold xck at h
  split at h
  · rename_i o ho
    obtain ⟨c, fs⟩ := o
    split at h
    · rename_i hc
      have hc : c = ci := hc
      subst hc
      exact ⟨fs, ho⟩
    · cases h
  · cases h
def xpV (w : xw) (a ci k : Nat) (v : Value) : Option xw := match w a with
  | some (.inr o) => if o.1 = ci ∧ k < o.2.length then some (va_up w a (some (.inr (ci, o.2.set k v)))) else none
  | _ => none
def xpI (w : xw) (a ci k : Nat) (x : Int32) : Option xw := xpV w a ci k (.int x)
def xpL (w : xw) (a ci k : Nat) (x : Int64) : Option xw := xpV w a ci k (.long x)
def xpR (w : xw) (a ci k : Nat) (x : Nat) : Option xw := xpV w a ci k (.ref x)
def xpZ (w : xw) (a ci k : Nat) (x : Int32) : Option xw := if x = 0 ∨ x = 1 then xpV w a ci k (.int x) else none
theorem xpV_inv {w w1 : xw} {a ci k : Nat} {v : Value} (h : xpV w a ci k v = some w1) : ∃ fs, w a = some (.inr (ci, fs)) ∧ k < fs.length ∧ w1 = va_up w a (some (.inr (ci, fs.set k v))) := by
  unfold xpV at h
  split at h
  · rename_i o ho
    obtain ⟨c, fs⟩ := o
    split at h
    · rename_i hc
      cases h
      obtain ⟨hc1, hc2⟩ := hc
      have hc1 : c = ci := hc1
      subst hc1
      exact ⟨fs, ho, hc2, rfl⟩
    · cases h
  · cases h
-- arrays: tags 0 int, 1 long, 2 boolean, 3 .. 5 references
def xaI (w : xw) (a : Nat) (i : Int32) : Option Int32 := match w a with
  | some (.inl (t, n, .inl f)) => if t = 0 ∧ ¬ (i < 0 ∨ n ≤ i.toNatClampNeg) then some (f i.toNatClampNeg) else none
  | _ => none
def xaZ (w : xw) (a : Nat) (i : Int32) : Option Int32 := match w a with
  | some (.inl (t, n, .inl f)) => if t = 2 ∧ ¬ (i < 0 ∨ n ≤ i.toNatClampNeg) then some (f i.toNatClampNeg) else none
  | _ => none
def xaL (w : xw) (a : Nat) (i : Int32) : Option Int64 := match w a with
  | some (.inl (t, n, .inr (.inl f))) => if t = 1 ∧ ¬ (i < 0 ∨ n ≤ i.toNatClampNeg) then some (f i.toNatClampNeg) else none
  | _ => none
def xaR (w : xw) (a : Nat) (i : Int32) : Option Nat := match w a with
  | some (.inl (t, n, .inr (.inr (.inr (.inr f))))) => if (3 ≤ t ∧ t < 6) ∧ ¬ (i < 0 ∨ n ≤ i.toNatClampNeg) then f i.toNatClampNeg else none
  | _ => none
def xsI (w : xw) (a : Nat) (i x : Int32) : Option xw := match w a with
  | some (.inl (t, n, .inl f)) => if t = 0 ∧ ¬ (i < 0 ∨ n ≤ i.toNatClampNeg) then some (va_up w a (some (.inl (0, n, .inl (upd f i.toNatClampNeg x))))) else none
  | _ => none
def xsZ (w : xw) (a : Nat) (i x : Int32) : Option xw := match w a with
  | some (.inl (t, n, .inl f)) => if t = 2 ∧ (x = 0 ∨ x = 1) ∧ ¬ (i < 0 ∨ n ≤ i.toNatClampNeg) then some (va_up w a (some (.inl (2, n, .inl (upd f i.toNatClampNeg x))))) else none
  | _ => none
def xsL (w : xw) (a : Nat) (i : Int32) (x : Int64) : Option xw := match w a with
  | some (.inl (t, n, .inr (.inl f))) => if t = 1 ∧ ¬ (i < 0 ∨ n ≤ i.toNatClampNeg) then some (va_up w a (some (.inl (1, n, .inr (.inl (vp_updL f i.toNatClampNeg x)))))) else none
  | _ => none
-- a boolean's end
def xrZ (x : Int32) (w : xw) : Option (Int32 × xw) := if x = 0 ∨ x = 1 then some (x, w) else none
def xrZ0 (x : Int32) : Option Int32 := if x = 0 ∨ x = 1 then some x else none
theorem xaI_inv {w : xw} {a : Nat} {i : Int32} {y : Int32} (h : xaI w a i = some y) : ∃ n f, w a = some (.inl (0, n, .inl f)) ∧ vp_in i n ∧ f i.toNatClampNeg = y := by
  unfold xaI at h
  split at h
  · rename_i t n f ho
    split at h
    · rename_i hc
      obtain ⟨ht, hi⟩ := hc
      subst ht
      exact ⟨n, f, ho, hi, Option.some.inj h⟩
    · cases h
  · cases h
theorem xaZ_inv {w : xw} {a : Nat} {i : Int32} {y : Int32} (h : xaZ w a i = some y) : ∃ n f, w a = some (.inl (2, n, .inl f)) ∧ vp_in i n ∧ f i.toNatClampNeg = y := by
  unfold xaZ at h
  split at h
  · rename_i t n f ho
    split at h
    · rename_i hc
      obtain ⟨ht, hi⟩ := hc
      subst ht
      exact ⟨n, f, ho, hi, Option.some.inj h⟩
    · cases h
  · cases h
theorem xaL_inv {w : xw} {a : Nat} {i : Int32} {y : Int64} (h : xaL w a i = some y) : ∃ n f, w a = some (.inl (1, n, .inr (.inl f))) ∧ vp_in i n ∧ f i.toNatClampNeg = y := by
  unfold xaL at h
  split at h
  · rename_i t n f ho
    split at h
    · rename_i hc
      obtain ⟨ht, hi⟩ := hc
      subst ht
      exact ⟨n, f, ho, hi, Option.some.inj h⟩
    · cases h
  · cases h
theorem xaR_inv {w : xw} {a : Nat} {i : Int32} {y : Nat} (h : xaR w a i = some y) : ∃ t n f, w a = some (.inl (t, n, .inr (.inr (.inr (.inr f))))) ∧ (3 ≤ t ∧ t < 6) ∧ vp_in i n ∧ f i.toNatClampNeg = some y := by
  unfold xaR at h
  split at h
  · rename_i t n f ho
    split at h
    · rename_i hc
      exact ⟨t, n, f, ho, hc.1, hc.2, h⟩
    · cases h
  · cases h
theorem xsI_inv {w w1 : xw} {a : Nat} {i : Int32} {x : Int32} (h : xsI w a i x = some w1) : ∃ n f, w a = some (.inl (0, n, .inl f)) ∧ vp_in i n ∧ w1 = va_up w a (some (.inl (0, n, .inl (upd f i.toNatClampNeg x)))) := by
  unfold xsI at h
  split at h
  · rename_i t n f ho
    split at h
    · rename_i hc
      obtain ⟨ht, hi⟩ := hc
      subst ht
      exact ⟨n, f, ho, hi, (Option.some.inj h).symm⟩
    · cases h
  · cases h
theorem xsL_inv {w w1 : xw} {a : Nat} {i : Int32} {x : Int64} (h : xsL w a i x = some w1) : ∃ n f, w a = some (.inl (1, n, .inr (.inl f))) ∧ vp_in i n ∧ w1 = va_up w a (some (.inl (1, n, .inr (.inl (vp_updL f i.toNatClampNeg x))))) := by
  unfold xsL at h
  split at h
  · rename_i t n f ho
    split at h
    · rename_i hc
      obtain ⟨ht, hi⟩ := hc
      subst ht
      exact ⟨n, f, ho, hi, (Option.some.inj h).symm⟩
    · cases h
  · cases h
theorem xsZ_inv {w w1 : xw} {a : Nat} {i x : Int32} (h : xsZ w a i x = some w1) : ∃ n f, w a = some (.inl (2, n, .inl f)) ∧ (x = 0 ∨ x = 1) ∧ vp_in i n ∧ w1 = va_up w a (some (.inl (2, n, .inl (upd f i.toNatClampNeg x)))) := by
  unfold xsZ at h
  split at h
  · rename_i t n f ho
    split at h
    · rename_i hc
      obtain ⟨ht, hx, hi⟩ := hc
      subst ht
      exact ⟨n, f, ho, hx, hi, (Option.some.inj h).symm⟩
    · cases h
  · cases h
theorem xrZ_inv {x : Int32} {w : xw} {ro : Int32 × xw} (h : xrZ x w = some ro) : (x = 0 ∨ x = 1) ∧ ro = (x, w) := by
  unfold xrZ at h
  split at h
  · rename_i hc; exact ⟨hc, (Option.some.inj h).symm⟩
  · cases h
theorem xrZ0_inv {x ro : Int32} (h : xrZ0 x = some ro) : (x = 0 ∨ x = 1) ∧ ro = x := by
  unfold xrZ0 at h
  split at h
  · rename_i hc; exact ⟨hc, (Option.some.inj h).symm⟩
  · cases h
theorem xnar {x : Int32} (h : x = 0 ∨ x = 1) : narrow .boolean (.int x) = .int x ∧ fits .boolean (.int x) = true ∧ vp_nar .boolean x = x := by
  rcases h with rfl | rfl <;> exact ⟨by decide, by decide, by decide⟩
theorem xT_good : GoodIn xT xT := fun x h => ⟨h, good_of_word (List.mem_filter.mp h).2⟩
theorem xgood {y : MethodName} {bytes : ByteArray} {maxL : Nat} {ret : Option FieldType} (h : Cond.code y bytes maxL ret ∈ xT) : GoodIn xT (.code y bytes maxL ret :: xT) := fun x hx => by
  rcases List.mem_cons.mp hx with rfl | hx
  · exact xT_good _ h
  · exact xT_good _ hx
theorem xP1 {D : va_G} {q : Nat × va_E} {H : Heap} (h : va_at D xcl q H) : va_P D xcl [q] H := by
  intro k z hk
  cases k with
  | zero => cases hk; exact h
  | succ k => simp at hk
/-- a write -/
theorem xJ.put {D : va_G} {cT : Nat → ClassId} {A : Nat → Prop} {H0 H H1 : Heap} {w : xw} {sz a k : Nat} {x0 x : xe} {locs : List Loc} (J : xJ D cT A H0 w sz H locs) (he : w a = some x0) (hat : va_at D xcl (a, xtr cT x) H1) (z : H1.size = H.size) (oq : ∀ q : Nat, q ≠ a → H1[q]? = H[q]?) : xJ D cT A H0 (va_up w a (some x)) sz H1 (locs ++ [⟨a, k⟩]) := by
  obtain ⟨hH, hS, hA, hsz, hA2⟩ := J
  have ha : A a := hA a (by rw [he]; rfl)
  refine ⟨fun b y hb => ?_, hS.put z oq ha, fun b hb => ?_, z.trans hsz, hA2⟩
  · by_cases h : b = a
    · subst h
      rw [va_up_self] at hb
      cases hb
      exact hat
    · rw [va_up_ne w (some x) h] at hb
      exact (hH b y hb).kept (oq b h)
  · by_cases h : b = a
    · rw [h]; exact ha
    · rw [va_up_ne w (some x) h] at hb; exact hA b hb

section XG
variable {p : Program} {l : Launch} {e : Env} {R : Room} {s : State} {m : MethodId} {args : Array Value} {below : List Frame} {meth : Method} {c : Code} {H : Heap} {locs : List Loc} {cells slots : Nat} {Q : State → Prop}
variable {cc : ByteArray} {pc : Nat} {ls : Array Slot} {rest st0 : List Value} {D : va_G} {cT : Nat → ClassId} {A : Nat → Prop} {H0 : Heap} {w w0 w1 : xw} {own C : String} {T : u_T} {N ci index a sz : Nat} {ty : Nat → FieldType}
theorem xg_getV (Z : xZ p s m c cc args own D cT) (J : xJ D cT A H0 w sz H locs) (K : xC ci C T N ty) (k : Nat) (hk : k < N) (hl : Cond.fieldLink own index C (T k).2.1 (T k).2.2.1 ∈ xT) (hc : (T k).1 = C) {fs : List Value} {v : Value} (he : w a = some (.inr (ci, fs))) (hv : fs[k]? = some v) (hdg : decode cc pc = .ok (.getfield index, 3))
    (kk : W p l e R s m args below meth c H locs cells slots Q (F0 m (pc + 3) ls (v :: rest))) : W p l e R s m args below meth c H locs cells slots Q (F0 m pc ls (.ref a :: rest)) :=
  va_get (D := D) (ws := [(a, .inr (ci, fs))]) (ref := C) Z.1 Z.2.1 Z.2.2.2.1 K.2.1 Z.2.2.1 Z.2.2.2.2.1 (xP1 (J.1 a _ he)) 0 rfl K.1 k hk (Z.2.2.2.1 _ hl) (fun x h => by rw [hc] at h; exact h) hv hdg kk
theorem xg_putV (Z : xZ p s m c cc args own D cT) (J : xJ D cT A H0 w sz H locs) (K : xC ci C T N ty) (k : Nat) (hk : k < N) (hl : Cond.fieldLink own index C (T k).2.1 (T k).2.2.1 ∈ xT) (hc : (T k).1 = C) (hfin : (T k).2.2.2 = false) {v : Value} (hn : narrow (ty k) v = v) (hfit : fits (ty k) v = true) (hdg : decode cc pc = .ok (.putfield index, 3)) (hw1 : xpV w a ci k v = some w1)
    (kk : ∀ (H1 : Heap) (locs1 : List Loc), xJ D cT A H0 w1 sz H1 locs1 → W p l e R s m args below meth c H1 locs1 cells slots Q (F0 m (pc + 3) ls rest)) : W p l e R s m args below meth c H locs cells slots Q (F0 m pc ls (v :: .ref a :: rest)) := by
  obtain ⟨fs, he, hlen, rfl⟩ := xpV_inv hw1
  have hts := Z.2.2.2.1
  have hap := va_apart (own := own) hts K.2.1 ty K.2.2.1 K.2.2.2 Z.2.2.2.2.1 K.1
  obtain ⟨r, h1, cell, q1, q2, q3, q4⟩ := J.1 a _ he
  have hr : r = (C, T, N) := Option.some.inj (h1.symm.trans K.1)
  subst hr
  obtain ⟨hS, hfc, kC, hkC, hkind⟩ := Z.2.2.2.2.1.1 ci _ K.1
  obtain ⟨cf, kf, fi, f, hi, hsl⟩ := hS k hk
  have hlay := hts _ (K.2.1 _ (u_in_lay hk))
  unfold u_lay at hlay
  rw [if_neg (by rw [hfin]; decide)] at hlay
  have hst := (u_facts hfc hkC (u_lays hts K.2.1 hk) hi).1
  have h6 := u_store hfc hkC hkind hlay hi (K.2.2.1 k hk) hn hfit
  have hi2 : s.fieldFound? C (T k).2.1 (T k).2.2.1 = some (cf, kf, fi, f) := by rw [hc] at hi; exact hi
  refine W.putK Z.1 Z.2.1 (f := f) ⟨Z.2.2.1, hts _ hl, ⟨_, _, _, hi2⟩, hst⟩ (by rw [q2]; exact h6) q1 q3 (by rw [hsl]; exact k2_hasslot (q4 k hk)) rfl rfl hdg fun H' e1 e2 e3 => ?_
  rw [hsl] at e1 ⊢
  exact kk H' _ (J.put he ⟨_, K.1, t_OB.to (V := updV (vp_V fs) k v) ⟨_, e1, q2, q3, t_set q4 hap hk v⟩ (fun j _ => vp_updV_set hlen v j)⟩ e2 e3)
theorem xg_putF (Z : xZ p s m c cc args own D cT) (J : xJ D cT A H0 w sz H locs) (K : xC ci C T N ty) (k : Nat) (hk : k < N) (hl : Cond.fieldLink own index C (T k).2.1 (T k).2.2.1 ∈ xT) (hc : (T k).1 = C) (hfin : (T k).2.2.2 = true) (hin2 : meth.name = "<init>") (hdecl : C = own) {v : Value} (hn : narrow (ty k) v = v) (hfit : fits (ty k) v = true) (hdg : decode cc pc = .ok (.putfield index, 3)) (hw1 : xpV w a ci k v = some w1)
    (kk : ∀ (H1 : Heap) (locs1 : List Loc), xJ D cT A H0 w1 sz H1 locs1 → W p l e R s m args below meth c H1 locs1 cells slots Q (F0 m (pc + 3) ls rest)) : W p l e R s m args below meth c H locs cells slots Q (F0 m pc ls (v :: .ref a :: rest)) := by
  obtain ⟨fs, he, hlen, rfl⟩ := xpV_inv hw1
  have hts := Z.2.2.2.1
  have hap := va_apart (own := own) hts K.2.1 ty K.2.2.1 K.2.2.2 Z.2.2.2.2.1 K.1
  obtain ⟨r, h1, cell, q1, q2, q3, q4⟩ := J.1 a _ he
  have hr : r = (C, T, N) := Option.some.inj (h1.symm.trans K.1)
  subst hr
  obtain ⟨hS, hfc, kC, hkC, hkind⟩ := Z.2.2.2.2.1.1 ci _ K.1
  obtain ⟨cf, kf, fi, f, hi, hsl⟩ := hS k hk
  have hlay := hts _ (K.2.1 _ (u_in_lay hk))
  unfold u_lay at hlay
  rw [if_pos hfin] at hlay
  have hst := (u_facts hfc hkC (u_lays hts K.2.1 hk) hi).1
  have hcf : m.cls = cf := by
    obtain ⟨_, _, c', _, _, _, -, -, hf', -, -, -, hown2, -⟩ := Cond.laysFinal_spec hlay
    have e1 : c' = cf := by have := hi.symm.trans hf'; simp at this; exact this.1.symm
    rw [hc, hdecl] at hown2
    rw [← e1]; exact Option.some.inj (Z.2.2.1.symm.trans hown2)
  have h6 := u_fits hfc hkC hkind (Or.inr hlay) hi (K.2.2.1 k hk) hn hfit
  have hi2 : s.fieldFound? C (T k).2.1 (T k).2.2.1 = some (cf, kf, fi, f) := by rw [hc] at hi; exact hi
  refine W.putFinK Z.1 Z.2.1 Z.2.2.1 (hts _ hl) hi2 hst hcf hin2 (by rw [q2]; exact h6) q1 q3 (by rw [hsl]; exact k2_hasslot (q4 k hk)) rfl rfl hdg fun H' e1 e2 e3 => ?_
  rw [hsl] at e1 ⊢
  exact kk H' _ (J.put he ⟨_, K.1, t_OB.to (V := updV (vp_V fs) k v) ⟨_, e1, q2, q3, t_set q4 hap hk v⟩ (fun j _ => vp_updV_set hlen v j)⟩ e2 e3)
/-- behind a call -/
theorem xg_go {r : xR} {as : Array Value} {mc ms : Nat} (hr : va_Run p l e R s m args below meth c H locs cells slots mc ms (F0 m pc ls st0) rest (xQ D cT w sz r as) (xA w sz)) (J : xJ D cT A H0 w sz H locs)
    (kk : ∀ (H1 : Heap) (locs1 : List Loc), xJ D cT A H0 r.2.1 r.2.2 H1 locs1 → W p l e R s m args below meth c H1 locs1 (cells + mc) (slots + ms) Q (F0 m (pc + 3) ls (r.1.toList ++ rest))) : W p l e R s m args below meth c H locs cells slots Q (F0 m pc ls st0) := by
  intro T hT X
  obtain ⟨v, st₀, t, T', L, h0, X', hL, e1, e2, ⟨hv, hH, hsz, hdom, hz, hk⟩, st⟩ := hr T hT X
  cases hv
  rw [h0] at hz hk
  obtain ⟨hH0, hS, hA, hsz0, hA2⟩ := J
  have hin : ∀ q, xA w sz q → A q := fun q z => z.elim (hA q) (fun z => hA2 q (Nat.le_trans hS.1 (by rw [hsz0]; exact z)))
  obtain ⟨t2, a1, b1⟩ := kk T'.heap (locs ++ L) ⟨by rw [e1]; exact hH, ⟨Nat.le_trans hS.1 (by rw [e1]; exact hz), fun q h1 h2 => by
      rw [e1, hk q (Nat.lt_of_lt_of_le h1 hS.1) (fun z => h2 (hin q z))]; exact hS.2.1 q h1 h2, fun q hq => by
      rcases List.mem_append.mp hq with h | h
      · exact hS.2.2 q h
      · exact hin _ (hL q h)⟩, fun a h => hin a (hdom a h), by rw [e1]; exact hsz, hA2⟩ T' rfl X'
  exact ⟨t2, st t2 a1, b1⟩
theorem xg_blind {as : List Value} : FrameBlind (va_Pc as (xB D cT w sz)) := fun a U g mk q => by
  obtain ⟨q0, q1, q2, q3, q4⟩ := q
  exact ⟨q0, q1, q2, va_K.moved (u := U) (U := U.calling g mk a) (Vm.Alike.refl U.vm) q3, xE.same (U := U.calling g mk a) rfl q4⟩
theorem xg_pre {as : List Value} (Z : xZ p s m c cc args own D cT) (J : xJ D cT A H0 w sz H locs) : PreS s H (va_Pc as (xB D cT w sz)) as := ⟨xg_blind, fun U hU hW => ⟨rfl, by rw [hU]; exact J.1, by rw [hU]; exact J.2.2.2.1, va_K.moved hW.alike Z.2.2.2.2.1, xE.warm hW Z.2.2.2.2.2⟩⟩
end XG
def xY (y : MethodName) (n : Nat) : Prop := y.cls ≠ "java/lang/invoke/MethodHandle" ∧ y.cls ≠ "java/lang/invoke/VarHandle" ∧ (parseMethodDescriptor y.desc).map (fun d => d.parameters.length) = some n
/-- what a callee's words are -/
def xYS (y : MethodName) (bytes : ByteArray) (maxL : Nat) (ret : Option FieldType) (n : Nat) : Prop := Cond.code y bytes maxL ret ∈ xT ∧ Cond.static y ∈ xT ∧ Cond.initialized y.cls ∈ xT ∧ xY y n
def xYV (y : MethodName) (bytes : ByteArray) (maxL : Nat) (ret : Option FieldType) (n : Nat) : Prop := Cond.code y bytes maxL ret ∈ xT ∧ Cond.instanceMethod y ∈ xT ∧ Cond.initialized y.cls ∈ xT ∧ xY y n ∧ Cond.selects y.cls y y ∈ xT
def xYI (y : MethodName) (bytes : ByteArray) (maxL : Nat) (n : Nat) : Prop := Cond.code y bytes maxL none ∈ xT ∧ Cond.instanceMethod y ∈ xT ∧ Cond.initialized y.cls ∈ xT ∧ xY y n ∧ y.name = "<init>"
def xfit (R' : Room) (maxL : Nat) (R : Room) (cl sl : Nat) : Bool := Nat.ble (R'.frames + 1) R.frames && Nat.ble (8 + (maxL + 11) + R'.locals) R.locals && Nat.ble (cl + R'.cells) R.cells && Nat.ble (sl + R'.slots) R.slots
theorem xfit_of {R' R : Room} {maxL cl sl : Nat} (h : xfit R' maxL R cl sl = true) : (R'.frames + 1 ≤ R.frames ∧ 8 + (maxL + 11) + R'.locals ≤ R.locals) ∧ (cl + R'.cells ≤ R.cells ∧ sl + R'.slots ≤ R.slots) := by
  unfold xfit at h
  simp only [Bool.and_eq_true] at h
  exact ⟨⟨Nat.le_of_ble_eq_true h.1.1.1, Nat.le_of_ble_eq_true h.1.1.2⟩, Nat.le_of_ble_eq_true h.1.2, Nat.le_of_ble_eq_true h.2⟩
theorem xip {ρ : Type} {c : Prop} {dc : Decidable c} {a b : Option ρ} {r : ρ} (hc : c) (h : (@ite _ c dc a b) = some r) : a = some r := by rw [if_pos hc] at h; exact h
theorem xin {ρ : Type} {c : Prop} {dc : Decidable c} {a b : Option ρ} {r : ρ} (hc : ¬ c) (h : (@ite _ c dc a b) = some r) : b = some r := by rw [if_neg hc] at h; exact h
def xDJ (cc : ByteArray) (pc : Nat) (i : Instr) (off : Int) (tgt pc' : Nat) : Prop := decode cc pc = .ok (i, 3) ∧ pc' = pc + 3 ∧ (pc : Int) + off = (tgt : Int)
theorem xdj_of {cc : ByteArray} {pc : Nat} {i : Instr} {off : Int} {tgt pc' : Nat} (h : (decide (decode cc pc = .ok (i, 3)) && Nat.beq pc' (pc + 3) && decide ((pc : Int) + off = (tgt : Int))) = true) : xDJ cc pc i off tgt pc' := by
  rw [Bool.and_eq_true, Bool.and_eq_true, decide_eq_true_eq, decide_eq_true_eq] at h
  exact ⟨h.1.1, Nat.eq_of_beq_eq_true h.1.2, h.2⟩
section XO
variable {cc : ByteArray} {nL : Nat} {own nm : String} {ret : Option FieldType} {R : Room} {X : xX} {lv lv' : List (Nat × Value)} {st : List Value} {w : xw} {sz cl sl pc pc' tgt : Nat} {off : Int} {r : xR} {ρ : Type} {ro : ρ}
theorem xo_iadd {x y : Int32} (hd : xD cc pc .iadd 1 pc') (k : xK cc nL own nm ret R X lv (.int (x + y) :: st) w sz cl sl pc' r) : xK cc nL own nm ret R X lv (.int y :: .int x :: st) w sz cl sl pc r := by
  obtain ⟨hd, rfl⟩ := hd
  exact fun p e s m below meth c H locs ls Z hm hn hr hk J hl => lv_iadd Z.1 Z.2.1 hd (k p e s m below meth c H locs ls Z hm hn hr hk J hl)
theorem xo_isub {x y : Int32} (hd : xD cc pc .isub 1 pc') (k : xK cc nL own nm ret R X lv (.int (x - y) :: st) w sz cl sl pc' r) : xK cc nL own nm ret R X lv (.int y :: .int x :: st) w sz cl sl pc r := by
  obtain ⟨hd, rfl⟩ := hd
  exact fun p e s m below meth c H locs ls Z hm hn hr hk J hl => lv_isub Z.1 Z.2.1 hd (k p e s m below meth c H locs ls Z hm hn hr hk J hl)
theorem xo_imul {x y : Int32} (hd : xD cc pc .imul 1 pc') (k : xK cc nL own nm ret R X lv (.int (x * y) :: st) w sz cl sl pc' r) : xK cc nL own nm ret R X lv (.int y :: .int x :: st) w sz cl sl pc r := by
  obtain ⟨hd, rfl⟩ := hd
  exact fun p e s m below meth c H locs ls Z hm hn hr hk J hl => lv_imul Z.1 Z.2.1 hd (k p e s m below meth c H locs ls Z hm hn hr hk J hl)
theorem xo_iand {x y : Int32} (hd : xD cc pc .iand 1 pc') (k : xK cc nL own nm ret R X lv (.int (x &&& y) :: st) w sz cl sl pc' r) : xK cc nL own nm ret R X lv (.int y :: .int x :: st) w sz cl sl pc r := by
  obtain ⟨hd, rfl⟩ := hd
  exact fun p e s m below meth c H locs ls Z hm hn hr hk J hl => lv_iand Z.1 Z.2.1 hd (k p e s m below meth c H locs ls Z hm hn hr hk J hl)
theorem xo_ior {x y : Int32} (hd : xD cc pc .ior 1 pc') (k : xK cc nL own nm ret R X lv (.int (x ||| y) :: st) w sz cl sl pc' r) : xK cc nL own nm ret R X lv (.int y :: .int x :: st) w sz cl sl pc r := by
  obtain ⟨hd, rfl⟩ := hd
  exact fun p e s m below meth c H locs ls Z hm hn hr hk J hl => lv_ior Z.1 Z.2.1 hd (k p e s m below meth c H locs ls Z hm hn hr hk J hl)
theorem xo_ixor {x y : Int32} (hd : xD cc pc .ixor 1 pc') (k : xK cc nL own nm ret R X lv (.int (x ^^^ y) :: st) w sz cl sl pc' r) : xK cc nL own nm ret R X lv (.int y :: .int x :: st) w sz cl sl pc r := by
  obtain ⟨hd, rfl⟩ := hd
  exact fun p e s m below meth c H locs ls Z hm hn hr hk J hl => lv_ixor Z.1 Z.2.1 hd (k p e s m below meth c H locs ls Z hm hn hr hk J hl)
theorem xo_ladd {x y : Int64} (hd : xD cc pc .ladd 1 pc') (k : xK cc nL own nm ret R X lv (.long (x + y) :: st) w sz cl sl pc' r) : xK cc nL own nm ret R X lv (.long y :: .long x :: st) w sz cl sl pc r := by
  obtain ⟨hd, rfl⟩ := hd
  exact fun p e s m below meth c H locs ls Z hm hn hr hk J hl => lv_ladd Z.1 Z.2.1 hd (k p e s m below meth c H locs ls Z hm hn hr hk J hl)
theorem xo_lsub {x y : Int64} (hd : xD cc pc .lsub 1 pc') (k : xK cc nL own nm ret R X lv (.long (x - y) :: st) w sz cl sl pc' r) : xK cc nL own nm ret R X lv (.long y :: .long x :: st) w sz cl sl pc r := by
  obtain ⟨hd, rfl⟩ := hd
  exact fun p e s m below meth c H locs ls Z hm hn hr hk J hl => lv_lsub Z.1 Z.2.1 hd (k p e s m below meth c H locs ls Z hm hn hr hk J hl)
theorem xo_lmul {x y : Int64} (hd : xD cc pc .lmul 1 pc') (k : xK cc nL own nm ret R X lv (.long (x * y) :: st) w sz cl sl pc' r) : xK cc nL own nm ret R X lv (.long y :: .long x :: st) w sz cl sl pc r := by
  obtain ⟨hd, rfl⟩ := hd
  exact fun p e s m below meth c H locs ls Z hm hn hr hk J hl => lv_lmul Z.1 Z.2.1 hd (k p e s m below meth c H locs ls Z hm hn hr hk J hl)
theorem xo_land {x y : Int64} (hd : xD cc pc .land 1 pc') (k : xK cc nL own nm ret R X lv (.long (x &&& y) :: st) w sz cl sl pc' r) : xK cc nL own nm ret R X lv (.long y :: .long x :: st) w sz cl sl pc r := by
  obtain ⟨hd, rfl⟩ := hd
  exact fun p e s m below meth c H locs ls Z hm hn hr hk J hl => lv_land Z.1 Z.2.1 hd (k p e s m below meth c H locs ls Z hm hn hr hk J hl)
theorem xo_lor {x y : Int64} (hd : xD cc pc .lor 1 pc') (k : xK cc nL own nm ret R X lv (.long (x ||| y) :: st) w sz cl sl pc' r) : xK cc nL own nm ret R X lv (.long y :: .long x :: st) w sz cl sl pc r := by
  obtain ⟨hd, rfl⟩ := hd
  exact fun p e s m below meth c H locs ls Z hm hn hr hk J hl => lv_lor Z.1 Z.2.1 hd (k p e s m below meth c H locs ls Z hm hn hr hk J hl)
theorem xo_lxor {x y : Int64} (hd : xD cc pc .lxor 1 pc') (k : xK cc nL own nm ret R X lv (.long (x ^^^ y) :: st) w sz cl sl pc' r) : xK cc nL own nm ret R X lv (.long y :: .long x :: st) w sz cl sl pc r := by
  obtain ⟨hd, rfl⟩ := hd
  exact fun p e s m below meth c H locs ls Z hm hn hr hk J hl => lv_lxor Z.1 Z.2.1 hd (k p e s m below meth c H locs ls Z hm hn hr hk J hl)
theorem xo_ishl {x y : Int32} (hd : xD cc pc .ishl 1 pc') (k : xK cc nL own nm ret R X lv (.int (x <<< (y &&& 31)) :: st) w sz cl sl pc' r) : xK cc nL own nm ret R X lv (.int y :: .int x :: st) w sz cl sl pc r := by
  obtain ⟨hd, rfl⟩ := hd
  exact fun p e s m below meth c H locs ls Z hm hn hr hk J hl => lv_ishl Z.1 Z.2.1 hd (k p e s m below meth c H locs ls Z hm hn hr hk J hl)
theorem xo_ishr {x y : Int32} (hd : xD cc pc .ishr 1 pc') (k : xK cc nL own nm ret R X lv (.int (x >>> (y &&& 31)) :: st) w sz cl sl pc' r) : xK cc nL own nm ret R X lv (.int y :: .int x :: st) w sz cl sl pc r := by
  obtain ⟨hd, rfl⟩ := hd
  exact fun p e s m below meth c H locs ls Z hm hn hr hk J hl => lv_ishr Z.1 Z.2.1 hd (k p e s m below meth c H locs ls Z hm hn hr hk J hl)
theorem xo_iushr {x y : Int32} (hd : xD cc pc .iushr 1 pc') (k : xK cc nL own nm ret R X lv (.int (x.toUInt32 >>> (y.toUInt32 &&& Int32.toUInt32 31)).toInt32 :: st) w sz cl sl pc' r) : xK cc nL own nm ret R X lv (.int y :: .int x :: st) w sz cl sl pc r := by
  obtain ⟨hd, rfl⟩ := hd
  exact fun p e s m below meth c H locs ls Z hm hn hr hk J hl => lv_iushr Z.1 Z.2.1 hd rfl (k p e s m below meth c H locs ls Z hm hn hr hk J hl)
theorem xo_lushr {x : Int64} {y : Int32} (hd : xD cc pc .lushr 1 pc') (k : xK cc nL own nm ret R X lv (.long (x.toUInt64 >>> (y.toInt64.toUInt64 &&& Int64.toUInt64 63)).toInt64 :: st) w sz cl sl pc' r) : xK cc nL own nm ret R X lv (.int y :: .long x :: st) w sz cl sl pc r := by
  obtain ⟨hd, rfl⟩ := hd
  exact fun p e s m below meth c H locs ls Z hm hn hr hk J hl => lv_lushr Z.1 Z.2.1 hd rfl (k p e s m below meth c H locs ls Z hm hn hr hk J hl)
theorem xo_lshl {x : Int64} {y : Int32} (hd : xD cc pc .lshl 1 pc') (k : xK cc nL own nm ret R X lv (.long (x <<< (y.toInt64 &&& 63)) :: st) w sz cl sl pc' r) : xK cc nL own nm ret R X lv (.int y :: .long x :: st) w sz cl sl pc r := by
  obtain ⟨hd, rfl⟩ := hd
  exact fun p e s m below meth c H locs ls Z hm hn hr hk J hl => lv_lshl Z.1 Z.2.1 hd rfl (k p e s m below meth c H locs ls Z hm hn hr hk J hl)
theorem xo_lshr {x : Int64} {y : Int32} (hd : xD cc pc .lshr 1 pc') (k : xK cc nL own nm ret R X lv (.long (x >>> (y.toInt64 &&& 63)) :: st) w sz cl sl pc' r) : xK cc nL own nm ret R X lv (.int y :: .long x :: st) w sz cl sl pc r := by
  obtain ⟨hd, rfl⟩ := hd
  exact fun p e s m below meth c H locs ls Z hm hn hr hk J hl => lv_lshr Z.1 Z.2.1 hd rfl (k p e s m below meth c H locs ls Z hm hn hr hk J hl)
theorem xo_i2l {x : Int32} (hd : xD cc pc .i2l 1 pc') (k : xK cc nL own nm ret R X lv (.long x.toInt64 :: st) w sz cl sl pc' r) : xK cc nL own nm ret R X lv (.int x :: st) w sz cl sl pc r := by
  obtain ⟨hd, rfl⟩ := hd
  exact fun p e s m below meth c H locs ls Z hm hn hr hk J hl => lv_i2l Z.1 Z.2.1 hd rfl (k p e s m below meth c H locs ls Z hm hn hr hk J hl)
theorem xo_l2i {x : Int64} (hd : xD cc pc .l2i 1 pc') (k : xK cc nL own nm ret R X lv (.int x.toInt32 :: st) w sz cl sl pc' r) : xK cc nL own nm ret R X lv (.long x :: st) w sz cl sl pc r := by
  obtain ⟨hd, rfl⟩ := hd
  exact fun p e s m below meth c H locs ls Z hm hn hr hk J hl => lv_l2i Z.1 Z.2.1 hd rfl (k p e s m below meth c H locs ls Z hm hn hr hk J hl)
theorem xo_ineg {x : Int32} (hd : xD cc pc .ineg 1 pc') (k : xK cc nL own nm ret R X lv (.int (-x) :: st) w sz cl sl pc' r) : xK cc nL own nm ret R X lv (.int x :: st) w sz cl sl pc r := by
  obtain ⟨hd, rfl⟩ := hd
  exact fun p e s m below meth c H locs ls Z hm hn hr hk J hl => lv_ineg Z.1 Z.2.1 hd (k p e s m below meth c H locs ls Z hm hn hr hk J hl)
theorem xo_lneg {x : Int64} (hd : xD cc pc .lneg 1 pc') (k : xK cc nL own nm ret R X lv (.long (-x) :: st) w sz cl sl pc' r) : xK cc nL own nm ret R X lv (.long x :: st) w sz cl sl pc r := by
  obtain ⟨hd, rfl⟩ := hd
  exact fun p e s m below meth c H locs ls Z hm hn hr hk J hl => lv_lneg Z.1 Z.2.1 hd (k p e s m below meth c H locs ls Z hm hn hr hk J hl)
theorem xo_idiv {x y : Int32} {dc : Decidable (y = 0)} {B : Option ρ} (hd : xD cc pc .idiv 1 pc') (h : (@ite _ (y = 0) dc none B) = some ro) (k : B = some ro → xK cc nL own nm ret R X lv (.int (x / y) :: st) w sz cl sl pc' r) : xK cc nL own nm ret R X lv (.int y :: .int x :: st) w sz cl sl pc r := by
  obtain ⟨hd, rfl⟩ := hd
  obtain ⟨hne, h⟩ := xif0 h
  exact fun p e s m below meth c H locs ls Z hm hn hr hk J hl => lv_idiv Z.1 Z.2.1 hd hne (k h p e s m below meth c H locs ls Z hm hn hr hk J hl)
theorem xo_irem {x y : Int32} {dc : Decidable (y = 0)} {B : Option ρ} (hd : xD cc pc .irem 1 pc') (h : (@ite _ (y = 0) dc none B) = some ro) (k : B = some ro → xK cc nL own nm ret R X lv (.int (x - x / y * y) :: st) w sz cl sl pc' r) : xK cc nL own nm ret R X lv (.int y :: .int x :: st) w sz cl sl pc r := by
  obtain ⟨hd, rfl⟩ := hd
  obtain ⟨hne, h⟩ := xif0 h
  exact fun p e s m below meth c H locs ls Z hm hn hr hk J hl => lv_irem Z.1 Z.2.1 hd hne (k h p e s m below meth c H locs ls Z hm hn hr hk J hl)
theorem xo_ldiv {x y : Int64} {dc : Decidable (y = 0)} {B : Option ρ} (hd : xD cc pc .ldiv 1 pc') (h : (@ite _ (y = 0) dc none B) = some ro) (k : B = some ro → xK cc nL own nm ret R X lv (.long (x / y) :: st) w sz cl sl pc' r) : xK cc nL own nm ret R X lv (.long y :: .long x :: st) w sz cl sl pc r := by
  obtain ⟨hd, rfl⟩ := hd
  obtain ⟨hne, h⟩ := xif0 h
  exact fun p e s m below meth c H locs ls Z hm hn hr hk J hl => lv_ldiv Z.1 Z.2.1 hd hne (k h p e s m below meth c H locs ls Z hm hn hr hk J hl)
theorem xo_lrem {x y : Int64} {dc : Decidable (y = 0)} {B : Option ρ} (hd : xD cc pc .lrem 1 pc') (h : (@ite _ (y = 0) dc none B) = some ro) (k : B = some ro → xK cc nL own nm ret R X lv (.long (x - x / y * y) :: st) w sz cl sl pc' r) : xK cc nL own nm ret R X lv (.long y :: .long x :: st) w sz cl sl pc r := by
  obtain ⟨hd, rfl⟩ := hd
  obtain ⟨hne, h⟩ := xif0 h
  exact fun p e s m below meth c H locs ls Z hm hn hr hk J hl => lv_lrem Z.1 Z.2.1 hd hne (k h p e s m below meth c H locs ls Z hm hn hr hk J hl)
theorem xo_dup {va : Value} (hd : xD cc pc .dup 1 pc') (hva : va.category = 1) (k : xK cc nL own nm ret R X lv (va :: va :: st) w sz cl sl pc' r) : xK cc nL own nm ret R X lv (va :: st) w sz cl sl pc r := by
  obtain ⟨hd, rfl⟩ := hd
  exact fun p e s m below meth c H locs ls Z hm hn hr hk J hl => lv_dup Z.1 Z.2.1 hd hva (k p e s m below meth c H locs ls Z hm hn hr hk J hl)
theorem xo_pop {va : Value} (hd : xD cc pc .pop 1 pc') (hva : va.category = 1) (k : xK cc nL own nm ret R X lv (st) w sz cl sl pc' r) : xK cc nL own nm ret R X lv (va :: st) w sz cl sl pc r := by
  obtain ⟨hd, rfl⟩ := hd
  exact fun p e s m below meth c H locs ls Z hm hn hr hk J hl => lv_pop Z.1 Z.2.1 hd hva (k p e s m below meth c H locs ls Z hm hn hr hk J hl)
theorem xo_iconst {n : Int} {v : Int32} (hd : xD cc pc (.iconst n) 1 pc') (hv : Int32.ofInt n = v) (k : xK cc nL own nm ret R X lv (.int v :: st) w sz cl sl pc' r) : xK cc nL own nm ret R X lv (st) w sz cl sl pc r := by
  obtain ⟨hd, rfl⟩ := hd
  exact fun p e s m below meth c H locs ls Z hm hn hr hk J hl => lv_iconst Z.1 Z.2.1 hd hv (k p e s m below meth c H locs ls Z hm hn hr hk J hl)
theorem xo_bipush {n : Int} {v : Int32} (hd : xD cc pc (.bipush n) 2 pc') (hv : (Int8.ofInt n).toInt32 = v) (k : xK cc nL own nm ret R X lv (.int v :: st) w sz cl sl pc' r) : xK cc nL own nm ret R X lv (st) w sz cl sl pc r := by
  obtain ⟨hd, rfl⟩ := hd
  exact fun p e s m below meth c H locs ls Z hm hn hr hk J hl => lv_bipush Z.1 Z.2.1 hd hv (k p e s m below meth c H locs ls Z hm hn hr hk J hl)
theorem xo_sipush {n : Int} {v : Int32} (hd : xD cc pc (.sipush n) 3 pc') (hv : (Int16.ofInt n).toInt32 = v) (k : xK cc nL own nm ret R X lv (.int v :: st) w sz cl sl pc' r) : xK cc nL own nm ret R X lv (st) w sz cl sl pc r := by
  obtain ⟨hd, rfl⟩ := hd
  exact fun p e s m below meth c H locs ls Z hm hn hr hk J hl => lv_sipush Z.1 Z.2.1 hd hv (k p e s m below meth c H locs ls Z hm hn hr hk J hl)
theorem xo_lconst {n : Fin 2} {v : Int64} (hd : xD cc pc (.lconst n) 1 pc') (hv : Int64.ofNat (n : Nat) = v) (k : xK cc nL own nm ret R X lv (.long v :: st) w sz cl sl pc' r) : xK cc nL own nm ret R X lv (st) w sz cl sl pc r := by
  obtain ⟨hd, rfl⟩ := hd
  exact fun p e s m below meth c H locs ls Z hm hn hr hk J hl => lv_lconst Z.1 Z.2.1 hd hv (k p e s m below meth c H locs ls Z hm hn hr hk J hl)
theorem xo_ldc2 {index : Nat} {v : Int64} (hd : xD cc pc (.ldc2_w index) 3 pc') (hw : Cond.constantLong own index v ∈ xT) (k : xK cc nL own nm ret R X lv (.long v :: st) w sz cl sl pc' r) : xK cc nL own nm ret R X lv (st) w sz cl sl pc r := by
  obtain ⟨hd, rfl⟩ := hd
  exact fun p e s m below meth c H locs ls Z hm hn hr hk J hl => lv_ldc2 Z.1 Z.2.1 Z.2.2.1 (Z.2.2.2.1 _ hw) hd (k p e s m below meth c H locs ls Z hm hn hr hk J hl)
theorem xo_ldc {index : Nat} {v : Int32} (hd : xD cc pc (.ldc index) 2 pc') (hw : Cond.constant own index v ∈ xT) (k : xK cc nL own nm ret R X lv (.int v :: st) w sz cl sl pc' r) : xK cc nL own nm ret R X lv (st) w sz cl sl pc r := by
  obtain ⟨hd, rfl⟩ := hd
  exact fun p e s m below meth c H locs ls Z hm hn hr hk J hl => lv_ldc Z.1 Z.2.1 Z.2.2.1 (Z.2.2.2.1 _ hw) hd (k p e s m below meth c H locs ls Z hm hn hr hk J hl)
theorem xo_ldcw {index : Nat} {v : Int32} (hd : xD cc pc (.ldc_w index) 3 pc') (hw : Cond.constant own index v ∈ xT) (k : xK cc nL own nm ret R X lv (.int v :: st) w sz cl sl pc' r) : xK cc nL own nm ret R X lv (st) w sz cl sl pc r := by
  obtain ⟨hd, rfl⟩ := hd
  exact fun p e s m below meth c H locs ls Z hm hn hr hk J hl => lv_ldcw Z.1 Z.2.1 Z.2.2.1 (Z.2.2.2.1 _ hw) hd (k p e s m below meth c H locs ls Z hm hn hr hk J hl)
theorem xo_iload_n (q : Nat) {i : Fin 4} {j : Nat} {x : Int32} (hd : xD cc pc (.iload_n i) 1 pc') (hj : (i : Nat) = j) (hq : lv[q]? = some (j, .int x)) (k : xK cc nL own nm ret R X lv (.int x :: st) w sz cl sl pc' r) : xK cc nL own nm ret R X lv (st) w sz cl sl pc r := by
  obtain ⟨hd, rfl⟩ := hd
  exact fun p e s m below meth c H locs ls Z hm hn hr hk J hl => lv_iload_n Z.1 Z.2.1 hd hj (lv_at hl q hq) (k p e s m below meth c H locs ls Z hm hn hr hk J hl)
theorem xo_iload (q : Nat) {j : Nat} {x : Int32} (hd : xD cc pc (.iload j) 2 pc') (hq : lv[q]? = some (j, .int x)) (k : xK cc nL own nm ret R X lv (.int x :: st) w sz cl sl pc' r) : xK cc nL own nm ret R X lv (st) w sz cl sl pc r := by
  obtain ⟨hd, rfl⟩ := hd
  exact fun p e s m below meth c H locs ls Z hm hn hr hk J hl => lv_iload Z.1 Z.2.1 hd (lv_at hl q hq) (k p e s m below meth c H locs ls Z hm hn hr hk J hl)
theorem xo_istore_n {i : Fin 4} {j : Nat} {x : Int32} (lv' : List (Nat × Value)) (hd : xD cc pc (.istore_n i) 1 pc') (hj : (i : Nat) = j) (hlt : Nat.ble (j + 1) nL = true) (hlv : (j, Value.int x) :: lv.filter (fun q => !(q.1 == j) && !(q.1 + 1 == j && q.2.category == 2)) = lv') (k : xK cc nL own nm ret R X lv' (st) w sz cl sl pc' r) : xK cc nL own nm ret R X lv (.int x :: st) w sz cl sl pc r := by
  obtain ⟨hd, rfl⟩ := hd
  exact fun p e s m below meth c H locs ls Z hm hn hr hk J hl => lv_istore_n Z.1 Z.2.1 hd hj hl (Nat.le_of_ble_eq_true hlt) hlv (fun ls hl => k p e s m below meth c H locs ls Z hm hn hr hk J hl)
theorem xo_istore {j : Nat} {x : Int32} (lv' : List (Nat × Value)) (hd : xD cc pc (.istore j) 2 pc') (hlt : Nat.ble (j + 1) nL = true) (hlv : (j, Value.int x) :: lv.filter (fun q => !(q.1 == j) && !(q.1 + 1 == j && q.2.category == 2)) = lv') (k : xK cc nL own nm ret R X lv' (st) w sz cl sl pc' r) : xK cc nL own nm ret R X lv (.int x :: st) w sz cl sl pc r := by
  obtain ⟨hd, rfl⟩ := hd
  exact fun p e s m below meth c H locs ls Z hm hn hr hk J hl => lv_istore Z.1 Z.2.1 hd hl (Nat.le_of_ble_eq_true hlt) hlv (fun ls hl => k p e s m below meth c H locs ls Z hm hn hr hk J hl)
theorem xo_lload_n (q : Nat) {i : Fin 4} {j : Nat} {x : Int64} (hd : xD cc pc (.lload_n i) 1 pc') (hj : (i : Nat) = j) (hq : lv[q]? = some (j, .long x)) (k : xK cc nL own nm ret R X lv (.long x :: st) w sz cl sl pc' r) : xK cc nL own nm ret R X lv (st) w sz cl sl pc r := by
  obtain ⟨hd, rfl⟩ := hd
  exact fun p e s m below meth c H locs ls Z hm hn hr hk J hl => lv_lload_n Z.1 Z.2.1 hd hj (lv_at hl q hq) (k p e s m below meth c H locs ls Z hm hn hr hk J hl)
theorem xo_lload (q : Nat) {j : Nat} {x : Int64} (hd : xD cc pc (.lload j) 2 pc') (hq : lv[q]? = some (j, .long x)) (k : xK cc nL own nm ret R X lv (.long x :: st) w sz cl sl pc' r) : xK cc nL own nm ret R X lv (st) w sz cl sl pc r := by
  obtain ⟨hd, rfl⟩ := hd
  exact fun p e s m below meth c H locs ls Z hm hn hr hk J hl => lv_lload Z.1 Z.2.1 hd (lv_at hl q hq) (k p e s m below meth c H locs ls Z hm hn hr hk J hl)
theorem xo_lstore_n {i : Fin 4} {j : Nat} {x : Int64} (lv' : List (Nat × Value)) (hd : xD cc pc (.lstore_n i) 1 pc') (hj : (i : Nat) = j) (hlt : Nat.ble (j + 2) nL = true) (hlv : (j, Value.long x) :: lv.filter (fun q => !(q.1 == j) && (!(q.1 == j + 1) && !(q.1 + 1 == j && q.2.category == 2))) = lv') (k : xK cc nL own nm ret R X lv' (st) w sz cl sl pc' r) : xK cc nL own nm ret R X lv (.long x :: st) w sz cl sl pc r := by
  obtain ⟨hd, rfl⟩ := hd
  exact fun p e s m below meth c H locs ls Z hm hn hr hk J hl => lv_lstore_n Z.1 Z.2.1 hd hj hl (Nat.le_of_ble_eq_true hlt) hlv (fun ls hl => k p e s m below meth c H locs ls Z hm hn hr hk J hl)
theorem xo_lstore {j : Nat} {x : Int64} (lv' : List (Nat × Value)) (hd : xD cc pc (.lstore j) 2 pc') (hlt : Nat.ble (j + 2) nL = true) (hlv : (j, Value.long x) :: lv.filter (fun q => !(q.1 == j) && (!(q.1 == j + 1) && !(q.1 + 1 == j && q.2.category == 2))) = lv') (k : xK cc nL own nm ret R X lv' (st) w sz cl sl pc' r) : xK cc nL own nm ret R X lv (.long x :: st) w sz cl sl pc r := by
  obtain ⟨hd, rfl⟩ := hd
  exact fun p e s m below meth c H locs ls Z hm hn hr hk J hl => lv_lstore Z.1 Z.2.1 hd hl (Nat.le_of_ble_eq_true hlt) hlv (fun ls hl => k p e s m below meth c H locs ls Z hm hn hr hk J hl)
theorem xo_aload_n (q : Nat) {i : Fin 4} {j : Nat} {x : Nat} (hd : xD cc pc (.aload_n i) 1 pc') (hj : (i : Nat) = j) (hq : lv[q]? = some (j, .ref x)) (k : xK cc nL own nm ret R X lv (.ref x :: st) w sz cl sl pc' r) : xK cc nL own nm ret R X lv (st) w sz cl sl pc r := by
  obtain ⟨hd, rfl⟩ := hd
  exact fun p e s m below meth c H locs ls Z hm hn hr hk J hl => lv_aload_n Z.1 Z.2.1 hd hj (lv_at hl q hq) (k p e s m below meth c H locs ls Z hm hn hr hk J hl)
theorem xo_aload (q : Nat) {j : Nat} {x : Nat} (hd : xD cc pc (.aload j) 2 pc') (hq : lv[q]? = some (j, .ref x)) (k : xK cc nL own nm ret R X lv (.ref x :: st) w sz cl sl pc' r) : xK cc nL own nm ret R X lv (st) w sz cl sl pc r := by
  obtain ⟨hd, rfl⟩ := hd
  exact fun p e s m below meth c H locs ls Z hm hn hr hk J hl => lv_aload Z.1 Z.2.1 hd (lv_at hl q hq) (k p e s m below meth c H locs ls Z hm hn hr hk J hl)
theorem xo_astore_n {i : Fin 4} {j : Nat} {x : Nat} (lv' : List (Nat × Value)) (hd : xD cc pc (.astore_n i) 1 pc') (hj : (i : Nat) = j) (hlt : Nat.ble (j + 1) nL = true) (hlv : (j, Value.ref x) :: lv.filter (fun q => !(q.1 == j) && !(q.1 + 1 == j && q.2.category == 2)) = lv') (k : xK cc nL own nm ret R X lv' (st) w sz cl sl pc' r) : xK cc nL own nm ret R X lv (.ref x :: st) w sz cl sl pc r := by
  obtain ⟨hd, rfl⟩ := hd
  exact fun p e s m below meth c H locs ls Z hm hn hr hk J hl => lv_astore_n Z.1 Z.2.1 hd hj hl (Nat.le_of_ble_eq_true hlt) hlv (fun ls hl => k p e s m below meth c H locs ls Z hm hn hr hk J hl)
theorem xo_astore {j : Nat} {x : Nat} (lv' : List (Nat × Value)) (hd : xD cc pc (.astore j) 2 pc') (hlt : Nat.ble (j + 1) nL = true) (hlv : (j, Value.ref x) :: lv.filter (fun q => !(q.1 == j) && !(q.1 + 1 == j && q.2.category == 2)) = lv') (k : xK cc nL own nm ret R X lv' (st) w sz cl sl pc' r) : xK cc nL own nm ret R X lv (.ref x :: st) w sz cl sl pc r := by
  obtain ⟨hd, rfl⟩ := hd
  exact fun p e s m below meth c H locs ls Z hm hn hr hk J hl => lv_astore Z.1 Z.2.1 hd hl (Nat.le_of_ble_eq_true hlt) hlv (fun ls hl => k p e s m below meth c H locs ls Z hm hn hr hk J hl)
theorem xo_iinc (q : Nat) {j : Nat} {n : Int} {x : Int32} {dd : Int32} {g : Int32 → Option ρ} (lv' : Int32 → List (Nat × Value)) (hd : xD cc pc (.iinc j n) 3 pc') (hq : lv[q]? = some (j, .int x)) (hlt : Nat.ble (j + 1) nL = true) (hv : Int32.ofInt n = dd) (hlv : ∀ z, (j, Value.int z) :: lv.filter (fun q => !(q.1 == j) && !(q.1 + 1 == j && q.2.category == 2)) = lv' z) (h : (some (x + dd)).bind g = some ro) (k : ∀ z, g z = some ro → xK cc nL own nm ret R X (lv' z) (st) w sz cl sl pc' r) : xK cc nL own nm ret R X lv (st) w sz cl sl pc r := by
  obtain ⟨hd, rfl⟩ := hd
  subst hv
  exact fun p e s m below meth c H locs ls Z hm hn hr hk J hl => lv_iinc Z.1 Z.2.1 hd hl hq rfl (Nat.le_of_ble_eq_true hlt) (hlv _) (fun ls hl => k _ h p e s m below meth c H locs ls Z hm hn hr hk J hl)
theorem xo_goto (hd : xDJ cc pc (.goto off) off tgt pc') (k : xK cc nL own nm ret R X lv (st) w sz cl sl tgt r) : xK cc nL own nm ret R X lv (st) w sz cl sl pc r :=
  fun p e s m below meth c H locs ls Z hm hn hr hk J hl => lv_goto Z.1 Z.2.1 hd.1 hd.2.2 (k p e s m below meth c H locs ls Z hm hn hr hk J hl)
theorem xo_sub (ks : List Nat) (lv' : List (Nat × Value)) (hs : lv_pick lv ks = lv') (k : xK cc nL own nm ret R X lv' (st) w sz cl sl pc r) : xK cc nL own nm ret R X lv (st) w sz cl sl pc r :=
  fun p e s m below meth c H locs ls Z hm hn hr hk J hl => k p e s m below meth c H locs ls Z hm hn hr hk J (lv_sub hl ks hs)
theorem xo_nmI {x : Int32} {g : Int32 → Option ρ} (h : (some x).bind g = some ro) (k : ∀ z, g z = some ro → xK cc nL own nm ret R X lv (.int z :: st) w sz cl sl pc r) : xK cc nL own nm ret R X lv (.int x :: st) w sz cl sl pc r := k x h
theorem xo_nmL {x : Int64} {g : Int64 → Option ρ} (h : (some x).bind g = some ro) (k : ∀ z, g z = some ro → xK cc nL own nm ret R X lv (.long z :: st) w sz cl sl pc r) : xK cc nL own nm ret R X lv (.long x :: st) w sz cl sl pc r := k x h
theorem xo_nmR {x : Nat} {g : Nat → Option ρ} (h : (some x).bind g = some ro) (k : ∀ z, g z = some ro → xK cc nL own nm ret R X lv (.ref z :: st) w sz cl sl pc r) : xK cc nL own nm ret R X lv (.ref x :: st) w sz cl sl pc r := k x h
theorem xo_icmp_eq {x y : Int32} {dc : Decidable (x = y)} {A B : Option ρ} (hd : xDJ cc pc (.if_icmp .eq off) off tgt pc') (h : (@ite _ (x = y) dc A B) = some ro) (kt : A = some ro → xK cc nL own nm ret R X lv (st) w sz cl sl tgt r) (kf : B = some ro → xK cc nL own nm ret R X lv (st) w sz cl sl pc' r) : xK cc nL own nm ret R X lv (.int y :: .int x :: st) w sz cl sl pc r := by
  obtain ⟨hd, rfl, ht⟩ := hd
  exact fun p e s m below meth c H locs ls Z hm hn hr hk J hl => lv_icmp_eq Z.1 Z.2.1 hd ht (fun hc => kt (xip hc h) p e s m below meth c H locs ls Z hm hn hr hk J hl) (fun hc => kf (xin hc h) p e s m below meth c H locs ls Z hm hn hr hk J hl)
theorem xo_icmp_ne {x y : Int32} {dc : Decidable (¬ x = y)} {A B : Option ρ} (hd : xDJ cc pc (.if_icmp .ne off) off tgt pc') (h : (@ite _ (¬ x = y) dc A B) = some ro) (kt : A = some ro → xK cc nL own nm ret R X lv (st) w sz cl sl tgt r) (kf : B = some ro → xK cc nL own nm ret R X lv (st) w sz cl sl pc' r) : xK cc nL own nm ret R X lv (.int y :: .int x :: st) w sz cl sl pc r := by
  obtain ⟨hd, rfl, ht⟩ := hd
  exact fun p e s m below meth c H locs ls Z hm hn hr hk J hl => lv_icmp_ne Z.1 Z.2.1 hd ht (fun hc => kt (xip hc h) p e s m below meth c H locs ls Z hm hn hr hk J hl) (fun hc => kf (xin (fun q => q hc) h) p e s m below meth c H locs ls Z hm hn hr hk J hl)
theorem xo_icmp_lt {x y : Int32} {dc : Decidable (x < y)} {A B : Option ρ} (hd : xDJ cc pc (.if_icmp .lt off) off tgt pc') (h : (@ite _ (x < y) dc A B) = some ro) (kt : A = some ro → xK cc nL own nm ret R X lv (st) w sz cl sl tgt r) (kf : B = some ro → xK cc nL own nm ret R X lv (st) w sz cl sl pc' r) : xK cc nL own nm ret R X lv (.int y :: .int x :: st) w sz cl sl pc r := by
  obtain ⟨hd, rfl, ht⟩ := hd
  exact fun p e s m below meth c H locs ls Z hm hn hr hk J hl => lv_icmp_lt Z.1 Z.2.1 hd ht (fun hc => kt (xip hc h) p e s m below meth c H locs ls Z hm hn hr hk J hl) (fun hc => kf (xin hc h) p e s m below meth c H locs ls Z hm hn hr hk J hl)
theorem xo_icmp_ge {x y : Int32} {dc : Decidable (y ≤ x)} {A B : Option ρ} (hd : xDJ cc pc (.if_icmp .ge off) off tgt pc') (h : (@ite _ (y ≤ x) dc A B) = some ro) (kt : A = some ro → xK cc nL own nm ret R X lv (st) w sz cl sl tgt r) (kf : B = some ro → xK cc nL own nm ret R X lv (st) w sz cl sl pc' r) : xK cc nL own nm ret R X lv (.int y :: .int x :: st) w sz cl sl pc r := by
  obtain ⟨hd, rfl, ht⟩ := hd
  exact fun p e s m below meth c H locs ls Z hm hn hr hk J hl => lv_icmp_ge Z.1 Z.2.1 hd ht (fun hc => kt (xip hc h) p e s m below meth c H locs ls Z hm hn hr hk J hl) (fun hc => kf (xin hc h) p e s m below meth c H locs ls Z hm hn hr hk J hl)
theorem xo_icmp_gt {x y : Int32} {dc : Decidable (y < x)} {A B : Option ρ} (hd : xDJ cc pc (.if_icmp .gt off) off tgt pc') (h : (@ite _ (y < x) dc A B) = some ro) (kt : A = some ro → xK cc nL own nm ret R X lv (st) w sz cl sl tgt r) (kf : B = some ro → xK cc nL own nm ret R X lv (st) w sz cl sl pc' r) : xK cc nL own nm ret R X lv (.int y :: .int x :: st) w sz cl sl pc r := by
  obtain ⟨hd, rfl, ht⟩ := hd
  exact fun p e s m below meth c H locs ls Z hm hn hr hk J hl => lv_icmp_gt Z.1 Z.2.1 hd ht (fun hc => kt (xip hc h) p e s m below meth c H locs ls Z hm hn hr hk J hl) (fun hc => kf (xin hc h) p e s m below meth c H locs ls Z hm hn hr hk J hl)
theorem xo_icmp_le {x y : Int32} {dc : Decidable (x ≤ y)} {A B : Option ρ} (hd : xDJ cc pc (.if_icmp .le off) off tgt pc') (h : (@ite _ (x ≤ y) dc A B) = some ro) (kt : A = some ro → xK cc nL own nm ret R X lv (st) w sz cl sl tgt r) (kf : B = some ro → xK cc nL own nm ret R X lv (st) w sz cl sl pc' r) : xK cc nL own nm ret R X lv (.int y :: .int x :: st) w sz cl sl pc r := by
  obtain ⟨hd, rfl, ht⟩ := hd
  exact fun p e s m below meth c H locs ls Z hm hn hr hk J hl => lv_icmp_le Z.1 Z.2.1 hd ht (fun hc => kt (xip hc h) p e s m below meth c H locs ls Z hm hn hr hk J hl) (fun hc => kf (xin hc h) p e s m below meth c H locs ls Z hm hn hr hk J hl)
theorem xo_if_eq {x : Int32} {dc : Decidable (x = 0)} {A B : Option ρ} (hd : xDJ cc pc (.ifCond .eq off) off tgt pc') (h : (@ite _ (x = 0) dc A B) = some ro) (kt : A = some ro → xK cc nL own nm ret R X lv (st) w sz cl sl tgt r) (kf : B = some ro → xK cc nL own nm ret R X lv (st) w sz cl sl pc' r) : xK cc nL own nm ret R X lv (.int x :: st) w sz cl sl pc r := by
  obtain ⟨hd, rfl, ht⟩ := hd
  exact fun p e s m below meth c H locs ls Z hm hn hr hk J hl => lv_if_eq Z.1 Z.2.1 hd ht (fun hc => kt (xip hc h) p e s m below meth c H locs ls Z hm hn hr hk J hl) (fun hc => kf (xin hc h) p e s m below meth c H locs ls Z hm hn hr hk J hl)
theorem xo_if_ne {x : Int32} {dc : Decidable (¬ x = 0)} {A B : Option ρ} (hd : xDJ cc pc (.ifCond .ne off) off tgt pc') (h : (@ite _ (¬ x = 0) dc A B) = some ro) (kt : A = some ro → xK cc nL own nm ret R X lv (st) w sz cl sl tgt r) (kf : B = some ro → xK cc nL own nm ret R X lv (st) w sz cl sl pc' r) : xK cc nL own nm ret R X lv (.int x :: st) w sz cl sl pc r := by
  obtain ⟨hd, rfl, ht⟩ := hd
  exact fun p e s m below meth c H locs ls Z hm hn hr hk J hl => lv_if_ne Z.1 Z.2.1 hd ht (fun hc => kt (xip hc h) p e s m below meth c H locs ls Z hm hn hr hk J hl) (fun hc => kf (xin (fun q => q hc) h) p e s m below meth c H locs ls Z hm hn hr hk J hl)
theorem xo_if_lt {x : Int32} {dc : Decidable (x < 0)} {A B : Option ρ} (hd : xDJ cc pc (.ifCond .lt off) off tgt pc') (h : (@ite _ (x < 0) dc A B) = some ro) (kt : A = some ro → xK cc nL own nm ret R X lv (st) w sz cl sl tgt r) (kf : B = some ro → xK cc nL own nm ret R X lv (st) w sz cl sl pc' r) : xK cc nL own nm ret R X lv (.int x :: st) w sz cl sl pc r := by
  obtain ⟨hd, rfl, ht⟩ := hd
  exact fun p e s m below meth c H locs ls Z hm hn hr hk J hl => lv_if_lt Z.1 Z.2.1 hd ht (fun hc => kt (xip hc h) p e s m below meth c H locs ls Z hm hn hr hk J hl) (fun hc => kf (xin hc h) p e s m below meth c H locs ls Z hm hn hr hk J hl)
theorem xo_if_ge {x : Int32} {dc : Decidable (0 ≤ x)} {A B : Option ρ} (hd : xDJ cc pc (.ifCond .ge off) off tgt pc') (h : (@ite _ (0 ≤ x) dc A B) = some ro) (kt : A = some ro → xK cc nL own nm ret R X lv (st) w sz cl sl tgt r) (kf : B = some ro → xK cc nL own nm ret R X lv (st) w sz cl sl pc' r) : xK cc nL own nm ret R X lv (.int x :: st) w sz cl sl pc r := by
  obtain ⟨hd, rfl, ht⟩ := hd
  exact fun p e s m below meth c H locs ls Z hm hn hr hk J hl => lv_if_ge Z.1 Z.2.1 hd ht (fun hc => kt (xip hc h) p e s m below meth c H locs ls Z hm hn hr hk J hl) (fun hc => kf (xin hc h) p e s m below meth c H locs ls Z hm hn hr hk J hl)
theorem xo_if_gt {x : Int32} {dc : Decidable (0 < x)} {A B : Option ρ} (hd : xDJ cc pc (.ifCond .gt off) off tgt pc') (h : (@ite _ (0 < x) dc A B) = some ro) (kt : A = some ro → xK cc nL own nm ret R X lv (st) w sz cl sl tgt r) (kf : B = some ro → xK cc nL own nm ret R X lv (st) w sz cl sl pc' r) : xK cc nL own nm ret R X lv (.int x :: st) w sz cl sl pc r := by
  obtain ⟨hd, rfl, ht⟩ := hd
  exact fun p e s m below meth c H locs ls Z hm hn hr hk J hl => lv_if_gt Z.1 Z.2.1 hd ht (fun hc => kt (xip hc h) p e s m below meth c H locs ls Z hm hn hr hk J hl) (fun hc => kf (xin hc h) p e s m below meth c H locs ls Z hm hn hr hk J hl)
theorem xo_if_le {x : Int32} {dc : Decidable (x ≤ 0)} {A B : Option ρ} (hd : xDJ cc pc (.ifCond .le off) off tgt pc') (h : (@ite _ (x ≤ 0) dc A B) = some ro) (kt : A = some ro → xK cc nL own nm ret R X lv (st) w sz cl sl tgt r) (kf : B = some ro → xK cc nL own nm ret R X lv (st) w sz cl sl pc' r) : xK cc nL own nm ret R X lv (.int x :: st) w sz cl sl pc r := by
  obtain ⟨hd, rfl, ht⟩ := hd
  exact fun p e s m below meth c H locs ls Z hm hn hr hk J hl => lv_if_le Z.1 Z.2.1 hd ht (fun hc => kt (xip hc h) p e s m below meth c H locs ls Z hm hn hr hk J hl) (fun hc => kf (xin hc h) p e s m below meth c H locs ls Z hm hn hr hk J hl)
theorem xo_lceq {x y : Int64} {pm : Nat} {dc : Decidable (x = y)} {A B : Option ρ} (h1 : xD cc pc .lcmp 1 pm) (hd : xDJ cc pm (.ifCond .eq off) off tgt pc') (h : (@ite _ (x = y) dc A B) = some ro) (kt : A = some ro → xK cc nL own nm ret R X lv (st) w sz cl sl tgt r) (kf : B = some ro → xK cc nL own nm ret R X lv (st) w sz cl sl pc' r) : xK cc nL own nm ret R X lv (.long y :: .long x :: st) w sz cl sl pc r := by
  obtain ⟨h1, rfl⟩ := h1
  obtain ⟨hd, rfl, ht⟩ := hd
  exact fun p e s m below meth c H locs ls Z hm hn hr hk J hl => W.lcmp Z.1 Z.2.1 h1 (lv_if_eq Z.1 Z.2.1 hd ht (fun hc => kt (xip ((lg_cmp_eq x y).mp hc) h) p e s m below meth c H locs ls Z hm hn hr hk J hl) (fun hc => kf (xin (fun q => hc ((lg_cmp_eq x y).mpr q)) h) p e s m below meth c H locs ls Z hm hn hr hk J hl))
theorem xo_lcne {x y : Int64} {pm : Nat} {dc : Decidable (¬ x = y)} {A B : Option ρ} (h1 : xD cc pc .lcmp 1 pm) (hd : xDJ cc pm (.ifCond .ne off) off tgt pc') (h : (@ite _ (¬ x = y) dc A B) = some ro) (kt : A = some ro → xK cc nL own nm ret R X lv (st) w sz cl sl tgt r) (kf : B = some ro → xK cc nL own nm ret R X lv (st) w sz cl sl pc' r) : xK cc nL own nm ret R X lv (.long y :: .long x :: st) w sz cl sl pc r := by
  obtain ⟨h1, rfl⟩ := h1
  obtain ⟨hd, rfl, ht⟩ := hd
  exact fun p e s m below meth c H locs ls Z hm hn hr hk J hl => W.lcmp Z.1 Z.2.1 h1 (lv_if_ne Z.1 Z.2.1 hd ht (fun hc => kt (xip ((not_congr (lg_cmp_eq x y)).mp hc) h) p e s m below meth c H locs ls Z hm hn hr hk J hl) (fun hc => kf (xin (fun q => q ((lg_cmp_eq x y).mp hc)) h) p e s m below meth c H locs ls Z hm hn hr hk J hl))
theorem xo_lclt {x y : Int64} {pm : Nat} {dc : Decidable (x < y)} {A B : Option ρ} (h1 : xD cc pc .lcmp 1 pm) (hd : xDJ cc pm (.ifCond .lt off) off tgt pc') (h : (@ite _ (x < y) dc A B) = some ro) (kt : A = some ro → xK cc nL own nm ret R X lv (st) w sz cl sl tgt r) (kf : B = some ro → xK cc nL own nm ret R X lv (st) w sz cl sl pc' r) : xK cc nL own nm ret R X lv (.long y :: .long x :: st) w sz cl sl pc r := by
  obtain ⟨h1, rfl⟩ := h1
  obtain ⟨hd, rfl, ht⟩ := hd
  exact fun p e s m below meth c H locs ls Z hm hn hr hk J hl => W.lcmp Z.1 Z.2.1 h1 (lv_if_lt Z.1 Z.2.1 hd ht (fun hc => kt (xip ((lg_cmp_lt x y).mp hc) h) p e s m below meth c H locs ls Z hm hn hr hk J hl) (fun hc => kf (xin (fun q => hc ((lg_cmp_lt x y).mpr q)) h) p e s m below meth c H locs ls Z hm hn hr hk J hl))
theorem xo_lcge {x y : Int64} {pm : Nat} {dc : Decidable (y ≤ x)} {A B : Option ρ} (h1 : xD cc pc .lcmp 1 pm) (hd : xDJ cc pm (.ifCond .ge off) off tgt pc') (h : (@ite _ (y ≤ x) dc A B) = some ro) (kt : A = some ro → xK cc nL own nm ret R X lv (st) w sz cl sl tgt r) (kf : B = some ro → xK cc nL own nm ret R X lv (st) w sz cl sl pc' r) : xK cc nL own nm ret R X lv (.long y :: .long x :: st) w sz cl sl pc r := by
  obtain ⟨h1, rfl⟩ := h1
  obtain ⟨hd, rfl, ht⟩ := hd
  exact fun p e s m below meth c H locs ls Z hm hn hr hk J hl => W.lcmp Z.1 Z.2.1 h1 (lv_if_ge Z.1 Z.2.1 hd ht (fun hc => kt (xip ((lg_cmp_ge x y).mp hc) h) p e s m below meth c H locs ls Z hm hn hr hk J hl) (fun hc => kf (xin (fun q => hc ((lg_cmp_ge x y).mpr q)) h) p e s m below meth c H locs ls Z hm hn hr hk J hl))
theorem xo_lcgt {x y : Int64} {pm : Nat} {dc : Decidable (y < x)} {A B : Option ρ} (h1 : xD cc pc .lcmp 1 pm) (hd : xDJ cc pm (.ifCond .gt off) off tgt pc') (h : (@ite _ (y < x) dc A B) = some ro) (kt : A = some ro → xK cc nL own nm ret R X lv (st) w sz cl sl tgt r) (kf : B = some ro → xK cc nL own nm ret R X lv (st) w sz cl sl pc' r) : xK cc nL own nm ret R X lv (.long y :: .long x :: st) w sz cl sl pc r := by
  obtain ⟨h1, rfl⟩ := h1
  obtain ⟨hd, rfl, ht⟩ := hd
  exact fun p e s m below meth c H locs ls Z hm hn hr hk J hl => W.lcmp Z.1 Z.2.1 h1 (lv_if_gt Z.1 Z.2.1 hd ht (fun hc => kt (xip ((lg_cmp_gt x y).mp hc) h) p e s m below meth c H locs ls Z hm hn hr hk J hl) (fun hc => kf (xin (fun q => hc ((lg_cmp_gt x y).mpr q)) h) p e s m below meth c H locs ls Z hm hn hr hk J hl))
theorem xo_lcle {x y : Int64} {pm : Nat} {dc : Decidable (x ≤ y)} {A B : Option ρ} (h1 : xD cc pc .lcmp 1 pm) (hd : xDJ cc pm (.ifCond .le off) off tgt pc') (h : (@ite _ (x ≤ y) dc A B) = some ro) (kt : A = some ro → xK cc nL own nm ret R X lv (st) w sz cl sl tgt r) (kf : B = some ro → xK cc nL own nm ret R X lv (st) w sz cl sl pc' r) : xK cc nL own nm ret R X lv (.long y :: .long x :: st) w sz cl sl pc r := by
  obtain ⟨h1, rfl⟩ := h1
  obtain ⟨hd, rfl, ht⟩ := hd
  exact fun p e s m below meth c H locs ls Z hm hn hr hk J hl => W.lcmp Z.1 Z.2.1 h1 (lv_if_le Z.1 Z.2.1 hd ht (fun hc => kt (xip ((lg_cmp_le x y).mp hc) h) p e s m below meth c H locs ls Z hm hn hr hk J hl) (fun hc => kf (xin (fun q => hc ((lg_cmp_le x y).mpr q)) h) p e s m below meth c H locs ls Z hm hn hr hk J hl))
theorem xo_tableIn {dflt lo hi : Int} {offs : Array Int} {len : Nat} {x : Int32} (off : Int) (tgt : Nat) (hd : xD cc pc (.tableswitch dflt lo hi offs) len pc') (h1 : ¬ x.toInt < lo) (h2 : ¬ hi < x.toInt) (ho : offs[(x.toInt - lo).toNat]? = some off) (ht : (pc : Int) + off = (tgt : Int)) (k : xK cc nL own nm ret R X lv (st) w sz cl sl tgt r) : xK cc nL own nm ret R X lv (.int x :: st) w sz cl sl pc r :=
  fun p e s m below meth c H locs ls Z hm hn hr hk J hl => lv_tableIn Z.1 Z.2.1 hd.1 h1 h2 ho ht (k p e s m below meth c H locs ls Z hm hn hr hk J hl)
theorem xo_tableOut {dflt lo hi : Int} {offs : Array Int} {len : Nat} {x : Int32} (tgt : Nat) (hd : xD cc pc (.tableswitch dflt lo hi offs) len pc') (h1 : x.toInt < lo ∨ hi < x.toInt) (ht : (pc : Int) + dflt = (tgt : Int)) (k : xK cc nL own nm ret R X lv (st) w sz cl sl tgt r) : xK cc nL own nm ret R X lv (.int x :: st) w sz cl sl pc r :=
  fun p e s m below meth c H locs ls Z hm hn hr hk J hl => lv_tableOut Z.1 Z.2.1 hd.1 h1 ht (k p e s m below meth c H locs ls Z hm hn hr hk J hl)
theorem xo_lookup {dflt : Int} {ps : Array (Int × Int)} {len : Nat} {x : Int32} (off : Int) (tgt : Nat) (hd : xD cc pc (.lookupswitch dflt ps) len pc') (hp : (ps.toList.zip (ps.toList.drop 1)).all (fun (a, next) => a.1 < next.1) = true) (ho : Op.lookupswitch.offset ps.toList dflt x.toInt = off) (ht : (pc : Int) + off = (tgt : Int)) (k : xK cc nL own nm ret R X lv (st) w sz cl sl tgt r) : xK cc nL own nm ret R X lv (.int x :: st) w sz cl sl pc r :=
  fun p e s m below meth c H locs ls Z hm hn hr hk J hl => lv_lookup Z.1 Z.2.1 hd.1 hp ho ht (k p e s m below meth c H locs ls Z hm hn hr hk J hl)
theorem xo_getI {ci index N a : Nat} {C : String} {T : u_T} {ty : Nat → FieldType} (k : Nat) {g : Int32 → Option ρ} (hd : xD cc pc (.getfield index) 3 pc') (K : xC ci C T N ty) (hkn : Nat.ble (k + 1) N = true) (hw : Cond.fieldLink own index C (T k).2.1 (T k).2.2.1 ∈ xT) (hc : (T k).1 = C) (h : (xfI w a ci k).bind g = some ro) (kk : ∀ x, g x = some ro → xK cc nL own nm ret R X lv (.int x :: st) w sz cl sl pc' r) : xK cc nL own nm ret R X lv (.ref a :: st) w sz cl sl pc r := by
  obtain ⟨hd, rfl⟩ := hd
  obtain ⟨x, hx, hq⟩ := xb h
  obtain ⟨fs, he, hv⟩ := xfI_inv hx
  exact fun p e s m below meth c H locs ls Z hm hn hr hk J hl => xg_getV Z J K k (Nat.le_of_ble_eq_true hkn) hw hc he hv hd (kk x hq p e s m below meth c H locs ls Z hm hn hr hk J hl)
theorem xo_getL {ci index N a : Nat} {C : String} {T : u_T} {ty : Nat → FieldType} (k : Nat) {g : Int64 → Option ρ} (hd : xD cc pc (.getfield index) 3 pc') (K : xC ci C T N ty) (hkn : Nat.ble (k + 1) N = true) (hw : Cond.fieldLink own index C (T k).2.1 (T k).2.2.1 ∈ xT) (hc : (T k).1 = C) (h : (xfL w a ci k).bind g = some ro) (kk : ∀ x, g x = some ro → xK cc nL own nm ret R X lv (.long x :: st) w sz cl sl pc' r) : xK cc nL own nm ret R X lv (.ref a :: st) w sz cl sl pc r := by
  obtain ⟨hd, rfl⟩ := hd
  obtain ⟨x, hx, hq⟩ := xb h
  obtain ⟨fs, he, hv⟩ := xfL_inv hx
  exact fun p e s m below meth c H locs ls Z hm hn hr hk J hl => xg_getV Z J K k (Nat.le_of_ble_eq_true hkn) hw hc he hv hd (kk x hq p e s m below meth c H locs ls Z hm hn hr hk J hl)
theorem xo_getR {ci index N a : Nat} {C : String} {T : u_T} {ty : Nat → FieldType} (k : Nat) {g : Nat → Option ρ} (hd : xD cc pc (.getfield index) 3 pc') (K : xC ci C T N ty) (hkn : Nat.ble (k + 1) N = true) (hw : Cond.fieldLink own index C (T k).2.1 (T k).2.2.1 ∈ xT) (hc : (T k).1 = C) (h : (xfR w a ci k).bind g = some ro) (kk : ∀ x, g x = some ro → xK cc nL own nm ret R X lv (.ref x :: st) w sz cl sl pc' r) : xK cc nL own nm ret R X lv (.ref a :: st) w sz cl sl pc r := by
  obtain ⟨hd, rfl⟩ := hd
  obtain ⟨x, hx, hq⟩ := xb h
  obtain ⟨fs, he, hv⟩ := xfR_inv hx
  exact fun p e s m below meth c H locs ls Z hm hn hr hk J hl => xg_getV Z J K k (Nat.le_of_ble_eq_true hkn) hw hc he hv hd (kk x hq p e s m below meth c H locs ls Z hm hn hr hk J hl)
theorem xo_putI {ci index N a : Nat} {C : String} {T : u_T} {ty : Nat → FieldType} {x : Int32} (k : Nat) {g : xw → Option ρ} (hd : xD cc pc (.putfield index) 3 pc') (K : xC ci C T N ty) (hkn : Nat.ble (k + 1) N = true) (hw : Cond.fieldLink own index C (T k).2.1 (T k).2.2.1 ∈ xT) (hc : (T k).1 = C) (hfin : (T k).2.2.2 = false) (hnar : narrow (ty k) (.int x) = .int x) (hfit : fits (ty k) (.int x) = true) (h : (xpI w a ci k x).bind g = some ro) (kk : ∀ w1, g w1 = some ro → xK cc nL own nm ret R X lv (st) w1 sz cl sl pc' r) : xK cc nL own nm ret R X lv (.int x :: .ref a :: st) w sz cl sl pc r := by
  obtain ⟨hd, rfl⟩ := hd
  obtain ⟨w1, hx, hq⟩ := xb h
  exact fun p e s m below meth c H locs ls Z hm hn hr hk J hl => xg_putV Z J K k (Nat.le_of_ble_eq_true hkn) hw hc hfin hnar hfit hd hx (fun H locs J => kk w1 hq p e s m below meth c H locs ls Z hm hn hr hk J hl)
theorem xo_putIF {ci index N a : Nat} {C : String} {T : u_T} {ty : Nat → FieldType} {x : Int32} (k : Nat) {g : xw → Option ρ} (hd : xD cc pc (.putfield index) 3 pc') (K : xC ci C T N ty) (hkn : Nat.ble (k + 1) N = true) (hw : Cond.fieldLink own index C (T k).2.1 (T k).2.2.1 ∈ xT) (hc : (T k).1 = C) (hfin : (T k).2.2.2 = true) (hnm : nm = "<init>") (hdecl : C = own) (hnar : narrow (ty k) (.int x) = .int x) (hfit : fits (ty k) (.int x) = true) (h : (xpI w a ci k x).bind g = some ro) (kk : ∀ w1, g w1 = some ro → xK cc nL own nm ret R X lv (st) w1 sz cl sl pc' r) : xK cc nL own nm ret R X lv (.int x :: .ref a :: st) w sz cl sl pc r := by
  obtain ⟨hd, rfl⟩ := hd
  obtain ⟨w1, hx, hq⟩ := xb h
  exact fun p e s m below meth c H locs ls Z hm hn hr hk J hl => xg_putF Z J K k (Nat.le_of_ble_eq_true hkn) hw hc hfin (hn.trans hnm) hdecl hnar hfit hd hx (fun H locs J => kk w1 hq p e s m below meth c H locs ls Z hm hn hr hk J hl)
theorem xo_putL {ci index N a : Nat} {C : String} {T : u_T} {ty : Nat → FieldType} {x : Int64} (k : Nat) {g : xw → Option ρ} (hd : xD cc pc (.putfield index) 3 pc') (K : xC ci C T N ty) (hkn : Nat.ble (k + 1) N = true) (hw : Cond.fieldLink own index C (T k).2.1 (T k).2.2.1 ∈ xT) (hc : (T k).1 = C) (hfin : (T k).2.2.2 = false) (hnar : narrow (ty k) (.long x) = .long x) (hfit : fits (ty k) (.long x) = true) (h : (xpL w a ci k x).bind g = some ro) (kk : ∀ w1, g w1 = some ro → xK cc nL own nm ret R X lv (st) w1 sz cl sl pc' r) : xK cc nL own nm ret R X lv (.long x :: .ref a :: st) w sz cl sl pc r := by
  obtain ⟨hd, rfl⟩ := hd
  obtain ⟨w1, hx, hq⟩ := xb h
  exact fun p e s m below meth c H locs ls Z hm hn hr hk J hl => xg_putV Z J K k (Nat.le_of_ble_eq_true hkn) hw hc hfin hnar hfit hd hx (fun H locs J => kk w1 hq p e s m below meth c H locs ls Z hm hn hr hk J hl)
theorem xo_putLF {ci index N a : Nat} {C : String} {T : u_T} {ty : Nat → FieldType} {x : Int64} (k : Nat) {g : xw → Option ρ} (hd : xD cc pc (.putfield index) 3 pc') (K : xC ci C T N ty) (hkn : Nat.ble (k + 1) N = true) (hw : Cond.fieldLink own index C (T k).2.1 (T k).2.2.1 ∈ xT) (hc : (T k).1 = C) (hfin : (T k).2.2.2 = true) (hnm : nm = "<init>") (hdecl : C = own) (hnar : narrow (ty k) (.long x) = .long x) (hfit : fits (ty k) (.long x) = true) (h : (xpL w a ci k x).bind g = some ro) (kk : ∀ w1, g w1 = some ro → xK cc nL own nm ret R X lv (st) w1 sz cl sl pc' r) : xK cc nL own nm ret R X lv (.long x :: .ref a :: st) w sz cl sl pc r := by
  obtain ⟨hd, rfl⟩ := hd
  obtain ⟨w1, hx, hq⟩ := xb h
  exact fun p e s m below meth c H locs ls Z hm hn hr hk J hl => xg_putF Z J K k (Nat.le_of_ble_eq_true hkn) hw hc hfin (hn.trans hnm) hdecl hnar hfit hd hx (fun H locs J => kk w1 hq p e s m below meth c H locs ls Z hm hn hr hk J hl)
theorem xo_putR {ci index N a : Nat} {C : String} {T : u_T} {ty : Nat → FieldType} {x : Nat} (k : Nat) {g : xw → Option ρ} (hd : xD cc pc (.putfield index) 3 pc') (K : xC ci C T N ty) (hkn : Nat.ble (k + 1) N = true) (hw : Cond.fieldLink own index C (T k).2.1 (T k).2.2.1 ∈ xT) (hc : (T k).1 = C) (hfin : (T k).2.2.2 = false) (hnar : narrow (ty k) (.ref x) = .ref x) (hfit : fits (ty k) (.ref x) = true) (h : (xpR w a ci k x).bind g = some ro) (kk : ∀ w1, g w1 = some ro → xK cc nL own nm ret R X lv (st) w1 sz cl sl pc' r) : xK cc nL own nm ret R X lv (.ref x :: .ref a :: st) w sz cl sl pc r := by
  obtain ⟨hd, rfl⟩ := hd
  obtain ⟨w1, hx, hq⟩ := xb h
  exact fun p e s m below meth c H locs ls Z hm hn hr hk J hl => xg_putV Z J K k (Nat.le_of_ble_eq_true hkn) hw hc hfin hnar hfit hd hx (fun H locs J => kk w1 hq p e s m below meth c H locs ls Z hm hn hr hk J hl)
theorem xo_putRF {ci index N a : Nat} {C : String} {T : u_T} {ty : Nat → FieldType} {x : Nat} (k : Nat) {g : xw → Option ρ} (hd : xD cc pc (.putfield index) 3 pc') (K : xC ci C T N ty) (hkn : Nat.ble (k + 1) N = true) (hw : Cond.fieldLink own index C (T k).2.1 (T k).2.2.1 ∈ xT) (hc : (T k).1 = C) (hfin : (T k).2.2.2 = true) (hnm : nm = "<init>") (hdecl : C = own) (hnar : narrow (ty k) (.ref x) = .ref x) (hfit : fits (ty k) (.ref x) = true) (h : (xpR w a ci k x).bind g = some ro) (kk : ∀ w1, g w1 = some ro → xK cc nL own nm ret R X lv (st) w1 sz cl sl pc' r) : xK cc nL own nm ret R X lv (.ref x :: .ref a :: st) w sz cl sl pc r := by
  obtain ⟨hd, rfl⟩ := hd
  obtain ⟨w1, hx, hq⟩ := xb h
  exact fun p e s m below meth c H locs ls Z hm hn hr hk J hl => xg_putF Z J K k (Nat.le_of_ble_eq_true hkn) hw hc hfin (hn.trans hnm) hdecl hnar hfit hd hx (fun H locs J => kk w1 hq p e s m below meth c H locs ls Z hm hn hr hk J hl)
theorem xo_putZ {ci index N a : Nat} {C : String} {T : u_T} {ty : Nat → FieldType} {x : Int32} (k : Nat) {g : xw → Option ρ} (hd : xD cc pc (.putfield index) 3 pc') (K : xC ci C T N ty) (hkn : Nat.ble (k + 1) N = true) (hw : Cond.fieldLink own index C (T k).2.1 (T k).2.2.1 ∈ xT) (hc : (T k).1 = C) (hfin : (T k).2.2.2 = false) (hty : ty k = .boolean) (h : (xpZ w a ci k x).bind g = some ro) (kk : ∀ w1, g w1 = some ro → xK cc nL own nm ret R X lv (st) w1 sz cl sl pc' r) : xK cc nL own nm ret R X lv (.int x :: .ref a :: st) w sz cl sl pc r := by
  obtain ⟨hd, rfl⟩ := hd
  obtain ⟨w1, hx, hq⟩ := xb h
  unfold xpZ at hx
  split at hx
  · rename_i hb
    obtain ⟨n1, n2, -⟩ := xnar hb
    exact fun p e s m below meth c H locs ls Z hm hn hr hk J hl => xg_putV Z J K k (Nat.le_of_ble_eq_true hkn) hw hc hfin (by rw [hty]; exact n1) (by rw [hty]; exact n2) hd hx (fun H locs J => kk w1 hq p e s m below meth c H locs ls Z hm hn hr hk J hl)
  · cases hx
theorem xo_putZF {ci index N a : Nat} {C : String} {T : u_T} {ty : Nat → FieldType} {x : Int32} (k : Nat) {g : xw → Option ρ} (hd : xD cc pc (.putfield index) 3 pc') (K : xC ci C T N ty) (hkn : Nat.ble (k + 1) N = true) (hw : Cond.fieldLink own index C (T k).2.1 (T k).2.2.1 ∈ xT) (hc : (T k).1 = C) (hfin : (T k).2.2.2 = true) (hnm : nm = "<init>") (hdecl : C = own) (hty : ty k = .boolean) (h : (xpZ w a ci k x).bind g = some ro) (kk : ∀ w1, g w1 = some ro → xK cc nL own nm ret R X lv (st) w1 sz cl sl pc' r) : xK cc nL own nm ret R X lv (.int x :: .ref a :: st) w sz cl sl pc r := by
  obtain ⟨hd, rfl⟩ := hd
  obtain ⟨w1, hx, hq⟩ := xb h
  unfold xpZ at hx
  split at hx
  · rename_i hb
    obtain ⟨n1, n2, -⟩ := xnar hb
    exact fun p e s m below meth c H locs ls Z hm hn hr hk J hl => xg_putF Z J K k (Nat.le_of_ble_eq_true hkn) hw hc hfin (hn.trans hnm) hdecl (by rw [hty]; exact n1) (by rw [hty]; exact n2) hd hx (fun H locs J => kk w1 hq p e s m below meth c H locs ls Z hm hn hr hk J hl)
  · cases hx
theorem xo_aldI {a : Nat} {i : Int32} {g : Int32 → Option ρ} (hd : xD cc pc .iaload 1 pc') (h : (xaI w a i).bind g = some ro) (kk : ∀ x, g x = some ro → xK cc nL own nm ret R X lv (.int x :: st) w sz cl sl pc' r) : xK cc nL own nm ret R X lv (.int i :: .ref a :: st) w sz cl sl pc r := by
  obtain ⟨hd, rfl⟩ := hd
  obtain ⟨x, hx, hq⟩ := xb h
  obtain ⟨n, f, he, hi, rfl⟩ := xaI_inv hx
  exact fun p e s m below meth c H locs ls Z hm hn hr hk J hl => va_iald Z.1 Z.2.1 Z.2.2.2.2.1 (xP1 (J.1 a _ he)) 0 0 rfl rfl hi hd (kk _ hq p e s m below meth c H locs ls Z hm hn hr hk J hl)
theorem xo_aldZ {a : Nat} {i : Int32} {g : Int32 → Option ρ} (hd : xD cc pc .baload 1 pc') (h : (xaZ w a i).bind g = some ro) (kk : ∀ x, g x = some ro → xK cc nL own nm ret R X lv (.int x :: st) w sz cl sl pc' r) : xK cc nL own nm ret R X lv (.int i :: .ref a :: st) w sz cl sl pc r := by
  obtain ⟨hd, rfl⟩ := hd
  obtain ⟨x, hx, hq⟩ := xb h
  obtain ⟨n, f, he, hi, rfl⟩ := xaZ_inv hx
  exact fun p e s m below meth c H locs ls Z hm hn hr hk J hl => va_zald Z.1 Z.2.1 Z.2.2.2.2.1 (xP1 (J.1 a _ he)) 0 2 rfl rfl hi hd (kk _ hq p e s m below meth c H locs ls Z hm hn hr hk J hl)
theorem xo_aldL {a : Nat} {i : Int32} {g : Int64 → Option ρ} (hd : xD cc pc .laload 1 pc') (h : (xaL w a i).bind g = some ro) (kk : ∀ x, g x = some ro → xK cc nL own nm ret R X lv (.long x :: st) w sz cl sl pc' r) : xK cc nL own nm ret R X lv (.int i :: .ref a :: st) w sz cl sl pc r := by
  obtain ⟨hd, rfl⟩ := hd
  obtain ⟨x, hx, hq⟩ := xb h
  obtain ⟨n, f, he, hi, rfl⟩ := xaL_inv hx
  exact fun p e s m below meth c H locs ls Z hm hn hr hk J hl => va_lald Z.1 Z.2.1 Z.2.2.2.2.1 (xP1 (J.1 a _ he)) 0 1 rfl rfl hi hd (kk _ hq p e s m below meth c H locs ls Z hm hn hr hk J hl)
theorem xo_aldR {a : Nat} {i : Int32} {g : Nat → Option ρ} (hd : xD cc pc .aaload 1 pc') (h : (xaR w a i).bind g = some ro) (kk : ∀ x, g x = some ro → xK cc nL own nm ret R X lv (.ref x :: st) w sz cl sl pc' r) : xK cc nL own nm ret R X lv (.int i :: .ref a :: st) w sz cl sl pc r := by
  obtain ⟨hd, rfl⟩ := hd
  obtain ⟨x, hx, hq⟩ := xb h
  obtain ⟨t, n, f, he, ht, hi, hf⟩ := xaR_inv hx
  have key : ∀ (t0 : Nat) (C : String), (∀ cT : Nat → ClassId, (xtys cT)[t0]? = some (cT t, .object C)) → xK cc nL own nm ret R X lv (.int i :: .ref a :: st) w sz cl sl pc r := fun t0 C hty p e s m below meth c H locs ls Z hm hn hr hk J hl =>
    va_aldq (C := C) Z.1 Z.2.1 Z.2.2.2.2.1 (xP1 (J.1 a _ he)) 0 t0 rfl (hty _) hi hd (by rw [hf]; exact kk _ hq p e s m below meth c H locs ls Z hm hn hr hk J hl)
  have h3 : t = 3 ∨ t = 4 ∨ t = 5 := by omega
  rcases h3 with rfl | rfl | rfl
  · exact key 3 _ (fun _ => rfl)
  · exact key 4 _ (fun _ => rfl)
  · exact key 5 _ (fun _ => rfl)
theorem xo_astI {a : Nat} {i : Int32} {x : Int32} {g : xw → Option ρ} (hd : xD cc pc .iastore 1 pc') (h : (xsI w a i x).bind g = some ro) (kk : ∀ w1, g w1 = some ro → xK cc nL own nm ret R X lv (st) w1 sz cl sl pc' r) : xK cc nL own nm ret R X lv (.int x :: .int i :: .ref a :: st) w sz cl sl pc r := by
  obtain ⟨hd, rfl⟩ := hd
  obtain ⟨w1, hx, hq⟩ := xb h
  obtain ⟨n, f, he, hi, rfl⟩ := xsI_inv hx
  exact fun p e s m below meth c H locs ls Z hm hn hr hk J hl => by
    refine W.iast Z.1 Z.2.1 (J.1 a _ he) ((Z.2.2.2.2.1.2 0 _ rfl).1 n (fun j => .int (f j))) (fun q => by cases q) (by show ¬ (i < 0 ∨ (arrV _ _ _).slots.size ≤ _); rw [arrV_size]; exact hi) rfl rfl hd fun H1 e1 z oq => ?_
    refine kk _ hq p e s m below meth c H1 _ ls Z hm hn hr hk (J.put he ?_ z oq) hl
    show H1[a]? = some (vp_cell _ _)
    rw [e1]
    show some (Cell.setSlot (vp_cell _ _) _ _) = _
    rw [vp_cell_i, vp_cell_i, arrV_store]
    congr 2
    funext q
    by_cases hq : q = i.toNatClampNeg
    · subst hq
      simp [updV, upd]
    · simp [updV, upd, hq]
theorem xo_astL {a : Nat} {i : Int32} {x : Int64} {g : xw → Option ρ} (hd : xD cc pc .lastore 1 pc') (h : (xsL w a i x).bind g = some ro) (kk : ∀ w1, g w1 = some ro → xK cc nL own nm ret R X lv (st) w1 sz cl sl pc' r) : xK cc nL own nm ret R X lv (.long x :: .int i :: .ref a :: st) w sz cl sl pc r := by
  obtain ⟨hd, rfl⟩ := hd
  obtain ⟨w1, hx, hq⟩ := xb h
  obtain ⟨n, f, he, hi, rfl⟩ := xsL_inv hx
  exact fun p e s m below meth c H locs ls Z hm hn hr hk J hl => by
    refine W.last Z.1 Z.2.1 (J.1 a _ he) ((Z.2.2.2.2.1.2 1 _ rfl).1 n (fun j => .long (f j))) (fun q => by cases q) (by show ¬ (i < 0 ∨ (arrV _ _ _).slots.size ≤ _); rw [arrV_size]; exact hi) rfl rfl hd fun H1 e1 z oq => ?_
    refine kk _ hq p e s m below meth c H1 _ ls Z hm hn hr hk (J.put he ?_ z oq) hl
    show H1[a]? = some (vp_cell _ _)
    rw [e1]
    show some (Cell.setSlot (vp_cell _ _) _ _) = _
    rw [vp_cell_l, vp_cell_l, arrV_store]
    congr 2
    funext q
    by_cases hq : q = i.toNatClampNeg
    · subst hq
      simp [updV, vp_updL]
    · simp [updV, vp_updL, hq]
theorem xo_astZ {a : Nat} {i : Int32} {x : Int32} {g : xw → Option ρ} (hd : xD cc pc .bastore 1 pc') (h : (xsZ w a i x).bind g = some ro) (kk : ∀ w1, g w1 = some ro → xK cc nL own nm ret R X lv (st) w1 sz cl sl pc' r) : xK cc nL own nm ret R X lv (.int x :: .int i :: .ref a :: st) w sz cl sl pc r := by
  obtain ⟨hd, rfl⟩ := hd
  obtain ⟨w1, hx, hq⟩ := xb h
  obtain ⟨n, f, he, hb, hi, rfl⟩ := xsZ_inv hx
  obtain ⟨-, -, hnr⟩ := xnar hb
  exact fun p e s m below meth c H locs ls Z hm hn hr hk J hl => by
    refine W.zast Z.1 Z.2.1 (J.1 a _ he) ((Z.2.2.2.2.1.2 2 _ rfl).1 n (fun j => .int (f j))) (fun q => by cases q) (by show ¬ (i < 0 ∨ (arrV _ _ _).slots.size ≤ _); rw [arrV_size]; exact hi) rfl rfl hd fun H1 e1 z oq => ?_
    refine kk _ hq p e s m below meth c H1 _ ls Z hm hn hr hk (J.put he ?_ z oq) hl
    show H1[a]? = some (vp_cell _ _)
    rw [e1]
    show some (Cell.setSlot (vp_cell _ _) _ _) = _
    rw [vp_cell_i, vp_cell_i, arrV_store]
    congr 2
    funext q
    by_cases hq : q = i.toNatClampNeg
    · subst hq
      rcases hb with rfl | rfl <;> simp [updV, upd] <;> rfl
    · simp [updV, upd, hq]
theorem xo_obj {index a : Nat} (hd : xD cc pc (.invokespecial index) 3 pc') (hw : Cond.methodLink own index Lib.objectInit ∈ xT) (hfr : Nat.ble 1 R.frames = true) (hsm : Nat.ble ((st.map fun v => v.category).sum + 12) R.locals = true) (k : xK cc nL own nm ret R X lv (st) w sz cl sl pc' r) : xK cc nL own nm ret R X lv (.ref a :: st) w sz cl sl pc r := by
  obtain ⟨hd, rfl⟩ := hd
  exact fun p e s m below meth c H locs ls Z hm hn hr hk J hl => W.objInit Z.1 Z.2.1 Z.2.2.1 (Z.2.2.2.1 _ hw) (Z.2.2.2.1 _ xw_objinst) (Z.2.2.2.1 _ xw_objcode) rfl (hl.1.trans hm.symm) rfl hd (Nat.le_of_ble_eq_true hfr) (by
    have := Nat.le_of_ble_eq_true hsm
    show 2 * (F0 m pc ls (.ref a :: st)).monitorRoom + (st.map fun v => v.category).sum + 12 ≤ R.locals
    have h0 : (F0 m pc ls (.ref a :: st)).monitorRoom = 0 := rfl
    omega) (k p e s m below meth c H locs ls Z hm hn hr hk J hl)
theorem xc_S {As rest st0 : List Value} {y : MethodName} {bytes : ByteArray} {maxL n index : Nat} {ret' : Option FieldType} {R' : Room} {r' : xR} (hd : xD cc pc (.invokestatic index) 3 pc') (hw : Cond.methodLink own index y ∈ xT) (hy : xYS y bytes maxL ret' n) (hM : xM X.1 y bytes maxL ret' R' X.2.1 X.2.2.1 As w sz r') (hf : xfit R' maxL R cl sl = true) (hnA : As.length = n) (hst : st0 = As.reverse ++ rest) (hW : Nat.ble (rest.map fun v => v.category).sum 8 = true) (k : xK cc nL own nm ret R X lv (r'.1.toList ++ rest) r'.2.1 r'.2.2 (cl + R'.cells) (sl + R'.slots) pc' r) : xK cc nL own nm ret R X lv (st0) w sz cl sl pc r := by
  obtain ⟨hd, rfl⟩ := hd
  obtain ⟨hf1, hf2⟩ := xfit_of hf
  exact fun p e s m below meth c H locs ls Z hm hn hr hk J hl => xg_go (va_runS (As := As) (n := n) ⟨Z.1, Z.2.1, hm, Z.2.2.1, Z.2.2.2.1⟩ hM ⟨callB_of n Z.2.2.2.1 (xgood hy.1) rfl rfl rfl (Z.2.2.2.1 _ hy.2.2.1) (Z.2.2.2.1 _ hw) hy.2.2.2 hf1, Z.2.2.2.1 _ hy.2.1⟩ (xg_pre Z J) rfl hnA hl.1 hst (lv_room (Nat.le_of_ble_eq_true hW)) hd hf2) J (fun H locs J => k p e s m below meth c H locs ls Z hm hn hr hk J hl)
theorem xc_SN {host : String} {As rest st0 : List Value} {y : MethodName} {bytes : ByteArray} {maxL n index : Nat} {ret' : Option FieldType} {R' : Room} {r' : xR} (hd : xD cc pc (.invokestatic index) 3 pc') (hw : (own, index, y, host) ∈ xNw) (hy : xYS y bytes maxL ret' n) (hM : xM X.1 y bytes maxL ret' R' X.2.1 X.2.2.1 As w sz r') (hf : xfit R' maxL R cl sl = true) (hnA : As.length = n) (hst : st0 = As.reverse ++ rest) (hW : Nat.ble (rest.map fun v => v.category).sum 8 = true) (k : xK cc nL own nm ret R X lv (r'.1.toList ++ rest) r'.2.1 r'.2.2 (cl + R'.cells) (sl + R'.slots) pc' r) : xK cc nL own nm ret R X lv (st0) w sz cl sl pc r := by
  obtain ⟨hd, rfl⟩ := hd
  obtain ⟨hf1, hf2⟩ := xfit_of hf
  exact fun p e s m below meth c H locs ls Z hm hn hr hk J hl => xg_go (va_runSN (As := As) (n := n) ⟨Z.1, Z.2.1, hm, Z.2.2.1, Z.2.2.2.1⟩ hM ⟨va_cnB n Z.2.2.2.1 (xgood hy.1) rfl rfl rfl (Z.2.2.2.2.2.1 _ hw) (Z.2.2.2.1 _ hy.2.2.1) hy.2.2.2 hf1, Z.2.2.2.1 _ hy.2.1, trivial⟩ (xg_pre Z J) rfl hnA hl.1 hst (lv_room (Nat.le_of_ble_eq_true hW)) hd hf2) J (fun H locs J => k p e s m below meth c H locs ls Z hm hn hr hk J hl)
theorem xc_V {As rest st0 : List Value} {y : MethodName} {bytes : ByteArray} {maxL n index b ci N : Nat} {T : u_T} {ty : Nat → FieldType} {ret' : Option FieldType} {R' : Room} {r' : xR} {u : Unit} (hd : xD cc pc (.invokevirtual index) 3 pc') (hw : Cond.methodLink own index y ∈ xT) (hy : xYV y bytes maxL ret' n) (K : xC ci y.cls T N ty) (hck : xck w b ci = some u) (hM : xM X.1 y bytes maxL ret' R' X.2.1 X.2.2.1 (.ref b :: As) w sz r') (hf : xfit R' maxL R cl sl = true) (hnA : As.length = n) (hst : st0 = As.reverse ++ .ref b :: rest) (hW : Nat.ble (rest.map fun v => v.category).sum 8 = true) (k : xK cc nL own nm ret R X lv (r'.1.toList ++ rest) r'.2.1 r'.2.2 (cl + R'.cells) (sl + R'.slots) pc' r) : xK cc nL own nm ret R X lv (st0) w sz cl sl pc r := by
  obtain ⟨hd, rfl⟩ := hd
  obtain ⟨hf1, hf2⟩ := xfit_of hf
  obtain ⟨fs, he⟩ := xck_inv hck
  exact fun p e s m below meth c H locs ls Z hm hn hr hk J hl => xg_go (va_runV (C := y.cls) (b := b) (As := As) (n := n) ⟨Z.1, Z.2.1, hm, Z.2.2.1, Z.2.2.2.1⟩ hM ⟨callB_of n Z.2.2.2.1 (xgood hy.1) rfl rfl rfl (Z.2.2.2.1 _ hy.2.2.1) (Z.2.2.2.1 _ hw) hy.2.2.2.1 hf1, Z.2.2.2.1 _ hy.2.1, Z.2.2.2.1 _ hy.2.2.2.2⟩ ⟨(xg_pre Z J).1, va_recv (q0 := 0) Z.2.2.2.2.1 (xP1 (J.1 b _ he)) K.1 rfl, (xg_pre Z J).2⟩ rfl hnA hl.1 hst (lv_room (Nat.le_of_ble_eq_true hW)) hd hf2) J (fun H locs J => k p e s m below meth c H locs ls Z hm hn hr hk J hl)
theorem xc_VN {host : String} {As rest st0 : List Value} {y : MethodName} {bytes : ByteArray} {maxL n index b ci N : Nat} {T : u_T} {ty : Nat → FieldType} {ret' : Option FieldType} {R' : Room} {r' : xR} {u : Unit} (hd : xD cc pc (.invokevirtual index) 3 pc') (hw : (own, index, y, host) ∈ xNw) (hy : xYV y bytes maxL ret' n) (K : xC ci y.cls T N ty) (hck : xck w b ci = some u) (hM : xM X.1 y bytes maxL ret' R' X.2.1 X.2.2.1 (.ref b :: As) w sz r') (hf : xfit R' maxL R cl sl = true) (hnA : As.length = n) (hst : st0 = As.reverse ++ .ref b :: rest) (hW : Nat.ble (rest.map fun v => v.category).sum 8 = true) (k : xK cc nL own nm ret R X lv (r'.1.toList ++ rest) r'.2.1 r'.2.2 (cl + R'.cells) (sl + R'.slots) pc' r) : xK cc nL own nm ret R X lv (st0) w sz cl sl pc r := by
  obtain ⟨hd, rfl⟩ := hd
  obtain ⟨hf1, hf2⟩ := xfit_of hf
  obtain ⟨fs, he⟩ := xck_inv hck
  exact fun p e s m below meth c H locs ls Z hm hn hr hk J hl => xg_go (va_runVN (C := y.cls) (b := b) (As := As) (n := n) ⟨Z.1, Z.2.1, hm, Z.2.2.1, Z.2.2.2.1⟩ hM ⟨va_cnB n Z.2.2.2.1 (xgood hy.1) rfl rfl rfl (Z.2.2.2.2.2.1 _ hw) (Z.2.2.2.1 _ hy.2.2.1) hy.2.2.2.1 hf1, Z.2.2.2.1 _ hy.2.1, Z.2.2.2.1 _ hy.2.2.2.2⟩ ⟨(xg_pre Z J).1, va_recv (q0 := 0) Z.2.2.2.2.1 (xP1 (J.1 b _ he)) K.1 rfl, (xg_pre Z J).2⟩ rfl hnA hl.1 hst (lv_room (Nat.le_of_ble_eq_true hW)) hd hf2) J (fun H locs J => k p e s m below meth c H locs ls Z hm hn hr hk J hl)
theorem xc_I {As rest st0 : List Value} {y : MethodName} {bytes : ByteArray} {maxL n index b : Nat} {R' : Room} {r' : xR} (hd : xD cc pc (.invokespecial index) 3 pc') (hw : Cond.methodLink own index y ∈ xT) (hy : xYI y bytes maxL n) (hM : xM X.1 y bytes maxL none R' X.2.1 X.2.2.1 (.ref b :: As) w sz r') (hf : xfit R' maxL R cl sl = true) (hnA : As.length = n) (hst : st0 = As.reverse ++ .ref b :: rest) (hW : Nat.ble (rest.map fun v => v.category).sum 8 = true) (k : xK cc nL own nm ret R X lv (r'.1.toList ++ rest) r'.2.1 r'.2.2 (cl + R'.cells) (sl + R'.slots) pc' r) : xK cc nL own nm ret R X lv (st0) w sz cl sl pc r := by
  obtain ⟨hd, rfl⟩ := hd
  obtain ⟨hf1, hf2⟩ := xfit_of hf
  exact fun p e s m below meth c H locs ls Z hm hn hr hk J hl => xg_go (va_runI (b := b) (As := As) (n := n) ⟨Z.1, Z.2.1, hm, Z.2.2.1, Z.2.2.2.1⟩ hM ⟨callB_of n Z.2.2.2.1 (xgood hy.1) rfl rfl rfl (Z.2.2.2.1 _ hy.2.2.1) (Z.2.2.2.1 _ hw) hy.2.2.2.1 hf1, hy.2.2.2.2, Z.2.2.2.1 _ hy.2.1⟩ (xg_pre Z J) rfl hnA hl.1 hst (lv_room (Nat.le_of_ble_eq_true hW)) hd hf2) J (fun H locs J => k p e s m below meth c H locs ls Z hm hn hr hk J hl)
theorem xc_IN {host : String} {As rest st0 : List Value} {y : MethodName} {bytes : ByteArray} {maxL n index b : Nat} {R' : Room} {r' : xR} (hd : xD cc pc (.invokespecial index) 3 pc') (hw : (own, index, y, host) ∈ xNw) (hy : xYI y bytes maxL n) (hM : xM X.1 y bytes maxL none R' X.2.1 X.2.2.1 (.ref b :: As) w sz r') (hf : xfit R' maxL R cl sl = true) (hnA : As.length = n) (hst : st0 = As.reverse ++ .ref b :: rest) (hW : Nat.ble (rest.map fun v => v.category).sum 8 = true) (k : xK cc nL own nm ret R X lv (r'.1.toList ++ rest) r'.2.1 r'.2.2 (cl + R'.cells) (sl + R'.slots) pc' r) : xK cc nL own nm ret R X lv (st0) w sz cl sl pc r := by
  obtain ⟨hd, rfl⟩ := hd
  obtain ⟨hf1, hf2⟩ := xfit_of hf
  exact fun p e s m below meth c H locs ls Z hm hn hr hk J hl => xg_go (va_runIN (b := b) (As := As) (n := n) ⟨Z.1, Z.2.1, hm, Z.2.2.1, Z.2.2.2.1⟩ hM ⟨va_cnB n Z.2.2.2.1 (xgood hy.1) rfl rfl rfl (Z.2.2.2.2.2.1 _ hw) (Z.2.2.2.1 _ hy.2.2.1) hy.2.2.2.1 hf1, hy.2.2.2.2, Z.2.2.2.1 _ hy.2.1⟩ (xg_pre Z J) rfl hnA hl.1 hst (lv_room (Nat.le_of_ble_eq_true hW)) hd hf2) J (fun H locs J => k p e s m below meth c H locs ls Z hm hn hr hk J hl)
theorem xo_S_I0 {rest st0 : List Value} (As : List Value) {y : MethodName} {bytes : ByteArray} {maxL n index : Nat} {ret' : Option FieldType} {R' : Room} {o : Option (Int32)} {g : Int32 → Option ρ} (hd : xD cc pc (.invokestatic index) 3 pc') (hw : Cond.methodLink own index y ∈ xT) (hy : xYS y bytes maxL ret' n) (h : o.bind g = some ro) (hM : ∀ z, o = some z → xM X.1 y bytes maxL ret' R' X.2.1 X.2.2.1 As w sz (some (.int z), w, sz)) (hf : xfit R' maxL R cl sl = true) (hz : R'.cells = 0 ∧ R'.slots = 0) (hnA : As.length = n) (hst : st0 = As.reverse ++ rest) (hW : Nat.ble (rest.map fun v => v.category).sum 8 = true) (k : ∀ z, g z = some ro → xK cc nL own nm ret R X lv (.int z :: rest) w sz cl sl pc' r) : xK cc nL own nm ret R X lv (st0) w sz cl sl pc r := by
  skip
  obtain ⟨z, e1, h⟩ := xb h
  have kz := k z h
  exact xc_S (As := As) hd hw hy (hM z e1) hf hnA hst hW (by rw [hz.1, hz.2]; exact kz)
theorem xo_SN_I0 {host : String} {rest st0 : List Value} (As : List Value) {y : MethodName} {bytes : ByteArray} {maxL n index : Nat} {ret' : Option FieldType} {R' : Room} {o : Option (Int32)} {g : Int32 → Option ρ} (hd : xD cc pc (.invokestatic index) 3 pc') (hw : (own, index, y, host) ∈ xNw) (hy : xYS y bytes maxL ret' n) (h : o.bind g = some ro) (hM : ∀ z, o = some z → xM X.1 y bytes maxL ret' R' X.2.1 X.2.2.1 As w sz (some (.int z), w, sz)) (hf : xfit R' maxL R cl sl = true) (hz : R'.cells = 0 ∧ R'.slots = 0) (hnA : As.length = n) (hst : st0 = As.reverse ++ rest) (hW : Nat.ble (rest.map fun v => v.category).sum 8 = true) (k : ∀ z, g z = some ro → xK cc nL own nm ret R X lv (.int z :: rest) w sz cl sl pc' r) : xK cc nL own nm ret R X lv (st0) w sz cl sl pc r := by
  skip
  obtain ⟨z, e1, h⟩ := xb h
  have kz := k z h
  exact xc_SN (As := As) hd hw hy (hM z e1) hf hnA hst hW (by rw [hz.1, hz.2]; exact kz)
theorem xo_V_I0 {rest st0 : List Value} (As : List Value) {y : MethodName} {bytes : ByteArray} {maxL n index : Nat} {b ci N : Nat} {T : u_T} {ty : Nat → FieldType} {ret' : Option FieldType} {R' : Room} {o : Option (Int32)} {g : Int32 → Option ρ} (hd : xD cc pc (.invokevirtual index) 3 pc') (hw : Cond.methodLink own index y ∈ xT) (hy : xYV y bytes maxL ret' n) (h : (xck w b ci).bind (fun _ => o.bind g) = some ro) (K : xC ci y.cls T N ty) (hM : ∀ z, o = some z → xM X.1 y bytes maxL ret' R' X.2.1 X.2.2.1 (.ref b :: As) w sz (some (.int z), w, sz)) (hf : xfit R' maxL R cl sl = true) (hz : R'.cells = 0 ∧ R'.slots = 0) (hnA : As.length = n) (hst : st0 = As.reverse ++ .ref b :: rest) (hW : Nat.ble (rest.map fun v => v.category).sum 8 = true) (k : ∀ z, g z = some ro → xK cc nL own nm ret R X lv (.int z :: rest) w sz cl sl pc' r) : xK cc nL own nm ret R X lv (st0) w sz cl sl pc r := by
  obtain ⟨u, hu, h⟩ := xb h
  obtain ⟨z, e1, h⟩ := xb h
  have kz := k z h
  exact xc_V (As := As) hd hw hy K hu (hM z e1) hf hnA hst hW (by rw [hz.1, hz.2]; exact kz)
theorem xo_VN_I0 {host : String} {rest st0 : List Value} (As : List Value) {y : MethodName} {bytes : ByteArray} {maxL n index : Nat} {b ci N : Nat} {T : u_T} {ty : Nat → FieldType} {ret' : Option FieldType} {R' : Room} {o : Option (Int32)} {g : Int32 → Option ρ} (hd : xD cc pc (.invokevirtual index) 3 pc') (hw : (own, index, y, host) ∈ xNw) (hy : xYV y bytes maxL ret' n) (h : (xck w b ci).bind (fun _ => o.bind g) = some ro) (K : xC ci y.cls T N ty) (hM : ∀ z, o = some z → xM X.1 y bytes maxL ret' R' X.2.1 X.2.2.1 (.ref b :: As) w sz (some (.int z), w, sz)) (hf : xfit R' maxL R cl sl = true) (hz : R'.cells = 0 ∧ R'.slots = 0) (hnA : As.length = n) (hst : st0 = As.reverse ++ .ref b :: rest) (hW : Nat.ble (rest.map fun v => v.category).sum 8 = true) (k : ∀ z, g z = some ro → xK cc nL own nm ret R X lv (.int z :: rest) w sz cl sl pc' r) : xK cc nL own nm ret R X lv (st0) w sz cl sl pc r := by
  obtain ⟨u, hu, h⟩ := xb h
  obtain ⟨z, e1, h⟩ := xb h
  have kz := k z h
  exact xc_VN (As := As) hd hw hy K hu (hM z e1) hf hnA hst hW (by rw [hz.1, hz.2]; exact kz)
theorem xo_S_IH {rest st0 : List Value} (As : List Value) {y : MethodName} {bytes : ByteArray} {maxL n index : Nat} {ret' : Option FieldType} {R' : Room} {o : Option (Int32 × xw)} {g : Int32 × xw → Option ρ} (hd : xD cc pc (.invokestatic index) 3 pc') (hw : Cond.methodLink own index y ∈ xT) (hy : xYS y bytes maxL ret' n) (h : o.bind g = some ro) (hM : ∀ z, o = some z → xM X.1 y bytes maxL ret' R' X.2.1 X.2.2.1 As w sz (some (.int z.1), z.2, sz)) (hf : xfit R' maxL R cl sl = true) (hz : R'.cells = 0 ∧ R'.slots = 0) (hnA : As.length = n) (hst : st0 = As.reverse ++ rest) (hW : Nat.ble (rest.map fun v => v.category).sum 8 = true) (k : ∀ z, g z = some ro → xK cc nL own nm ret R X lv (.int z.1 :: rest) z.2 sz cl sl pc' r) : xK cc nL own nm ret R X lv (st0) w sz cl sl pc r := by
  skip
  obtain ⟨z, e1, h⟩ := xb h
  have kz := k z h
  exact xc_S (As := As) hd hw hy (hM z e1) hf hnA hst hW (by rw [hz.1, hz.2]; exact kz)
theorem xo_SN_IH {host : String} {rest st0 : List Value} (As : List Value) {y : MethodName} {bytes : ByteArray} {maxL n index : Nat} {ret' : Option FieldType} {R' : Room} {o : Option (Int32 × xw)} {g : Int32 × xw → Option ρ} (hd : xD cc pc (.invokestatic index) 3 pc') (hw : (own, index, y, host) ∈ xNw) (hy : xYS y bytes maxL ret' n) (h : o.bind g = some ro) (hM : ∀ z, o = some z → xM X.1 y bytes maxL ret' R' X.2.1 X.2.2.1 As w sz (some (.int z.1), z.2, sz)) (hf : xfit R' maxL R cl sl = true) (hz : R'.cells = 0 ∧ R'.slots = 0) (hnA : As.length = n) (hst : st0 = As.reverse ++ rest) (hW : Nat.ble (rest.map fun v => v.category).sum 8 = true) (k : ∀ z, g z = some ro → xK cc nL own nm ret R X lv (.int z.1 :: rest) z.2 sz cl sl pc' r) : xK cc nL own nm ret R X lv (st0) w sz cl sl pc r := by
  skip
  obtain ⟨z, e1, h⟩ := xb h
  have kz := k z h
  exact xc_SN (As := As) hd hw hy (hM z e1) hf hnA hst hW (by rw [hz.1, hz.2]; exact kz)
theorem xo_V_IH {rest st0 : List Value} (As : List Value) {y : MethodName} {bytes : ByteArray} {maxL n index : Nat} {b ci N : Nat} {T : u_T} {ty : Nat → FieldType} {ret' : Option FieldType} {R' : Room} {o : Option (Int32 × xw)} {g : Int32 × xw → Option ρ} (hd : xD cc pc (.invokevirtual index) 3 pc') (hw : Cond.methodLink own index y ∈ xT) (hy : xYV y bytes maxL ret' n) (h : (xck w b ci).bind (fun _ => o.bind g) = some ro) (K : xC ci y.cls T N ty) (hM : ∀ z, o = some z → xM X.1 y bytes maxL ret' R' X.2.1 X.2.2.1 (.ref b :: As) w sz (some (.int z.1), z.2, sz)) (hf : xfit R' maxL R cl sl = true) (hz : R'.cells = 0 ∧ R'.slots = 0) (hnA : As.length = n) (hst : st0 = As.reverse ++ .ref b :: rest) (hW : Nat.ble (rest.map fun v => v.category).sum 8 = true) (k : ∀ z, g z = some ro → xK cc nL own nm ret R X lv (.int z.1 :: rest) z.2 sz cl sl pc' r) : xK cc nL own nm ret R X lv (st0) w sz cl sl pc r := by
  obtain ⟨u, hu, h⟩ := xb h
  obtain ⟨z, e1, h⟩ := xb h
  have kz := k z h
  exact xc_V (As := As) hd hw hy K hu (hM z e1) hf hnA hst hW (by rw [hz.1, hz.2]; exact kz)
theorem xo_VN_IH {host : String} {rest st0 : List Value} (As : List Value) {y : MethodName} {bytes : ByteArray} {maxL n index : Nat} {b ci N : Nat} {T : u_T} {ty : Nat → FieldType} {ret' : Option FieldType} {R' : Room} {o : Option (Int32 × xw)} {g : Int32 × xw → Option ρ} (hd : xD cc pc (.invokevirtual index) 3 pc') (hw : (own, index, y, host) ∈ xNw) (hy : xYV y bytes maxL ret' n) (h : (xck w b ci).bind (fun _ => o.bind g) = some ro) (K : xC ci y.cls T N ty) (hM : ∀ z, o = some z → xM X.1 y bytes maxL ret' R' X.2.1 X.2.2.1 (.ref b :: As) w sz (some (.int z.1), z.2, sz)) (hf : xfit R' maxL R cl sl = true) (hz : R'.cells = 0 ∧ R'.slots = 0) (hnA : As.length = n) (hst : st0 = As.reverse ++ .ref b :: rest) (hW : Nat.ble (rest.map fun v => v.category).sum 8 = true) (k : ∀ z, g z = some ro → xK cc nL own nm ret R X lv (.int z.1 :: rest) z.2 sz cl sl pc' r) : xK cc nL own nm ret R X lv (st0) w sz cl sl pc r := by
  obtain ⟨u, hu, h⟩ := xb h
  obtain ⟨z, e1, h⟩ := xb h
  have kz := k z h
  exact xc_VN (As := As) hd hw hy K hu (hM z e1) hf hnA hst hW (by rw [hz.1, hz.2]; exact kz)
theorem xo_S_IA {rest st0 : List Value} (As : List Value) {y : MethodName} {bytes : ByteArray} {maxL n index : Nat} {ret' : Option FieldType} {R' : Room} {o : Option (Int32 × xw × Nat)} {g : Int32 × xw × Nat → Option ρ} (hd : xD cc pc (.invokestatic index) 3 pc') (hw : Cond.methodLink own index y ∈ xT) (hy : xYS y bytes maxL ret' n) (h : o.bind g = some ro) (hM : ∀ z, o = some z → xM X.1 y bytes maxL ret' R' X.2.1 X.2.2.1 As w sz (some (.int z.1), z.2.1, z.2.2)) (hf : xfit R' maxL R cl sl = true) (hnA : As.length = n) (hst : st0 = As.reverse ++ rest) (hW : Nat.ble (rest.map fun v => v.category).sum 8 = true) (k : ∀ z, g z = some ro → xK cc nL own nm ret R X lv (.int z.1 :: rest) z.2.1 z.2.2 (cl + R'.cells) (sl + R'.slots) pc' r) : xK cc nL own nm ret R X lv (st0) w sz cl sl pc r := by
  skip
  obtain ⟨z, e1, h⟩ := xb h
  have kz := k z h
  exact xc_S (As := As) hd hw hy (hM z e1) hf hnA hst hW kz
theorem xo_SN_IA {host : String} {rest st0 : List Value} (As : List Value) {y : MethodName} {bytes : ByteArray} {maxL n index : Nat} {ret' : Option FieldType} {R' : Room} {o : Option (Int32 × xw × Nat)} {g : Int32 × xw × Nat → Option ρ} (hd : xD cc pc (.invokestatic index) 3 pc') (hw : (own, index, y, host) ∈ xNw) (hy : xYS y bytes maxL ret' n) (h : o.bind g = some ro) (hM : ∀ z, o = some z → xM X.1 y bytes maxL ret' R' X.2.1 X.2.2.1 As w sz (some (.int z.1), z.2.1, z.2.2)) (hf : xfit R' maxL R cl sl = true) (hnA : As.length = n) (hst : st0 = As.reverse ++ rest) (hW : Nat.ble (rest.map fun v => v.category).sum 8 = true) (k : ∀ z, g z = some ro → xK cc nL own nm ret R X lv (.int z.1 :: rest) z.2.1 z.2.2 (cl + R'.cells) (sl + R'.slots) pc' r) : xK cc nL own nm ret R X lv (st0) w sz cl sl pc r := by
  skip
  obtain ⟨z, e1, h⟩ := xb h
  have kz := k z h
  exact xc_SN (As := As) hd hw hy (hM z e1) hf hnA hst hW kz
theorem xo_V_IA {rest st0 : List Value} (As : List Value) {y : MethodName} {bytes : ByteArray} {maxL n index : Nat} {b ci N : Nat} {T : u_T} {ty : Nat → FieldType} {ret' : Option FieldType} {R' : Room} {o : Option (Int32 × xw × Nat)} {g : Int32 × xw × Nat → Option ρ} (hd : xD cc pc (.invokevirtual index) 3 pc') (hw : Cond.methodLink own index y ∈ xT) (hy : xYV y bytes maxL ret' n) (h : (xck w b ci).bind (fun _ => o.bind g) = some ro) (K : xC ci y.cls T N ty) (hM : ∀ z, o = some z → xM X.1 y bytes maxL ret' R' X.2.1 X.2.2.1 (.ref b :: As) w sz (some (.int z.1), z.2.1, z.2.2)) (hf : xfit R' maxL R cl sl = true) (hnA : As.length = n) (hst : st0 = As.reverse ++ .ref b :: rest) (hW : Nat.ble (rest.map fun v => v.category).sum 8 = true) (k : ∀ z, g z = some ro → xK cc nL own nm ret R X lv (.int z.1 :: rest) z.2.1 z.2.2 (cl + R'.cells) (sl + R'.slots) pc' r) : xK cc nL own nm ret R X lv (st0) w sz cl sl pc r := by
  obtain ⟨u, hu, h⟩ := xb h
  obtain ⟨z, e1, h⟩ := xb h
  have kz := k z h
  exact xc_V (As := As) hd hw hy K hu (hM z e1) hf hnA hst hW kz
theorem xo_VN_IA {host : String} {rest st0 : List Value} (As : List Value) {y : MethodName} {bytes : ByteArray} {maxL n index : Nat} {b ci N : Nat} {T : u_T} {ty : Nat → FieldType} {ret' : Option FieldType} {R' : Room} {o : Option (Int32 × xw × Nat)} {g : Int32 × xw × Nat → Option ρ} (hd : xD cc pc (.invokevirtual index) 3 pc') (hw : (own, index, y, host) ∈ xNw) (hy : xYV y bytes maxL ret' n) (h : (xck w b ci).bind (fun _ => o.bind g) = some ro) (K : xC ci y.cls T N ty) (hM : ∀ z, o = some z → xM X.1 y bytes maxL ret' R' X.2.1 X.2.2.1 (.ref b :: As) w sz (some (.int z.1), z.2.1, z.2.2)) (hf : xfit R' maxL R cl sl = true) (hnA : As.length = n) (hst : st0 = As.reverse ++ .ref b :: rest) (hW : Nat.ble (rest.map fun v => v.category).sum 8 = true) (k : ∀ z, g z = some ro → xK cc nL own nm ret R X lv (.int z.1 :: rest) z.2.1 z.2.2 (cl + R'.cells) (sl + R'.slots) pc' r) : xK cc nL own nm ret R X lv (st0) w sz cl sl pc r := by
  obtain ⟨u, hu, h⟩ := xb h
  obtain ⟨z, e1, h⟩ := xb h
  have kz := k z h
  exact xc_VN (As := As) hd hw hy K hu (hM z e1) hf hnA hst hW kz
theorem xo_S_L0 {rest st0 : List Value} (As : List Value) {y : MethodName} {bytes : ByteArray} {maxL n index : Nat} {ret' : Option FieldType} {R' : Room} {o : Option (Int64)} {g : Int64 → Option ρ} (hd : xD cc pc (.invokestatic index) 3 pc') (hw : Cond.methodLink own index y ∈ xT) (hy : xYS y bytes maxL ret' n) (h : o.bind g = some ro) (hM : ∀ z, o = some z → xM X.1 y bytes maxL ret' R' X.2.1 X.2.2.1 As w sz (some (.long z), w, sz)) (hf : xfit R' maxL R cl sl = true) (hz : R'.cells = 0 ∧ R'.slots = 0) (hnA : As.length = n) (hst : st0 = As.reverse ++ rest) (hW : Nat.ble (rest.map fun v => v.category).sum 8 = true) (k : ∀ z, g z = some ro → xK cc nL own nm ret R X lv (.long z :: rest) w sz cl sl pc' r) : xK cc nL own nm ret R X lv (st0) w sz cl sl pc r := by
  skip
  obtain ⟨z, e1, h⟩ := xb h
  have kz := k z h
  exact xc_S (As := As) hd hw hy (hM z e1) hf hnA hst hW (by rw [hz.1, hz.2]; exact kz)
theorem xo_SN_L0 {host : String} {rest st0 : List Value} (As : List Value) {y : MethodName} {bytes : ByteArray} {maxL n index : Nat} {ret' : Option FieldType} {R' : Room} {o : Option (Int64)} {g : Int64 → Option ρ} (hd : xD cc pc (.invokestatic index) 3 pc') (hw : (own, index, y, host) ∈ xNw) (hy : xYS y bytes maxL ret' n) (h : o.bind g = some ro) (hM : ∀ z, o = some z → xM X.1 y bytes maxL ret' R' X.2.1 X.2.2.1 As w sz (some (.long z), w, sz)) (hf : xfit R' maxL R cl sl = true) (hz : R'.cells = 0 ∧ R'.slots = 0) (hnA : As.length = n) (hst : st0 = As.reverse ++ rest) (hW : Nat.ble (rest.map fun v => v.category).sum 8 = true) (k : ∀ z, g z = some ro → xK cc nL own nm ret R X lv (.long z :: rest) w sz cl sl pc' r) : xK cc nL own nm ret R X lv (st0) w sz cl sl pc r := by
  skip
  obtain ⟨z, e1, h⟩ := xb h
  have kz := k z h
  exact xc_SN (As := As) hd hw hy (hM z e1) hf hnA hst hW (by rw [hz.1, hz.2]; exact kz)
theorem xo_V_L0 {rest st0 : List Value} (As : List Value) {y : MethodName} {bytes : ByteArray} {maxL n index : Nat} {b ci N : Nat} {T : u_T} {ty : Nat → FieldType} {ret' : Option FieldType} {R' : Room} {o : Option (Int64)} {g : Int64 → Option ρ} (hd : xD cc pc (.invokevirtual index) 3 pc') (hw : Cond.methodLink own index y ∈ xT) (hy : xYV y bytes maxL ret' n) (h : (xck w b ci).bind (fun _ => o.bind g) = some ro) (K : xC ci y.cls T N ty) (hM : ∀ z, o = some z → xM X.1 y bytes maxL ret' R' X.2.1 X.2.2.1 (.ref b :: As) w sz (some (.long z), w, sz)) (hf : xfit R' maxL R cl sl = true) (hz : R'.cells = 0 ∧ R'.slots = 0) (hnA : As.length = n) (hst : st0 = As.reverse ++ .ref b :: rest) (hW : Nat.ble (rest.map fun v => v.category).sum 8 = true) (k : ∀ z, g z = some ro → xK cc nL own nm ret R X lv (.long z :: rest) w sz cl sl pc' r) : xK cc nL own nm ret R X lv (st0) w sz cl sl pc r := by
  obtain ⟨u, hu, h⟩ := xb h
  obtain ⟨z, e1, h⟩ := xb h
  have kz := k z h
  exact xc_V (As := As) hd hw hy K hu (hM z e1) hf hnA hst hW (by rw [hz.1, hz.2]; exact kz)
theorem xo_VN_L0 {host : String} {rest st0 : List Value} (As : List Value) {y : MethodName} {bytes : ByteArray} {maxL n index : Nat} {b ci N : Nat} {T : u_T} {ty : Nat → FieldType} {ret' : Option FieldType} {R' : Room} {o : Option (Int64)} {g : Int64 → Option ρ} (hd : xD cc pc (.invokevirtual index) 3 pc') (hw : (own, index, y, host) ∈ xNw) (hy : xYV y bytes maxL ret' n) (h : (xck w b ci).bind (fun _ => o.bind g) = some ro) (K : xC ci y.cls T N ty) (hM : ∀ z, o = some z → xM X.1 y bytes maxL ret' R' X.2.1 X.2.2.1 (.ref b :: As) w sz (some (.long z), w, sz)) (hf : xfit R' maxL R cl sl = true) (hz : R'.cells = 0 ∧ R'.slots = 0) (hnA : As.length = n) (hst : st0 = As.reverse ++ .ref b :: rest) (hW : Nat.ble (rest.map fun v => v.category).sum 8 = true) (k : ∀ z, g z = some ro → xK cc nL own nm ret R X lv (.long z :: rest) w sz cl sl pc' r) : xK cc nL own nm ret R X lv (st0) w sz cl sl pc r := by
  obtain ⟨u, hu, h⟩ := xb h
  obtain ⟨z, e1, h⟩ := xb h
  have kz := k z h
  exact xc_VN (As := As) hd hw hy K hu (hM z e1) hf hnA hst hW (by rw [hz.1, hz.2]; exact kz)
theorem xo_S_LH {rest st0 : List Value} (As : List Value) {y : MethodName} {bytes : ByteArray} {maxL n index : Nat} {ret' : Option FieldType} {R' : Room} {o : Option (Int64 × xw)} {g : Int64 × xw → Option ρ} (hd : xD cc pc (.invokestatic index) 3 pc') (hw : Cond.methodLink own index y ∈ xT) (hy : xYS y bytes maxL ret' n) (h : o.bind g = some ro) (hM : ∀ z, o = some z → xM X.1 y bytes maxL ret' R' X.2.1 X.2.2.1 As w sz (some (.long z.1), z.2, sz)) (hf : xfit R' maxL R cl sl = true) (hz : R'.cells = 0 ∧ R'.slots = 0) (hnA : As.length = n) (hst : st0 = As.reverse ++ rest) (hW : Nat.ble (rest.map fun v => v.category).sum 8 = true) (k : ∀ z, g z = some ro → xK cc nL own nm ret R X lv (.long z.1 :: rest) z.2 sz cl sl pc' r) : xK cc nL own nm ret R X lv (st0) w sz cl sl pc r := by
  skip
  obtain ⟨z, e1, h⟩ := xb h
  have kz := k z h
  exact xc_S (As := As) hd hw hy (hM z e1) hf hnA hst hW (by rw [hz.1, hz.2]; exact kz)
theorem xo_SN_LH {host : String} {rest st0 : List Value} (As : List Value) {y : MethodName} {bytes : ByteArray} {maxL n index : Nat} {ret' : Option FieldType} {R' : Room} {o : Option (Int64 × xw)} {g : Int64 × xw → Option ρ} (hd : xD cc pc (.invokestatic index) 3 pc') (hw : (own, index, y, host) ∈ xNw) (hy : xYS y bytes maxL ret' n) (h : o.bind g = some ro) (hM : ∀ z, o = some z → xM X.1 y bytes maxL ret' R' X.2.1 X.2.2.1 As w sz (some (.long z.1), z.2, sz)) (hf : xfit R' maxL R cl sl = true) (hz : R'.cells = 0 ∧ R'.slots = 0) (hnA : As.length = n) (hst : st0 = As.reverse ++ rest) (hW : Nat.ble (rest.map fun v => v.category).sum 8 = true) (k : ∀ z, g z = some ro → xK cc nL own nm ret R X lv (.long z.1 :: rest) z.2 sz cl sl pc' r) : xK cc nL own nm ret R X lv (st0) w sz cl sl pc r := by
  skip
  obtain ⟨z, e1, h⟩ := xb h
  have kz := k z h
  exact xc_SN (As := As) hd hw hy (hM z e1) hf hnA hst hW (by rw [hz.1, hz.2]; exact kz)
theorem xo_V_LH {rest st0 : List Value} (As : List Value) {y : MethodName} {bytes : ByteArray} {maxL n index : Nat} {b ci N : Nat} {T : u_T} {ty : Nat → FieldType} {ret' : Option FieldType} {R' : Room} {o : Option (Int64 × xw)} {g : Int64 × xw → Option ρ} (hd : xD cc pc (.invokevirtual index) 3 pc') (hw : Cond.methodLink own index y ∈ xT) (hy : xYV y bytes maxL ret' n) (h : (xck w b ci).bind (fun _ => o.bind g) = some ro) (K : xC ci y.cls T N ty) (hM : ∀ z, o = some z → xM X.1 y bytes maxL ret' R' X.2.1 X.2.2.1 (.ref b :: As) w sz (some (.long z.1), z.2, sz)) (hf : xfit R' maxL R cl sl = true) (hz : R'.cells = 0 ∧ R'.slots = 0) (hnA : As.length = n) (hst : st0 = As.reverse ++ .ref b :: rest) (hW : Nat.ble (rest.map fun v => v.category).sum 8 = true) (k : ∀ z, g z = some ro → xK cc nL own nm ret R X lv (.long z.1 :: rest) z.2 sz cl sl pc' r) : xK cc nL own nm ret R X lv (st0) w sz cl sl pc r := by
  obtain ⟨u, hu, h⟩ := xb h
  obtain ⟨z, e1, h⟩ := xb h
  have kz := k z h
  exact xc_V (As := As) hd hw hy K hu (hM z e1) hf hnA hst hW (by rw [hz.1, hz.2]; exact kz)
theorem xo_VN_LH {host : String} {rest st0 : List Value} (As : List Value) {y : MethodName} {bytes : ByteArray} {maxL n index : Nat} {b ci N : Nat} {T : u_T} {ty : Nat → FieldType} {ret' : Option FieldType} {R' : Room} {o : Option (Int64 × xw)} {g : Int64 × xw → Option ρ} (hd : xD cc pc (.invokevirtual index) 3 pc') (hw : (own, index, y, host) ∈ xNw) (hy : xYV y bytes maxL ret' n) (h : (xck w b ci).bind (fun _ => o.bind g) = some ro) (K : xC ci y.cls T N ty) (hM : ∀ z, o = some z → xM X.1 y bytes maxL ret' R' X.2.1 X.2.2.1 (.ref b :: As) w sz (some (.long z.1), z.2, sz)) (hf : xfit R' maxL R cl sl = true) (hz : R'.cells = 0 ∧ R'.slots = 0) (hnA : As.length = n) (hst : st0 = As.reverse ++ .ref b :: rest) (hW : Nat.ble (rest.map fun v => v.category).sum 8 = true) (k : ∀ z, g z = some ro → xK cc nL own nm ret R X lv (.long z.1 :: rest) z.2 sz cl sl pc' r) : xK cc nL own nm ret R X lv (st0) w sz cl sl pc r := by
  obtain ⟨u, hu, h⟩ := xb h
  obtain ⟨z, e1, h⟩ := xb h
  have kz := k z h
  exact xc_VN (As := As) hd hw hy K hu (hM z e1) hf hnA hst hW (by rw [hz.1, hz.2]; exact kz)
theorem xo_S_LA {rest st0 : List Value} (As : List Value) {y : MethodName} {bytes : ByteArray} {maxL n index : Nat} {ret' : Option FieldType} {R' : Room} {o : Option (Int64 × xw × Nat)} {g : Int64 × xw × Nat → Option ρ} (hd : xD cc pc (.invokestatic index) 3 pc') (hw : Cond.methodLink own index y ∈ xT) (hy : xYS y bytes maxL ret' n) (h : o.bind g = some ro) (hM : ∀ z, o = some z → xM X.1 y bytes maxL ret' R' X.2.1 X.2.2.1 As w sz (some (.long z.1), z.2.1, z.2.2)) (hf : xfit R' maxL R cl sl = true) (hnA : As.length = n) (hst : st0 = As.reverse ++ rest) (hW : Nat.ble (rest.map fun v => v.category).sum 8 = true) (k : ∀ z, g z = some ro → xK cc nL own nm ret R X lv (.long z.1 :: rest) z.2.1 z.2.2 (cl + R'.cells) (sl + R'.slots) pc' r) : xK cc nL own nm ret R X lv (st0) w sz cl sl pc r := by
  skip
  obtain ⟨z, e1, h⟩ := xb h
  have kz := k z h
  exact xc_S (As := As) hd hw hy (hM z e1) hf hnA hst hW kz
theorem xo_SN_LA {host : String} {rest st0 : List Value} (As : List Value) {y : MethodName} {bytes : ByteArray} {maxL n index : Nat} {ret' : Option FieldType} {R' : Room} {o : Option (Int64 × xw × Nat)} {g : Int64 × xw × Nat → Option ρ} (hd : xD cc pc (.invokestatic index) 3 pc') (hw : (own, index, y, host) ∈ xNw) (hy : xYS y bytes maxL ret' n) (h : o.bind g = some ro) (hM : ∀ z, o = some z → xM X.1 y bytes maxL ret' R' X.2.1 X.2.2.1 As w sz (some (.long z.1), z.2.1, z.2.2)) (hf : xfit R' maxL R cl sl = true) (hnA : As.length = n) (hst : st0 = As.reverse ++ rest) (hW : Nat.ble (rest.map fun v => v.category).sum 8 = true) (k : ∀ z, g z = some ro → xK cc nL own nm ret R X lv (.long z.1 :: rest) z.2.1 z.2.2 (cl + R'.cells) (sl + R'.slots) pc' r) : xK cc nL own nm ret R X lv (st0) w sz cl sl pc r := by
  skip
  obtain ⟨z, e1, h⟩ := xb h
  have kz := k z h
  exact xc_SN (As := As) hd hw hy (hM z e1) hf hnA hst hW kz
theorem xo_V_LA {rest st0 : List Value} (As : List Value) {y : MethodName} {bytes : ByteArray} {maxL n index : Nat} {b ci N : Nat} {T : u_T} {ty : Nat → FieldType} {ret' : Option FieldType} {R' : Room} {o : Option (Int64 × xw × Nat)} {g : Int64 × xw × Nat → Option ρ} (hd : xD cc pc (.invokevirtual index) 3 pc') (hw : Cond.methodLink own index y ∈ xT) (hy : xYV y bytes maxL ret' n) (h : (xck w b ci).bind (fun _ => o.bind g) = some ro) (K : xC ci y.cls T N ty) (hM : ∀ z, o = some z → xM X.1 y bytes maxL ret' R' X.2.1 X.2.2.1 (.ref b :: As) w sz (some (.long z.1), z.2.1, z.2.2)) (hf : xfit R' maxL R cl sl = true) (hnA : As.length = n) (hst : st0 = As.reverse ++ .ref b :: rest) (hW : Nat.ble (rest.map fun v => v.category).sum 8 = true) (k : ∀ z, g z = some ro → xK cc nL own nm ret R X lv (.long z.1 :: rest) z.2.1 z.2.2 (cl + R'.cells) (sl + R'.slots) pc' r) : xK cc nL own nm ret R X lv (st0) w sz cl sl pc r := by
  obtain ⟨u, hu, h⟩ := xb h
  obtain ⟨z, e1, h⟩ := xb h
  have kz := k z h
  exact xc_V (As := As) hd hw hy K hu (hM z e1) hf hnA hst hW kz
theorem xo_VN_LA {host : String} {rest st0 : List Value} (As : List Value) {y : MethodName} {bytes : ByteArray} {maxL n index : Nat} {b ci N : Nat} {T : u_T} {ty : Nat → FieldType} {ret' : Option FieldType} {R' : Room} {o : Option (Int64 × xw × Nat)} {g : Int64 × xw × Nat → Option ρ} (hd : xD cc pc (.invokevirtual index) 3 pc') (hw : (own, index, y, host) ∈ xNw) (hy : xYV y bytes maxL ret' n) (h : (xck w b ci).bind (fun _ => o.bind g) = some ro) (K : xC ci y.cls T N ty) (hM : ∀ z, o = some z → xM X.1 y bytes maxL ret' R' X.2.1 X.2.2.1 (.ref b :: As) w sz (some (.long z.1), z.2.1, z.2.2)) (hf : xfit R' maxL R cl sl = true) (hnA : As.length = n) (hst : st0 = As.reverse ++ .ref b :: rest) (hW : Nat.ble (rest.map fun v => v.category).sum 8 = true) (k : ∀ z, g z = some ro → xK cc nL own nm ret R X lv (.long z.1 :: rest) z.2.1 z.2.2 (cl + R'.cells) (sl + R'.slots) pc' r) : xK cc nL own nm ret R X lv (st0) w sz cl sl pc r := by
  obtain ⟨u, hu, h⟩ := xb h
  obtain ⟨z, e1, h⟩ := xb h
  have kz := k z h
  exact xc_VN (As := As) hd hw hy K hu (hM z e1) hf hnA hst hW kz
theorem xo_S_R0 {rest st0 : List Value} (As : List Value) {y : MethodName} {bytes : ByteArray} {maxL n index : Nat} {ret' : Option FieldType} {R' : Room} {o : Option (Nat)} {g : Nat → Option ρ} (hd : xD cc pc (.invokestatic index) 3 pc') (hw : Cond.methodLink own index y ∈ xT) (hy : xYS y bytes maxL ret' n) (h : o.bind g = some ro) (hM : ∀ z, o = some z → xM X.1 y bytes maxL ret' R' X.2.1 X.2.2.1 As w sz (some (.ref z), w, sz)) (hf : xfit R' maxL R cl sl = true) (hz : R'.cells = 0 ∧ R'.slots = 0) (hnA : As.length = n) (hst : st0 = As.reverse ++ rest) (hW : Nat.ble (rest.map fun v => v.category).sum 8 = true) (k : ∀ z, g z = some ro → xK cc nL own nm ret R X lv (.ref z :: rest) w sz cl sl pc' r) : xK cc nL own nm ret R X lv (st0) w sz cl sl pc r := by
  skip
  obtain ⟨z, e1, h⟩ := xb h
  have kz := k z h
  exact xc_S (As := As) hd hw hy (hM z e1) hf hnA hst hW (by rw [hz.1, hz.2]; exact kz)
theorem xo_SN_R0 {host : String} {rest st0 : List Value} (As : List Value) {y : MethodName} {bytes : ByteArray} {maxL n index : Nat} {ret' : Option FieldType} {R' : Room} {o : Option (Nat)} {g : Nat → Option ρ} (hd : xD cc pc (.invokestatic index) 3 pc') (hw : (own, index, y, host) ∈ xNw) (hy : xYS y bytes maxL ret' n) (h : o.bind g = some ro) (hM : ∀ z, o = some z → xM X.1 y bytes maxL ret' R' X.2.1 X.2.2.1 As w sz (some (.ref z), w, sz)) (hf : xfit R' maxL R cl sl = true) (hz : R'.cells = 0 ∧ R'.slots = 0) (hnA : As.length = n) (hst : st0 = As.reverse ++ rest) (hW : Nat.ble (rest.map fun v => v.category).sum 8 = true) (k : ∀ z, g z = some ro → xK cc nL own nm ret R X lv (.ref z :: rest) w sz cl sl pc' r) : xK cc nL own nm ret R X lv (st0) w sz cl sl pc r := by
  skip
  obtain ⟨z, e1, h⟩ := xb h
  have kz := k z h
  exact xc_SN (As := As) hd hw hy (hM z e1) hf hnA hst hW (by rw [hz.1, hz.2]; exact kz)
theorem xo_V_R0 {rest st0 : List Value} (As : List Value) {y : MethodName} {bytes : ByteArray} {maxL n index : Nat} {b ci N : Nat} {T : u_T} {ty : Nat → FieldType} {ret' : Option FieldType} {R' : Room} {o : Option (Nat)} {g : Nat → Option ρ} (hd : xD cc pc (.invokevirtual index) 3 pc') (hw : Cond.methodLink own index y ∈ xT) (hy : xYV y bytes maxL ret' n) (h : (xck w b ci).bind (fun _ => o.bind g) = some ro) (K : xC ci y.cls T N ty) (hM : ∀ z, o = some z → xM X.1 y bytes maxL ret' R' X.2.1 X.2.2.1 (.ref b :: As) w sz (some (.ref z), w, sz)) (hf : xfit R' maxL R cl sl = true) (hz : R'.cells = 0 ∧ R'.slots = 0) (hnA : As.length = n) (hst : st0 = As.reverse ++ .ref b :: rest) (hW : Nat.ble (rest.map fun v => v.category).sum 8 = true) (k : ∀ z, g z = some ro → xK cc nL own nm ret R X lv (.ref z :: rest) w sz cl sl pc' r) : xK cc nL own nm ret R X lv (st0) w sz cl sl pc r := by
  obtain ⟨u, hu, h⟩ := xb h
  obtain ⟨z, e1, h⟩ := xb h
  have kz := k z h
  exact xc_V (As := As) hd hw hy K hu (hM z e1) hf hnA hst hW (by rw [hz.1, hz.2]; exact kz)
theorem xo_VN_R0 {host : String} {rest st0 : List Value} (As : List Value) {y : MethodName} {bytes : ByteArray} {maxL n index : Nat} {b ci N : Nat} {T : u_T} {ty : Nat → FieldType} {ret' : Option FieldType} {R' : Room} {o : Option (Nat)} {g : Nat → Option ρ} (hd : xD cc pc (.invokevirtual index) 3 pc') (hw : (own, index, y, host) ∈ xNw) (hy : xYV y bytes maxL ret' n) (h : (xck w b ci).bind (fun _ => o.bind g) = some ro) (K : xC ci y.cls T N ty) (hM : ∀ z, o = some z → xM X.1 y bytes maxL ret' R' X.2.1 X.2.2.1 (.ref b :: As) w sz (some (.ref z), w, sz)) (hf : xfit R' maxL R cl sl = true) (hz : R'.cells = 0 ∧ R'.slots = 0) (hnA : As.length = n) (hst : st0 = As.reverse ++ .ref b :: rest) (hW : Nat.ble (rest.map fun v => v.category).sum 8 = true) (k : ∀ z, g z = some ro → xK cc nL own nm ret R X lv (.ref z :: rest) w sz cl sl pc' r) : xK cc nL own nm ret R X lv (st0) w sz cl sl pc r := by
  obtain ⟨u, hu, h⟩ := xb h
  obtain ⟨z, e1, h⟩ := xb h
  have kz := k z h
  exact xc_VN (As := As) hd hw hy K hu (hM z e1) hf hnA hst hW (by rw [hz.1, hz.2]; exact kz)
theorem xo_S_RH {rest st0 : List Value} (As : List Value) {y : MethodName} {bytes : ByteArray} {maxL n index : Nat} {ret' : Option FieldType} {R' : Room} {o : Option (Nat × xw)} {g : Nat × xw → Option ρ} (hd : xD cc pc (.invokestatic index) 3 pc') (hw : Cond.methodLink own index y ∈ xT) (hy : xYS y bytes maxL ret' n) (h : o.bind g = some ro) (hM : ∀ z, o = some z → xM X.1 y bytes maxL ret' R' X.2.1 X.2.2.1 As w sz (some (.ref z.1), z.2, sz)) (hf : xfit R' maxL R cl sl = true) (hz : R'.cells = 0 ∧ R'.slots = 0) (hnA : As.length = n) (hst : st0 = As.reverse ++ rest) (hW : Nat.ble (rest.map fun v => v.category).sum 8 = true) (k : ∀ z, g z = some ro → xK cc nL own nm ret R X lv (.ref z.1 :: rest) z.2 sz cl sl pc' r) : xK cc nL own nm ret R X lv (st0) w sz cl sl pc r := by
  skip
  obtain ⟨z, e1, h⟩ := xb h
  have kz := k z h
  exact xc_S (As := As) hd hw hy (hM z e1) hf hnA hst hW (by rw [hz.1, hz.2]; exact kz)
theorem xo_SN_RH {host : String} {rest st0 : List Value} (As : List Value) {y : MethodName} {bytes : ByteArray} {maxL n index : Nat} {ret' : Option FieldType} {R' : Room} {o : Option (Nat × xw)} {g : Nat × xw → Option ρ} (hd : xD cc pc (.invokestatic index) 3 pc') (hw : (own, index, y, host) ∈ xNw) (hy : xYS y bytes maxL ret' n) (h : o.bind g = some ro) (hM : ∀ z, o = some z → xM X.1 y bytes maxL ret' R' X.2.1 X.2.2.1 As w sz (some (.ref z.1), z.2, sz)) (hf : xfit R' maxL R cl sl = true) (hz : R'.cells = 0 ∧ R'.slots = 0) (hnA : As.length = n) (hst : st0 = As.reverse ++ rest) (hW : Nat.ble (rest.map fun v => v.category).sum 8 = true) (k : ∀ z, g z = some ro → xK cc nL own nm ret R X lv (.ref z.1 :: rest) z.2 sz cl sl pc' r) : xK cc nL own nm ret R X lv (st0) w sz cl sl pc r := by
  skip
  obtain ⟨z, e1, h⟩ := xb h
  have kz := k z h
  exact xc_SN (As := As) hd hw hy (hM z e1) hf hnA hst hW (by rw [hz.1, hz.2]; exact kz)
theorem xo_V_RH {rest st0 : List Value} (As : List Value) {y : MethodName} {bytes : ByteArray} {maxL n index : Nat} {b ci N : Nat} {T : u_T} {ty : Nat → FieldType} {ret' : Option FieldType} {R' : Room} {o : Option (Nat × xw)} {g : Nat × xw → Option ρ} (hd : xD cc pc (.invokevirtual index) 3 pc') (hw : Cond.methodLink own index y ∈ xT) (hy : xYV y bytes maxL ret' n) (h : (xck w b ci).bind (fun _ => o.bind g) = some ro) (K : xC ci y.cls T N ty) (hM : ∀ z, o = some z → xM X.1 y bytes maxL ret' R' X.2.1 X.2.2.1 (.ref b :: As) w sz (some (.ref z.1), z.2, sz)) (hf : xfit R' maxL R cl sl = true) (hz : R'.cells = 0 ∧ R'.slots = 0) (hnA : As.length = n) (hst : st0 = As.reverse ++ .ref b :: rest) (hW : Nat.ble (rest.map fun v => v.category).sum 8 = true) (k : ∀ z, g z = some ro → xK cc nL own nm ret R X lv (.ref z.1 :: rest) z.2 sz cl sl pc' r) : xK cc nL own nm ret R X lv (st0) w sz cl sl pc r := by
  obtain ⟨u, hu, h⟩ := xb h
  obtain ⟨z, e1, h⟩ := xb h
  have kz := k z h
  exact xc_V (As := As) hd hw hy K hu (hM z e1) hf hnA hst hW (by rw [hz.1, hz.2]; exact kz)
theorem xo_VN_RH {host : String} {rest st0 : List Value} (As : List Value) {y : MethodName} {bytes : ByteArray} {maxL n index : Nat} {b ci N : Nat} {T : u_T} {ty : Nat → FieldType} {ret' : Option FieldType} {R' : Room} {o : Option (Nat × xw)} {g : Nat × xw → Option ρ} (hd : xD cc pc (.invokevirtual index) 3 pc') (hw : (own, index, y, host) ∈ xNw) (hy : xYV y bytes maxL ret' n) (h : (xck w b ci).bind (fun _ => o.bind g) = some ro) (K : xC ci y.cls T N ty) (hM : ∀ z, o = some z → xM X.1 y bytes maxL ret' R' X.2.1 X.2.2.1 (.ref b :: As) w sz (some (.ref z.1), z.2, sz)) (hf : xfit R' maxL R cl sl = true) (hz : R'.cells = 0 ∧ R'.slots = 0) (hnA : As.length = n) (hst : st0 = As.reverse ++ .ref b :: rest) (hW : Nat.ble (rest.map fun v => v.category).sum 8 = true) (k : ∀ z, g z = some ro → xK cc nL own nm ret R X lv (.ref z.1 :: rest) z.2 sz cl sl pc' r) : xK cc nL own nm ret R X lv (st0) w sz cl sl pc r := by
  obtain ⟨u, hu, h⟩ := xb h
  obtain ⟨z, e1, h⟩ := xb h
  have kz := k z h
  exact xc_VN (As := As) hd hw hy K hu (hM z e1) hf hnA hst hW (by rw [hz.1, hz.2]; exact kz)
theorem xo_S_RA {rest st0 : List Value} (As : List Value) {y : MethodName} {bytes : ByteArray} {maxL n index : Nat} {ret' : Option FieldType} {R' : Room} {o : Option (Nat × xw × Nat)} {g : Nat × xw × Nat → Option ρ} (hd : xD cc pc (.invokestatic index) 3 pc') (hw : Cond.methodLink own index y ∈ xT) (hy : xYS y bytes maxL ret' n) (h : o.bind g = some ro) (hM : ∀ z, o = some z → xM X.1 y bytes maxL ret' R' X.2.1 X.2.2.1 As w sz (some (.ref z.1), z.2.1, z.2.2)) (hf : xfit R' maxL R cl sl = true) (hnA : As.length = n) (hst : st0 = As.reverse ++ rest) (hW : Nat.ble (rest.map fun v => v.category).sum 8 = true) (k : ∀ z, g z = some ro → xK cc nL own nm ret R X lv (.ref z.1 :: rest) z.2.1 z.2.2 (cl + R'.cells) (sl + R'.slots) pc' r) : xK cc nL own nm ret R X lv (st0) w sz cl sl pc r := by
  skip
  obtain ⟨z, e1, h⟩ := xb h
  have kz := k z h
  exact xc_S (As := As) hd hw hy (hM z e1) hf hnA hst hW kz
theorem xo_SN_RA {host : String} {rest st0 : List Value} (As : List Value) {y : MethodName} {bytes : ByteArray} {maxL n index : Nat} {ret' : Option FieldType} {R' : Room} {o : Option (Nat × xw × Nat)} {g : Nat × xw × Nat → Option ρ} (hd : xD cc pc (.invokestatic index) 3 pc') (hw : (own, index, y, host) ∈ xNw) (hy : xYS y bytes maxL ret' n) (h : o.bind g = some ro) (hM : ∀ z, o = some z → xM X.1 y bytes maxL ret' R' X.2.1 X.2.2.1 As w sz (some (.ref z.1), z.2.1, z.2.2)) (hf : xfit R' maxL R cl sl = true) (hnA : As.length = n) (hst : st0 = As.reverse ++ rest) (hW : Nat.ble (rest.map fun v => v.category).sum 8 = true) (k : ∀ z, g z = some ro → xK cc nL own nm ret R X lv (.ref z.1 :: rest) z.2.1 z.2.2 (cl + R'.cells) (sl + R'.slots) pc' r) : xK cc nL own nm ret R X lv (st0) w sz cl sl pc r := by
  skip
  obtain ⟨z, e1, h⟩ := xb h
  have kz := k z h
  exact xc_SN (As := As) hd hw hy (hM z e1) hf hnA hst hW kz
theorem xo_V_RA {rest st0 : List Value} (As : List Value) {y : MethodName} {bytes : ByteArray} {maxL n index : Nat} {b ci N : Nat} {T : u_T} {ty : Nat → FieldType} {ret' : Option FieldType} {R' : Room} {o : Option (Nat × xw × Nat)} {g : Nat × xw × Nat → Option ρ} (hd : xD cc pc (.invokevirtual index) 3 pc') (hw : Cond.methodLink own index y ∈ xT) (hy : xYV y bytes maxL ret' n) (h : (xck w b ci).bind (fun _ => o.bind g) = some ro) (K : xC ci y.cls T N ty) (hM : ∀ z, o = some z → xM X.1 y bytes maxL ret' R' X.2.1 X.2.2.1 (.ref b :: As) w sz (some (.ref z.1), z.2.1, z.2.2)) (hf : xfit R' maxL R cl sl = true) (hnA : As.length = n) (hst : st0 = As.reverse ++ .ref b :: rest) (hW : Nat.ble (rest.map fun v => v.category).sum 8 = true) (k : ∀ z, g z = some ro → xK cc nL own nm ret R X lv (.ref z.1 :: rest) z.2.1 z.2.2 (cl + R'.cells) (sl + R'.slots) pc' r) : xK cc nL own nm ret R X lv (st0) w sz cl sl pc r := by
  obtain ⟨u, hu, h⟩ := xb h
  obtain ⟨z, e1, h⟩ := xb h
  have kz := k z h
  exact xc_V (As := As) hd hw hy K hu (hM z e1) hf hnA hst hW kz
theorem xo_VN_RA {host : String} {rest st0 : List Value} (As : List Value) {y : MethodName} {bytes : ByteArray} {maxL n index : Nat} {b ci N : Nat} {T : u_T} {ty : Nat → FieldType} {ret' : Option FieldType} {R' : Room} {o : Option (Nat × xw × Nat)} {g : Nat × xw × Nat → Option ρ} (hd : xD cc pc (.invokevirtual index) 3 pc') (hw : (own, index, y, host) ∈ xNw) (hy : xYV y bytes maxL ret' n) (h : (xck w b ci).bind (fun _ => o.bind g) = some ro) (K : xC ci y.cls T N ty) (hM : ∀ z, o = some z → xM X.1 y bytes maxL ret' R' X.2.1 X.2.2.1 (.ref b :: As) w sz (some (.ref z.1), z.2.1, z.2.2)) (hf : xfit R' maxL R cl sl = true) (hnA : As.length = n) (hst : st0 = As.reverse ++ .ref b :: rest) (hW : Nat.ble (rest.map fun v => v.category).sum 8 = true) (k : ∀ z, g z = some ro → xK cc nL own nm ret R X lv (.ref z.1 :: rest) z.2.1 z.2.2 (cl + R'.cells) (sl + R'.slots) pc' r) : xK cc nL own nm ret R X lv (st0) w sz cl sl pc r := by
  obtain ⟨u, hu, h⟩ := xb h
  obtain ⟨z, e1, h⟩ := xb h
  have kz := k z h
  exact xc_VN (As := As) hd hw hy K hu (hM z e1) hf hnA hst hW kz
theorem xo_S_VH {rest st0 : List Value} (As : List Value) {y : MethodName} {bytes : ByteArray} {maxL n index : Nat} {ret' : Option FieldType} {R' : Room} {o : Option (Unit × xw)} {g : Unit × xw → Option ρ} (hd : xD cc pc (.invokestatic index) 3 pc') (hw : Cond.methodLink own index y ∈ xT) (hy : xYS y bytes maxL ret' n) (h : o.bind g = some ro) (hM : ∀ z, o = some z → xM X.1 y bytes maxL ret' R' X.2.1 X.2.2.1 As w sz (none, z.2, sz)) (hf : xfit R' maxL R cl sl = true) (hz : R'.cells = 0 ∧ R'.slots = 0) (hnA : As.length = n) (hst : st0 = As.reverse ++ rest) (hW : Nat.ble (rest.map fun v => v.category).sum 8 = true) (k : ∀ z, g z = some ro → xK cc nL own nm ret R X lv (rest) z.2 sz cl sl pc' r) : xK cc nL own nm ret R X lv (st0) w sz cl sl pc r := by
  skip
  obtain ⟨z, e1, h⟩ := xb h
  have kz := k z h
  exact xc_S (As := As) hd hw hy (hM z e1) hf hnA hst hW (by rw [hz.1, hz.2]; exact kz)
theorem xo_SN_VH {host : String} {rest st0 : List Value} (As : List Value) {y : MethodName} {bytes : ByteArray} {maxL n index : Nat} {ret' : Option FieldType} {R' : Room} {o : Option (Unit × xw)} {g : Unit × xw → Option ρ} (hd : xD cc pc (.invokestatic index) 3 pc') (hw : (own, index, y, host) ∈ xNw) (hy : xYS y bytes maxL ret' n) (h : o.bind g = some ro) (hM : ∀ z, o = some z → xM X.1 y bytes maxL ret' R' X.2.1 X.2.2.1 As w sz (none, z.2, sz)) (hf : xfit R' maxL R cl sl = true) (hz : R'.cells = 0 ∧ R'.slots = 0) (hnA : As.length = n) (hst : st0 = As.reverse ++ rest) (hW : Nat.ble (rest.map fun v => v.category).sum 8 = true) (k : ∀ z, g z = some ro → xK cc nL own nm ret R X lv (rest) z.2 sz cl sl pc' r) : xK cc nL own nm ret R X lv (st0) w sz cl sl pc r := by
  skip
  obtain ⟨z, e1, h⟩ := xb h
  have kz := k z h
  exact xc_SN (As := As) hd hw hy (hM z e1) hf hnA hst hW (by rw [hz.1, hz.2]; exact kz)
theorem xo_V_VH {rest st0 : List Value} (As : List Value) {y : MethodName} {bytes : ByteArray} {maxL n index : Nat} {b ci N : Nat} {T : u_T} {ty : Nat → FieldType} {ret' : Option FieldType} {R' : Room} {o : Option (Unit × xw)} {g : Unit × xw → Option ρ} (hd : xD cc pc (.invokevirtual index) 3 pc') (hw : Cond.methodLink own index y ∈ xT) (hy : xYV y bytes maxL ret' n) (h : (xck w b ci).bind (fun _ => o.bind g) = some ro) (K : xC ci y.cls T N ty) (hM : ∀ z, o = some z → xM X.1 y bytes maxL ret' R' X.2.1 X.2.2.1 (.ref b :: As) w sz (none, z.2, sz)) (hf : xfit R' maxL R cl sl = true) (hz : R'.cells = 0 ∧ R'.slots = 0) (hnA : As.length = n) (hst : st0 = As.reverse ++ .ref b :: rest) (hW : Nat.ble (rest.map fun v => v.category).sum 8 = true) (k : ∀ z, g z = some ro → xK cc nL own nm ret R X lv (rest) z.2 sz cl sl pc' r) : xK cc nL own nm ret R X lv (st0) w sz cl sl pc r := by
  obtain ⟨u, hu, h⟩ := xb h
  obtain ⟨z, e1, h⟩ := xb h
  have kz := k z h
  exact xc_V (As := As) hd hw hy K hu (hM z e1) hf hnA hst hW (by rw [hz.1, hz.2]; exact kz)
theorem xo_VN_VH {host : String} {rest st0 : List Value} (As : List Value) {y : MethodName} {bytes : ByteArray} {maxL n index : Nat} {b ci N : Nat} {T : u_T} {ty : Nat → FieldType} {ret' : Option FieldType} {R' : Room} {o : Option (Unit × xw)} {g : Unit × xw → Option ρ} (hd : xD cc pc (.invokevirtual index) 3 pc') (hw : (own, index, y, host) ∈ xNw) (hy : xYV y bytes maxL ret' n) (h : (xck w b ci).bind (fun _ => o.bind g) = some ro) (K : xC ci y.cls T N ty) (hM : ∀ z, o = some z → xM X.1 y bytes maxL ret' R' X.2.1 X.2.2.1 (.ref b :: As) w sz (none, z.2, sz)) (hf : xfit R' maxL R cl sl = true) (hz : R'.cells = 0 ∧ R'.slots = 0) (hnA : As.length = n) (hst : st0 = As.reverse ++ .ref b :: rest) (hW : Nat.ble (rest.map fun v => v.category).sum 8 = true) (k : ∀ z, g z = some ro → xK cc nL own nm ret R X lv (rest) z.2 sz cl sl pc' r) : xK cc nL own nm ret R X lv (st0) w sz cl sl pc r := by
  obtain ⟨u, hu, h⟩ := xb h
  obtain ⟨z, e1, h⟩ := xb h
  have kz := k z h
  exact xc_VN (As := As) hd hw hy K hu (hM z e1) hf hnA hst hW (by rw [hz.1, hz.2]; exact kz)
theorem xo_I_VH {rest st0 : List Value} (As : List Value) {y : MethodName} {bytes : ByteArray} {maxL n index : Nat} {b : Nat} {R' : Room} {o : Option (Unit × xw)} {g : Unit × xw → Option ρ} (hd : xD cc pc (.invokespecial index) 3 pc') (hw : Cond.methodLink own index y ∈ xT) (hy : xYI y bytes maxL n) (h : o.bind g = some ro) (hM : ∀ z, o = some z → xM X.1 y bytes maxL none R' X.2.1 X.2.2.1 (.ref b :: As) w sz (none, z.2, sz)) (hf : xfit R' maxL R cl sl = true) (hz : R'.cells = 0 ∧ R'.slots = 0) (hnA : As.length = n) (hst : st0 = As.reverse ++ .ref b :: rest) (hW : Nat.ble (rest.map fun v => v.category).sum 8 = true) (k : ∀ z, g z = some ro → xK cc nL own nm ret R X lv (rest) z.2 sz cl sl pc' r) : xK cc nL own nm ret R X lv (st0) w sz cl sl pc r := by
  skip
  obtain ⟨z, e1, h⟩ := xb h
  have kz := k z h
  exact xc_I (As := As) hd hw hy (hM z e1) hf hnA hst hW (by rw [hz.1, hz.2]; exact kz)
theorem xo_IN_VH {host : String} {rest st0 : List Value} (As : List Value) {y : MethodName} {bytes : ByteArray} {maxL n index : Nat} {b : Nat} {R' : Room} {o : Option (Unit × xw)} {g : Unit × xw → Option ρ} (hd : xD cc pc (.invokespecial index) 3 pc') (hw : (own, index, y, host) ∈ xNw) (hy : xYI y bytes maxL n) (h : o.bind g = some ro) (hM : ∀ z, o = some z → xM X.1 y bytes maxL none R' X.2.1 X.2.2.1 (.ref b :: As) w sz (none, z.2, sz)) (hf : xfit R' maxL R cl sl = true) (hz : R'.cells = 0 ∧ R'.slots = 0) (hnA : As.length = n) (hst : st0 = As.reverse ++ .ref b :: rest) (hW : Nat.ble (rest.map fun v => v.category).sum 8 = true) (k : ∀ z, g z = some ro → xK cc nL own nm ret R X lv (rest) z.2 sz cl sl pc' r) : xK cc nL own nm ret R X lv (st0) w sz cl sl pc r := by
  skip
  obtain ⟨z, e1, h⟩ := xb h
  have kz := k z h
  exact xc_IN (As := As) hd hw hy (hM z e1) hf hnA hst hW (by rw [hz.1, hz.2]; exact kz)
theorem xo_S_VA {rest st0 : List Value} (As : List Value) {y : MethodName} {bytes : ByteArray} {maxL n index : Nat} {ret' : Option FieldType} {R' : Room} {o : Option (Unit × xw × Nat)} {g : Unit × xw × Nat → Option ρ} (hd : xD cc pc (.invokestatic index) 3 pc') (hw : Cond.methodLink own index y ∈ xT) (hy : xYS y bytes maxL ret' n) (h : o.bind g = some ro) (hM : ∀ z, o = some z → xM X.1 y bytes maxL ret' R' X.2.1 X.2.2.1 As w sz (none, z.2.1, z.2.2)) (hf : xfit R' maxL R cl sl = true) (hnA : As.length = n) (hst : st0 = As.reverse ++ rest) (hW : Nat.ble (rest.map fun v => v.category).sum 8 = true) (k : ∀ z, g z = some ro → xK cc nL own nm ret R X lv (rest) z.2.1 z.2.2 (cl + R'.cells) (sl + R'.slots) pc' r) : xK cc nL own nm ret R X lv (st0) w sz cl sl pc r := by
  skip
  obtain ⟨z, e1, h⟩ := xb h
  have kz := k z h
  exact xc_S (As := As) hd hw hy (hM z e1) hf hnA hst hW kz
theorem xo_SN_VA {host : String} {rest st0 : List Value} (As : List Value) {y : MethodName} {bytes : ByteArray} {maxL n index : Nat} {ret' : Option FieldType} {R' : Room} {o : Option (Unit × xw × Nat)} {g : Unit × xw × Nat → Option ρ} (hd : xD cc pc (.invokestatic index) 3 pc') (hw : (own, index, y, host) ∈ xNw) (hy : xYS y bytes maxL ret' n) (h : o.bind g = some ro) (hM : ∀ z, o = some z → xM X.1 y bytes maxL ret' R' X.2.1 X.2.2.1 As w sz (none, z.2.1, z.2.2)) (hf : xfit R' maxL R cl sl = true) (hnA : As.length = n) (hst : st0 = As.reverse ++ rest) (hW : Nat.ble (rest.map fun v => v.category).sum 8 = true) (k : ∀ z, g z = some ro → xK cc nL own nm ret R X lv (rest) z.2.1 z.2.2 (cl + R'.cells) (sl + R'.slots) pc' r) : xK cc nL own nm ret R X lv (st0) w sz cl sl pc r := by
  skip
  obtain ⟨z, e1, h⟩ := xb h
  have kz := k z h
  exact xc_SN (As := As) hd hw hy (hM z e1) hf hnA hst hW kz
theorem xo_V_VA {rest st0 : List Value} (As : List Value) {y : MethodName} {bytes : ByteArray} {maxL n index : Nat} {b ci N : Nat} {T : u_T} {ty : Nat → FieldType} {ret' : Option FieldType} {R' : Room} {o : Option (Unit × xw × Nat)} {g : Unit × xw × Nat → Option ρ} (hd : xD cc pc (.invokevirtual index) 3 pc') (hw : Cond.methodLink own index y ∈ xT) (hy : xYV y bytes maxL ret' n) (h : (xck w b ci).bind (fun _ => o.bind g) = some ro) (K : xC ci y.cls T N ty) (hM : ∀ z, o = some z → xM X.1 y bytes maxL ret' R' X.2.1 X.2.2.1 (.ref b :: As) w sz (none, z.2.1, z.2.2)) (hf : xfit R' maxL R cl sl = true) (hnA : As.length = n) (hst : st0 = As.reverse ++ .ref b :: rest) (hW : Nat.ble (rest.map fun v => v.category).sum 8 = true) (k : ∀ z, g z = some ro → xK cc nL own nm ret R X lv (rest) z.2.1 z.2.2 (cl + R'.cells) (sl + R'.slots) pc' r) : xK cc nL own nm ret R X lv (st0) w sz cl sl pc r := by
  obtain ⟨u, hu, h⟩ := xb h
  obtain ⟨z, e1, h⟩ := xb h
  have kz := k z h
  exact xc_V (As := As) hd hw hy K hu (hM z e1) hf hnA hst hW kz
theorem xo_VN_VA {host : String} {rest st0 : List Value} (As : List Value) {y : MethodName} {bytes : ByteArray} {maxL n index : Nat} {b ci N : Nat} {T : u_T} {ty : Nat → FieldType} {ret' : Option FieldType} {R' : Room} {o : Option (Unit × xw × Nat)} {g : Unit × xw × Nat → Option ρ} (hd : xD cc pc (.invokevirtual index) 3 pc') (hw : (own, index, y, host) ∈ xNw) (hy : xYV y bytes maxL ret' n) (h : (xck w b ci).bind (fun _ => o.bind g) = some ro) (K : xC ci y.cls T N ty) (hM : ∀ z, o = some z → xM X.1 y bytes maxL ret' R' X.2.1 X.2.2.1 (.ref b :: As) w sz (none, z.2.1, z.2.2)) (hf : xfit R' maxL R cl sl = true) (hnA : As.length = n) (hst : st0 = As.reverse ++ .ref b :: rest) (hW : Nat.ble (rest.map fun v => v.category).sum 8 = true) (k : ∀ z, g z = some ro → xK cc nL own nm ret R X lv (rest) z.2.1 z.2.2 (cl + R'.cells) (sl + R'.slots) pc' r) : xK cc nL own nm ret R X lv (st0) w sz cl sl pc r := by
  obtain ⟨u, hu, h⟩ := xb h
  obtain ⟨z, e1, h⟩ := xb h
  have kz := k z h
  exact xc_VN (As := As) hd hw hy K hu (hM z e1) hf hnA hst hW kz
theorem xo_I_VA {rest st0 : List Value} (As : List Value) {y : MethodName} {bytes : ByteArray} {maxL n index : Nat} {b : Nat} {R' : Room} {o : Option (Unit × xw × Nat)} {g : Unit × xw × Nat → Option ρ} (hd : xD cc pc (.invokespecial index) 3 pc') (hw : Cond.methodLink own index y ∈ xT) (hy : xYI y bytes maxL n) (h : o.bind g = some ro) (hM : ∀ z, o = some z → xM X.1 y bytes maxL none R' X.2.1 X.2.2.1 (.ref b :: As) w sz (none, z.2.1, z.2.2)) (hf : xfit R' maxL R cl sl = true) (hnA : As.length = n) (hst : st0 = As.reverse ++ .ref b :: rest) (hW : Nat.ble (rest.map fun v => v.category).sum 8 = true) (k : ∀ z, g z = some ro → xK cc nL own nm ret R X lv (rest) z.2.1 z.2.2 (cl + R'.cells) (sl + R'.slots) pc' r) : xK cc nL own nm ret R X lv (st0) w sz cl sl pc r := by
  skip
  obtain ⟨z, e1, h⟩ := xb h
  have kz := k z h
  exact xc_I (As := As) hd hw hy (hM z e1) hf hnA hst hW kz
theorem xo_IN_VA {host : String} {rest st0 : List Value} (As : List Value) {y : MethodName} {bytes : ByteArray} {maxL n index : Nat} {b : Nat} {R' : Room} {o : Option (Unit × xw × Nat)} {g : Unit × xw × Nat → Option ρ} (hd : xD cc pc (.invokespecial index) 3 pc') (hw : (own, index, y, host) ∈ xNw) (hy : xYI y bytes maxL n) (h : o.bind g = some ro) (hM : ∀ z, o = some z → xM X.1 y bytes maxL none R' X.2.1 X.2.2.1 (.ref b :: As) w sz (none, z.2.1, z.2.2)) (hf : xfit R' maxL R cl sl = true) (hnA : As.length = n) (hst : st0 = As.reverse ++ .ref b :: rest) (hW : Nat.ble (rest.map fun v => v.category).sum 8 = true) (k : ∀ z, g z = some ro → xK cc nL own nm ret R X lv (rest) z.2.1 z.2.2 (cl + R'.cells) (sl + R'.slots) pc' r) : xK cc nL own nm ret R X lv (st0) w sz cl sl pc r := by
  skip
  obtain ⟨z, e1, h⟩ := xb h
  have kz := k z h
  exact xc_IN (As := As) hd hw hy (hM z e1) hf hnA hst hW kz
theorem xo_retI0 {v : Int32} {ro : Int32} (hd : xD cc pc .ireturn 1 pc') (hret : ret = some .int) (hc : cl = R.cells) (hs : sl = R.slots) (h : some v = some ro) : xK cc nL own nm ret R X lv ([.int v]) w sz cl sl pc (some (.int ro), w, sz) := by
  cases h
  subst hc
  subst hs
  exact fun p e s m below meth c H locs ls Z hm hn hr hk J hl => W.iret Z.1 Z.2.1 (hr.trans hret) (fun t ht hW => ⟨rfl, by rw [ht]; exact J.1, by rw [ht]; exact J.2.2.2.1, J.2.2.1, J.2.1.F ht⟩) J.2.1.2.2 hd.1 hk
theorem xo_retIH {v : Int32} {ro : Int32 × xw} (hd : xD cc pc .ireturn 1 pc') (hret : ret = some .int) (hc : cl = R.cells) (hs : sl = R.slots) (h : some (v, w) = some ro) : xK cc nL own nm ret R X lv ([.int v]) w sz cl sl pc (some (.int ro.1), ro.2, sz) := by
  cases h
  subst hc
  subst hs
  exact fun p e s m below meth c H locs ls Z hm hn hr hk J hl => W.iret Z.1 Z.2.1 (hr.trans hret) (fun t ht hW => ⟨rfl, by rw [ht]; exact J.1, by rw [ht]; exact J.2.2.2.1, J.2.2.1, J.2.1.F ht⟩) J.2.1.2.2 hd.1 hk
theorem xo_retIA {v : Int32} {ro : Int32 × xw × Nat} (hd : xD cc pc .ireturn 1 pc') (hret : ret = some .int) (hc : cl = R.cells) (hs : sl = R.slots) (h : some (v, w, sz) = some ro) : xK cc nL own nm ret R X lv ([.int v]) w sz cl sl pc (some (.int ro.1), ro.2.1, ro.2.2) := by
  cases h
  subst hc
  subst hs
  exact fun p e s m below meth c H locs ls Z hm hn hr hk J hl => W.iret Z.1 Z.2.1 (hr.trans hret) (fun t ht hW => ⟨rfl, by rw [ht]; exact J.1, by rw [ht]; exact J.2.2.2.1, J.2.2.1, J.2.1.F ht⟩) J.2.1.2.2 hd.1 hk
theorem xo_retL0 {v : Int64} {ro : Int64} (hd : xD cc pc .lreturn 1 pc') (hret : ret = some .long) (hc : cl = R.cells) (hs : sl = R.slots) (h : some v = some ro) : xK cc nL own nm ret R X lv ([.long v]) w sz cl sl pc (some (.long ro), w, sz) := by
  cases h
  subst hc
  subst hs
  exact fun p e s m below meth c H locs ls Z hm hn hr hk J hl => W.lret Z.1 Z.2.1 (hr.trans hret) (fun t ht hW => ⟨rfl, by rw [ht]; exact J.1, by rw [ht]; exact J.2.2.2.1, J.2.2.1, J.2.1.F ht⟩) J.2.1.2.2 hd.1 hk
theorem xo_retLH {v : Int64} {ro : Int64 × xw} (hd : xD cc pc .lreturn 1 pc') (hret : ret = some .long) (hc : cl = R.cells) (hs : sl = R.slots) (h : some (v, w) = some ro) : xK cc nL own nm ret R X lv ([.long v]) w sz cl sl pc (some (.long ro.1), ro.2, sz) := by
  cases h
  subst hc
  subst hs
  exact fun p e s m below meth c H locs ls Z hm hn hr hk J hl => W.lret Z.1 Z.2.1 (hr.trans hret) (fun t ht hW => ⟨rfl, by rw [ht]; exact J.1, by rw [ht]; exact J.2.2.2.1, J.2.2.1, J.2.1.F ht⟩) J.2.1.2.2 hd.1 hk
theorem xo_retLA {v : Int64} {ro : Int64 × xw × Nat} (hd : xD cc pc .lreturn 1 pc') (hret : ret = some .long) (hc : cl = R.cells) (hs : sl = R.slots) (h : some (v, w, sz) = some ro) : xK cc nL own nm ret R X lv ([.long v]) w sz cl sl pc (some (.long ro.1), ro.2.1, ro.2.2) := by
  cases h
  subst hc
  subst hs
  exact fun p e s m below meth c H locs ls Z hm hn hr hk J hl => W.lret Z.1 Z.2.1 (hr.trans hret) (fun t ht hW => ⟨rfl, by rw [ht]; exact J.1, by rw [ht]; exact J.2.2.2.1, J.2.2.1, J.2.1.F ht⟩) J.2.1.2.2 hd.1 hk
theorem xo_retR0 {v : Nat} {rt : FieldType} {ro : Nat} (hd : xD cc pc .areturn 1 pc') (hrt : (∃ n, rt = .object n) ∨ ∃ t, rt = .array t) (hret : ret = some rt) (hc : cl = R.cells) (hs : sl = R.slots) (h : some v = some ro) : xK cc nL own nm ret R X lv ([.ref v]) w sz cl sl pc (some (.ref ro), w, sz) := by
  cases h
  subst hc
  subst hs
  exact fun p e s m below meth c H locs ls Z hm hn hr hk J hl => W.aret Z.1 Z.2.1 (hr.trans hret) hrt (Or.inr ⟨_, rfl⟩) (fun t ht hW => ⟨rfl, by rw [ht]; exact J.1, by rw [ht]; exact J.2.2.2.1, J.2.2.1, J.2.1.F ht⟩) J.2.1.2.2 hd.1 hk
theorem xo_retRH {v : Nat} {rt : FieldType} {ro : Nat × xw} (hd : xD cc pc .areturn 1 pc') (hrt : (∃ n, rt = .object n) ∨ ∃ t, rt = .array t) (hret : ret = some rt) (hc : cl = R.cells) (hs : sl = R.slots) (h : some (v, w) = some ro) : xK cc nL own nm ret R X lv ([.ref v]) w sz cl sl pc (some (.ref ro.1), ro.2, sz) := by
  cases h
  subst hc
  subst hs
  exact fun p e s m below meth c H locs ls Z hm hn hr hk J hl => W.aret Z.1 Z.2.1 (hr.trans hret) hrt (Or.inr ⟨_, rfl⟩) (fun t ht hW => ⟨rfl, by rw [ht]; exact J.1, by rw [ht]; exact J.2.2.2.1, J.2.2.1, J.2.1.F ht⟩) J.2.1.2.2 hd.1 hk
theorem xo_retRA {v : Nat} {rt : FieldType} {ro : Nat × xw × Nat} (hd : xD cc pc .areturn 1 pc') (hrt : (∃ n, rt = .object n) ∨ ∃ t, rt = .array t) (hret : ret = some rt) (hc : cl = R.cells) (hs : sl = R.slots) (h : some (v, w, sz) = some ro) : xK cc nL own nm ret R X lv ([.ref v]) w sz cl sl pc (some (.ref ro.1), ro.2.1, ro.2.2) := by
  cases h
  subst hc
  subst hs
  exact fun p e s m below meth c H locs ls Z hm hn hr hk J hl => W.aret Z.1 Z.2.1 (hr.trans hret) hrt (Or.inr ⟨_, rfl⟩) (fun t ht hW => ⟨rfl, by rw [ht]; exact J.1, by rw [ht]; exact J.2.2.2.1, J.2.2.1, J.2.1.F ht⟩) J.2.1.2.2 hd.1 hk
theorem xo_retV0 {ro : Unit} (hd : xD cc pc .return_ 1 pc') (hret : ret = none) (hc : cl = R.cells) (hs : sl = R.slots) (h : some () = some ro) : xK cc nL own nm ret R X lv ([]) w sz cl sl pc (none, w, sz) := by
  cases h
  subst hc
  subst hs
  exact fun p e s m below meth c H locs ls Z hm hn hr hk J hl => W.vret Z.1 Z.2.1 (hr.trans hret) (fun t ht hW => ⟨rfl, by rw [ht]; exact J.1, by rw [ht]; exact J.2.2.2.1, J.2.2.1, J.2.1.F ht⟩) J.2.1.2.2 hd.1 hk
theorem xo_retVH {ro : Unit × xw} (hd : xD cc pc .return_ 1 pc') (hret : ret = none) (hc : cl = R.cells) (hs : sl = R.slots) (h : some ((), w) = some ro) : xK cc nL own nm ret R X lv ([]) w sz cl sl pc (none, ro.2, sz) := by
  cases h
  subst hc
  subst hs
  exact fun p e s m below meth c H locs ls Z hm hn hr hk J hl => W.vret Z.1 Z.2.1 (hr.trans hret) (fun t ht hW => ⟨rfl, by rw [ht]; exact J.1, by rw [ht]; exact J.2.2.2.1, J.2.2.1, J.2.1.F ht⟩) J.2.1.2.2 hd.1 hk
theorem xo_retVA {ro : Unit × xw × Nat} (hd : xD cc pc .return_ 1 pc') (hret : ret = none) (hc : cl = R.cells) (hs : sl = R.slots) (h : some ((), w, sz) = some ro) : xK cc nL own nm ret R X lv ([]) w sz cl sl pc (none, ro.2.1, ro.2.2) := by
  cases h
  subst hc
  subst hs
  exact fun p e s m below meth c H locs ls Z hm hn hr hk J hl => W.vret Z.1 Z.2.1 (hr.trans hret) (fun t ht hW => ⟨rfl, by rw [ht]; exact J.1, by rw [ht]; exact J.2.2.2.1, J.2.2.1, J.2.1.F ht⟩) J.2.1.2.2 hd.1 hk
theorem xo_retZ0 {v : Int32} {ro : Int32} (hd : xD cc pc .ireturn 1 pc') (hret : ret = some .boolean) (hc : cl = R.cells) (hs : sl = R.slots) (h : xrZ0 v = some ro) : xK cc nL own nm ret R X lv ([.int v]) w sz cl sl pc (some (.int ro), w, sz) := by
  obtain ⟨hz, rfl⟩ := xrZ0_inv h
  subst hc
  subst hs
  exact fun p e s m below meth c H locs ls Z hm hn hr hk J hl => W.zret Z.1 Z.2.1 (hr.trans hret) (xnar hz).1 (fun t ht hW => ⟨rfl, by rw [ht]; exact J.1, by rw [ht]; exact J.2.2.2.1, J.2.2.1, J.2.1.F ht⟩) J.2.1.2.2 hd.1 hk
theorem xo_retZH {v : Int32} {ro : Int32 × xw} (hd : xD cc pc .ireturn 1 pc') (hret : ret = some .boolean) (hc : cl = R.cells) (hs : sl = R.slots) (h : xrZ v w = some ro) : xK cc nL own nm ret R X lv ([.int v]) w sz cl sl pc (some (.int ro.1), ro.2, sz) := by
  obtain ⟨hz, rfl⟩ := xrZ_inv h
  subst hc
  subst hs
  exact fun p e s m below meth c H locs ls Z hm hn hr hk J hl => W.zret Z.1 Z.2.1 (hr.trans hret) (xnar hz).1 (fun t ht hW => ⟨rfl, by rw [ht]; exact J.1, by rw [ht]; exact J.2.2.2.1, J.2.2.1, J.2.1.F ht⟩) J.2.1.2.2 hd.1 hk
end XO
theorem xm_of {l : Launch} {y : MethodName} {bytes cc : ByteArray} {maxL : Nat} {ret : Option FieldType} {R : Room} {D : va_G} {cT : Nat → ClassId} {as : List Value} {w : xw} {sz : Nat} {r : xR} (hb : bytes = cc) (hp : plainName y.cls = true) (hn : Nat.ble (lg_sl as).length maxL = true)
    (h : xK cc maxL y.cls y.name ret R (l, D, cT, as, w, sz) (lv_args 0 as) [] w sz 0 0 0 r) : xM l y bytes maxL ret R D cT as w sz r := by
  refine Met.ofW (cc := bytes) (maxL := maxL) (ret := ret) hp rfl ?_
  intro p e s m args below meth c s₁ B hml hv
  obtain ⟨rfl, h1, h2, h3, h4⟩ := hv
  have hts := atoms_spec B.pre
  rw [lg_entry_eq]
  exact h p e s m below meth c s.heap [] _ ⟨B.exec, B.bytes.trans hb, findClass_of_methodNamed B.named, fun x hx => hts x (List.mem_cons_of_mem _ hx), h3, h4⟩ hml (name_of_methodNamed B.named B.method).1 B.returns B.notSynchronized ⟨h1, va_S.rf, fun a ha => Or.inl ha, h2, fun q hq => Or.inr (by rw [← h2]; exact hq)⟩ (lv_entry as (Nat.le_of_ble_eq_true hn))
end
section
theorem xc_0 : xC 0 R_0 T_0 4 ty_0 := ⟨rfl, List.forall_mem_cons.mpr ⟨tw_228, List.forall_mem_cons.mpr ⟨tw_230, List.forall_mem_cons.mpr ⟨tw_232, List.forall_mem_cons.mpr ⟨tw_234, fun _ h => absurd h List.not_mem_nil⟩⟩⟩⟩, by decide +kernel, by decide +kernel⟩
theorem xc_1 : xC 1 R_1 T_1 5 ty_1 := ⟨rfl, List.forall_mem_cons.mpr ⟨tw_56, List.forall_mem_cons.mpr ⟨tw_58, List.forall_mem_cons.mpr ⟨tw_60, List.forall_mem_cons.mpr ⟨tw_62, List.forall_mem_cons.mpr ⟨tw_64, fun _ h => absurd h List.not_mem_nil⟩⟩⟩⟩⟩, by decide +kernel, by decide +kernel⟩
theorem xc_2 : xC 2 R_2 T_2 8 ty_2 := ⟨rfl, List.forall_mem_cons.mpr ⟨tw_136, List.forall_mem_cons.mpr ⟨tw_138, List.forall_mem_cons.mpr ⟨tw_140, List.forall_mem_cons.mpr ⟨tw_142, List.forall_mem_cons.mpr ⟨tw_144, List.forall_mem_cons.mpr ⟨tw_146, List.forall_mem_cons.mpr ⟨tw_148, List.forall_mem_cons.mpr ⟨tw_150, fun _ h => absurd h List.not_mem_nil⟩⟩⟩⟩⟩⟩⟩⟩, by decide +kernel, by decide +kernel⟩
theorem xc_3 : xC 3 R_3 T_3 5 ty_3 := ⟨rfl, List.forall_mem_cons.mpr ⟨tw_213, List.forall_mem_cons.mpr ⟨tw_215, List.forall_mem_cons.mpr ⟨tw_217, List.forall_mem_cons.mpr ⟨tw_219, List.forall_mem_cons.mpr ⟨tw_221, fun _ h => absurd h List.not_mem_nil⟩⟩⟩⟩⟩, by decide +kernel, by decide +kernel⟩
theorem xc_4 : xC 4 R_4 T_4 2 ty_4 := ⟨rfl, List.forall_mem_cons.mpr ⟨tw_89, List.forall_mem_cons.mpr ⟨tw_91, fun _ h => absurd h List.not_mem_nil⟩⟩, by decide +kernel, by decide +kernel⟩
theorem xc_5 : xC 5 R_5 T_5 2 ty_5 := ⟨rfl, List.forall_mem_cons.mpr ⟨tw_74, List.forall_mem_cons.mpr ⟨tw_76, fun _ h => absurd h List.not_mem_nil⟩⟩, by decide +kernel, by decide +kernel⟩
theorem xc_6 : xC 6 R_6 T_6 2 ty_6 := ⟨rfl, List.forall_mem_cons.mpr ⟨tw_158, List.forall_mem_cons.mpr ⟨tw_160, fun _ h => absurd h List.not_mem_nil⟩⟩, by decide +kernel, by decide +kernel⟩
theorem xc_7 : xC 7 R_7 T_7 10 ty_7 := ⟨rfl, List.forall_mem_cons.mpr ⟨tw_179, List.forall_mem_cons.mpr ⟨tw_181, List.forall_mem_cons.mpr ⟨tw_183, List.forall_mem_cons.mpr ⟨tw_185, List.forall_mem_cons.mpr ⟨tw_187, List.forall_mem_cons.mpr ⟨tw_189, List.forall_mem_cons.mpr ⟨tw_191, List.forall_mem_cons.mpr ⟨tw_193, List.forall_mem_cons.mpr ⟨tw_195, List.forall_mem_cons.mpr ⟨tw_197, fun _ h => absurd h List.not_mem_nil⟩⟩⟩⟩⟩⟩⟩⟩⟩⟩, by decide +kernel, by decide +kernel⟩
theorem xc_8 : xC 8 R_8 T_8 25 ty_8 := ⟨rfl, List.forall_mem_cons.mpr ⟨tw_668, List.forall_mem_cons.mpr ⟨tw_670, List.forall_mem_cons.mpr ⟨tw_672, List.forall_mem_cons.mpr ⟨tw_674, List.forall_mem_cons.mpr ⟨tw_676, List.forall_mem_cons.mpr ⟨tw_678, List.forall_mem_cons.mpr ⟨tw_680, List.forall_mem_cons.mpr ⟨tw_682, List.forall_mem_cons.mpr ⟨tw_684, List.forall_mem_cons.mpr ⟨tw_686, List.forall_mem_cons.mpr ⟨tw_688, List.forall_mem_cons.mpr ⟨tw_690, List.forall_mem_cons.mpr ⟨tw_692, List.forall_mem_cons.mpr ⟨tw_694, List.forall_mem_cons.mpr ⟨tw_696, List.forall_mem_cons.mpr ⟨tw_698, List.forall_mem_cons.mpr ⟨tw_700, List.forall_mem_cons.mpr ⟨tw_702, List.forall_mem_cons.mpr ⟨tw_704, List.forall_mem_cons.mpr ⟨tw_706, List.forall_mem_cons.mpr ⟨tw_708, List.forall_mem_cons.mpr ⟨tw_710, List.forall_mem_cons.mpr ⟨tw_712, List.forall_mem_cons.mpr ⟨tw_714, List.forall_mem_cons.mpr ⟨tw_716, fun _ h => absurd h List.not_mem_nil⟩⟩⟩⟩⟩⟩⟩⟩⟩⟩⟩⟩⟩⟩⟩⟩⟩⟩⟩⟩⟩⟩⟩⟩⟩, by decide +kernel, by decide +kernel⟩
theorem yw_I_allowed : xYS y_I_allowed b_I_allowed 6 t_I_allowed 5 := ⟨tw_243, tw_242, tw_3, ⟨by decide +kernel, by decide +kernel, by decide +kernel⟩⟩
theorem yw_I_become : xYV y_I_become b_I_become 6 t_I_become 5 := ⟨tw_247, tw_245, tw_3, ⟨by decide +kernel, by decide +kernel, by decide +kernel⟩, tw_246⟩
theorem yw_P_become : xYV y_P_become b_P_become 9 t_P_become 3 := ⟨tw_263, tw_261, tw_4, ⟨by decide +kernel, by decide +kernel, by decide +kernel⟩, tw_262⟩
theorem yw_K_becomeNothing : xYV y_K_becomeNothing b_K_becomeNothing 1 t_K_becomeNothing 0 := ⟨tw_287, tw_285, tw_7, ⟨by decide +kernel, by decide +kernel, by decide +kernel⟩, tw_286⟩
theorem yw_K_boundUnsigned : xYV y_K_boundUnsigned b_K_boundUnsigned 5 t_K_boundUnsigned 2 := ⟨tw_294, tw_292, tw_7, ⟨by decide +kernel, by decide +kernel, by decide +kernel⟩, tw_293⟩
theorem yw_K_boundSigned : xYV y_K_boundSigned b_K_boundSigned 5 t_K_boundSigned 2 := ⟨tw_298, tw_296, tw_7, ⟨by decide +kernel, by decide +kernel, by decide +kernel⟩, tw_297⟩
theorem yw_G_unsigned : xYS y_G_unsigned b_G_unsigned 1 t_G_unsigned 1 := ⟨tw_305, tw_304, tw_1, ⟨by decide +kernel, by decide +kernel, by decide +kernel⟩⟩
theorem yw_jM_max_J : xYS y_jM_max_J b_jM_max_J 4 t_jM_max_J 2 := ⟨tw_309, tw_308, tw_10, ⟨by decide +kernel, by decide +kernel, by decide +kernel⟩⟩
theorem yw_jM_min_J : xYS y_jM_min_J b_jM_min_J 4 t_jM_min_J 2 := ⟨tw_312, tw_311, tw_10, ⟨by decide +kernel, by decide +kernel, by decide +kernel⟩⟩
theorem yw_jI_numberOfLeadingZeros : xYS y_jI_numberOfLeadingZeros b_jI_numberOfLeadingZeros 2 t_jI_numberOfLeadingZeros 1 := ⟨tw_320, tw_319, tw_12, ⟨by decide +kernel, by decide +kernel, by decide +kernel⟩⟩
theorem yw_jL_numberOfLeadingZeros : xYS y_jL_numberOfLeadingZeros b_jL_numberOfLeadingZeros 3 t_jL_numberOfLeadingZeros 1 := ⟨tw_317, tw_316, tw_11, ⟨by decide +kernel, by decide +kernel, by decide +kernel⟩⟩
theorem yw_K_contradicts : xYV y_K_contradicts b_K_contradicts 3 t_K_contradicts 2 := ⟨tw_325, tw_323, tw_7, ⟨by decide +kernel, by decide +kernel, by decide +kernel⟩, tw_324⟩
theorem yw_K_tighten : xYV y_K_tighten b_K_tighten 2 t_K_tighten 0 := ⟨tw_302, tw_300, tw_7, ⟨by decide +kernel, by decide +kernel, by decide +kernel⟩, tw_301⟩
theorem yw_K_becomeUpTo : xYV y_K_becomeUpTo b_K_becomeUpTo 2 t_K_becomeUpTo 1 := ⟨tw_283, tw_281, tw_7, ⟨by decide +kernel, by decide +kernel, by decide +kernel⟩, tw_282⟩
theorem yw_S_begin : xYV y_S_begin b_S_begin 2 t_S_begin 0 := ⟨tw_279, tw_277, tw_6, ⟨by decide +kernel, by decide +kernel, by decide +kernel⟩, tw_278⟩
theorem yw_W_begin : xYV y_W_begin b_W_begin 2 t_W_begin 0 := ⟨tw_275, tw_274, tw_5, ⟨by decide +kernel, by decide +kernel, by decide +kernel⟩, List.mem_filter.mpr ⟨List.mem_append_left _ (List.mem_of_getElem? (i := 0) (by decide +kernel)), by decide +kernel⟩⟩
theorem yw_I_readsA : xYV y_I_readsA b_I_readsA 1 t_I_readsA 0 := ⟨tw_338, tw_336, tw_3, ⟨by decide +kernel, by decide +kernel, by decide +kernel⟩, tw_337⟩
theorem yw_I_readsB : xYV y_I_readsB b_I_readsB 1 t_I_readsB 0 := ⟨tw_342, tw_340, tw_3, ⟨by decide +kernel, by decide +kernel, by decide +kernel⟩, tw_341⟩
theorem yw_W_readsUnset : xYV y_W_readsUnset b_W_readsUnset 2 t_W_readsUnset 1 := ⟨tw_334, tw_333, tw_5, ⟨by decide +kernel, by decide +kernel, by decide +kernel⟩, List.mem_filter.mpr ⟨List.mem_append_left _ (List.mem_of_getElem? (i := 2) (by decide +kernel)), by decide +kernel⟩⟩
theorem yw_K_becomeNumber : xYV y_K_becomeNumber b_K_becomeNumber 2 t_K_becomeNumber 1 := ⟨tw_350, tw_348, tw_7, ⟨by decide +kernel, by decide +kernel, by decide +kernel⟩, tw_349⟩
theorem yw_W_knownOfY : xYV y_W_knownOfY b_W_knownOfY 2 t_W_knownOfY 1 := ⟨tw_346, tw_345, tw_5, ⟨by decide +kernel, by decide +kernel, by decide +kernel⟩, List.mem_filter.mpr ⟨List.mem_append_left _ (List.mem_of_getElem? (i := 3) (by decide +kernel)), by decide +kernel⟩⟩
theorem yw_W_alarmOfPlaces : xYV y_W_alarmOfPlaces b_W_alarmOfPlaces 4 t_W_alarmOfPlaces 2 := ⟨tw_354, tw_353, tw_5, ⟨by decide +kernel, by decide +kernel, by decide +kernel⟩, List.mem_filter.mpr ⟨List.mem_append_left _ (List.mem_of_getElem? (i := 4) (by decide +kernel)), by decide +kernel⟩⟩
theorem yw_W_alarmAt : xYV y_W_alarmAt b_W_alarmAt 3 t_W_alarmAt 1 := ⟨tw_330, tw_329, tw_5, ⟨by decide +kernel, by decide +kernel, by decide +kernel⟩, List.mem_filter.mpr ⟨List.mem_append_left _ (List.mem_of_getElem? (i := 1) (by decide +kernel)), by decide +kernel⟩⟩
theorem yw_K_take : xYV y_K_take b_K_take 2 t_K_take 1 := ⟨tw_367, tw_365, tw_7, ⟨by decide +kernel, by decide +kernel, by decide +kernel⟩, tw_366⟩
theorem yw_S_take : xYV y_S_take b_S_take 3 t_S_take 1 := ⟨tw_363, tw_361, tw_6, ⟨by decide +kernel, by decide +kernel, by decide +kernel⟩, tw_362⟩
theorem yw_W_resume : xYV y_W_resume b_W_resume 2 t_W_resume 0 := ⟨tw_371, tw_370, tw_5, ⟨by decide +kernel, by decide +kernel, by decide +kernel⟩, List.mem_filter.mpr ⟨List.mem_append_left _ (List.mem_of_getElem? (i := 6) (by decide +kernel)), by decide +kernel⟩⟩
theorem yw_jM_max_I : xYS y_jM_max_I b_jM_max_I 2 t_jM_max_I 2 := ⟨tw_378, tw_377, tw_10, ⟨by decide +kernel, by decide +kernel, by decide +kernel⟩⟩
theorem yw_W_takePair : xYV y_W_takePair b_W_takePair 2 t_W_takePair 1 := ⟨tw_382, tw_381, tw_5, ⟨by decide +kernel, by decide +kernel, by decide +kernel⟩, List.mem_filter.mpr ⟨List.mem_append_left _ (List.mem_of_getElem? (i := 8) (by decide +kernel)), by decide +kernel⟩⟩
theorem yw_K_join : xYV y_K_join b_K_join 2 t_K_join 1 := ⟨tw_391, tw_389, tw_7, ⟨by decide +kernel, by decide +kernel, by decide +kernel⟩, tw_390⟩
theorem yw_K_isExact : xYV y_K_isExact b_K_isExact 1 t_K_isExact 0 := ⟨tw_396, tw_394, tw_7, ⟨by decide +kernel, by decide +kernel, by decide +kernel⟩, tw_395⟩
theorem yw_W_relate : xYV y_W_relate b_W_relate 2 t_W_relate 1 := ⟨tw_387, tw_386, tw_5, ⟨by decide +kernel, by decide +kernel, by decide +kernel⟩, List.mem_filter.mpr ⟨List.mem_append_left _ (List.mem_of_getElem? (i := 9) (by decide +kernel)), by decide +kernel⟩⟩
theorem yw_W_givePair : xYV y_W_givePair b_W_givePair 3 t_W_givePair 2 := ⟨tw_403, tw_402, tw_5, ⟨by decide +kernel, by decide +kernel, by decide +kernel⟩, List.mem_filter.mpr ⟨List.mem_append_left _ (List.mem_of_getElem? (i := 10) (by decide +kernel)), by decide +kernel⟩⟩
theorem yw_W_part : xYV y_W_part b_W_part 4 t_W_part 2 := ⟨tw_375, tw_374, tw_5, ⟨by decide +kernel, by decide +kernel, by decide +kernel⟩, List.mem_filter.mpr ⟨List.mem_append_left _ (List.mem_of_getElem? (i := 7) (by decide +kernel)), by decide +kernel⟩⟩
theorem yw_jM_min_I : xYS y_jM_min_I b_jM_min_I 2 t_jM_min_I 2 := ⟨tw_418, tw_417, tw_10, ⟨by decide +kernel, by decide +kernel, by decide +kernel⟩⟩
theorem yw_K_meet : xYV y_K_meet b_K_meet 2 t_K_meet 1 := ⟨tw_415, tw_413, tw_7, ⟨by decide +kernel, by decide +kernel, by decide +kernel⟩, tw_414⟩
theorem yw_W_fetch : xYV y_W_fetch b_W_fetch 6 t_W_fetch 2 := ⟨tw_411, tw_410, tw_5, ⟨by decide +kernel, by decide +kernel, by decide +kernel⟩, List.mem_filter.mpr ⟨List.mem_append_left _ (List.mem_of_getElem? (i := 12) (by decide +kernel)), by decide +kernel⟩⟩
theorem yw_W_store : xYV y_W_store b_W_store 4 t_W_store 2 := ⟨tw_422, tw_421, tw_5, ⟨by decide +kernel, by decide +kernel, by decide +kernel⟩, List.mem_filter.mpr ⟨List.mem_append_left _ (List.mem_of_getElem? (i := 13) (by decide +kernel)), by decide +kernel⟩⟩
theorem yw_O_lowestBits : xYS y_O_lowestBits b_O_lowestBits 3 t_O_lowestBits 2 := ⟨tw_435, tw_434, tw_13, ⟨by decide +kernel, by decide +kernel, by decide +kernel⟩⟩
theorem yw_G_isInt : xYS y_G_isInt b_G_isInt 2 t_G_isInt 1 := ⟨tw_440, tw_439, tw_1, ⟨by decide +kernel, by decide +kernel, by decide +kernel⟩⟩
theorem yw_O_sum : xYS y_O_sum b_O_sum 3 t_O_sum 3 := ⟨tw_432, tw_431, tw_13, ⟨by decide +kernel, by decide +kernel, by decide +kernel⟩⟩
theorem yw_O_difference : xYS y_O_difference b_O_difference 3 t_O_difference 3 := ⟨tw_449, tw_448, tw_13, ⟨by decide +kernel, by decide +kernel, by decide +kernel⟩⟩
theorem yw_O_product : xYS y_O_product b_O_product 3 t_O_product 3 := ⟨tw_452, tw_451, tw_13, ⟨by decide +kernel, by decide +kernel, by decide +kernel⟩⟩
theorem yw_K_zeros : xYV y_K_zeros b_K_zeros 1 t_K_zeros 0 := ⟨tw_459, tw_457, tw_7, ⟨by decide +kernel, by decide +kernel, by decide +kernel⟩, tw_458⟩
theorem yw_O_bothOnes : xYS y_O_bothOnes b_O_bothOnes 3 t_O_bothOnes 3 := ⟨tw_455, tw_454, tw_13, ⟨by decide +kernel, by decide +kernel, by decide +kernel⟩⟩
theorem yw_O_eitherOne : xYS y_O_eitherOne b_O_eitherOne 3 t_O_eitherOne 3 := ⟨tw_463, tw_462, tw_13, ⟨by decide +kernel, by decide +kernel, by decide +kernel⟩⟩
theorem yw_O_unlikeBits : xYS y_O_unlikeBits b_O_unlikeBits 3 t_O_unlikeBits 3 := ⟨tw_467, tw_466, tw_13, ⟨by decide +kernel, by decide +kernel, by decide +kernel⟩⟩
theorem yw_O_quotient : xYS y_O_quotient b_O_quotient 3 t_O_quotient 3 := ⟨tw_470, tw_469, tw_13, ⟨by decide +kernel, by decide +kernel, by decide +kernel⟩⟩
theorem yw_O_rest : xYS y_O_rest b_O_rest 3 t_O_rest 3 := ⟨tw_473, tw_472, tw_13, ⟨by decide +kernel, by decide +kernel, by decide +kernel⟩⟩
theorem yw_O_shifted : xYS y_O_shifted b_O_shifted 5 t_O_shifted 4 := ⟨tw_476, tw_475, tw_13, ⟨by decide +kernel, by decide +kernel, by decide +kernel⟩⟩
theorem yw_O_outcome : xYS y_O_outcome b_O_outcome 4 t_O_outcome 4 := ⟨tw_428, tw_427, tw_13, ⟨by decide +kernel, by decide +kernel, by decide +kernel⟩⟩
theorem yw_W_change : xYV y_W_change b_W_change 5 t_W_change 1 := ⟨tw_407, tw_406, tw_5, ⟨by decide +kernel, by decide +kernel, by decide +kernel⟩, List.mem_filter.mpr ⟨List.mem_append_left _ (List.mem_of_getElem? (i := 11) (by decide +kernel)), by decide +kernel⟩⟩
theorem yw_W_placeAfter : xYV y_W_placeAfter b_W_placeAfter 4 t_W_placeAfter 1 := ⟨tw_359, tw_358, tw_5, ⟨by decide +kernel, by decide +kernel, by decide +kernel⟩, List.mem_filter.mpr ⟨List.mem_append_left _ (List.mem_of_getElem? (i := 5) (by decide +kernel)), by decide +kernel⟩⟩
theorem yw_W_judge : xYV y_W_judge b_W_judge 3 t_W_judge 0 := ⟨tw_271, tw_269, tw_5, ⟨by decide +kernel, by decide +kernel, by decide +kernel⟩, tw_270⟩
theorem yw_K_told : xYV y_K_told b_K_told 2 t_K_told 1 := ⟨tw_494, tw_492, tw_7, ⟨by decide +kernel, by decide +kernel, by decide +kernel⟩, tw_493⟩
theorem yw_R_within : xYS y_R_within b_R_within 3 t_R_within 3 := ⟨tw_730, tw_729, tw_9, ⟨by decide +kernel, by decide +kernel, by decide +kernel⟩⟩
theorem yw_R_nothing : xYV y_R_nothing b_R_nothing 2 t_R_nothing 1 := ⟨tw_755, tw_754, tw_9, ⟨by decide +kernel, by decide +kernel, by decide +kernel⟩, List.mem_filter.mpr ⟨List.mem_append_left _ (List.mem_of_getElem? (i := 20) (by decide +kernel)), by decide +kernel⟩⟩
theorem yw_R_greater : xYS y_R_greater b_R_greater 4 t_R_greater 2 := ⟨tw_766, tw_765, tw_9, ⟨by decide +kernel, by decide +kernel, by decide +kernel⟩⟩
theorem yw_R_lesser : xYS y_R_lesser b_R_lesser 4 t_R_lesser 2 := ⟨tw_769, tw_768, tw_9, ⟨by decide +kernel, by decide +kernel, by decide +kernel⟩⟩
theorem yw_R_tighten : xYV y_R_tighten b_R_tighten 6 t_R_tighten 1 := ⟨tw_763, tw_762, tw_9, ⟨by decide +kernel, by decide +kernel, by decide +kernel⟩, List.mem_filter.mpr ⟨List.mem_append_left _ (List.mem_of_getElem? (i := 21) (by decide +kernel)), by decide +kernel⟩⟩
theorem yw_R_setUp : xYV y_R_setUp b_R_setUp 2 t_R_setUp 0 := ⟨tw_751, tw_750, tw_9, ⟨by decide +kernel, by decide +kernel, by decide +kernel⟩, List.mem_filter.mpr ⟨List.mem_append_left _ (List.mem_of_getElem? (i := 19) (by decide +kernel)), by decide +kernel⟩⟩
theorem yw_R_readsA : xYS y_R_readsA b_R_readsA 1 t_R_readsA 1 := ⟨tw_777, tw_776, tw_9, ⟨by decide +kernel, by decide +kernel, by decide +kernel⟩⟩
theorem yw_R_readsB : xYS y_R_readsB b_R_readsB 1 t_R_readsB 1 := ⟨tw_780, tw_779, tw_9, ⟨by decide +kernel, by decide +kernel, by decide +kernel⟩⟩
theorem yw_R_copy : xYV y_R_copy b_R_copy 3 t_R_copy 2 := ⟨tw_784, tw_783, tw_9, ⟨by decide +kernel, by decide +kernel, by decide +kernel⟩, List.mem_filter.mpr ⟨List.mem_append_left _ (List.mem_of_getElem? (i := 23) (by decide +kernel)), by decide +kernel⟩⟩
theorem yw_R_number : xYV y_R_number b_R_number 3 t_R_number 2 := ⟨tw_788, tw_787, tw_9, ⟨by decide +kernel, by decide +kernel, by decide +kernel⟩, List.mem_filter.mpr ⟨List.mem_append_left _ (List.mem_of_getElem? (i := 24) (by decide +kernel)), by decide +kernel⟩⟩
theorem yw_R_alarm : xYV y_R_alarm b_R_alarm 5 t_R_alarm 0 := ⟨tw_774, tw_773, tw_9, ⟨by decide +kernel, by decide +kernel, by decide +kernel⟩, List.mem_filter.mpr ⟨List.mem_append_left _ (List.mem_of_getElem? (i := 22) (by decide +kernel)), by decide +kernel⟩⟩
theorem yw_R_alike : xYV y_R_alike b_R_alike 2 t_R_alike 0 := ⟨tw_805, tw_804, tw_9, ⟨by decide +kernel, by decide +kernel, by decide +kernel⟩, List.mem_filter.mpr ⟨List.mem_append_left _ (List.mem_of_getElem? (i := 28) (by decide +kernel)), by decide +kernel⟩⟩
theorem yw_R_isExact : xYV y_R_isExact b_R_isExact 2 t_R_isExact 1 := ⟨tw_809, tw_808, tw_9, ⟨by decide +kernel, by decide +kernel, by decide +kernel⟩, List.mem_filter.mpr ⟨List.mem_append_left _ (List.mem_of_getElem? (i := 29) (by decide +kernel)), by decide +kernel⟩⟩
theorem yw_R_less : xYV y_R_less b_R_less 3 t_R_less 1 := ⟨tw_813, tw_812, tw_9, ⟨by decide +kernel, by decide +kernel, by decide +kernel⟩, List.mem_filter.mpr ⟨List.mem_append_left _ (List.mem_of_getElem? (i := 30) (by decide +kernel)), by decide +kernel⟩⟩
theorem yw_R_lessSigned : xYV y_R_lessSigned b_R_lessSigned 3 t_R_lessSigned 1 := ⟨tw_817, tw_816, tw_9, ⟨by decide +kernel, by decide +kernel, by decide +kernel⟩, List.mem_filter.mpr ⟨List.mem_append_left _ (List.mem_of_getElem? (i := 31) (by decide +kernel)), by decide +kernel⟩⟩
theorem yw_R_compare : xYV y_R_compare b_R_compare 3 t_R_compare 2 := ⟨tw_801, tw_800, tw_9, ⟨by decide +kernel, by decide +kernel, by decide +kernel⟩, List.mem_filter.mpr ⟨List.mem_append_left _ (List.mem_of_getElem? (i := 27) (by decide +kernel)), by decide +kernel⟩⟩
theorem yw_R_wait : xYV y_R_wait b_R_wait 5 t_R_wait 3 := ⟨tw_821, tw_820, tw_9, ⟨by decide +kernel, by decide +kernel, by decide +kernel⟩, List.mem_filter.mpr ⟨List.mem_append_left _ (List.mem_of_getElem? (i := 32) (by decide +kernel)), by decide +kernel⟩⟩
theorem yw_R_part : xYV y_R_part b_R_part 6 t_R_part 4 := ⟨tw_797, tw_796, tw_9, ⟨by decide +kernel, by decide +kernel, by decide +kernel⟩, List.mem_filter.mpr ⟨List.mem_append_left _ (List.mem_of_getElem? (i := 26) (by decide +kernel)), by decide +kernel⟩⟩
theorem yw_R_lowest : xYV y_R_lowest b_R_lowest 4 t_R_lowest 0 := ⟨tw_833, tw_832, tw_9, ⟨by decide +kernel, by decide +kernel, by decide +kernel⟩, List.mem_filter.mpr ⟨List.mem_append_left _ (List.mem_of_getElem? (i := 35) (by decide +kernel)), by decide +kernel⟩⟩
theorem yw_R_knows : xYV y_R_knows b_R_knows 3 t_R_knows 2 := ⟨tw_837, tw_836, tw_9, ⟨by decide +kernel, by decide +kernel, by decide +kernel⟩, List.mem_filter.mpr ⟨List.mem_append_left _ (List.mem_of_getElem? (i := 36) (by decide +kernel)), by decide +kernel⟩⟩
theorem yw_R_bitsOf : xYV y_R_bitsOf b_R_bitsOf 7 t_R_bitsOf 1 := ⟨tw_829, tw_828, tw_9, ⟨by decide +kernel, by decide +kernel, by decide +kernel⟩, List.mem_filter.mpr ⟨List.mem_append_left _ (List.mem_of_getElem? (i := 34) (by decide +kernel)), by decide +kernel⟩⟩
theorem yw_R_bound : xYV y_R_bound b_R_bound 5 t_R_bound 2 := ⟨tw_845, tw_844, tw_9, ⟨by decide +kernel, by decide +kernel, by decide +kernel⟩, List.mem_filter.mpr ⟨List.mem_append_left _ (List.mem_of_getElem? (i := 38) (by decide +kernel)), by decide +kernel⟩⟩
theorem yw_R_boundSigned : xYV y_R_boundSigned b_R_boundSigned 5 t_R_boundSigned 2 := ⟨tw_849, tw_848, tw_9, ⟨by decide +kernel, by decide +kernel, by decide +kernel⟩, List.mem_filter.mpr ⟨List.mem_append_left _ (List.mem_of_getElem? (i := 39) (by decide +kernel)), by decide +kernel⟩⟩
theorem yw_R_boundsOf : xYV y_R_boundsOf b_R_boundsOf 3 t_R_boundsOf 1 := ⟨tw_841, tw_840, tw_9, ⟨by decide +kernel, by decide +kernel, by decide +kernel⟩, List.mem_filter.mpr ⟨List.mem_append_left _ (List.mem_of_getElem? (i := 37) (by decide +kernel)), by decide +kernel⟩⟩
theorem yw_R_operate : xYV y_R_operate b_R_operate 4 t_R_operate 1 := ⟨tw_825, tw_824, tw_9, ⟨by decide +kernel, by decide +kernel, by decide +kernel⟩, List.mem_filter.mpr ⟨List.mem_append_left _ (List.mem_of_getElem? (i := 33) (by decide +kernel)), by decide +kernel⟩⟩
theorem yw_R_meet : xYV y_R_meet b_R_meet 3 t_R_meet 2 := ⟨tw_858, tw_857, tw_9, ⟨by decide +kernel, by decide +kernel, by decide +kernel⟩, List.mem_filter.mpr ⟨List.mem_append_left _ (List.mem_of_getElem? (i := 41) (by decide +kernel)), by decide +kernel⟩⟩
theorem yw_R_get : xYV y_R_get b_R_get 3 t_R_get 1 := ⟨tw_854, tw_853, tw_9, ⟨by decide +kernel, by decide +kernel, by decide +kernel⟩, List.mem_filter.mpr ⟨List.mem_append_left _ (List.mem_of_getElem? (i := 40) (by decide +kernel)), by decide +kernel⟩⟩
theorem yw_R_put : xYV y_R_put b_R_put 2 t_R_put 0 := ⟨tw_862, tw_861, tw_9, ⟨by decide +kernel, by decide +kernel, by decide +kernel⟩, List.mem_filter.mpr ⟨List.mem_append_left _ (List.mem_of_getElem? (i := 42) (by decide +kernel)), by decide +kernel⟩⟩
theorem yw_R_load : xYV y_R_load b_R_load 4 t_R_load 2 := ⟨tw_866, tw_865, tw_9, ⟨by decide +kernel, by decide +kernel, by decide +kernel⟩, List.mem_filter.mpr ⟨List.mem_append_left _ (List.mem_of_getElem? (i := 43) (by decide +kernel)), by decide +kernel⟩⟩
theorem yw_R_pass : xYV y_R_pass b_R_pass 6 t_R_pass 0 := ⟨tw_793, tw_792, tw_9, ⟨by decide +kernel, by decide +kernel, by decide +kernel⟩, List.mem_filter.mpr ⟨List.mem_append_left _ (List.mem_of_getElem? (i := 25) (by decide +kernel)), by decide +kernel⟩⟩
theorem yw_R_refuse : xYV y_R_refuse b_R_refuse 2 t_R_refuse 1 := ⟨tw_884, tw_883, tw_9, ⟨by decide +kernel, by decide +kernel, by decide +kernel⟩, List.mem_filter.mpr ⟨List.mem_append_left _ (List.mem_of_getElem? (i := 44) (by decide +kernel)), by decide +kernel⟩⟩
theorem yw_R_unsignedRest : xYS y_R_unsignedRest b_R_unsignedRest 2 t_R_unsignedRest 2 := ⟨tw_890, tw_889, tw_9, ⟨by decide +kernel, by decide +kernel, by decide +kernel⟩⟩
theorem yw_R_reckon : xYS y_R_reckon b_R_reckon 3 t_R_reckon 3 := ⟨tw_887, tw_886, tw_9, ⟨by decide +kernel, by decide +kernel, by decide +kernel⟩⟩
theorem yw_R_bytesAt : xYV y_R_bytesAt b_R_bytesAt 5 t_R_bytesAt 2 := ⟨tw_894, tw_893, tw_9, ⟨by decide +kernel, by decide +kernel, by decide +kernel⟩, List.mem_filter.mpr ⟨List.mem_append_left _ (List.mem_of_getElem? (i := 45) (by decide +kernel)), by decide +kernel⟩⟩
theorem yw_R_holds : xYS y_R_holds b_R_holds 5 t_R_holds 3 := ⟨tw_897, tw_896, tw_9, ⟨by decide +kernel, by decide +kernel, by decide +kernel⟩⟩
theorem xbp_6 : (Int8.ofInt 6).toInt32 = (6 : Int32) := by decide
theorem xbp_7 : (Int8.ofInt 7).toInt32 = (7 : Int32) := by decide
theorem xbp_8 : (Int8.ofInt 8).toInt32 = (8 : Int32) := by decide
theorem xbp_9 : (Int8.ofInt 9).toInt32 = (9 : Int32) := by decide
theorem xbp_10 : (Int8.ofInt 10).toInt32 = (10 : Int32) := by decide
theorem xbp_11 : (Int8.ofInt 11).toInt32 = (11 : Int32) := by decide
theorem xbp_12 : (Int8.ofInt 12).toInt32 = (12 : Int32) := by decide
theorem xbp_13 : (Int8.ofInt 13).toInt32 = (13 : Int32) := by decide
theorem xbp_14 : (Int8.ofInt 14).toInt32 = (14 : Int32) := by decide
theorem xbp_15 : (Int8.ofInt 15).toInt32 = (15 : Int32) := by decide
theorem xbp_16 : (Int8.ofInt 16).toInt32 = (16 : Int32) := by decide
theorem xbp_18 : (Int8.ofInt 18).toInt32 = (18 : Int32) := by decide
theorem xbp_20 : (Int8.ofInt 20).toInt32 = (20 : Int32) := by decide
theorem xbp_21 : (Int8.ofInt 21).toInt32 = (21 : Int32) := by decide
theorem xbp_22 : (Int8.ofInt 22).toInt32 = (22 : Int32) := by decide
theorem xbp_23 : (Int8.ofInt 23).toInt32 = (23 : Int32) := by decide
theorem xbp_24 : (Int8.ofInt 24).toInt32 = (24 : Int32) := by decide
theorem xbp_31 : (Int8.ofInt 31).toInt32 = (31 : Int32) := by decide
theorem xbp_32 : (Int8.ofInt 32).toInt32 = (32 : Int32) := by decide
theorem xbp_64 : (Int8.ofInt 64).toInt32 = (64 : Int32) := by decide
theorem xbp_100 : (Int8.ofInt 100).toInt32 = (100 : Int32) := by decide
theorem xic_m16 : Int32.ofInt (-16) = (-16 : Int32) := by decide
theorem xic_m8 : Int32.ofInt (-8) = (-8 : Int32) := by decide
theorem xic_m4 : Int32.ofInt (-4) = (-4 : Int32) := by decide
theorem xic_m2 : Int32.ofInt (-2) = (-2 : Int32) := by decide
theorem xic_m1 : Int32.ofInt (-1) = (-1 : Int32) := by decide
theorem xic_0 : Int32.ofInt 0 = (0 : Int32) := by decide
theorem xic_1 : Int32.ofInt 1 = (1 : Int32) := by decide
theorem xic_2 : Int32.ofInt 2 = (2 : Int32) := by decide
theorem xic_3 : Int32.ofInt 3 = (3 : Int32) := by decide
theorem xic_4 : Int32.ofInt 4 = (4 : Int32) := by decide
theorem xic_5 : Int32.ofInt 5 = (5 : Int32) := by decide
theorem xlc_0 : Int64.ofNat ((0 : Fin 2) : Nat) = (0 : Int64) := by decide
theorem xlc_1 : Int64.ofNat ((1 : Fin 2) : Nat) = (1 : Int64) := by decide
theorem xsp_250 : (Int16.ofInt 250).toInt32 = (250 : Int32) := by decide
theorem xsp_255 : (Int16.ofInt 255).toInt32 = (255 : Int32) := by decide
theorem xsp_256 : (Int16.ofInt 256).toInt32 = (256 : Int32) := by decide
theorem xsp_257 : (Int16.ofInt 257).toInt32 = (257 : Int32) := by decide
theorem xsp_258 : (Int16.ofInt 258).toInt32 = (258 : Int32) := by decide
theorem xsp_259 : (Int16.ofInt 259).toInt32 = (259 : Int32) := by decide
theorem xsp_300 : (Int16.ofInt 300).toInt32 = (300 : Int32) := by decide
end
