theorem xin_1 {w : Cond} {i : Nat} (h : tables_1_1[i]? = some w) (hg : goodWord w = true) : w ∈ xT := by
  have h := List.mem_of_getElem? h
  have h : w ∈ tables_1 := List.mem_append_left _ h
  exact List.mem_filter.mpr ⟨List.mem_append_right _ h, hg⟩
theorem xin_2 {w : Cond} {i : Nat} (h : tables_1_2[i]? = some w) (hg : goodWord w = true) : w ∈ xT := by
  have h := List.mem_of_getElem? h
  have h : w ∈ tables_1 := List.mem_append_right _ (List.mem_append_left _ h)
  exact List.mem_filter.mpr ⟨List.mem_append_right _ h, hg⟩
theorem xin_3 {w : Cond} {i : Nat} (h : tables_1_3[i]? = some w) (hg : goodWord w = true) : w ∈ xT := by
  have h := List.mem_of_getElem? h
  have h : w ∈ tables_1 := List.mem_append_right _ (List.mem_append_right _ (List.mem_append_left _ h))
  exact List.mem_filter.mpr ⟨List.mem_append_right _ h, hg⟩
theorem xin_4 {w : Cond} {i : Nat} (h : tables_1_4[i]? = some w) (hg : goodWord w = true) : w ∈ xT := by
  have h := List.mem_of_getElem? h
  have h : w ∈ tables_1 := List.mem_append_right _ (List.mem_append_right _ (List.mem_append_right _ (h)))
  exact List.mem_filter.mpr ⟨List.mem_append_right _ h, hg⟩
theorem tw_1 : Cond.initialized "ProgramGate" ∈ xT := xin_1 (i := 1) rfl rfl
theorem tw_3 : Cond.initialized "ProgramGate$Instruction" ∈ xT := xin_1 (i := 3) rfl rfl
theorem tw_4 : Cond.initialized "ProgramGate$Packet" ∈ xT := xin_1 (i := 4) rfl rfl
theorem tw_5 : Cond.initialized "ProgramGate$Walker" ∈ xT := xin_1 (i := 5) rfl rfl
theorem tw_6 : Cond.initialized "ProgramGate$State" ∈ xT := xin_1 (i := 6) rfl rfl
theorem tw_7 : Cond.initialized "ProgramGate$Known" ∈ xT := xin_1 (i := 7) rfl rfl
theorem tw_9 : Cond.initialized "ProgramGateModel" ∈ xT := xin_1 (i := 9) rfl rfl
theorem tw_11 : Cond.initialized "java/lang/Long" ∈ xT := xin_1 (i := 11) rfl rfl
theorem tw_12 : Cond.initialized "java/lang/Integer" ∈ xT := xin_1 (i := 12) rfl rfl
theorem tw_13 : Cond.initialized "ProgramGate$Operation" ∈ xT := xin_1 (i := 13) rfl rfl
theorem tw_26 : Cond.instanceMethod (⟨"java/lang/Object", "<init>", "()V"⟩ : MethodName) ∈ xT := xin_1 (i := 26) rfl rfl
theorem tw_40 : Cond.methodLink "ProgramGate$Instruction" 3 (⟨"java/lang/Object", "<init>", "()V"⟩ : MethodName) ∈ xT := xin_1 (i := 40) rfl rfl
theorem tw_42 : Cond.fieldLink "ProgramGate$Instruction" 9 "ProgramGate$Instruction" "op" "I" ∈ xT := xin_1 (i := 42) rfl rfl
theorem tw_43 : Cond.fieldLink "ProgramGate$Walker" 78 "ProgramGate$Instruction" "op" "I" ∈ xT := xin_1 (i := 43) rfl rfl
theorem tw_44 : Cond.fieldLink "ProgramGate$Instruction" 15 "ProgramGate$Instruction" "a" "I" ∈ xT := xin_1 (i := 44) rfl rfl
theorem tw_46 : Cond.fieldLink "ProgramGate$Walker" 118 "ProgramGate$Instruction" "a" "I" ∈ xT := xin_1 (i := 46) rfl rfl
theorem tw_47 : Cond.fieldLink "ProgramGate$Instruction" 18 "ProgramGate$Instruction" "b" "I" ∈ xT := xin_1 (i := 47) rfl rfl
theorem tw_49 : Cond.fieldLink "ProgramGate$Walker" 105 "ProgramGate$Instruction" "b" "I" ∈ xT := xin_1 (i := 49) rfl rfl
theorem tw_50 : Cond.fieldLink "ProgramGate$Instruction" 21 "ProgramGate$Instruction" "n" "I" ∈ xT := xin_1 (i := 50) rfl rfl
theorem tw_52 : Cond.fieldLink "ProgramGate$Walker" 95 "ProgramGate$Instruction" "n" "I" ∈ xT := xin_1 (i := 52) rfl rfl
theorem tw_54 : Cond.fieldLink "ProgramGate$Instruction" 24 "ProgramGate$Instruction" "offset" "I" ∈ xT := xin_1 (i := 54) rfl rfl
theorem tw_55 : Cond.fieldLink "ProgramGate$Walker" 98 "ProgramGate$Instruction" "offset" "I" ∈ xT := xin_1 (i := 55) rfl rfl
theorem tw_56 : Cond.lays "ProgramGate$Instruction" "ProgramGate$Instruction" "op" "I" ∈ xT := xin_1 (i := 56) rfl rfl
theorem tw_58 : Cond.lays "ProgramGate$Instruction" "ProgramGate$Instruction" "a" "I" ∈ xT := xin_1 (i := 58) rfl rfl
theorem tw_60 : Cond.lays "ProgramGate$Instruction" "ProgramGate$Instruction" "b" "I" ∈ xT := xin_1 (i := 60) rfl rfl
theorem tw_62 : Cond.lays "ProgramGate$Instruction" "ProgramGate$Instruction" "n" "I" ∈ xT := xin_1 (i := 62) rfl rfl
theorem tw_64 : Cond.lays "ProgramGate$Instruction" "ProgramGate$Instruction" "offset" "I" ∈ xT := xin_1 (i := 64) rfl rfl
theorem tw_69 : Cond.fieldLink "ProgramGate" 51 "ProgramGate$Program" "instructions" "[LProgramGate$Instruction;" ∈ xT := xin_1 (i := 69) rfl rfl
theorem tw_70 : Cond.fieldLink "ProgramGate$Walker" 70 "ProgramGate$Program" "instructions" "[LProgramGate$Instruction;" ∈ xT := xin_1 (i := 70) rfl rfl
theorem tw_71 : Cond.fieldLink "ProgramGate" 41 "ProgramGate$Program" "count" "I" ∈ xT := xin_1 (i := 71) rfl rfl
theorem tw_73 : Cond.fieldLink "ProgramGate$Walker" 65 "ProgramGate$Program" "count" "I" ∈ xT := xin_1 (i := 73) rfl rfl
theorem tw_74 : Cond.laysFinal "ProgramGate$Program" "ProgramGate$Program" "instructions" "[LProgramGate$Instruction;" ∈ xT := xin_1 (i := 74) rfl rfl
theorem tw_76 : Cond.lays "ProgramGate$Program" "ProgramGate$Program" "count" "I" ∈ xT := xin_1 (i := 76) rfl rfl
theorem tw_85 : Cond.fieldLink "ProgramGate$Packet" 9 "ProgramGate$Packet" "values" "[I" ∈ xT := xin_1 (i := 85) rfl rfl
theorem tw_87 : Cond.fieldLink "ProgramGate$Packet" 15 "ProgramGate$Packet" "length" "I" ∈ xT := xin_1 (i := 87) rfl rfl
theorem tw_88 : Cond.fieldLink "ProgramGate$Machine" 62 "ProgramGate$Packet" "length" "I" ∈ xT := xin_1 (i := 88) rfl rfl
theorem tw_89 : Cond.laysFinal "ProgramGate$Packet" "ProgramGate$Packet" "values" "[I" ∈ xT := xin_1 (i := 89) rfl rfl
theorem tw_91 : Cond.lays "ProgramGate$Packet" "ProgramGate$Packet" "length" "I" ∈ xT := xin_1 (i := 91) rfl rfl
theorem tw_113 : Cond.methodLink "ProgramGate$Known" 3 (⟨"java/lang/Object", "<init>", "()V"⟩ : MethodName) ∈ xT := xin_1 (i := 113) rfl rfl
theorem tw_114 : Cond.fieldLink "ProgramGate$Known" 9 "ProgramGate$Known" "set" "Z" ∈ xT := xin_1 (i := 114) rfl rfl
theorem tw_115 : Cond.fieldLink "ProgramGate$State" 21 "ProgramGate$Known" "set" "Z" ∈ xT := xin_1 (i := 115) rfl rfl
theorem tw_116 : Cond.fieldLink "ProgramGate$Walker" 111 "ProgramGate$Known" "set" "Z" ∈ xT := xin_1 (i := 116) rfl rfl
theorem tw_117 : Cond.fieldLink "ProgramGate$Known" 15 "ProgramGate$Known" "bits" "I" ∈ xT := xin_1 (i := 117) rfl rfl
theorem tw_118 : Cond.fieldLink "ProgramGate$Operation" 49 "ProgramGate$Known" "bits" "I" ∈ xT := xin_1 (i := 118) rfl rfl
theorem tw_119 : Cond.fieldLink "ProgramGate$Known" 19 "ProgramGate$Known" "ones" "I" ∈ xT := xin_1 (i := 119) rfl rfl
theorem tw_120 : Cond.fieldLink "ProgramGate$Operation" 57 "ProgramGate$Known" "ones" "I" ∈ xT := xin_1 (i := 120) rfl rfl
theorem tw_121 : Cond.fieldLink "ProgramGate$Known" 22 "ProgramGate$Known" "low" "J" ∈ xT := xin_1 (i := 121) rfl rfl
theorem tw_122 : Cond.fieldLink "ProgramGate$Operation" 66 "ProgramGate$Known" "low" "J" ∈ xT := xin_1 (i := 122) rfl rfl
theorem tw_123 : Cond.fieldLink "ProgramGate$Walker" 87 "ProgramGate$Known" "low" "J" ∈ xT := xin_1 (i := 123) rfl rfl
theorem tw_124 : Cond.fieldLink "ProgramGate$Known" 28 "ProgramGate$Known" "high" "J" ∈ xT := xin_1 (i := 124) rfl rfl
theorem tw_125 : Cond.fieldLink "ProgramGate$Operation" 60 "ProgramGate$Known" "high" "J" ∈ xT := xin_1 (i := 125) rfl rfl
theorem tw_126 : Cond.fieldLink "ProgramGate$Walker" 124 "ProgramGate$Known" "high" "J" ∈ xT := xin_1 (i := 126) rfl rfl
theorem tw_127 : Cond.fieldLink "ProgramGate$Known" 35 "ProgramGate$Known" "least" "J" ∈ xT := xin_1 (i := 127) rfl rfl
theorem tw_128 : Cond.fieldLink "ProgramGate$Operation" 73 "ProgramGate$Known" "least" "J" ∈ xT := xin_1 (i := 128) rfl rfl
theorem tw_129 : Cond.fieldLink "ProgramGate$Walker" 211 "ProgramGate$Known" "least" "J" ∈ xT := xin_1 (i := 129) rfl rfl
theorem tw_130 : Cond.fieldLink "ProgramGate$Known" 40 "ProgramGate$Known" "most" "J" ∈ xT := xin_1 (i := 130) rfl rfl
theorem tw_131 : Cond.fieldLink "ProgramGate$Operation" 80 "ProgramGate$Known" "most" "J" ∈ xT := xin_1 (i := 131) rfl rfl
theorem tw_132 : Cond.fieldLink "ProgramGate$Walker" 208 "ProgramGate$Known" "most" "J" ∈ xT := xin_1 (i := 132) rfl rfl
theorem tw_133 : Cond.fieldLink "ProgramGate$Known" 43 "ProgramGate$Known" "safe" "I" ∈ xT := xin_1 (i := 133) rfl rfl
theorem tw_134 : Cond.fieldLink "ProgramGate$Walker" 108 "ProgramGate$Known" "safe" "I" ∈ xT := xin_1 (i := 134) rfl rfl
theorem tw_135 : Cond.fieldLink "ProgramGate$Operation" 91 "ProgramGate$Known" "safe" "I" ∈ xT := xin_1 (i := 135) rfl rfl
theorem tw_136 : Cond.lays "ProgramGate$Known" "ProgramGate$Known" "set" "Z" ∈ xT := xin_1 (i := 136) rfl rfl
theorem tw_138 : Cond.lays "ProgramGate$Known" "ProgramGate$Known" "bits" "I" ∈ xT := xin_1 (i := 138) rfl rfl
theorem tw_140 : Cond.lays "ProgramGate$Known" "ProgramGate$Known" "ones" "I" ∈ xT := xin_1 (i := 140) rfl rfl
theorem tw_142 : Cond.lays "ProgramGate$Known" "ProgramGate$Known" "low" "J" ∈ xT := xin_1 (i := 142) rfl rfl
theorem tw_144 : Cond.lays "ProgramGate$Known" "ProgramGate$Known" "high" "J" ∈ xT := xin_1 (i := 144) rfl rfl
theorem tw_146 : Cond.lays "ProgramGate$Known" "ProgramGate$Known" "least" "J" ∈ xT := xin_1 (i := 146) rfl rfl
theorem tw_148 : Cond.lays "ProgramGate$Known" "ProgramGate$Known" "most" "J" ∈ xT := xin_1 (i := 148) rfl rfl
theorem tw_150 : Cond.lays "ProgramGate$Known" "ProgramGate$Known" "safe" "I" ∈ xT := xin_1 (i := 150) rfl rfl
theorem tw_153 : Cond.fieldLink "ProgramGate$State" 11 "ProgramGate$State" "registers" "[LProgramGate$Known;" ∈ xT := xin_1 (i := 153) rfl rfl
theorem tw_154 : Cond.fieldLink "ProgramGate$Walker" 101 "ProgramGate$State" "registers" "[LProgramGate$Known;" ∈ xT := xin_1 (i := 154) rfl rfl
theorem tw_155 : Cond.fieldLink "ProgramGate" 86 "ProgramGate$State" "registers" "[LProgramGate$Known;" ∈ xT := xin_1 (i := 155) rfl rfl
theorem tw_156 : Cond.fieldLink "ProgramGate$State" 17 "ProgramGate$State" "places" "[LProgramGate$Known;" ∈ xT := xin_1 (i := 156) rfl rfl
theorem tw_157 : Cond.fieldLink "ProgramGate$Walker" 129 "ProgramGate$State" "places" "[LProgramGate$Known;" ∈ xT := xin_1 (i := 157) rfl rfl
theorem tw_158 : Cond.laysFinal "ProgramGate$State" "ProgramGate$State" "registers" "[LProgramGate$Known;" ∈ xT := xin_1 (i := 158) rfl rfl
theorem tw_160 : Cond.laysFinal "ProgramGate$State" "ProgramGate$State" "places" "[LProgramGate$Known;" ∈ xT := xin_1 (i := 160) rfl rfl
theorem tw_166 : Cond.fieldLink "ProgramGate$Walker" 42 "ProgramGate$Walker" "program" "LProgramGate$Program;" ∈ xT := xin_1 (i := 166) rfl rfl
theorem tw_167 : Cond.fieldLink "ProgramGate$Walker" 12 "ProgramGate$Walker" "now" "LProgramGate$State;" ∈ xT := xin_1 (i := 167) rfl rfl
theorem tw_168 : Cond.fieldLink "ProgramGate$Walker" 18 "ProgramGate$Walker" "waiting" "[LProgramGate$State;" ∈ xT := xin_1 (i := 168) rfl rfl
theorem tw_169 : Cond.fieldLink "ProgramGate$Walker" 22 "ProgramGate$Walker" "waits" "[Z" ∈ xT := xin_1 (i := 169) rfl rfl
theorem tw_170 : Cond.fieldLink "ProgramGate$Walker" 29 "ProgramGate$Walker" "number" "LProgramGate$Known;" ∈ xT := xin_1 (i := 170) rfl rfl
theorem tw_171 : Cond.fieldLink "ProgramGate$Walker" 33 "ProgramGate$Walker" "first" "LProgramGate$Known;" ∈ xT := xin_1 (i := 171) rfl rfl
theorem tw_172 : Cond.fieldLink "ProgramGate$Walker" 36 "ProgramGate$Walker" "second" "LProgramGate$Known;" ∈ xT := xin_1 (i := 172) rfl rfl
theorem tw_173 : Cond.fieldLink "ProgramGate$Walker" 39 "ProgramGate$Walker" "atEnd" "LProgramGate$State;" ∈ xT := xin_1 (i := 173) rfl rfl
theorem tw_174 : Cond.fieldLink "ProgramGate" 82 "ProgramGate$Walker" "atEnd" "LProgramGate$State;" ∈ xT := xin_1 (i := 174) rfl rfl
theorem tw_175 : Cond.fieldLink "ProgramGate$Walker" 60 "ProgramGate$Walker" "ended" "Z" ∈ xT := xin_1 (i := 175) rfl rfl
theorem tw_176 : Cond.fieldLink "ProgramGate" 76 "ProgramGate$Walker" "ended" "Z" ∈ xT := xin_1 (i := 176) rfl rfl
theorem tw_177 : Cond.fieldLink "ProgramGate$Walker" 49 "ProgramGate$Walker" "stepsMade" "I" ∈ xT := xin_1 (i := 177) rfl rfl
theorem tw_178 : Cond.fieldLink "ProgramGate" 66 "ProgramGate$Walker" "stepsMade" "I" ∈ xT := xin_1 (i := 178) rfl rfl
theorem tw_179 : Cond.laysFinal "ProgramGate$Walker" "ProgramGate$Walker" "program" "LProgramGate$Program;" ∈ xT := xin_1 (i := 179) rfl rfl
theorem tw_181 : Cond.laysFinal "ProgramGate$Walker" "ProgramGate$Walker" "now" "LProgramGate$State;" ∈ xT := xin_1 (i := 181) rfl rfl
theorem tw_183 : Cond.laysFinal "ProgramGate$Walker" "ProgramGate$Walker" "waiting" "[LProgramGate$State;" ∈ xT := xin_1 (i := 183) rfl rfl
theorem tw_185 : Cond.laysFinal "ProgramGate$Walker" "ProgramGate$Walker" "waits" "[Z" ∈ xT := xin_1 (i := 185) rfl rfl
theorem tw_187 : Cond.laysFinal "ProgramGate$Walker" "ProgramGate$Walker" "number" "LProgramGate$Known;" ∈ xT := xin_1 (i := 187) rfl rfl
theorem tw_189 : Cond.laysFinal "ProgramGate$Walker" "ProgramGate$Walker" "first" "LProgramGate$Known;" ∈ xT := xin_1 (i := 189) rfl rfl
theorem tw_191 : Cond.laysFinal "ProgramGate$Walker" "ProgramGate$Walker" "second" "LProgramGate$Known;" ∈ xT := xin_1 (i := 191) rfl rfl
theorem tw_193 : Cond.laysFinal "ProgramGate$Walker" "ProgramGate$Walker" "atEnd" "LProgramGate$State;" ∈ xT := xin_1 (i := 193) rfl rfl
theorem tw_195 : Cond.lays "ProgramGate$Walker" "ProgramGate$Walker" "ended" "Z" ∈ xT := xin_1 (i := 195) rfl rfl
theorem tw_197 : Cond.lays "ProgramGate$Walker" "ProgramGate$Walker" "stepsMade" "I" ∈ xT := xin_1 (i := 197) rfl rfl
theorem tw_208 : Cond.fieldLink "ProgramGate$Machine" 22 "ProgramGate$Machine" "packet" "LProgramGate$Packet;" ∈ xT := xin_1 (i := 208) rfl rfl
theorem tw_209 : Cond.fieldLink "ProgramGate$Machine" 9 "ProgramGate$Machine" "registers" "[I" ∈ xT := xin_1 (i := 209) rfl rfl
theorem tw_210 : Cond.fieldLink "ProgramGate$Machine" 15 "ProgramGate$Machine" "stack" "[I" ∈ xT := xin_1 (i := 210) rfl rfl
theorem tw_211 : Cond.fieldLink "ProgramGate$Machine" 40 "ProgramGate$Machine" "instructionsMade" "I" ∈ xT := xin_1 (i := 211) rfl rfl
theorem tw_212 : Cond.fieldLink "ProgramGate" 73 "ProgramGate$Machine" "instructionsMade" "I" ∈ xT := xin_1 (i := 212) rfl rfl
theorem tw_213 : Cond.laysFinal "ProgramGate$Machine" "ProgramGate$Machine" "program" "LProgramGate$Program;" ∈ xT := xin_1 (i := 213) rfl rfl
theorem tw_215 : Cond.laysFinal "ProgramGate$Machine" "ProgramGate$Machine" "packet" "LProgramGate$Packet;" ∈ xT := xin_1 (i := 215) rfl rfl
theorem tw_217 : Cond.laysFinal "ProgramGate$Machine" "ProgramGate$Machine" "registers" "[I" ∈ xT := xin_1 (i := 217) rfl rfl
theorem tw_219 : Cond.laysFinal "ProgramGate$Machine" "ProgramGate$Machine" "stack" "[I" ∈ xT := xin_1 (i := 219) rfl rfl
theorem tw_221 : Cond.lays "ProgramGate$Machine" "ProgramGate$Machine" "instructionsMade" "I" ∈ xT := xin_1 (i := 221) rfl rfl
theorem tw_224 : Cond.fieldLink "ProgramGate" 10 "ProgramGate" "program" "LProgramGate$Program;" ∈ xT := xin_1 (i := 224) rfl rfl
theorem tw_225 : Cond.fieldLink "ProgramGate" 19 "ProgramGate" "bytes" "LProgramGate$Packet;" ∈ xT := xin_1 (i := 225) rfl rfl
theorem tw_226 : Cond.fieldLink "ProgramGate" 28 "ProgramGate" "walker" "LProgramGate$Walker;" ∈ xT := xin_1 (i := 226) rfl rfl
theorem tw_227 : Cond.fieldLink "ProgramGate" 37 "ProgramGate" "machine" "LProgramGate$Machine;" ∈ xT := xin_1 (i := 227) rfl rfl
theorem tw_228 : Cond.laysFinal "ProgramGate" "ProgramGate" "program" "LProgramGate$Program;" ∈ xT := xin_1 (i := 228) rfl rfl
theorem tw_230 : Cond.laysFinal "ProgramGate" "ProgramGate" "bytes" "LProgramGate$Packet;" ∈ xT := xin_1 (i := 230) rfl rfl
theorem tw_232 : Cond.laysFinal "ProgramGate" "ProgramGate" "walker" "LProgramGate$Walker;" ∈ xT := xin_1 (i := 232) rfl rfl
theorem tw_234 : Cond.laysFinal "ProgramGate" "ProgramGate" "machine" "LProgramGate$Machine;" ∈ xT := xin_1 (i := 234) rfl rfl
theorem tw_241 : Cond.methodLink "ProgramGate" 45 (⟨"ProgramGate$Instruction", "allowed", "(IIIII)Z"⟩ : MethodName) ∈ xT := xin_2 (i := 1) rfl rfl
theorem tw_242 : Cond.static (⟨"ProgramGate$Instruction", "allowed", "(IIIII)Z"⟩ : MethodName) ∈ xT := xin_2 (i := 2) rfl rfl
theorem tw_243 : Cond.code (⟨"ProgramGate$Instruction", "allowed", "(IIIII)Z"⟩ : MethodName) prog_2_method_2_code 6 (some .boolean) ∈ xT := xin_2 (i := 3) rfl rfl
theorem tw_244 : Cond.methodLink "ProgramGate" 55 (⟨"ProgramGate$Instruction", "become", "(IIIII)V"⟩ : MethodName) ∈ xT := xin_2 (i := 4) rfl rfl
theorem tw_245 : Cond.instanceMethod (⟨"ProgramGate$Instruction", "become", "(IIIII)V"⟩ : MethodName) ∈ xT := xin_2 (i := 5) rfl rfl
theorem tw_246 : Cond.selects "ProgramGate$Instruction" (⟨"ProgramGate$Instruction", "become", "(IIIII)V"⟩ : MethodName) (⟨"ProgramGate$Instruction", "become", "(IIIII)V"⟩ : MethodName) ∈ xT := xin_2 (i := 6) rfl rfl
theorem tw_247 : Cond.code (⟨"ProgramGate$Instruction", "become", "(IIIII)V"⟩ : MethodName) prog_2_method_3_code 6 none ∈ xT := xin_2 (i := 7) rfl rfl
theorem tw_260 : Cond.methodLink "ProgramGate" 59 (⟨"ProgramGate$Packet", "become", "(JJI)V"⟩ : MethodName) ∈ xT := xin_2 (i := 20) rfl rfl
theorem tw_261 : Cond.instanceMethod (⟨"ProgramGate$Packet", "become", "(JJI)V"⟩ : MethodName) ∈ xT := xin_2 (i := 21) rfl rfl
theorem tw_262 : Cond.selects "ProgramGate$Packet" (⟨"ProgramGate$Packet", "become", "(JJI)V"⟩ : MethodName) (⟨"ProgramGate$Packet", "become", "(JJI)V"⟩ : MethodName) ∈ xT := xin_2 (i := 22) rfl rfl
theorem tw_263 : Cond.code (⟨"ProgramGate$Packet", "become", "(JJI)V"⟩ : MethodName) prog_6_method_2_code 9 none ∈ xT := xin_2 (i := 23) rfl rfl
theorem tw_268 : Cond.methodLink "ProgramGate" 62 (⟨"ProgramGate$Walker", "judge", "()I"⟩ : MethodName) ∈ xT := xin_2 (i := 28) rfl rfl
theorem tw_269 : Cond.instanceMethod (⟨"ProgramGate$Walker", "judge", "()I"⟩ : MethodName) ∈ xT := xin_2 (i := 29) rfl rfl
theorem tw_270 : Cond.selects "ProgramGate$Walker" (⟨"ProgramGate$Walker", "judge", "()I"⟩ : MethodName) (⟨"ProgramGate$Walker", "judge", "()I"⟩ : MethodName) ∈ xT := xin_2 (i := 30) rfl rfl
theorem tw_271 : Cond.code (⟨"ProgramGate$Walker", "judge", "()I"⟩ : MethodName) prog_9_method_2_code 3 (some .int) ∈ xT := xin_2 (i := 31) rfl rfl
theorem tw_272 : Cond.methodLink "ProgramGate$Walker" 46 (⟨"ProgramGate$Walker", "begin", "()V"⟩ : MethodName) ∈ xT := xin_2 (i := 32) rfl rfl
theorem tw_274 : Cond.instanceMethod (⟨"ProgramGate$Walker", "begin", "()V"⟩ : MethodName) ∈ xT := xin_2 (i := 34) rfl rfl
theorem tw_275 : Cond.code (⟨"ProgramGate$Walker", "begin", "()V"⟩ : MethodName) prog_9_method_3_code 2 none ∈ xT := xin_2 (i := 35) rfl rfl
theorem tw_276 : Cond.methodLink "ProgramGate$Walker" 64 (⟨"ProgramGate$State", "begin", "()V"⟩ : MethodName) ∈ xT := xin_2 (i := 36) rfl rfl
theorem tw_277 : Cond.instanceMethod (⟨"ProgramGate$State", "begin", "()V"⟩ : MethodName) ∈ xT := xin_2 (i := 37) rfl rfl
theorem tw_278 : Cond.selects "ProgramGate$State" (⟨"ProgramGate$State", "begin", "()V"⟩ : MethodName) (⟨"ProgramGate$State", "begin", "()V"⟩ : MethodName) ∈ xT := xin_2 (i := 38) rfl rfl
theorem tw_279 : Cond.code (⟨"ProgramGate$State", "begin", "()V"⟩ : MethodName) prog_8_method_2_code 2 none ∈ xT := xin_2 (i := 39) rfl rfl
theorem tw_280 : Cond.methodLink "ProgramGate$State" 25 (⟨"ProgramGate$Known", "becomeUpTo", "(I)V"⟩ : MethodName) ∈ xT := xin_2 (i := 40) rfl rfl
theorem tw_281 : Cond.instanceMethod (⟨"ProgramGate$Known", "becomeUpTo", "(I)V"⟩ : MethodName) ∈ xT := xin_2 (i := 41) rfl rfl
theorem tw_282 : Cond.selects "ProgramGate$Known" (⟨"ProgramGate$Known", "becomeUpTo", "(I)V"⟩ : MethodName) (⟨"ProgramGate$Known", "becomeUpTo", "(I)V"⟩ : MethodName) ∈ xT := xin_2 (i := 42) rfl rfl
theorem tw_283 : Cond.code (⟨"ProgramGate$Known", "becomeUpTo", "(I)V"⟩ : MethodName) prog_3_method_4_code 2 none ∈ xT := xin_2 (i := 43) rfl rfl
theorem tw_284 : Cond.methodLink "ProgramGate$Known" 46 (⟨"ProgramGate$Known", "becomeNothing", "()V"⟩ : MethodName) ∈ xT := xin_2 (i := 44) rfl rfl
theorem tw_285 : Cond.instanceMethod (⟨"ProgramGate$Known", "becomeNothing", "()V"⟩ : MethodName) ∈ xT := xin_2 (i := 45) rfl rfl
theorem tw_286 : Cond.selects "ProgramGate$Known" (⟨"ProgramGate$Known", "becomeNothing", "()V"⟩ : MethodName) (⟨"ProgramGate$Known", "becomeNothing", "()V"⟩ : MethodName) ∈ xT := xin_2 (i := 46) rfl rfl
theorem tw_287 : Cond.code (⟨"ProgramGate$Known", "becomeNothing", "()V"⟩ : MethodName) prog_3_method_2_code 1 none ∈ xT := xin_2 (i := 47) rfl rfl
theorem tw_288 : Cond.constantLong "ProgramGate$Known" 26 4294967295 ∈ xT := xin_2 (i := 48) rfl rfl
theorem tw_289 : Cond.constantLong "ProgramGate$Known" 33 (-2147483648) ∈ xT := xin_2 (i := 49) rfl rfl
theorem tw_290 : Cond.constantLong "ProgramGate$Known" 38 2147483647 ∈ xT := xin_2 (i := 50) rfl rfl
theorem tw_291 : Cond.methodLink "ProgramGate$Known" 53 (⟨"ProgramGate$Known", "boundUnsigned", "(JJ)V"⟩ : MethodName) ∈ xT := xin_2 (i := 51) rfl rfl
theorem tw_292 : Cond.instanceMethod (⟨"ProgramGate$Known", "boundUnsigned", "(JJ)V"⟩ : MethodName) ∈ xT := xin_2 (i := 52) rfl rfl
theorem tw_293 : Cond.selects "ProgramGate$Known" (⟨"ProgramGate$Known", "boundUnsigned", "(JJ)V"⟩ : MethodName) (⟨"ProgramGate$Known", "boundUnsigned", "(JJ)V"⟩ : MethodName) ∈ xT := xin_2 (i := 53) rfl rfl
theorem tw_294 : Cond.code (⟨"ProgramGate$Known", "boundUnsigned", "(JJ)V"⟩ : MethodName) prog_3_method_6_code 5 none ∈ xT := xin_2 (i := 54) rfl rfl
theorem tw_295 : Cond.methodLink "ProgramGate$Known" 57 (⟨"ProgramGate$Known", "boundSigned", "(JJ)V"⟩ : MethodName) ∈ xT := xin_2 (i := 55) rfl rfl
theorem tw_296 : Cond.instanceMethod (⟨"ProgramGate$Known", "boundSigned", "(JJ)V"⟩ : MethodName) ∈ xT := xin_2 (i := 56) rfl rfl
theorem tw_297 : Cond.selects "ProgramGate$Known" (⟨"ProgramGate$Known", "boundSigned", "(JJ)V"⟩ : MethodName) (⟨"ProgramGate$Known", "boundSigned", "(JJ)V"⟩ : MethodName) ∈ xT := xin_2 (i := 57) rfl rfl
theorem tw_298 : Cond.code (⟨"ProgramGate$Known", "boundSigned", "(JJ)V"⟩ : MethodName) prog_3_method_7_code 5 none ∈ xT := xin_2 (i := 58) rfl rfl
theorem tw_299 : Cond.methodLink "ProgramGate$Known" 60 (⟨"ProgramGate$Known", "tighten", "()Z"⟩ : MethodName) ∈ xT := xin_2 (i := 59) rfl rfl
theorem tw_300 : Cond.instanceMethod (⟨"ProgramGate$Known", "tighten", "()Z"⟩ : MethodName) ∈ xT := xin_2 (i := 60) rfl rfl
theorem tw_301 : Cond.selects "ProgramGate$Known" (⟨"ProgramGate$Known", "tighten", "()Z"⟩ : MethodName) (⟨"ProgramGate$Known", "tighten", "()Z"⟩ : MethodName) ∈ xT := xin_2 (i := 61) rfl rfl
theorem tw_302 : Cond.code (⟨"ProgramGate$Known", "tighten", "()Z"⟩ : MethodName) prog_3_method_13_code 2 (some .boolean) ∈ xT := xin_2 (i := 62) rfl rfl
theorem tw_304 : Cond.static (⟨"ProgramGate", "unsigned", "(I)J"⟩ : MethodName) ∈ xT := xin_2 (i := 64) rfl rfl
theorem tw_305 : Cond.code (⟨"ProgramGate", "unsigned", "(I)J"⟩ : MethodName) prog_1_method_11_code 1 (some .long) ∈ xT := xin_2 (i := 65) rfl rfl
theorem tw_306 : Cond.constantLong "ProgramGate" 98 4294967295 ∈ xT := xin_2 (i := 66) rfl rfl
theorem tw_307 : Cond.methodLink "ProgramGate$Known" 70 (⟨"java/lang/Math", "max", "(JJ)J"⟩ : MethodName) ∈ xT := xin_2 (i := 67) rfl rfl
theorem tw_310 : Cond.methodLink "ProgramGate$Known" 64 (⟨"java/lang/Math", "min", "(JJ)J"⟩ : MethodName) ∈ xT := xin_2 (i := 70) rfl rfl
theorem tw_313 : Cond.constantLong "ProgramGate$Known" 82 2147483648 ∈ xT := xin_2 (i := 73) rfl rfl
theorem tw_314 : Cond.constantLong "ProgramGate$Known" 84 (-1) ∈ xT := xin_2 (i := 74) rfl rfl
theorem tw_315 : Cond.methodLink "ProgramGate$Known" 86 (⟨"java/lang/Long", "numberOfLeadingZeros", "(J)I"⟩ : MethodName) ∈ xT := xin_2 (i := 75) rfl rfl
theorem tw_316 : Cond.static (⟨"java/lang/Long", "numberOfLeadingZeros", "(J)I"⟩ : MethodName) ∈ xT := xin_2 (i := 76) rfl rfl
theorem tw_317 : Cond.code (⟨"java/lang/Long", "numberOfLeadingZeros", "(J)I"⟩ : MethodName) prog_17_method_48_code 3 (some .int) ∈ xT := xin_2 (i := 77) rfl rfl
theorem tw_318 : Cond.methodLink "java/lang/Long" 308 (⟨"java/lang/Integer", "numberOfLeadingZeros", "(I)I"⟩ : MethodName) ∈ xT := xin_2 (i := 78) rfl rfl
theorem tw_319 : Cond.static (⟨"java/lang/Integer", "numberOfLeadingZeros", "(I)I"⟩ : MethodName) ∈ xT := xin_2 (i := 79) rfl rfl
theorem tw_320 : Cond.code (⟨"java/lang/Integer", "numberOfLeadingZeros", "(I)I"⟩ : MethodName) prog_16_method_47_code 2 (some .int) ∈ xT := xin_2 (i := 80) rfl rfl
theorem tw_321 : Cond.constant "java/lang/Integer" 264 65536 ∈ xT := xin_2 (i := 81) rfl rfl
theorem tw_322 : Cond.methodLink "ProgramGate$Known" 76 (⟨"ProgramGate$Known", "contradicts", "(II)Z"⟩ : MethodName) ∈ xT := xin_2 (i := 82) rfl rfl
theorem tw_323 : Cond.instanceMethod (⟨"ProgramGate$Known", "contradicts", "(II)Z"⟩ : MethodName) ∈ xT := xin_2 (i := 83) rfl rfl
theorem tw_324 : Cond.selects "ProgramGate$Known" (⟨"ProgramGate$Known", "contradicts", "(II)Z"⟩ : MethodName) (⟨"ProgramGate$Known", "contradicts", "(II)Z"⟩ : MethodName) ∈ xT := xin_2 (i := 84) rfl rfl
theorem tw_325 : Cond.code (⟨"ProgramGate$Known", "contradicts", "(II)Z"⟩ : MethodName) prog_3_method_10_code 3 (some .boolean) ∈ xT := xin_2 (i := 85) rfl rfl
theorem tw_326 : Cond.methodLink "ProgramGate$State" 29 (⟨"ProgramGate$Known", "becomeNothing", "()V"⟩ : MethodName) ∈ xT := xin_2 (i := 86) rfl rfl
theorem tw_327 : Cond.methodLink "ProgramGate$Walker" 53 (⟨"ProgramGate$Walker", "alarmAt", "(I)I"⟩ : MethodName) ∈ xT := xin_2 (i := 87) rfl rfl
theorem tw_329 : Cond.instanceMethod (⟨"ProgramGate$Walker", "alarmAt", "(I)I"⟩ : MethodName) ∈ xT := xin_2 (i := 89) rfl rfl
theorem tw_330 : Cond.code (⟨"ProgramGate$Walker", "alarmAt", "(I)I"⟩ : MethodName) prog_9_method_4_code 3 (some .int) ∈ xT := xin_2 (i := 90) rfl rfl
theorem tw_331 : Cond.methodLink "ProgramGate$Walker" 74 (⟨"ProgramGate$Walker", "readsUnset", "(LProgramGate$Instruction;)Z"⟩ : MethodName) ∈ xT := xin_2 (i := 91) rfl rfl
theorem tw_333 : Cond.instanceMethod (⟨"ProgramGate$Walker", "readsUnset", "(LProgramGate$Instruction;)Z"⟩ : MethodName) ∈ xT := xin_2 (i := 93) rfl rfl
theorem tw_334 : Cond.code (⟨"ProgramGate$Walker", "readsUnset", "(LProgramGate$Instruction;)Z"⟩ : MethodName) prog_9_method_5_code 2 (some .boolean) ∈ xT := xin_2 (i := 94) rfl rfl
theorem tw_335 : Cond.methodLink "ProgramGate$Walker" 114 (⟨"ProgramGate$Instruction", "readsA", "()Z"⟩ : MethodName) ∈ xT := xin_2 (i := 95) rfl rfl
theorem tw_336 : Cond.instanceMethod (⟨"ProgramGate$Instruction", "readsA", "()Z"⟩ : MethodName) ∈ xT := xin_2 (i := 96) rfl rfl
theorem tw_337 : Cond.selects "ProgramGate$Instruction" (⟨"ProgramGate$Instruction", "readsA", "()Z"⟩ : MethodName) (⟨"ProgramGate$Instruction", "readsA", "()Z"⟩ : MethodName) ∈ xT := xin_2 (i := 97) rfl rfl
theorem tw_338 : Cond.code (⟨"ProgramGate$Instruction", "readsA", "()Z"⟩ : MethodName) prog_2_method_4_code 1 (some .boolean) ∈ xT := xin_2 (i := 98) rfl rfl
theorem tw_339 : Cond.methodLink "ProgramGate$Walker" 121 (⟨"ProgramGate$Instruction", "readsB", "()Z"⟩ : MethodName) ∈ xT := xin_2 (i := 99) rfl rfl
theorem tw_340 : Cond.instanceMethod (⟨"ProgramGate$Instruction", "readsB", "()Z"⟩ : MethodName) ∈ xT := xin_2 (i := 100) rfl rfl
theorem tw_341 : Cond.selects "ProgramGate$Instruction" (⟨"ProgramGate$Instruction", "readsB", "()Z"⟩ : MethodName) (⟨"ProgramGate$Instruction", "readsB", "()Z"⟩ : MethodName) ∈ xT := xin_2 (i := 101) rfl rfl
theorem tw_342 : Cond.code (⟨"ProgramGate$Instruction", "readsB", "()Z"⟩ : MethodName) prog_2_method_5_code 1 (some .boolean) ∈ xT := xin_2 (i := 102) rfl rfl
theorem tw_343 : Cond.methodLink "ProgramGate$Walker" 83 (⟨"ProgramGate$Walker", "knownOfY", "(LProgramGate$Instruction;)LProgramGate$Known;"⟩ : MethodName) ∈ xT := xin_2 (i := 103) rfl rfl
theorem tw_345 : Cond.instanceMethod (⟨"ProgramGate$Walker", "knownOfY", "(LProgramGate$Instruction;)LProgramGate$Known;"⟩ : MethodName) ∈ xT := xin_2 (i := 105) rfl rfl
theorem tw_346 : Cond.code (⟨"ProgramGate$Walker", "knownOfY", "(LProgramGate$Instruction;)LProgramGate$Known;"⟩ : MethodName) prog_9_method_7_code 2 (some (.object "ProgramGate$Known")) ∈ xT := xin_2 (i := 106) rfl rfl
theorem tw_347 : Cond.methodLink "ProgramGate$Walker" 132 (⟨"ProgramGate$Known", "becomeNumber", "(I)V"⟩ : MethodName) ∈ xT := xin_2 (i := 107) rfl rfl
theorem tw_348 : Cond.instanceMethod (⟨"ProgramGate$Known", "becomeNumber", "(I)V"⟩ : MethodName) ∈ xT := xin_2 (i := 108) rfl rfl
theorem tw_349 : Cond.selects "ProgramGate$Known" (⟨"ProgramGate$Known", "becomeNumber", "(I)V"⟩ : MethodName) (⟨"ProgramGate$Known", "becomeNumber", "(I)V"⟩ : MethodName) ∈ xT := xin_2 (i := 109) rfl rfl
theorem tw_350 : Cond.code (⟨"ProgramGate$Known", "becomeNumber", "(I)V"⟩ : MethodName) prog_3_method_3_code 2 none ∈ xT := xin_2 (i := 110) rfl rfl
theorem tw_351 : Cond.methodLink "ProgramGate$Walker" 91 (⟨"ProgramGate$Walker", "alarmOfPlaces", "(ILProgramGate$Known;)I"⟩ : MethodName) ∈ xT := xin_2 (i := 111) rfl rfl
theorem tw_353 : Cond.instanceMethod (⟨"ProgramGate$Walker", "alarmOfPlaces", "(ILProgramGate$Known;)I"⟩ : MethodName) ∈ xT := xin_2 (i := 113) rfl rfl
theorem tw_354 : Cond.code (⟨"ProgramGate$Walker", "alarmOfPlaces", "(ILProgramGate$Known;)I"⟩ : MethodName) prog_9_method_6_code 4 (some .int) ∈ xT := xin_2 (i := 114) rfl rfl
theorem tw_355 : Cond.constantLong "ProgramGate$Walker" 127 4 ∈ xT := xin_2 (i := 115) rfl rfl
theorem tw_356 : Cond.methodLink "ProgramGate$Walker" 57 (⟨"ProgramGate$Walker", "placeAfter", "(I)I"⟩ : MethodName) ∈ xT := xin_2 (i := 116) rfl rfl
theorem tw_358 : Cond.instanceMethod (⟨"ProgramGate$Walker", "placeAfter", "(I)I"⟩ : MethodName) ∈ xT := xin_2 (i := 118) rfl rfl
theorem tw_359 : Cond.code (⟨"ProgramGate$Walker", "placeAfter", "(I)I"⟩ : MethodName) prog_9_method_8_code 4 (some .int) ∈ xT := xin_2 (i := 119) rfl rfl
theorem tw_360 : Cond.methodLink "ProgramGate$Walker" 136 (⟨"ProgramGate$State", "take", "(LProgramGate$State;)V"⟩ : MethodName) ∈ xT := xin_2 (i := 120) rfl rfl
theorem tw_361 : Cond.instanceMethod (⟨"ProgramGate$State", "take", "(LProgramGate$State;)V"⟩ : MethodName) ∈ xT := xin_2 (i := 121) rfl rfl
theorem tw_362 : Cond.selects "ProgramGate$State" (⟨"ProgramGate$State", "take", "(LProgramGate$State;)V"⟩ : MethodName) (⟨"ProgramGate$State", "take", "(LProgramGate$State;)V"⟩ : MethodName) ∈ xT := xin_2 (i := 122) rfl rfl
theorem tw_363 : Cond.code (⟨"ProgramGate$State", "take", "(LProgramGate$State;)V"⟩ : MethodName) prog_8_method_3_code 3 none ∈ xT := xin_2 (i := 123) rfl rfl
theorem tw_364 : Cond.methodLink "ProgramGate$State" 32 (⟨"ProgramGate$Known", "take", "(LProgramGate$Known;)V"⟩ : MethodName) ∈ xT := xin_2 (i := 124) rfl rfl
theorem tw_365 : Cond.instanceMethod (⟨"ProgramGate$Known", "take", "(LProgramGate$Known;)V"⟩ : MethodName) ∈ xT := xin_2 (i := 125) rfl rfl
theorem tw_366 : Cond.selects "ProgramGate$Known" (⟨"ProgramGate$Known", "take", "(LProgramGate$Known;)V"⟩ : MethodName) (⟨"ProgramGate$Known", "take", "(LProgramGate$Known;)V"⟩ : MethodName) ∈ xT := xin_2 (i := 126) rfl rfl
theorem tw_367 : Cond.code (⟨"ProgramGate$Known", "take", "(LProgramGate$Known;)V"⟩ : MethodName) prog_3_method_5_code 2 none ∈ xT := xin_2 (i := 127) rfl rfl
theorem tw_368 : Cond.methodLink "ProgramGate$Walker" 140 (⟨"ProgramGate$Walker", "resume", "()I"⟩ : MethodName) ∈ xT := xin_2 (i := 128) rfl rfl
theorem tw_370 : Cond.instanceMethod (⟨"ProgramGate$Walker", "resume", "()I"⟩ : MethodName) ∈ xT := xin_2 (i := 130) rfl rfl
theorem tw_371 : Cond.code (⟨"ProgramGate$Walker", "resume", "()I"⟩ : MethodName) prog_9_method_9_code 2 (some .int) ∈ xT := xin_2 (i := 131) rfl rfl
theorem tw_372 : Cond.methodLink "ProgramGate$Walker" 144 (⟨"ProgramGate$Walker", "part", "(LProgramGate$Instruction;I)Z"⟩ : MethodName) ∈ xT := xin_2 (i := 132) rfl rfl
theorem tw_374 : Cond.instanceMethod (⟨"ProgramGate$Walker", "part", "(LProgramGate$Instruction;I)Z"⟩ : MethodName) ∈ xT := xin_2 (i := 134) rfl rfl
theorem tw_375 : Cond.code (⟨"ProgramGate$Walker", "part", "(LProgramGate$Instruction;I)Z"⟩ : MethodName) prog_9_method_13_code 4 (some .boolean) ∈ xT := xin_2 (i := 135) rfl rfl
theorem tw_376 : Cond.methodLink "ProgramGate$Walker" 180 (⟨"java/lang/Math", "max", "(II)I"⟩ : MethodName) ∈ xT := xin_2 (i := 136) rfl rfl
theorem tw_379 : Cond.methodLink "ProgramGate$Walker" 186 (⟨"ProgramGate$Walker", "takePair", "(LProgramGate$Instruction;)V"⟩ : MethodName) ∈ xT := xin_2 (i := 139) rfl rfl
theorem tw_381 : Cond.instanceMethod (⟨"ProgramGate$Walker", "takePair", "(LProgramGate$Instruction;)V"⟩ : MethodName) ∈ xT := xin_2 (i := 141) rfl rfl
theorem tw_382 : Cond.code (⟨"ProgramGate$Walker", "takePair", "(LProgramGate$Instruction;)V"⟩ : MethodName) prog_9_method_14_code 2 none ∈ xT := xin_2 (i := 142) rfl rfl
theorem tw_383 : Cond.methodLink "ProgramGate$Walker" 151 (⟨"ProgramGate$Known", "take", "(LProgramGate$Known;)V"⟩ : MethodName) ∈ xT := xin_2 (i := 143) rfl rfl
theorem tw_384 : Cond.methodLink "ProgramGate$Walker" 190 (⟨"ProgramGate$Walker", "relate", "(I)Z"⟩ : MethodName) ∈ xT := xin_2 (i := 144) rfl rfl
theorem tw_386 : Cond.instanceMethod (⟨"ProgramGate$Walker", "relate", "(I)Z"⟩ : MethodName) ∈ xT := xin_2 (i := 146) rfl rfl
theorem tw_387 : Cond.code (⟨"ProgramGate$Walker", "relate", "(I)Z"⟩ : MethodName) prog_9_method_16_code 2 (some .boolean) ∈ xT := xin_2 (i := 147) rfl rfl
theorem tw_388 : Cond.methodLink "ProgramGate$Walker" 198 (⟨"ProgramGate$Known", "join", "(LProgramGate$Known;)Z"⟩ : MethodName) ∈ xT := xin_2 (i := 148) rfl rfl
theorem tw_389 : Cond.instanceMethod (⟨"ProgramGate$Known", "join", "(LProgramGate$Known;)Z"⟩ : MethodName) ∈ xT := xin_2 (i := 149) rfl rfl
theorem tw_390 : Cond.selects "ProgramGate$Known" (⟨"ProgramGate$Known", "join", "(LProgramGate$Known;)Z"⟩ : MethodName) (⟨"ProgramGate$Known", "join", "(LProgramGate$Known;)Z"⟩ : MethodName) ∈ xT := xin_2 (i := 150) rfl rfl
theorem tw_391 : Cond.code (⟨"ProgramGate$Known", "join", "(LProgramGate$Known;)Z"⟩ : MethodName) prog_3_method_12_code 2 (some .boolean) ∈ xT := xin_2 (i := 151) rfl rfl
theorem tw_392 : Cond.methodLink "ProgramGate$Known" 80 (⟨"java/lang/Math", "max", "(II)I"⟩ : MethodName) ∈ xT := xin_2 (i := 152) rfl rfl
theorem tw_393 : Cond.methodLink "ProgramGate$Walker" 177 (⟨"ProgramGate$Known", "isExact", "()Z"⟩ : MethodName) ∈ xT := xin_2 (i := 153) rfl rfl
theorem tw_394 : Cond.instanceMethod (⟨"ProgramGate$Known", "isExact", "()Z"⟩ : MethodName) ∈ xT := xin_2 (i := 154) rfl rfl
theorem tw_395 : Cond.selects "ProgramGate$Known" (⟨"ProgramGate$Known", "isExact", "()Z"⟩ : MethodName) (⟨"ProgramGate$Known", "isExact", "()Z"⟩ : MethodName) ∈ xT := xin_2 (i := 155) rfl rfl
theorem tw_396 : Cond.code (⟨"ProgramGate$Known", "isExact", "()Z"⟩ : MethodName) prog_3_method_8_code 1 (some .boolean) ∈ xT := xin_2 (i := 156) rfl rfl
theorem tw_397 : Cond.methodLink "ProgramGate$Walker" 202 (⟨"java/lang/Math", "min", "(JJ)J"⟩ : MethodName) ∈ xT := xin_2 (i := 157) rfl rfl
theorem tw_398 : Cond.methodLink "ProgramGate$Walker" 206 (⟨"java/lang/Math", "max", "(JJ)J"⟩ : MethodName) ∈ xT := xin_2 (i := 158) rfl rfl
theorem tw_399 : Cond.methodLink "ProgramGate$Walker" 214 (⟨"ProgramGate$Known", "tighten", "()Z"⟩ : MethodName) ∈ xT := xin_2 (i := 159) rfl rfl
theorem tw_400 : Cond.methodLink "ProgramGate$Walker" 194 (⟨"ProgramGate$Walker", "givePair", "(LProgramGate$Instruction;LProgramGate$State;)V"⟩ : MethodName) ∈ xT := xin_2 (i := 160) rfl rfl
theorem tw_402 : Cond.instanceMethod (⟨"ProgramGate$Walker", "givePair", "(LProgramGate$Instruction;LProgramGate$State;)V"⟩ : MethodName) ∈ xT := xin_2 (i := 162) rfl rfl
theorem tw_403 : Cond.code (⟨"ProgramGate$Walker", "givePair", "(LProgramGate$Instruction;LProgramGate$State;)V"⟩ : MethodName) prog_9_method_15_code 3 none ∈ xT := xin_2 (i := 163) rfl rfl
theorem tw_404 : Cond.methodLink "ProgramGate$Walker" 148 (⟨"ProgramGate$Walker", "change", "(LProgramGate$Instruction;)Z"⟩ : MethodName) ∈ xT := xin_2 (i := 164) rfl rfl
theorem tw_406 : Cond.instanceMethod (⟨"ProgramGate$Walker", "change", "(LProgramGate$Instruction;)Z"⟩ : MethodName) ∈ xT := xin_2 (i := 166) rfl rfl
theorem tw_407 : Cond.code (⟨"ProgramGate$Walker", "change", "(LProgramGate$Instruction;)Z"⟩ : MethodName) prog_9_method_10_code 5 (some .boolean) ∈ xT := xin_2 (i := 167) rfl rfl
theorem tw_408 : Cond.methodLink "ProgramGate$Walker" 154 (⟨"ProgramGate$Walker", "fetch", "(LProgramGate$Known;LProgramGate$Known;)V"⟩ : MethodName) ∈ xT := xin_2 (i := 168) rfl rfl
theorem tw_410 : Cond.instanceMethod (⟨"ProgramGate$Walker", "fetch", "(LProgramGate$Known;LProgramGate$Known;)V"⟩ : MethodName) ∈ xT := xin_2 (i := 170) rfl rfl
theorem tw_411 : Cond.code (⟨"ProgramGate$Walker", "fetch", "(LProgramGate$Known;LProgramGate$Known;)V"⟩ : MethodName) prog_9_method_11_code 6 none ∈ xT := xin_2 (i := 171) rfl rfl
theorem tw_412 : Cond.methodLink "ProgramGate$Walker" 174 (⟨"ProgramGate$Known", "meet", "(LProgramGate$Known;)V"⟩ : MethodName) ∈ xT := xin_2 (i := 172) rfl rfl
theorem tw_413 : Cond.instanceMethod (⟨"ProgramGate$Known", "meet", "(LProgramGate$Known;)V"⟩ : MethodName) ∈ xT := xin_2 (i := 173) rfl rfl
theorem tw_414 : Cond.selects "ProgramGate$Known" (⟨"ProgramGate$Known", "meet", "(LProgramGate$Known;)V"⟩ : MethodName) (⟨"ProgramGate$Known", "meet", "(LProgramGate$Known;)V"⟩ : MethodName) ∈ xT := xin_2 (i := 174) rfl rfl
theorem tw_415 : Cond.code (⟨"ProgramGate$Known", "meet", "(LProgramGate$Known;)V"⟩ : MethodName) prog_3_method_11_code 2 none ∈ xT := xin_2 (i := 175) rfl rfl
theorem tw_416 : Cond.methodLink "ProgramGate$Known" 73 (⟨"java/lang/Math", "min", "(II)I"⟩ : MethodName) ∈ xT := xin_2 (i := 176) rfl rfl
theorem tw_419 : Cond.methodLink "ProgramGate$Walker" 158 (⟨"ProgramGate$Walker", "store", "(LProgramGate$Known;LProgramGate$Known;)V"⟩ : MethodName) ∈ xT := xin_2 (i := 179) rfl rfl
theorem tw_421 : Cond.instanceMethod (⟨"ProgramGate$Walker", "store", "(LProgramGate$Known;LProgramGate$Known;)V"⟩ : MethodName) ∈ xT := xin_2 (i := 181) rfl rfl
theorem tw_422 : Cond.code (⟨"ProgramGate$Walker", "store", "(LProgramGate$Known;LProgramGate$Known;)V"⟩ : MethodName) prog_9_method_12_code 4 none ∈ xT := xin_2 (i := 182) rfl rfl
theorem tw_423 : Cond.methodLink "ProgramGate$Walker" 161 (⟨"ProgramGate$Known", "becomeNothing", "()V"⟩ : MethodName) ∈ xT := xin_2 (i := 183) rfl rfl
theorem tw_424 : Cond.constant "ProgramGate$Walker" 164 65535 ∈ xT := xin_2 (i := 184) rfl rfl
theorem tw_425 : Cond.methodLink "ProgramGate$Walker" 165 (⟨"ProgramGate$Known", "becomeUpTo", "(I)V"⟩ : MethodName) ∈ xT := xin_2 (i := 185) rfl rfl
theorem tw_426 : Cond.methodLink "ProgramGate$Walker" 168 (⟨"ProgramGate$Operation", "outcome", "(ILProgramGate$Known;LProgramGate$Known;LProgramGate$Known;)Z"⟩ : MethodName) ∈ xT := xin_2 (i := 186) rfl rfl
theorem tw_427 : Cond.static (⟨"ProgramGate$Operation", "outcome", "(ILProgramGate$Known;LProgramGate$Known;LProgramGate$Known;)Z"⟩ : MethodName) ∈ xT := xin_2 (i := 187) rfl rfl
theorem tw_428 : Cond.code (⟨"ProgramGate$Operation", "outcome", "(ILProgramGate$Known;LProgramGate$Known;LProgramGate$Known;)Z"⟩ : MethodName) prog_5_method_2_code 4 (some .boolean) ∈ xT := xin_2 (i := 188) rfl rfl
theorem tw_429 : Cond.methodLink "ProgramGate$Operation" 9 (⟨"ProgramGate$Known", "becomeNothing", "()V"⟩ : MethodName) ∈ xT := xin_2 (i := 189) rfl rfl
theorem tw_430 : Cond.methodLink "ProgramGate$Operation" 14 (⟨"ProgramGate$Operation", "sum", "(LProgramGate$Known;LProgramGate$Known;LProgramGate$Known;)V"⟩ : MethodName) ∈ xT := xin_2 (i := 190) rfl rfl
theorem tw_431 : Cond.static (⟨"ProgramGate$Operation", "sum", "(LProgramGate$Known;LProgramGate$Known;LProgramGate$Known;)V"⟩ : MethodName) ∈ xT := xin_2 (i := 191) rfl rfl
theorem tw_432 : Cond.code (⟨"ProgramGate$Operation", "sum", "(LProgramGate$Known;LProgramGate$Known;LProgramGate$Known;)V"⟩ : MethodName) prog_5_method_4_code 3 none ∈ xT := xin_2 (i := 192) rfl rfl
theorem tw_433 : Cond.methodLink "ProgramGate$Operation" 53 (⟨"ProgramGate$Operation", "lowestBits", "(LProgramGate$Known;LProgramGate$Known;)I"⟩ : MethodName) ∈ xT := xin_2 (i := 193) rfl rfl
theorem tw_434 : Cond.static (⟨"ProgramGate$Operation", "lowestBits", "(LProgramGate$Known;LProgramGate$Known;)I"⟩ : MethodName) ∈ xT := xin_2 (i := 194) rfl rfl
theorem tw_435 : Cond.code (⟨"ProgramGate$Operation", "lowestBits", "(LProgramGate$Known;LProgramGate$Known;)I"⟩ : MethodName) prog_5_method_3_code 3 (some .int) ∈ xT := xin_2 (i := 195) rfl rfl
theorem tw_436 : Cond.constantLong "ProgramGate$Operation" 64 4294967295 ∈ xT := xin_2 (i := 196) rfl rfl
theorem tw_437 : Cond.methodLink "ProgramGate$Operation" 69 (⟨"ProgramGate$Known", "boundUnsigned", "(JJ)V"⟩ : MethodName) ∈ xT := xin_2 (i := 197) rfl rfl
theorem tw_439 : Cond.static (⟨"ProgramGate", "isInt", "(J)Z"⟩ : MethodName) ∈ xT := xin_2 (i := 199) rfl rfl
theorem tw_440 : Cond.code (⟨"ProgramGate", "isInt", "(J)Z"⟩ : MethodName) prog_1_method_12_code 2 (some .boolean) ∈ xT := xin_2 (i := 200) rfl rfl
theorem tw_441 : Cond.constantLong "ProgramGate" 102 (-2147483648) ∈ xT := xin_2 (i := 201) rfl rfl
theorem tw_442 : Cond.constantLong "ProgramGate" 104 2147483647 ∈ xT := xin_2 (i := 202) rfl rfl
theorem tw_443 : Cond.methodLink "ProgramGate$Operation" 83 (⟨"ProgramGate$Known", "boundSigned", "(JJ)V"⟩ : MethodName) ∈ xT := xin_2 (i := 203) rfl rfl
theorem tw_444 : Cond.methodLink "ProgramGate$Operation" 86 (⟨"ProgramGate$Known", "isExact", "()Z"⟩ : MethodName) ∈ xT := xin_2 (i := 204) rfl rfl
theorem tw_445 : Cond.constantLong "ProgramGate$Operation" 89 20 ∈ xT := xin_2 (i := 205) rfl rfl
theorem tw_446 : Cond.methodLink "ProgramGate$Operation" 94 (⟨"java/lang/Math", "max", "(II)I"⟩ : MethodName) ∈ xT := xin_2 (i := 206) rfl rfl
theorem tw_447 : Cond.methodLink "ProgramGate$Operation" 20 (⟨"ProgramGate$Operation", "difference", "(LProgramGate$Known;LProgramGate$Known;LProgramGate$Known;)V"⟩ : MethodName) ∈ xT := xin_2 (i := 207) rfl rfl
theorem tw_448 : Cond.static (⟨"ProgramGate$Operation", "difference", "(LProgramGate$Known;LProgramGate$Known;LProgramGate$Known;)V"⟩ : MethodName) ∈ xT := xin_2 (i := 208) rfl rfl
theorem tw_449 : Cond.code (⟨"ProgramGate$Operation", "difference", "(LProgramGate$Known;LProgramGate$Known;LProgramGate$Known;)V"⟩ : MethodName) prog_5_method_5_code 3 none ∈ xT := xin_2 (i := 209) rfl rfl
theorem tw_450 : Cond.methodLink "ProgramGate$Operation" 23 (⟨"ProgramGate$Operation", "product", "(LProgramGate$Known;LProgramGate$Known;LProgramGate$Known;)V"⟩ : MethodName) ∈ xT := xin_2 (i := 210) rfl rfl
theorem tw_451 : Cond.static (⟨"ProgramGate$Operation", "product", "(LProgramGate$Known;LProgramGate$Known;LProgramGate$Known;)V"⟩ : MethodName) ∈ xT := xin_2 (i := 211) rfl rfl
theorem tw_452 : Cond.code (⟨"ProgramGate$Operation", "product", "(LProgramGate$Known;LProgramGate$Known;LProgramGate$Known;)V"⟩ : MethodName) prog_5_method_6_code 3 none ∈ xT := xin_2 (i := 212) rfl rfl
theorem tw_453 : Cond.methodLink "ProgramGate$Operation" 26 (⟨"ProgramGate$Operation", "bothOnes", "(LProgramGate$Known;LProgramGate$Known;LProgramGate$Known;)V"⟩ : MethodName) ∈ xT := xin_2 (i := 213) rfl rfl
theorem tw_454 : Cond.static (⟨"ProgramGate$Operation", "bothOnes", "(LProgramGate$Known;LProgramGate$Known;LProgramGate$Known;)V"⟩ : MethodName) ∈ xT := xin_2 (i := 214) rfl rfl
theorem tw_455 : Cond.code (⟨"ProgramGate$Operation", "bothOnes", "(LProgramGate$Known;LProgramGate$Known;LProgramGate$Known;)V"⟩ : MethodName) prog_5_method_7_code 3 none ∈ xT := xin_2 (i := 215) rfl rfl
theorem tw_456 : Cond.methodLink "ProgramGate$Operation" 100 (⟨"ProgramGate$Known", "zeros", "()I"⟩ : MethodName) ∈ xT := xin_2 (i := 216) rfl rfl
theorem tw_457 : Cond.instanceMethod (⟨"ProgramGate$Known", "zeros", "()I"⟩ : MethodName) ∈ xT := xin_2 (i := 217) rfl rfl
theorem tw_458 : Cond.selects "ProgramGate$Known" (⟨"ProgramGate$Known", "zeros", "()I"⟩ : MethodName) (⟨"ProgramGate$Known", "zeros", "()I"⟩ : MethodName) ∈ xT := xin_2 (i := 218) rfl rfl
theorem tw_459 : Cond.code (⟨"ProgramGate$Known", "zeros", "()I"⟩ : MethodName) prog_3_method_9_code 1 (some .int) ∈ xT := xin_2 (i := 219) rfl rfl
theorem tw_460 : Cond.methodLink "ProgramGate$Operation" 104 (⟨"java/lang/Math", "min", "(JJ)J"⟩ : MethodName) ∈ xT := xin_2 (i := 220) rfl rfl
theorem tw_461 : Cond.methodLink "ProgramGate$Operation" 29 (⟨"ProgramGate$Operation", "eitherOne", "(LProgramGate$Known;LProgramGate$Known;LProgramGate$Known;)V"⟩ : MethodName) ∈ xT := xin_2 (i := 221) rfl rfl
theorem tw_462 : Cond.static (⟨"ProgramGate$Operation", "eitherOne", "(LProgramGate$Known;LProgramGate$Known;LProgramGate$Known;)V"⟩ : MethodName) ∈ xT := xin_2 (i := 222) rfl rfl
theorem tw_463 : Cond.code (⟨"ProgramGate$Operation", "eitherOne", "(LProgramGate$Known;LProgramGate$Known;LProgramGate$Known;)V"⟩ : MethodName) prog_5_method_8_code 3 none ∈ xT := xin_2 (i := 223) rfl rfl
theorem tw_464 : Cond.methodLink "ProgramGate$Operation" 108 (⟨"java/lang/Math", "max", "(JJ)J"⟩ : MethodName) ∈ xT := xin_2 (i := 224) rfl rfl
theorem tw_465 : Cond.methodLink "ProgramGate$Operation" 32 (⟨"ProgramGate$Operation", "unlikeBits", "(LProgramGate$Known;LProgramGate$Known;LProgramGate$Known;)V"⟩ : MethodName) ∈ xT := xin_2 (i := 225) rfl rfl
theorem tw_466 : Cond.static (⟨"ProgramGate$Operation", "unlikeBits", "(LProgramGate$Known;LProgramGate$Known;LProgramGate$Known;)V"⟩ : MethodName) ∈ xT := xin_2 (i := 226) rfl rfl
theorem tw_467 : Cond.code (⟨"ProgramGate$Operation", "unlikeBits", "(LProgramGate$Known;LProgramGate$Known;LProgramGate$Known;)V"⟩ : MethodName) prog_5_method_9_code 3 none ∈ xT := xin_2 (i := 227) rfl rfl
theorem tw_468 : Cond.methodLink "ProgramGate$Operation" 35 (⟨"ProgramGate$Operation", "quotient", "(LProgramGate$Known;LProgramGate$Known;LProgramGate$Known;)V"⟩ : MethodName) ∈ xT := xin_2 (i := 228) rfl rfl
theorem tw_469 : Cond.static (⟨"ProgramGate$Operation", "quotient", "(LProgramGate$Known;LProgramGate$Known;LProgramGate$Known;)V"⟩ : MethodName) ∈ xT := xin_2 (i := 229) rfl rfl
theorem tw_470 : Cond.code (⟨"ProgramGate$Operation", "quotient", "(LProgramGate$Known;LProgramGate$Known;LProgramGate$Known;)V"⟩ : MethodName) prog_5_method_11_code 3 none ∈ xT := xin_2 (i := 230) rfl rfl
theorem tw_471 : Cond.methodLink "ProgramGate$Operation" 38 (⟨"ProgramGate$Operation", "rest", "(LProgramGate$Known;LProgramGate$Known;LProgramGate$Known;)V"⟩ : MethodName) ∈ xT := xin_2 (i := 231) rfl rfl
theorem tw_472 : Cond.static (⟨"ProgramGate$Operation", "rest", "(LProgramGate$Known;LProgramGate$Known;LProgramGate$Known;)V"⟩ : MethodName) ∈ xT := xin_2 (i := 232) rfl rfl
theorem tw_473 : Cond.code (⟨"ProgramGate$Operation", "rest", "(LProgramGate$Known;LProgramGate$Known;LProgramGate$Known;)V"⟩ : MethodName) prog_5_method_12_code 3 none ∈ xT := xin_2 (i := 233) rfl rfl
theorem tw_474 : Cond.methodLink "ProgramGate$Operation" 41 (⟨"ProgramGate$Operation", "shifted", "(ILProgramGate$Known;LProgramGate$Known;LProgramGate$Known;)V"⟩ : MethodName) ∈ xT := xin_2 (i := 234) rfl rfl
theorem tw_475 : Cond.static (⟨"ProgramGate$Operation", "shifted", "(ILProgramGate$Known;LProgramGate$Known;LProgramGate$Known;)V"⟩ : MethodName) ∈ xT := xin_2 (i := 235) rfl rfl
theorem tw_476 : Cond.code (⟨"ProgramGate$Operation", "shifted", "(ILProgramGate$Known;LProgramGate$Known;LProgramGate$Known;)V"⟩ : MethodName) prog_5_method_10_code 5 none ∈ xT := xin_2 (i := 236) rfl rfl
theorem tw_477 : Cond.methodLink "ProgramGate$Operation" 45 (⟨"ProgramGate$Known", "tighten", "()Z"⟩ : MethodName) ∈ xT := xin_2 (i := 237) rfl rfl
theorem tw_490 : Cond.constantLong "ProgramGate" 80 4611686018427387904 ∈ xT := xin_3 (i := 10) rfl rfl
theorem tw_491 : Cond.methodLink "ProgramGate" 92 (⟨"ProgramGate$Known", "told", "(I)J"⟩ : MethodName) ∈ xT := xin_3 (i := 11) rfl rfl
theorem tw_492 : Cond.instanceMethod (⟨"ProgramGate$Known", "told", "(I)J"⟩ : MethodName) ∈ xT := xin_3 (i := 12) rfl rfl
theorem tw_493 : Cond.selects "ProgramGate$Known" (⟨"ProgramGate$Known", "told", "(I)J"⟩ : MethodName) (⟨"ProgramGate$Known", "told", "(I)J"⟩ : MethodName) ∈ xT := xin_3 (i := 13) rfl rfl
theorem tw_494 : Cond.code (⟨"ProgramGate$Known", "told", "(I)J"⟩ : MethodName) prog_3_method_14_code 2 (some .long) ∈ xT := xin_3 (i := 14) rfl rfl
theorem tw_495 : Cond.constantLong "ProgramGate$Known" 92 4611686018427387904 ∈ xT := xin_3 (i := 15) rfl rfl
theorem tw_643 : Cond.fieldLink "ProgramGateModel" 63 "ProgramGateModel" "thrown" "I" ∈ xT := xin_3 (i := 163) rfl rfl
theorem tw_644 : Cond.fieldLink "ProgramGateModel" 67 "ProgramGateModel" "count" "I" ∈ xT := xin_3 (i := 164) rfl rfl
theorem tw_645 : Cond.fieldLink "ProgramGateModel" 7 "ProgramGateModel" "ops" "[I" ∈ xT := xin_3 (i := 165) rfl rfl
theorem tw_646 : Cond.fieldLink "ProgramGateModel" 13 "ProgramGateModel" "as" "[I" ∈ xT := xin_3 (i := 166) rfl rfl
theorem tw_647 : Cond.fieldLink "ProgramGateModel" 16 "ProgramGateModel" "bs" "[I" ∈ xT := xin_3 (i := 167) rfl rfl
theorem tw_648 : Cond.fieldLink "ProgramGateModel" 19 "ProgramGateModel" "ns" "[I" ∈ xT := xin_3 (i := 168) rfl rfl
theorem tw_649 : Cond.fieldLink "ProgramGateModel" 22 "ProgramGateModel" "offsets" "[I" ∈ xT := xin_3 (i := 169) rfl rfl
theorem tw_650 : Cond.fieldLink "ProgramGateModel" 74 "ProgramGateModel" "length" "I" ∈ xT := xin_3 (i := 170) rfl rfl
theorem tw_651 : Cond.fieldLink "ProgramGateModel" 25 "ProgramGateModel" "bytes" "[I" ∈ xT := xin_3 (i := 171) rfl rfl
theorem tw_652 : Cond.fieldLink "ProgramGateModel" 28 "ProgramGateModel" "set" "[Z" ∈ xT := xin_3 (i := 172) rfl rfl
theorem tw_653 : Cond.fieldLink "ProgramGateModel" 32 "ProgramGateModel" "bits" "[I" ∈ xT := xin_3 (i := 173) rfl rfl
theorem tw_654 : Cond.fieldLink "ProgramGateModel" 35 "ProgramGateModel" "ones" "[I" ∈ xT := xin_3 (i := 174) rfl rfl
theorem tw_655 : Cond.fieldLink "ProgramGateModel" 38 "ProgramGateModel" "low" "[J" ∈ xT := xin_3 (i := 175) rfl rfl
theorem tw_656 : Cond.fieldLink "ProgramGateModel" 42 "ProgramGateModel" "high" "[J" ∈ xT := xin_3 (i := 176) rfl rfl
theorem tw_657 : Cond.fieldLink "ProgramGateModel" 45 "ProgramGateModel" "least" "[J" ∈ xT := xin_3 (i := 177) rfl rfl
theorem tw_658 : Cond.fieldLink "ProgramGateModel" 48 "ProgramGateModel" "most" "[J" ∈ xT := xin_3 (i := 178) rfl rfl
theorem tw_659 : Cond.fieldLink "ProgramGateModel" 51 "ProgramGateModel" "safe" "[I" ∈ xT := xin_3 (i := 179) rfl rfl
theorem tw_660 : Cond.fieldLink "ProgramGateModel" 144 "ProgramGateModel" "place" "I" ∈ xT := xin_3 (i := 180) rfl rfl
theorem tw_661 : Cond.fieldLink "ProgramGateModel" 147 "ProgramGateModel" "steps" "I" ∈ xT := xin_3 (i := 181) rfl rfl
theorem tw_662 : Cond.fieldLink "ProgramGateModel" 177 "ProgramGateModel" "ended" "Z" ∈ xT := xin_3 (i := 182) rfl rfl
theorem tw_663 : Cond.fieldLink "ProgramGateModel" 166 "ProgramGateModel" "waiting" "I" ∈ xT := xin_3 (i := 183) rfl rfl
theorem tw_664 : Cond.fieldLink "ProgramGateModel" 54 "ProgramGateModel" "waits" "[I" ∈ xT := xin_3 (i := 184) rfl rfl
theorem tw_665 : Cond.fieldLink "ProgramGateModel" 212 "ProgramGateModel" "ran" "I" ∈ xT := xin_3 (i := 185) rfl rfl
theorem tw_666 : Cond.fieldLink "ProgramGateModel" 57 "ProgramGateModel" "registers" "[I" ∈ xT := xin_3 (i := 186) rfl rfl
theorem tw_667 : Cond.fieldLink "ProgramGateModel" 60 "ProgramGateModel" "stack" "[I" ∈ xT := xin_3 (i := 187) rfl rfl
theorem tw_668 : Cond.lays "ProgramGateModel" "ProgramGateModel" "thrown" "I" ∈ xT := xin_3 (i := 188) rfl rfl
theorem tw_670 : Cond.lays "ProgramGateModel" "ProgramGateModel" "count" "I" ∈ xT := xin_3 (i := 190) rfl rfl
theorem tw_672 : Cond.laysFinal "ProgramGateModel" "ProgramGateModel" "ops" "[I" ∈ xT := xin_3 (i := 192) rfl rfl
theorem tw_674 : Cond.laysFinal "ProgramGateModel" "ProgramGateModel" "as" "[I" ∈ xT := xin_3 (i := 194) rfl rfl
theorem tw_676 : Cond.laysFinal "ProgramGateModel" "ProgramGateModel" "bs" "[I" ∈ xT := xin_3 (i := 196) rfl rfl
theorem tw_678 : Cond.laysFinal "ProgramGateModel" "ProgramGateModel" "ns" "[I" ∈ xT := xin_3 (i := 198) rfl rfl
theorem tw_680 : Cond.laysFinal "ProgramGateModel" "ProgramGateModel" "offsets" "[I" ∈ xT := xin_3 (i := 200) rfl rfl
theorem tw_682 : Cond.lays "ProgramGateModel" "ProgramGateModel" "length" "I" ∈ xT := xin_3 (i := 202) rfl rfl
theorem tw_684 : Cond.laysFinal "ProgramGateModel" "ProgramGateModel" "bytes" "[I" ∈ xT := xin_3 (i := 204) rfl rfl
theorem tw_686 : Cond.laysFinal "ProgramGateModel" "ProgramGateModel" "set" "[Z" ∈ xT := xin_3 (i := 206) rfl rfl
theorem tw_688 : Cond.laysFinal "ProgramGateModel" "ProgramGateModel" "bits" "[I" ∈ xT := xin_3 (i := 208) rfl rfl
theorem tw_690 : Cond.laysFinal "ProgramGateModel" "ProgramGateModel" "ones" "[I" ∈ xT := xin_3 (i := 210) rfl rfl
theorem tw_692 : Cond.laysFinal "ProgramGateModel" "ProgramGateModel" "low" "[J" ∈ xT := xin_3 (i := 212) rfl rfl
theorem tw_694 : Cond.laysFinal "ProgramGateModel" "ProgramGateModel" "high" "[J" ∈ xT := xin_3 (i := 214) rfl rfl
theorem tw_696 : Cond.laysFinal "ProgramGateModel" "ProgramGateModel" "least" "[J" ∈ xT := xin_3 (i := 216) rfl rfl
theorem tw_698 : Cond.laysFinal "ProgramGateModel" "ProgramGateModel" "most" "[J" ∈ xT := xin_3 (i := 218) rfl rfl
theorem tw_700 : Cond.laysFinal "ProgramGateModel" "ProgramGateModel" "safe" "[I" ∈ xT := xin_3 (i := 220) rfl rfl
theorem tw_702 : Cond.lays "ProgramGateModel" "ProgramGateModel" "place" "I" ∈ xT := xin_3 (i := 222) rfl rfl
theorem tw_704 : Cond.lays "ProgramGateModel" "ProgramGateModel" "steps" "I" ∈ xT := xin_3 (i := 224) rfl rfl
theorem tw_706 : Cond.lays "ProgramGateModel" "ProgramGateModel" "ended" "Z" ∈ xT := xin_3 (i := 226) rfl rfl
theorem tw_708 : Cond.lays "ProgramGateModel" "ProgramGateModel" "waiting" "I" ∈ xT := xin_3 (i := 228) rfl rfl
theorem tw_710 : Cond.laysFinal "ProgramGateModel" "ProgramGateModel" "waits" "[I" ∈ xT := xin_3 (i := 230) rfl rfl
theorem tw_712 : Cond.lays "ProgramGateModel" "ProgramGateModel" "ran" "I" ∈ xT := xin_3 (i := 232) rfl rfl
theorem tw_714 : Cond.laysFinal "ProgramGateModel" "ProgramGateModel" "registers" "[I" ∈ xT := xin_3 (i := 234) rfl rfl
theorem tw_716 : Cond.laysFinal "ProgramGateModel" "ProgramGateModel" "stack" "[I" ∈ xT := xin_3 (i := 236) rfl rfl
theorem tw_728 : Cond.methodLink "ProgramGateModel" 70 (⟨"ProgramGateModel", "within", "(III)Z"⟩ : MethodName) ∈ xT := xin_4 (i := 8) rfl rfl
theorem tw_729 : Cond.static (⟨"ProgramGateModel", "within", "(III)Z"⟩ : MethodName) ∈ xT := xin_4 (i := 9) rfl rfl
theorem tw_730 : Cond.code (⟨"ProgramGateModel", "within", "(III)Z"⟩ : MethodName) prog_11_method_4_code 3 (some .boolean) ∈ xT := xin_4 (i := 10) rfl rfl
theorem tw_743 : Cond.constantLong "ProgramGateModel" 77 255 ∈ xT := xin_4 (i := 23) rfl rfl
theorem tw_748 : Cond.methodLink "ProgramGateModel" 197 (⟨"ProgramGateModel", "setUp", "()V"⟩ : MethodName) ∈ xT := xin_4 (i := 28) rfl rfl
theorem tw_750 : Cond.instanceMethod (⟨"ProgramGateModel", "setUp", "()V"⟩ : MethodName) ∈ xT := xin_4 (i := 30) rfl rfl
theorem tw_751 : Cond.code (⟨"ProgramGateModel", "setUp", "()V"⟩ : MethodName) prog_11_method_28_code 2 none ∈ xT := xin_4 (i := 31) rfl rfl
theorem tw_752 : Cond.methodLink "ProgramGateModel" 85 (⟨"ProgramGateModel", "nothing", "(I)V"⟩ : MethodName) ∈ xT := xin_4 (i := 32) rfl rfl
theorem tw_754 : Cond.instanceMethod (⟨"ProgramGateModel", "nothing", "(I)V"⟩ : MethodName) ∈ xT := xin_4 (i := 34) rfl rfl
theorem tw_755 : Cond.code (⟨"ProgramGateModel", "nothing", "(I)V"⟩ : MethodName) prog_11_method_10_code 2 none ∈ xT := xin_4 (i := 35) rfl rfl
theorem tw_756 : Cond.constantLong "ProgramGateModel" 79 4294967295 ∈ xT := xin_4 (i := 36) rfl rfl
theorem tw_757 : Cond.constantLong "ProgramGateModel" 81 (-2147483648) ∈ xT := xin_4 (i := 37) rfl rfl
theorem tw_758 : Cond.constantLong "ProgramGateModel" 83 2147483647 ∈ xT := xin_4 (i := 38) rfl rfl
theorem tw_759 : Cond.constantLong "ProgramGateModel" 142 16 ∈ xT := xin_4 (i := 39) rfl rfl
theorem tw_760 : Cond.methodLink "ProgramGateModel" 123 (⟨"ProgramGateModel", "tighten", "(I)Z"⟩ : MethodName) ∈ xT := xin_4 (i := 40) rfl rfl
theorem tw_762 : Cond.instanceMethod (⟨"ProgramGateModel", "tighten", "(I)Z"⟩ : MethodName) ∈ xT := xin_4 (i := 42) rfl rfl
theorem tw_763 : Cond.code (⟨"ProgramGateModel", "tighten", "(I)Z"⟩ : MethodName) prog_11_method_15_code 6 (some .boolean) ∈ xT := xin_4 (i := 43) rfl rfl
theorem tw_764 : Cond.methodLink "ProgramGateModel" 89 (⟨"ProgramGateModel", "greater", "(JJ)J"⟩ : MethodName) ∈ xT := xin_4 (i := 44) rfl rfl
theorem tw_765 : Cond.static (⟨"ProgramGateModel", "greater", "(JJ)J"⟩ : MethodName) ∈ xT := xin_4 (i := 45) rfl rfl
theorem tw_766 : Cond.code (⟨"ProgramGateModel", "greater", "(JJ)J"⟩ : MethodName) prog_11_method_13_code 4 (some .long) ∈ xT := xin_4 (i := 46) rfl rfl
theorem tw_767 : Cond.methodLink "ProgramGateModel" 93 (⟨"ProgramGateModel", "lesser", "(JJ)J"⟩ : MethodName) ∈ xT := xin_4 (i := 47) rfl rfl
theorem tw_768 : Cond.static (⟨"ProgramGateModel", "lesser", "(JJ)J"⟩ : MethodName) ∈ xT := xin_4 (i := 48) rfl rfl
theorem tw_769 : Cond.code (⟨"ProgramGateModel", "lesser", "(JJ)J"⟩ : MethodName) prog_11_method_12_code 4 (some .long) ∈ xT := xin_4 (i := 49) rfl rfl
theorem tw_770 : Cond.constantLong "ProgramGateModel" 96 2147483648 ∈ xT := xin_4 (i := 50) rfl rfl
theorem tw_771 : Cond.methodLink "ProgramGateModel" 200 (⟨"ProgramGateModel", "alarm", "()I"⟩ : MethodName) ∈ xT := xin_4 (i := 51) rfl rfl
theorem tw_773 : Cond.instanceMethod (⟨"ProgramGateModel", "alarm", "()I"⟩ : MethodName) ∈ xT := xin_4 (i := 53) rfl rfl
theorem tw_774 : Cond.code (⟨"ProgramGateModel", "alarm", "()I"⟩ : MethodName) prog_11_method_31_code 5 (some .int) ∈ xT := xin_4 (i := 54) rfl rfl
theorem tw_775 : Cond.methodLink "ProgramGateModel" 150 (⟨"ProgramGateModel", "readsA", "(I)Z"⟩ : MethodName) ∈ xT := xin_4 (i := 55) rfl rfl
theorem tw_776 : Cond.static (⟨"ProgramGateModel", "readsA", "(I)Z"⟩ : MethodName) ∈ xT := xin_4 (i := 56) rfl rfl
theorem tw_777 : Cond.code (⟨"ProgramGateModel", "readsA", "(I)Z"⟩ : MethodName) prog_11_method_29_code 1 (some .boolean) ∈ xT := xin_4 (i := 57) rfl rfl
theorem tw_778 : Cond.methodLink "ProgramGateModel" 153 (⟨"ProgramGateModel", "readsB", "(I)Z"⟩ : MethodName) ∈ xT := xin_4 (i := 58) rfl rfl
theorem tw_779 : Cond.static (⟨"ProgramGateModel", "readsB", "(I)Z"⟩ : MethodName) ∈ xT := xin_4 (i := 59) rfl rfl
theorem tw_780 : Cond.code (⟨"ProgramGateModel", "readsB", "(I)Z"⟩ : MethodName) prog_11_method_30_code 1 (some .boolean) ∈ xT := xin_4 (i := 60) rfl rfl
theorem tw_781 : Cond.methodLink "ProgramGateModel" 128 (⟨"ProgramGateModel", "copy", "(II)V"⟩ : MethodName) ∈ xT := xin_4 (i := 61) rfl rfl
theorem tw_783 : Cond.instanceMethod (⟨"ProgramGateModel", "copy", "(II)V"⟩ : MethodName) ∈ xT := xin_4 (i := 63) rfl rfl
theorem tw_784 : Cond.code (⟨"ProgramGateModel", "copy", "(II)V"⟩ : MethodName) prog_11_method_9_code 3 none ∈ xT := xin_4 (i := 64) rfl rfl
theorem tw_785 : Cond.methodLink "ProgramGateModel" 156 (⟨"ProgramGateModel", "number", "(II)V"⟩ : MethodName) ∈ xT := xin_4 (i := 65) rfl rfl
theorem tw_787 : Cond.instanceMethod (⟨"ProgramGateModel", "number", "(II)V"⟩ : MethodName) ∈ xT := xin_4 (i := 67) rfl rfl
theorem tw_788 : Cond.code (⟨"ProgramGateModel", "number", "(II)V"⟩ : MethodName) prog_11_method_11_code 3 none ∈ xT := xin_4 (i := 68) rfl rfl
theorem tw_789 : Cond.constantLong "ProgramGateModel" 159 3 ∈ xT := xin_4 (i := 69) rfl rfl
theorem tw_790 : Cond.methodLink "ProgramGateModel" 203 (⟨"ProgramGateModel", "pass", "()Z"⟩ : MethodName) ∈ xT := xin_4 (i := 70) rfl rfl
theorem tw_792 : Cond.instanceMethod (⟨"ProgramGateModel", "pass", "()Z"⟩ : MethodName) ∈ xT := xin_4 (i := 72) rfl rfl
theorem tw_793 : Cond.code (⟨"ProgramGateModel", "pass", "()Z"⟩ : MethodName) prog_11_method_37_code 6 (some .boolean) ∈ xT := xin_4 (i := 73) rfl rfl
theorem tw_794 : Cond.methodLink "ProgramGateModel" 181 (⟨"ProgramGateModel", "part", "(IIII)Z"⟩ : MethodName) ∈ xT := xin_4 (i := 74) rfl rfl
theorem tw_796 : Cond.instanceMethod (⟨"ProgramGateModel", "part", "(IIII)Z"⟩ : MethodName) ∈ xT := xin_4 (i := 76) rfl rfl
theorem tw_797 : Cond.code (⟨"ProgramGateModel", "part", "(IIII)Z"⟩ : MethodName) prog_11_method_36_code 6 (some .boolean) ∈ xT := xin_4 (i := 77) rfl rfl
theorem tw_798 : Cond.methodLink "ProgramGateModel" 169 (⟨"ProgramGateModel", "compare", "(IZ)Z"⟩ : MethodName) ∈ xT := xin_4 (i := 78) rfl rfl
theorem tw_800 : Cond.instanceMethod (⟨"ProgramGateModel", "compare", "(IZ)Z"⟩ : MethodName) ∈ xT := xin_4 (i := 80) rfl rfl
theorem tw_801 : Cond.code (⟨"ProgramGateModel", "compare", "(IZ)Z"⟩ : MethodName) prog_11_method_27_code 3 (some .boolean) ∈ xT := xin_4 (i := 81) rfl rfl
theorem tw_802 : Cond.methodLink "ProgramGateModel" 131 (⟨"ProgramGateModel", "alike", "()Z"⟩ : MethodName) ∈ xT := xin_4 (i := 82) rfl rfl
theorem tw_804 : Cond.instanceMethod (⟨"ProgramGateModel", "alike", "()Z"⟩ : MethodName) ∈ xT := xin_4 (i := 84) rfl rfl
theorem tw_805 : Cond.code (⟨"ProgramGateModel", "alike", "()Z"⟩ : MethodName) prog_11_method_24_code 2 (some .boolean) ∈ xT := xin_4 (i := 85) rfl rfl
theorem tw_806 : Cond.methodLink "ProgramGateModel" 106 (⟨"ProgramGateModel", "isExact", "(I)Z"⟩ : MethodName) ∈ xT := xin_4 (i := 86) rfl rfl
theorem tw_808 : Cond.instanceMethod (⟨"ProgramGateModel", "isExact", "(I)Z"⟩ : MethodName) ∈ xT := xin_4 (i := 88) rfl rfl
theorem tw_809 : Cond.code (⟨"ProgramGateModel", "isExact", "(I)Z"⟩ : MethodName) prog_11_method_14_code 2 (some .boolean) ∈ xT := xin_4 (i := 89) rfl rfl
theorem tw_810 : Cond.methodLink "ProgramGateModel" 135 (⟨"ProgramGateModel", "less", "(Z)Z"⟩ : MethodName) ∈ xT := xin_4 (i := 90) rfl rfl
theorem tw_812 : Cond.instanceMethod (⟨"ProgramGateModel", "less", "(Z)Z"⟩ : MethodName) ∈ xT := xin_4 (i := 92) rfl rfl
theorem tw_813 : Cond.code (⟨"ProgramGateModel", "less", "(Z)Z"⟩ : MethodName) prog_11_method_25_code 3 (some .boolean) ∈ xT := xin_4 (i := 93) rfl rfl
theorem tw_814 : Cond.methodLink "ProgramGateModel" 139 (⟨"ProgramGateModel", "lessSigned", "(Z)Z"⟩ : MethodName) ∈ xT := xin_4 (i := 94) rfl rfl
theorem tw_816 : Cond.instanceMethod (⟨"ProgramGateModel", "lessSigned", "(Z)Z"⟩ : MethodName) ∈ xT := xin_4 (i := 96) rfl rfl
theorem tw_817 : Cond.code (⟨"ProgramGateModel", "lessSigned", "(Z)Z"⟩ : MethodName) prog_11_method_26_code 3 (some .boolean) ∈ xT := xin_4 (i := 97) rfl rfl
theorem tw_818 : Cond.methodLink "ProgramGateModel" 173 (⟨"ProgramGateModel", "wait", "(III)V"⟩ : MethodName) ∈ xT := xin_4 (i := 98) rfl rfl
theorem tw_820 : Cond.instanceMethod (⟨"ProgramGateModel", "wait", "(III)V"⟩ : MethodName) ∈ xT := xin_4 (i := 100) rfl rfl
theorem tw_821 : Cond.code (⟨"ProgramGateModel", "wait", "(III)V"⟩ : MethodName) prog_11_method_35_code 5 none ∈ xT := xin_4 (i := 101) rfl rfl
theorem tw_822 : Cond.methodLink "ProgramGateModel" 185 (⟨"ProgramGateModel", "operate", "(I)Z"⟩ : MethodName) ∈ xT := xin_4 (i := 102) rfl rfl
theorem tw_824 : Cond.instanceMethod (⟨"ProgramGateModel", "operate", "(I)Z"⟩ : MethodName) ∈ xT := xin_4 (i := 104) rfl rfl
theorem tw_825 : Cond.code (⟨"ProgramGateModel", "operate", "(I)Z"⟩ : MethodName) prog_11_method_23_code 4 (some .boolean) ∈ xT := xin_4 (i := 105) rfl rfl
theorem tw_826 : Cond.methodLink "ProgramGateModel" 117 (⟨"ProgramGateModel", "bitsOf", "(I)V"⟩ : MethodName) ∈ xT := xin_4 (i := 106) rfl rfl
theorem tw_828 : Cond.instanceMethod (⟨"ProgramGateModel", "bitsOf", "(I)V"⟩ : MethodName) ∈ xT := xin_4 (i := 108) rfl rfl
theorem tw_829 : Cond.code (⟨"ProgramGateModel", "bitsOf", "(I)V"⟩ : MethodName) prog_11_method_19_code 7 none ∈ xT := xin_4 (i := 109) rfl rfl
theorem tw_830 : Cond.methodLink "ProgramGateModel" 98 (⟨"ProgramGateModel", "lowest", "()I"⟩ : MethodName) ∈ xT := xin_4 (i := 110) rfl rfl
theorem tw_832 : Cond.instanceMethod (⟨"ProgramGateModel", "lowest", "()I"⟩ : MethodName) ∈ xT := xin_4 (i := 112) rfl rfl
theorem tw_833 : Cond.code (⟨"ProgramGateModel", "lowest", "()I"⟩ : MethodName) prog_11_method_17_code 4 (some .int) ∈ xT := xin_4 (i := 113) rfl rfl
theorem tw_834 : Cond.methodLink "ProgramGateModel" 102 (⟨"ProgramGateModel", "knows", "(II)V"⟩ : MethodName) ∈ xT := xin_4 (i := 114) rfl rfl
theorem tw_836 : Cond.instanceMethod (⟨"ProgramGateModel", "knows", "(II)V"⟩ : MethodName) ∈ xT := xin_4 (i := 116) rfl rfl
theorem tw_837 : Cond.code (⟨"ProgramGateModel", "knows", "(II)V"⟩ : MethodName) prog_11_method_18_code 3 none ∈ xT := xin_4 (i := 117) rfl rfl
theorem tw_838 : Cond.methodLink "ProgramGateModel" 120 (⟨"ProgramGateModel", "boundsOf", "(I)V"⟩ : MethodName) ∈ xT := xin_4 (i := 118) rfl rfl
theorem tw_840 : Cond.instanceMethod (⟨"ProgramGateModel", "boundsOf", "(I)V"⟩ : MethodName) ∈ xT := xin_4 (i := 120) rfl rfl
theorem tw_841 : Cond.code (⟨"ProgramGateModel", "boundsOf", "(I)V"⟩ : MethodName) prog_11_method_22_code 3 none ∈ xT := xin_4 (i := 121) rfl rfl
theorem tw_842 : Cond.methodLink "ProgramGateModel" 110 (⟨"ProgramGateModel", "bound", "(JJ)V"⟩ : MethodName) ∈ xT := xin_4 (i := 122) rfl rfl
theorem tw_844 : Cond.instanceMethod (⟨"ProgramGateModel", "bound", "(JJ)V"⟩ : MethodName) ∈ xT := xin_4 (i := 124) rfl rfl
theorem tw_845 : Cond.code (⟨"ProgramGateModel", "bound", "(JJ)V"⟩ : MethodName) prog_11_method_20_code 5 none ∈ xT := xin_4 (i := 125) rfl rfl
theorem tw_846 : Cond.methodLink "ProgramGateModel" 114 (⟨"ProgramGateModel", "boundSigned", "(JJ)V"⟩ : MethodName) ∈ xT := xin_4 (i := 126) rfl rfl
theorem tw_848 : Cond.instanceMethod (⟨"ProgramGateModel", "boundSigned", "(JJ)V"⟩ : MethodName) ∈ xT := xin_4 (i := 128) rfl rfl
theorem tw_849 : Cond.code (⟨"ProgramGateModel", "boundSigned", "(JJ)V"⟩ : MethodName) prog_11_method_21_code 5 none ∈ xT := xin_4 (i := 129) rfl rfl
theorem tw_850 : Cond.constantLong "ProgramGateModel" 126 20 ∈ xT := xin_4 (i := 130) rfl rfl
theorem tw_851 : Cond.methodLink "ProgramGateModel" 188 (⟨"ProgramGateModel", "get", "(I)V"⟩ : MethodName) ∈ xT := xin_4 (i := 131) rfl rfl
theorem tw_853 : Cond.instanceMethod (⟨"ProgramGateModel", "get", "(I)V"⟩ : MethodName) ∈ xT := xin_4 (i := 133) rfl rfl
theorem tw_854 : Cond.code (⟨"ProgramGateModel", "get", "(I)V"⟩ : MethodName) prog_11_method_32_code 3 none ∈ xT := xin_4 (i := 134) rfl rfl
theorem tw_855 : Cond.methodLink "ProgramGateModel" 161 (⟨"ProgramGateModel", "meet", "(II)V"⟩ : MethodName) ∈ xT := xin_4 (i := 135) rfl rfl
theorem tw_857 : Cond.instanceMethod (⟨"ProgramGateModel", "meet", "(II)V"⟩ : MethodName) ∈ xT := xin_4 (i := 137) rfl rfl
theorem tw_858 : Cond.code (⟨"ProgramGateModel", "meet", "(II)V"⟩ : MethodName) prog_11_method_16_code 3 none ∈ xT := xin_4 (i := 138) rfl rfl
theorem tw_859 : Cond.methodLink "ProgramGateModel" 191 (⟨"ProgramGateModel", "put", "()V"⟩ : MethodName) ∈ xT := xin_4 (i := 139) rfl rfl
theorem tw_861 : Cond.instanceMethod (⟨"ProgramGateModel", "put", "()V"⟩ : MethodName) ∈ xT := xin_4 (i := 141) rfl rfl
theorem tw_862 : Cond.code (⟨"ProgramGateModel", "put", "()V"⟩ : MethodName) prog_11_method_33_code 2 none ∈ xT := xin_4 (i := 142) rfl rfl
theorem tw_863 : Cond.methodLink "ProgramGateModel" 194 (⟨"ProgramGateModel", "load", "(II)V"⟩ : MethodName) ∈ xT := xin_4 (i := 143) rfl rfl
theorem tw_865 : Cond.instanceMethod (⟨"ProgramGateModel", "load", "(II)V"⟩ : MethodName) ∈ xT := xin_4 (i := 145) rfl rfl
theorem tw_866 : Cond.code (⟨"ProgramGateModel", "load", "(II)V"⟩ : MethodName) prog_11_method_34_code 4 none ∈ xT := xin_4 (i := 146) rfl rfl
theorem tw_867 : Cond.constantLong "ProgramGateModel" 164 65535 ∈ xT := xin_4 (i := 147) rfl rfl
theorem tw_876 : Cond.constantLong "ProgramGateModel" 206 4611686018427387904 ∈ xT := xin_4 (i := 156) rfl rfl
theorem tw_881 : Cond.methodLink "ProgramGateModel" 215 (⟨"ProgramGateModel", "refuse", "(I)I"⟩ : MethodName) ∈ xT := xin_4 (i := 161) rfl rfl
theorem tw_883 : Cond.instanceMethod (⟨"ProgramGateModel", "refuse", "(I)I"⟩ : MethodName) ∈ xT := xin_4 (i := 163) rfl rfl
theorem tw_884 : Cond.code (⟨"ProgramGateModel", "refuse", "(I)I"⟩ : MethodName) prog_11_method_3_code 2 (some .int) ∈ xT := xin_4 (i := 164) rfl rfl
theorem tw_885 : Cond.methodLink "ProgramGateModel" 219 (⟨"ProgramGateModel", "reckon", "(III)I"⟩ : MethodName) ∈ xT := xin_4 (i := 165) rfl rfl
theorem tw_886 : Cond.static (⟨"ProgramGateModel", "reckon", "(III)I"⟩ : MethodName) ∈ xT := xin_4 (i := 166) rfl rfl
theorem tw_887 : Cond.code (⟨"ProgramGateModel", "reckon", "(III)I"⟩ : MethodName) prog_11_method_42_code 3 (some .int) ∈ xT := xin_4 (i := 167) rfl rfl
theorem tw_888 : Cond.methodLink "ProgramGateModel" 208 (⟨"ProgramGateModel", "unsignedRest", "(II)I"⟩ : MethodName) ∈ xT := xin_4 (i := 168) rfl rfl
theorem tw_889 : Cond.static (⟨"ProgramGateModel", "unsignedRest", "(II)I"⟩ : MethodName) ∈ xT := xin_4 (i := 169) rfl rfl
theorem tw_890 : Cond.code (⟨"ProgramGateModel", "unsignedRest", "(II)I"⟩ : MethodName) prog_11_method_41_code 2 (some .int) ∈ xT := xin_4 (i := 170) rfl rfl
theorem tw_891 : Cond.methodLink "ProgramGateModel" 223 (⟨"ProgramGateModel", "bytesAt", "(II)I"⟩ : MethodName) ∈ xT := xin_4 (i := 171) rfl rfl
theorem tw_893 : Cond.instanceMethod (⟨"ProgramGateModel", "bytesAt", "(II)I"⟩ : MethodName) ∈ xT := xin_4 (i := 173) rfl rfl
theorem tw_894 : Cond.code (⟨"ProgramGateModel", "bytesAt", "(II)I"⟩ : MethodName) prog_11_method_44_code 5 (some .int) ∈ xT := xin_4 (i := 174) rfl rfl
theorem tw_895 : Cond.methodLink "ProgramGateModel" 226 (⟨"ProgramGateModel", "holds", "(III)Z"⟩ : MethodName) ∈ xT := xin_4 (i := 175) rfl rfl
theorem tw_896 : Cond.static (⟨"ProgramGateModel", "holds", "(III)Z"⟩ : MethodName) ∈ xT := xin_4 (i := 176) rfl rfl
theorem tw_897 : Cond.code (⟨"ProgramGateModel", "holds", "(III)Z"⟩ : MethodName) prog_11_method_43_code 5 (some .boolean) ∈ xT := xin_4 (i := 177) rfl rfl
theorem xw_objinst : Cond.instanceMethod Lib.objectInit ∈ xT := tw_26
theorem xw_objcode : Cond.code Lib.objectInit ⟨#[0xb1]⟩ 1 none ∈ xT := xin_1 (i := 27) rfl rfl
theorem xw_mmaxI : Cond.static Lib.Math.max.name ∈ xT ∧ Cond.initialized "java/lang/Math" ∈ xT ∧ Cond.code Lib.Math.max.name Lib.Math.max.code 2 (some .int) ∈ xT := ⟨xin_2 (i := 137) rfl rfl, xin_1 (i := 10) rfl rfl, xin_2 (i := 138) rfl rfl⟩
theorem xw_mminI : Cond.static Lib.Math.min.name ∈ xT ∧ Cond.initialized "java/lang/Math" ∈ xT ∧ Cond.code Lib.Math.min.name Lib.Math.min.code 2 (some .int) ∈ xT := ⟨xin_2 (i := 177) rfl rfl, xin_1 (i := 10) rfl rfl, xin_2 (i := 178) rfl rfl⟩
theorem xw_mmaxJ : Cond.static Lib.MathLoose.max_long.x ∈ xT ∧ Cond.initialized "java/lang/Math" ∈ xT ∧ Cond.code Lib.MathLoose.max_long.x Lib.MathLoose.max_long.code 4 (some .long) ∈ xT := ⟨xin_2 (i := 68) rfl rfl, xin_1 (i := 10) rfl rfl, xin_2 (i := 69) rfl rfl⟩
theorem xw_mminJ : Cond.static Lib.MathLoose.min_long.x ∈ xT ∧ Cond.initialized "java/lang/Math" ∈ xT ∧ Cond.code Lib.MathLoose.min_long.x Lib.MathLoose.min_long.code 4 (some .long) ∈ xT := ⟨xin_2 (i := 71) rfl rfl, xin_1 (i := 10) rfl rfl, xin_2 (i := 72) rfl rfl⟩
theorem nw_0 : ("ProgramGate$Program", 17, (⟨"ProgramGate$Instruction", "<init>", "()V"⟩ : MethodName), "ProgramGate") ∈ xNw := List.mem_of_getElem? (i := 0) rfl
theorem nw_1 : ("ProgramGate", 18, (⟨"ProgramGate$Packet", "<init>", "()V"⟩ : MethodName), "ProgramGate") ∈ xNw := List.mem_of_getElem? (i := 1) rfl
theorem nw_2 : ("ProgramGate$State", 20, (⟨"ProgramGate$Known", "<init>", "()V"⟩ : MethodName), "ProgramGate") ∈ xNw := List.mem_of_getElem? (i := 2) rfl
theorem nw_3 : ("ProgramGate$Walker", 28, (⟨"ProgramGate$Known", "<init>", "()V"⟩ : MethodName), "ProgramGate") ∈ xNw := List.mem_of_getElem? (i := 3) rfl
theorem nw_4 : ("ProgramGate$Known", 49, (⟨"ProgramGate", "unsigned", "(I)J"⟩ : MethodName), "ProgramGate") ∈ xNw := List.mem_of_getElem? (i := 4) rfl
theorem nw_5 : ("ProgramGate$Operation", 76, (⟨"ProgramGate", "isInt", "(J)Z"⟩ : MethodName), "ProgramGate") ∈ xNw := List.mem_of_getElem? (i := 5) rfl
theorem nw_6 : ("ProgramGate$Machine", 80, (⟨"ProgramGate", "unsigned", "(I)J"⟩ : MethodName), "ProgramGate") ∈ xNw := List.mem_of_getElem? (i := 6) rfl
