abbrev R_I_init : Room := { frames := 1, cells := 0, slots := 0, locals := 20 }
abbrev k_I_init : xX → List (Nat × Value) → List Value → xw → Nat → Nat → Nat → Nat → xR → Prop := xK lb_I_init 1 "ProgramGate$Instruction" "<init>" t_I_init R_I_init
abbrev R_K_init : Room := { frames := 1, cells := 0, slots := 0, locals := 20 }
abbrev k_K_init : xX → List (Nat × Value) → List Value → xw → Nat → Nat → Nat → Nat → xR → Prop := xK lb_K_init 1 "ProgramGate$Known" "<init>" t_K_init R_K_init
abbrev R_I_allowed : Room := { frames := 0, cells := 0, slots := 0, locals := 0 }
abbrev k_I_allowed : xX → List (Nat × Value) → List Value → xw → Nat → Nat → Nat → Nat → xR → Prop := xK lb_I_allowed 6 "ProgramGate$Instruction" "allowed" t_I_allowed R_I_allowed
abbrev R_I_become : Room := { frames := 0, cells := 0, slots := 0, locals := 0 }
abbrev k_I_become : xX → List (Nat × Value) → List Value → xw → Nat → Nat → Nat → Nat → xR → Prop := xK lb_I_become 6 "ProgramGate$Instruction" "become" t_I_become R_I_become
abbrev R_G_add : Room := { frames := 1, cells := 0, slots := 0, locals := 25 }
abbrev k_G_add : xX → List (Nat × Value) → List Value → xw → Nat → Nat → Nat → Nat → xR → Prop := xK lb_G_add 6 "ProgramGate" "add" t_G_add R_G_add
abbrev R_G_clear : Room := { frames := 0, cells := 0, slots := 0, locals := 0 }
abbrev k_G_clear : xX → List (Nat × Value) → List Value → xw → Nat → Nat → Nat → Nat → xR → Prop := xK lb_G_clear 2 "ProgramGate" "clear" t_G_clear R_G_clear
abbrev R_G_size : Room := { frames := 0, cells := 0, slots := 0, locals := 0 }
abbrev k_G_size : xX → List (Nat × Value) → List Value → xw → Nat → Nat → Nat → Nat → xR → Prop := xK lb_G_size 1 "ProgramGate" "size" t_G_size R_G_size
abbrev R_P_become : Room := { frames := 0, cells := 0, slots := 0, locals := 0 }
abbrev k_P_become : xX → List (Nat × Value) → List Value → xw → Nat → Nat → Nat → Nat → xR → Prop := xK lb_P_become 9 "ProgramGate$Packet" "become" t_P_become R_P_become
abbrev R_G_packet : Room := { frames := 1, cells := 0, slots := 0, locals := 28 }
abbrev k_G_packet : xX → List (Nat × Value) → List Value → xw → Nat → Nat → Nat → Nat → xR → Prop := xK lb_G_packet 6 "ProgramGate" "packet" t_G_packet R_G_packet
abbrev R_K_becomeNothing : Room := { frames := 0, cells := 0, slots := 0, locals := 0 }
abbrev k_K_becomeNothing : xX → List (Nat × Value) → List Value → xw → Nat → Nat → Nat → Nat → xR → Prop := xK lb_K_becomeNothing 1 "ProgramGate$Known" "becomeNothing" t_K_becomeNothing R_K_becomeNothing
abbrev R_K_boundUnsigned : Room := { frames := 0, cells := 0, slots := 0, locals := 0 }
abbrev k_K_boundUnsigned : xX → List (Nat × Value) → List Value → xw → Nat → Nat → Nat → Nat → xR → Prop := xK lb_K_boundUnsigned 5 "ProgramGate$Known" "boundUnsigned" t_K_boundUnsigned R_K_boundUnsigned
abbrev R_K_boundSigned : Room := { frames := 0, cells := 0, slots := 0, locals := 0 }
abbrev k_K_boundSigned : xX → List (Nat × Value) → List Value → xw → Nat → Nat → Nat → Nat → xR → Prop := xK lb_K_boundSigned 5 "ProgramGate$Known" "boundSigned" t_K_boundSigned R_K_boundSigned
abbrev R_G_unsigned : Room := { frames := 0, cells := 0, slots := 0, locals := 0 }
abbrev k_G_unsigned : xX → List (Nat × Value) → List Value → xw → Nat → Nat → Nat → Nat → xR → Prop := xK lb_G_unsigned 1 "ProgramGate" "unsigned" t_G_unsigned R_G_unsigned
abbrev R_jI_numberOfLeadingZeros : Room := { frames := 0, cells := 0, slots := 0, locals := 0 }
abbrev k_jI_numberOfLeadingZeros : xX → List (Nat × Value) → List Value → xw → Nat → Nat → Nat → Nat → xR → Prop := xK lb_jI_numberOfLeadingZeros 2 "java/lang/Integer" "numberOfLeadingZeros" t_jI_numberOfLeadingZeros R_jI_numberOfLeadingZeros
abbrev R_jL_numberOfLeadingZeros : Room := { frames := 1, cells := 0, slots := 0, locals := 21 }
abbrev k_jL_numberOfLeadingZeros : xX → List (Nat × Value) → List Value → xw → Nat → Nat → Nat → Nat → xR → Prop := xK lb_jL_numberOfLeadingZeros 3 "java/lang/Long" "numberOfLeadingZeros" t_jL_numberOfLeadingZeros R_jL_numberOfLeadingZeros
abbrev R_K_contradicts : Room := { frames := 0, cells := 0, slots := 0, locals := 0 }
abbrev k_K_contradicts : xX → List (Nat × Value) → List Value → xw → Nat → Nat → Nat → Nat → xR → Prop := xK lb_K_contradicts 3 "ProgramGate$Known" "contradicts" t_K_contradicts R_K_contradicts
abbrev R_K_tighten : Room := { frames := 2, cells := 0, slots := 0, locals := 43 }
abbrev k_K_tighten : xX → List (Nat × Value) → List Value → xw → Nat → Nat → Nat → Nat → xR → Prop := xK lb_K_tighten 2 "ProgramGate$Known" "tighten" t_K_tighten R_K_tighten
abbrev R_K_becomeUpTo : Room := { frames := 3, cells := 0, slots := 0, locals := 64 }
abbrev k_K_becomeUpTo : xX → List (Nat × Value) → List Value → xw → Nat → Nat → Nat → Nat → xR → Prop := xK lb_K_becomeUpTo 2 "ProgramGate$Known" "becomeUpTo" t_K_becomeUpTo R_K_becomeUpTo
abbrev R_S_begin : Room := { frames := 4, cells := 0, slots := 0, locals := 85 }
abbrev k_S_begin : xX → List (Nat × Value) → List Value → xw → Nat → Nat → Nat → Nat → xR → Prop := xK lb_S_begin 2 "ProgramGate$State" "begin" t_S_begin R_S_begin
abbrev R_W_begin : Room := { frames := 5, cells := 0, slots := 0, locals := 106 }
abbrev k_W_begin : xX → List (Nat × Value) → List Value → xw → Nat → Nat → Nat → Nat → xR → Prop := xK lb_W_begin 2 "ProgramGate$Walker" "begin" t_W_begin R_W_begin
abbrev R_I_readsA : Room := { frames := 0, cells := 0, slots := 0, locals := 0 }
abbrev k_I_readsA : xX → List (Nat × Value) → List Value → xw → Nat → Nat → Nat → Nat → xR → Prop := xK lb_I_readsA 1 "ProgramGate$Instruction" "readsA" t_I_readsA R_I_readsA
abbrev R_I_readsB : Room := { frames := 0, cells := 0, slots := 0, locals := 0 }
abbrev k_I_readsB : xX → List (Nat × Value) → List Value → xw → Nat → Nat → Nat → Nat → xR → Prop := xK lb_I_readsB 1 "ProgramGate$Instruction" "readsB" t_I_readsB R_I_readsB
abbrev R_W_readsUnset : Room := { frames := 1, cells := 0, slots := 0, locals := 20 }
abbrev k_W_readsUnset : xX → List (Nat × Value) → List Value → xw → Nat → Nat → Nat → Nat → xR → Prop := xK lb_W_readsUnset 2 "ProgramGate$Walker" "readsUnset" t_W_readsUnset R_W_readsUnset
abbrev R_K_becomeNumber : Room := { frames := 1, cells := 0, slots := 0, locals := 24 }
abbrev k_K_becomeNumber : xX → List (Nat × Value) → List Value → xw → Nat → Nat → Nat → Nat → xR → Prop := xK lb_K_becomeNumber 2 "ProgramGate$Known" "becomeNumber" t_K_becomeNumber R_K_becomeNumber
abbrev R_W_knownOfY : Room := { frames := 2, cells := 0, slots := 0, locals := 45 }
abbrev k_W_knownOfY : xX → List (Nat × Value) → List Value → xw → Nat → Nat → Nat → Nat → xR → Prop := xK lb_W_knownOfY 2 "ProgramGate$Walker" "knownOfY" t_W_knownOfY R_W_knownOfY
abbrev R_W_alarmOfPlaces : Room := { frames := 0, cells := 0, slots := 0, locals := 0 }
abbrev k_W_alarmOfPlaces : xX → List (Nat × Value) → List Value → xw → Nat → Nat → Nat → Nat → xR → Prop := xK lb_W_alarmOfPlaces 4 "ProgramGate$Walker" "alarmOfPlaces" t_W_alarmOfPlaces R_W_alarmOfPlaces
abbrev R_W_alarmAt : Room := { frames := 3, cells := 0, slots := 0, locals := 66 }
abbrev k_W_alarmAt : xX → List (Nat × Value) → List Value → xw → Nat → Nat → Nat → Nat → xR → Prop := xK lb_W_alarmAt 3 "ProgramGate$Walker" "alarmAt" t_W_alarmAt R_W_alarmAt
abbrev R_K_take : Room := { frames := 1, cells := 0, slots := 0, locals := 24 }
abbrev k_K_take : xX → List (Nat × Value) → List Value → xw → Nat → Nat → Nat → Nat → xR → Prop := xK lb_K_take 2 "ProgramGate$Known" "take" t_K_take R_K_take
abbrev R_S_take : Room := { frames := 2, cells := 0, slots := 0, locals := 45 }
abbrev k_S_take : xX → List (Nat × Value) → List Value → xw → Nat → Nat → Nat → Nat → xR → Prop := xK lb_S_take 3 "ProgramGate$State" "take" t_S_take R_S_take
abbrev R_W_resume : Room := { frames := 3, cells := 0, slots := 0, locals := 67 }
abbrev k_W_resume : xX → List (Nat × Value) → List Value → xw → Nat → Nat → Nat → Nat → xR → Prop := xK lb_W_resume 2 "ProgramGate$Walker" "resume" t_W_resume R_W_resume
abbrev R_W_takePair : Room := { frames := 3, cells := 0, slots := 0, locals := 66 }
abbrev k_W_takePair : xX → List (Nat × Value) → List Value → xw → Nat → Nat → Nat → Nat → xR → Prop := xK lb_W_takePair 2 "ProgramGate$Walker" "takePair" t_W_takePair R_W_takePair
abbrev R_K_join : Room := { frames := 1, cells := 0, slots := 0, locals := 24 }
abbrev k_K_join : xX → List (Nat × Value) → List Value → xw → Nat → Nat → Nat → Nat → xR → Prop := xK lb_K_join 2 "ProgramGate$Known" "join" t_K_join R_K_join
abbrev R_K_isExact : Room := { frames := 0, cells := 0, slots := 0, locals := 0 }
abbrev k_K_isExact : xX → List (Nat × Value) → List Value → xw → Nat → Nat → Nat → Nat → xR → Prop := xK lb_K_isExact 1 "ProgramGate$Known" "isExact" t_K_isExact R_K_isExact
abbrev R_W_relate : Room := { frames := 3, cells := 0, slots := 0, locals := 64 }
abbrev k_W_relate : xX → List (Nat × Value) → List Value → xw → Nat → Nat → Nat → Nat → xR → Prop := xK lb_W_relate 2 "ProgramGate$Walker" "relate" t_W_relate R_W_relate
abbrev R_W_givePair : Room := { frames := 2, cells := 0, slots := 0, locals := 45 }
abbrev k_W_givePair : xX → List (Nat × Value) → List Value → xw → Nat → Nat → Nat → Nat → xR → Prop := xK lb_W_givePair 3 "ProgramGate$Walker" "givePair" t_W_givePair R_W_givePair
abbrev R_W_part : Room := { frames := 4, cells := 0, slots := 0, locals := 87 }
abbrev k_W_part : xX → List (Nat × Value) → List Value → xw → Nat → Nat → Nat → Nat → xR → Prop := xK lb_W_part 4 "ProgramGate$Walker" "part" t_W_part R_W_part
abbrev R_K_meet : Room := { frames := 1, cells := 0, slots := 0, locals := 24 }
abbrev k_K_meet : xX → List (Nat × Value) → List Value → xw → Nat → Nat → Nat → Nat → xR → Prop := xK lb_K_meet 2 "ProgramGate$Known" "meet" t_K_meet R_K_meet
abbrev R_W_fetch : Room := { frames := 2, cells := 0, slots := 0, locals := 45 }
abbrev k_W_fetch : xX → List (Nat × Value) → List Value → xw → Nat → Nat → Nat → Nat → xR → Prop := xK lb_W_fetch 6 "ProgramGate$Walker" "fetch" t_W_fetch R_W_fetch
abbrev R_W_store : Room := { frames := 2, cells := 0, slots := 0, locals := 45 }
abbrev k_W_store : xX → List (Nat × Value) → List Value → xw → Nat → Nat → Nat → Nat → xR → Prop := xK lb_W_store 4 "ProgramGate$Walker" "store" t_W_store R_W_store
abbrev R_O_lowestBits : Room := { frames := 0, cells := 0, slots := 0, locals := 0 }
abbrev k_O_lowestBits : xX → List (Nat × Value) → List Value → xw → Nat → Nat → Nat → Nat → xR → Prop := xK lb_O_lowestBits 3 "ProgramGate$Operation" "lowestBits" t_O_lowestBits R_O_lowestBits
abbrev R_G_isInt : Room := { frames := 0, cells := 0, slots := 0, locals := 0 }
abbrev k_G_isInt : xX → List (Nat × Value) → List Value → xw → Nat → Nat → Nat → Nat → xR → Prop := xK lb_G_isInt 2 "ProgramGate" "isInt" t_G_isInt R_G_isInt
abbrev R_O_sum : Room := { frames := 1, cells := 0, slots := 0, locals := 24 }
abbrev k_O_sum : xX → List (Nat × Value) → List Value → xw → Nat → Nat → Nat → Nat → xR → Prop := xK lb_O_sum 3 "ProgramGate$Operation" "sum" t_O_sum R_O_sum
abbrev R_O_difference : Room := { frames := 1, cells := 0, slots := 0, locals := 24 }
abbrev k_O_difference : xX → List (Nat × Value) → List Value → xw → Nat → Nat → Nat → Nat → xR → Prop := xK lb_O_difference 3 "ProgramGate$Operation" "difference" t_O_difference R_O_difference
abbrev R_O_product : Room := { frames := 1, cells := 0, slots := 0, locals := 24 }
abbrev k_O_product : xX → List (Nat × Value) → List Value → xw → Nat → Nat → Nat → Nat → xR → Prop := xK lb_O_product 3 "ProgramGate$Operation" "product" t_O_product R_O_product
abbrev R_K_zeros : Room := { frames := 0, cells := 0, slots := 0, locals := 0 }
abbrev k_K_zeros : xX → List (Nat × Value) → List Value → xw → Nat → Nat → Nat → Nat → xR → Prop := xK lb_K_zeros 1 "ProgramGate$Known" "zeros" t_K_zeros R_K_zeros
abbrev R_O_bothOnes : Room := { frames := 1, cells := 0, slots := 0, locals := 23 }
abbrev k_O_bothOnes : xX → List (Nat × Value) → List Value → xw → Nat → Nat → Nat → Nat → xR → Prop := xK lb_O_bothOnes 3 "ProgramGate$Operation" "bothOnes" t_O_bothOnes R_O_bothOnes
abbrev R_O_eitherOne : Room := { frames := 1, cells := 0, slots := 0, locals := 23 }
abbrev k_O_eitherOne : xX → List (Nat × Value) → List Value → xw → Nat → Nat → Nat → Nat → xR → Prop := xK lb_O_eitherOne 3 "ProgramGate$Operation" "eitherOne" t_O_eitherOne R_O_eitherOne
abbrev R_O_unlikeBits : Room := { frames := 0, cells := 0, slots := 0, locals := 0 }
abbrev k_O_unlikeBits : xX → List (Nat × Value) → List Value → xw → Nat → Nat → Nat → Nat → xR → Prop := xK lb_O_unlikeBits 3 "ProgramGate$Operation" "unlikeBits" t_O_unlikeBits R_O_unlikeBits
abbrev R_O_quotient : Room := { frames := 1, cells := 0, slots := 0, locals := 24 }
abbrev k_O_quotient : xX → List (Nat × Value) → List Value → xw → Nat → Nat → Nat → Nat → xR → Prop := xK lb_O_quotient 3 "ProgramGate$Operation" "quotient" t_O_quotient R_O_quotient
abbrev R_O_rest : Room := { frames := 1, cells := 0, slots := 0, locals := 24 }
abbrev k_O_rest : xX → List (Nat × Value) → List Value → xw → Nat → Nat → Nat → Nat → xR → Prop := xK lb_O_rest 3 "ProgramGate$Operation" "rest" t_O_rest R_O_rest
abbrev R_O_shifted : Room := { frames := 1, cells := 0, slots := 0, locals := 24 }
abbrev k_O_shifted : xX → List (Nat × Value) → List Value → xw → Nat → Nat → Nat → Nat → xR → Prop := xK lb_O_shifted 5 "ProgramGate$Operation" "shifted" t_O_shifted R_O_shifted
abbrev R_O_outcome : Room := { frames := 3, cells := 0, slots := 0, locals := 64 }
abbrev k_O_outcome : xX → List (Nat × Value) → List Value → xw → Nat → Nat → Nat → Nat → xR → Prop := xK lb_O_outcome 4 "ProgramGate$Operation" "outcome" t_O_outcome R_O_outcome
abbrev R_W_change : Room := { frames := 4, cells := 0, slots := 0, locals := 87 }
abbrev k_W_change : xX → List (Nat × Value) → List Value → xw → Nat → Nat → Nat → Nat → xR → Prop := xK lb_W_change 5 "ProgramGate$Walker" "change" t_W_change R_W_change
abbrev R_W_placeAfter : Room := { frames := 5, cells := 0, slots := 0, locals := 111 }
abbrev k_W_placeAfter : xX → List (Nat × Value) → List Value → xw → Nat → Nat → Nat → Nat → xR → Prop := xK lb_W_placeAfter 4 "ProgramGate$Walker" "placeAfter" t_W_placeAfter R_W_placeAfter
abbrev R_W_judge : Room := { frames := 6, cells := 0, slots := 0, locals := 134 }
abbrev k_W_judge : xX → List (Nat × Value) → List Value → xw → Nat → Nat → Nat → Nat → xR → Prop := xK lb_W_judge 3 "ProgramGate$Walker" "judge" t_W_judge R_W_judge
abbrev R_G_walk : Room := { frames := 7, cells := 0, slots := 0, locals := 156 }
abbrev k_G_walk : xX → List (Nat × Value) → List Value → xw → Nat → Nat → Nat → Nat → xR → Prop := xK lb_G_walk 1 "ProgramGate" "walk" t_G_walk R_G_walk
abbrev R_G_steps : Room := { frames := 0, cells := 0, slots := 0, locals := 0 }
abbrev k_G_steps : xX → List (Nat × Value) → List Value → xw → Nat → Nat → Nat → Nat → xR → Prop := xK lb_G_steps 1 "ProgramGate" "steps" t_G_steps R_G_steps
abbrev R_G_ran : Room := { frames := 0, cells := 0, slots := 0, locals := 0 }
abbrev k_G_ran : xX → List (Nat × Value) → List Value → xw → Nat → Nat → Nat → Nat → xR → Prop := xK lb_G_ran 1 "ProgramGate" "ran" t_G_ran R_G_ran
abbrev R_K_told : Room := { frames := 1, cells := 0, slots := 0, locals := 20 }
abbrev k_K_told : xX → List (Nat × Value) → List Value → xw → Nat → Nat → Nat → Nat → xR → Prop := xK lb_K_told 2 "ProgramGate$Known" "told" t_K_told R_K_told
abbrev R_G_known : Room := { frames := 2, cells := 0, slots := 0, locals := 41 }
abbrev k_G_known : xX → List (Nat × Value) → List Value → xw → Nat → Nat → Nat → Nat → xR → Prop := xK lb_G_known 3 "ProgramGate" "known" t_G_known R_G_known
abbrev R_M_begin : Room := { frames := 0, cells := 0, slots := 0, locals := 0 }
abbrev k_M_begin : xX → List (Nat × Value) → List Value → xw → Nat → Nat → Nat → Nat → xR → Prop := xK lb_M_begin 3 "ProgramGate$Machine" "begin" t_M_begin R_M_begin
abbrev R_M_holds : Room := { frames := 1, cells := 0, slots := 0, locals := 20 }
abbrev k_M_holds : xX → List (Nat × Value) → List Value → xw → Nat → Nat → Nat → Nat → xR → Prop := xK lb_M_holds 3 "ProgramGate$Machine" "holds" t_M_holds R_M_holds
abbrev R_R_thrown : Room := { frames := 0, cells := 0, slots := 0, locals := 0 }
abbrev k_R_thrown : xX → List (Nat × Value) → List Value → xw → Nat → Nat → Nat → Nat → xR → Prop := xK lb_R_thrown 1 "ProgramGateModel" "thrown" t_R_thrown R_R_thrown
abbrev R_R_within : Room := { frames := 0, cells := 0, slots := 0, locals := 0 }
abbrev k_R_within : xX → List (Nat × Value) → List Value → xw → Nat → Nat → Nat → Nat → xR → Prop := xK lb_R_within 3 "ProgramGateModel" "within" t_R_within R_R_within
abbrev R_R_add : Room := { frames := 1, cells := 0, slots := 0, locals := 22 }
abbrev k_R_add : xX → List (Nat × Value) → List Value → xw → Nat → Nat → Nat → Nat → xR → Prop := xK lb_R_add 7 "ProgramGateModel" "add" t_R_add R_R_add
abbrev R_R_clear : Room := { frames := 0, cells := 0, slots := 0, locals := 0 }
abbrev k_R_clear : xX → List (Nat × Value) → List Value → xw → Nat → Nat → Nat → Nat → xR → Prop := xK lb_R_clear 2 "ProgramGateModel" "clear" t_R_clear R_R_clear
abbrev R_R_size : Room := { frames := 0, cells := 0, slots := 0, locals := 0 }
abbrev k_R_size : xX → List (Nat × Value) → List Value → xw → Nat → Nat → Nat → Nat → xR → Prop := xK lb_R_size 1 "ProgramGateModel" "size" t_R_size R_R_size
abbrev R_R_packet : Room := { frames := 1, cells := 0, slots := 0, locals := 22 }
abbrev k_R_packet : xX → List (Nat × Value) → List Value → xw → Nat → Nat → Nat → Nat → xR → Prop := xK lb_R_packet 7 "ProgramGateModel" "packet" t_R_packet R_R_packet
abbrev R_R_nothing : Room := { frames := 0, cells := 0, slots := 0, locals := 0 }
abbrev k_R_nothing : xX → List (Nat × Value) → List Value → xw → Nat → Nat → Nat → Nat → xR → Prop := xK lb_R_nothing 2 "ProgramGateModel" "nothing" t_R_nothing R_R_nothing
abbrev R_R_greater : Room := { frames := 0, cells := 0, slots := 0, locals := 0 }
abbrev k_R_greater : xX → List (Nat × Value) → List Value → xw → Nat → Nat → Nat → Nat → xR → Prop := xK lb_R_greater 4 "ProgramGateModel" "greater" t_R_greater R_R_greater
abbrev R_R_lesser : Room := { frames := 0, cells := 0, slots := 0, locals := 0 }
abbrev k_R_lesser : xX → List (Nat × Value) → List Value → xw → Nat → Nat → Nat → Nat → xR → Prop := xK lb_R_lesser 4 "ProgramGateModel" "lesser" t_R_lesser R_R_lesser
abbrev R_R_tighten : Room := { frames := 1, cells := 0, slots := 0, locals := 23 }
abbrev k_R_tighten : xX → List (Nat × Value) → List Value → xw → Nat → Nat → Nat → Nat → xR → Prop := xK lb_R_tighten 6 "ProgramGateModel" "tighten" t_R_tighten R_R_tighten
abbrev R_R_setUp : Room := { frames := 2, cells := 0, slots := 0, locals := 48 }
abbrev k_R_setUp : xX → List (Nat × Value) → List Value → xw → Nat → Nat → Nat → Nat → xR → Prop := xK lb_R_setUp 2 "ProgramGateModel" "setUp" t_R_setUp R_R_setUp
abbrev R_R_readsA : Room := { frames := 0, cells := 0, slots := 0, locals := 0 }
abbrev k_R_readsA : xX → List (Nat × Value) → List Value → xw → Nat → Nat → Nat → Nat → xR → Prop := xK lb_R_readsA 1 "ProgramGateModel" "readsA" t_R_readsA R_R_readsA
abbrev R_R_readsB : Room := { frames := 0, cells := 0, slots := 0, locals := 0 }
abbrev k_R_readsB : xX → List (Nat × Value) → List Value → xw → Nat → Nat → Nat → Nat → xR → Prop := xK lb_R_readsB 1 "ProgramGateModel" "readsB" t_R_readsB R_R_readsB
abbrev R_R_copy : Room := { frames := 0, cells := 0, slots := 0, locals := 0 }
abbrev k_R_copy : xX → List (Nat × Value) → List Value → xw → Nat → Nat → Nat → Nat → xR → Prop := xK lb_R_copy 3 "ProgramGateModel" "copy" t_R_copy R_R_copy
abbrev R_R_number : Room := { frames := 1, cells := 0, slots := 0, locals := 21 }
abbrev k_R_number : xX → List (Nat × Value) → List Value → xw → Nat → Nat → Nat → Nat → xR → Prop := xK lb_R_number 3 "ProgramGateModel" "number" t_R_number R_R_number
abbrev R_R_alarm : Room := { frames := 2, cells := 0, slots := 0, locals := 43 }
abbrev k_R_alarm : xX → List (Nat × Value) → List Value → xw → Nat → Nat → Nat → Nat → xR → Prop := xK lb_R_alarm 5 "ProgramGateModel" "alarm" t_R_alarm R_R_alarm
abbrev R_R_alike : Room := { frames := 2, cells := 0, slots := 0, locals := 48 }
abbrev k_R_alike : xX → List (Nat × Value) → List Value → xw → Nat → Nat → Nat → Nat → xR → Prop := xK lb_R_alike 2 "ProgramGateModel" "alike" t_R_alike R_R_alike
abbrev R_R_isExact : Room := { frames := 0, cells := 0, slots := 0, locals := 0 }
abbrev k_R_isExact : xX → List (Nat × Value) → List Value → xw → Nat → Nat → Nat → Nat → xR → Prop := xK lb_R_isExact 2 "ProgramGateModel" "isExact" t_R_isExact R_R_isExact
abbrev R_R_less : Room := { frames := 2, cells := 0, slots := 0, locals := 48 }
abbrev k_R_less : xX → List (Nat × Value) → List Value → xw → Nat → Nat → Nat → Nat → xR → Prop := xK lb_R_less 3 "ProgramGateModel" "less" t_R_less R_R_less
abbrev R_R_lessSigned : Room := { frames := 2, cells := 0, slots := 0, locals := 48 }
abbrev k_R_lessSigned : xX → List (Nat × Value) → List Value → xw → Nat → Nat → Nat → Nat → xR → Prop := xK lb_R_lessSigned 3 "ProgramGateModel" "lessSigned" t_R_lessSigned R_R_lessSigned
abbrev R_R_compare : Room := { frames := 3, cells := 0, slots := 0, locals := 70 }
abbrev k_R_compare : xX → List (Nat × Value) → List Value → xw → Nat → Nat → Nat → Nat → xR → Prop := xK lb_R_compare 3 "ProgramGateModel" "compare" t_R_compare R_R_compare
abbrev R_R_wait : Room := { frames := 1, cells := 0, slots := 0, locals := 22 }
abbrev k_R_wait : xX → List (Nat × Value) → List Value → xw → Nat → Nat → Nat → Nat → xR → Prop := xK lb_R_wait 5 "ProgramGateModel" "wait" t_R_wait R_R_wait
abbrev R_R_part : Room := { frames := 4, cells := 0, slots := 0, locals := 92 }
abbrev k_R_part : xX → List (Nat × Value) → List Value → xw → Nat → Nat → Nat → Nat → xR → Prop := xK lb_R_part 6 "ProgramGateModel" "part" t_R_part R_R_part
abbrev R_R_lowest : Room := { frames := 0, cells := 0, slots := 0, locals := 0 }
abbrev k_R_lowest : xX → List (Nat × Value) → List Value → xw → Nat → Nat → Nat → Nat → xR → Prop := xK lb_R_lowest 4 "ProgramGateModel" "lowest" t_R_lowest R_R_lowest
abbrev R_R_knows : Room := { frames := 0, cells := 0, slots := 0, locals := 0 }
abbrev k_R_knows : xX → List (Nat × Value) → List Value → xw → Nat → Nat → Nat → Nat → xR → Prop := xK lb_R_knows 3 "ProgramGateModel" "knows" t_R_knows R_R_knows
abbrev R_R_bitsOf : Room := { frames := 1, cells := 0, slots := 0, locals := 23 }
abbrev k_R_bitsOf : xX → List (Nat × Value) → List Value → xw → Nat → Nat → Nat → Nat → xR → Prop := xK lb_R_bitsOf 7 "ProgramGateModel" "bitsOf" t_R_bitsOf R_R_bitsOf
abbrev R_R_bound : Room := { frames := 0, cells := 0, slots := 0, locals := 0 }
abbrev k_R_bound : xX → List (Nat × Value) → List Value → xw → Nat → Nat → Nat → Nat → xR → Prop := xK lb_R_bound 5 "ProgramGateModel" "bound" t_R_bound R_R_bound
abbrev R_R_boundSigned : Room := { frames := 0, cells := 0, slots := 0, locals := 0 }
abbrev k_R_boundSigned : xX → List (Nat × Value) → List Value → xw → Nat → Nat → Nat → Nat → xR → Prop := xK lb_R_boundSigned 5 "ProgramGateModel" "boundSigned" t_R_boundSigned R_R_boundSigned
abbrev R_R_boundsOf : Room := { frames := 1, cells := 0, slots := 0, locals := 24 }
abbrev k_R_boundsOf : xX → List (Nat × Value) → List Value → xw → Nat → Nat → Nat → Nat → xR → Prop := xK lb_R_boundsOf 3 "ProgramGateModel" "boundsOf" t_R_boundsOf R_R_boundsOf
abbrev R_R_operate : Room := { frames := 2, cells := 0, slots := 0, locals := 49 }
abbrev k_R_operate : xX → List (Nat × Value) → List Value → xw → Nat → Nat → Nat → Nat → xR → Prop := xK lb_R_operate 4 "ProgramGateModel" "operate" t_R_operate R_R_operate
abbrev R_R_meet : Room := { frames := 1, cells := 0, slots := 0, locals := 23 }
abbrev k_R_meet : xX → List (Nat × Value) → List Value → xw → Nat → Nat → Nat → Nat → xR → Prop := xK lb_R_meet 3 "ProgramGateModel" "meet" t_R_meet R_R_meet
abbrev R_R_get : Room := { frames := 2, cells := 0, slots := 0, locals := 45 }
abbrev k_R_get : xX → List (Nat × Value) → List Value → xw → Nat → Nat → Nat → Nat → xR → Prop := xK lb_R_get 3 "ProgramGateModel" "get" t_R_get R_R_get
abbrev R_R_put : Room := { frames := 2, cells := 0, slots := 0, locals := 45 }
abbrev k_R_put : xX → List (Nat × Value) → List Value → xw → Nat → Nat → Nat → Nat → xR → Prop := xK lb_R_put 2 "ProgramGateModel" "put" t_R_put R_R_put
abbrev R_R_load : Room := { frames := 2, cells := 0, slots := 0, locals := 48 }
abbrev k_R_load : xX → List (Nat × Value) → List Value → xw → Nat → Nat → Nat → Nat → xR → Prop := xK lb_R_load 4 "ProgramGateModel" "load" t_R_load R_R_load
abbrev R_R_pass : Room := { frames := 5, cells := 0, slots := 0, locals := 117 }
abbrev k_R_pass : xX → List (Nat × Value) → List Value → xw → Nat → Nat → Nat → Nat → xR → Prop := xK lb_R_pass 6 "ProgramGateModel" "pass" t_R_pass R_R_pass
abbrev R_R_walk : Room := { frames := 6, cells := 0, slots := 0, locals := 142 }
abbrev k_R_walk : xX → List (Nat × Value) → List Value → xw → Nat → Nat → Nat → Nat → xR → Prop := xK lb_R_walk 4 "ProgramGateModel" "walk" t_R_walk R_R_walk
abbrev R_R_steps : Room := { frames := 0, cells := 0, slots := 0, locals := 0 }
abbrev k_R_steps : xX → List (Nat × Value) → List Value → xw → Nat → Nat → Nat → Nat → xR → Prop := xK lb_R_steps 1 "ProgramGateModel" "steps" t_R_steps R_R_steps
abbrev R_R_known : Room := { frames := 1, cells := 0, slots := 0, locals := 22 }
abbrev k_R_known : xX → List (Nat × Value) → List Value → xw → Nat → Nat → Nat → Nat → xR → Prop := xK lb_R_known 4 "ProgramGateModel" "known" t_R_known R_R_known
abbrev R_R_refuse : Room := { frames := 0, cells := 0, slots := 0, locals := 0 }
abbrev k_R_refuse : xX → List (Nat × Value) → List Value → xw → Nat → Nat → Nat → Nat → xR → Prop := xK lb_R_refuse 2 "ProgramGateModel" "refuse" t_R_refuse R_R_refuse
abbrev R_R_unsignedRest : Room := { frames := 0, cells := 0, slots := 0, locals := 0 }
abbrev k_R_unsignedRest : xX → List (Nat × Value) → List Value → xw → Nat → Nat → Nat → Nat → xR → Prop := xK lb_R_unsignedRest 2 "ProgramGateModel" "unsignedRest" t_R_unsignedRest R_R_unsignedRest
abbrev R_R_reckon : Room := { frames := 1, cells := 0, slots := 0, locals := 21 }
abbrev k_R_reckon : xX → List (Nat × Value) → List Value → xw → Nat → Nat → Nat → Nat → xR → Prop := xK lb_R_reckon 3 "ProgramGateModel" "reckon" t_R_reckon R_R_reckon
abbrev R_R_bytesAt : Room := { frames := 0, cells := 0, slots := 0, locals := 0 }
abbrev k_R_bytesAt : xX → List (Nat × Value) → List Value → xw → Nat → Nat → Nat → Nat → xR → Prop := xK lb_R_bytesAt 5 "ProgramGateModel" "bytesAt" t_R_bytesAt R_R_bytesAt
abbrev R_R_holds : Room := { frames := 0, cells := 0, slots := 0, locals := 0 }
abbrev k_R_holds : xX → List (Nat × Value) → List Value → xw → Nat → Nat → Nat → Nat → xR → Prop := xK lb_R_holds 5 "ProgramGateModel" "holds" t_R_holds R_R_holds
abbrev R_R_run : Room := { frames := 2, cells := 0, slots := 0, locals := 43 }
abbrev k_R_run : xX → List (Nat × Value) → List Value → xw → Nat → Nat → Nat → Nat → xR → Prop := xK lb_R_run 9 "ProgramGateModel" "run" t_R_run R_R_run
abbrev R_R_ran : Room := { frames := 0, cells := 0, slots := 0, locals := 0 }
abbrev k_R_ran : xX → List (Nat × Value) → List Value → xw → Nat → Nat → Nat → Nat → xR → Prop := xK lb_R_ran 1 "ProgramGateModel" "ran" t_R_ran R_R_ran
def f_I_init (l0 : Nat) : Option (Unit) :=
  some ()
def f_K_init (l0 : Nat) : Option (Unit) :=
  some ()
def f_I_allowed_b134 (s0 : Int32) : Option (Int32) :=
  xrZ0 s0
def f_I_allowed_b133 : Option (Int32) :=
  f_I_allowed_b134 ((0 : Int32))
def f_I_allowed_b129 : Option (Int32) :=
  f_I_allowed_b134 ((1 : Int32))
def f_I_allowed_b109 (l4 : Int32) (s0 : Int32) : Option (Int32) :=
  if s0 = 0 then
  f_I_allowed_b129
  else
  if l4 < (1 : Int32) then
    f_I_allowed_b133
    else
    if (23 : Int32) < l4 then
      f_I_allowed_b133
      else
      f_I_allowed_b129
def f_I_allowed_b108 (l4 : Int32) : Option (Int32) :=
  f_I_allowed_b109 l4 ((0 : Int32))
def f_I_allowed_b91 (s0 : Int32) : Option (Int32) :=
  xrZ0 s0
def f_I_allowed_b86 : Option (Int32) :=
  f_I_allowed_b91 ((1 : Int32))
def f_I_allowed_b62 (l0 : Int32) (l4 : Int32) : Option (Int32) :=
  if ¬ l0 = (14 : Int32) then
  if l0 < (15 : Int32) then
    f_I_allowed_b108 l4
    else
    if (22 : Int32) < l0 then
      f_I_allowed_b108 l4
      else
      f_I_allowed_b109 l4 ((1 : Int32))
  else
  if l4 = (1 : Int32) then
    f_I_allowed_b86
    else
    if l4 = (2 : Int32) then
      f_I_allowed_b86
      else
      if ¬ l4 = (4 : Int32) then
        f_I_allowed_b91 ((0 : Int32))
        else
        f_I_allowed_b86
def f_I_allowed_b60 : Option (Int32) :=
  xrZ0 (0 : Int32)
def f_I_allowed_b45 (l0 : Int32) (l2 : Int32) (l3 : Int32) (l4 : Int32) : Option (Int32) :=
  if l2 = (-1 : Int32) then
  f_I_allowed_b60
  else
  if l3 < 0 then
    f_I_allowed_b60
    else
    if l3 ≤ (16 : Int32) then
      f_I_allowed_b62 l0 l4
      else
      f_I_allowed_b60
def f_I_allowed_b31 : Option (Int32) :=
  xrZ0 (0 : Int32)
def f_I_allowed (l0 : Int32) (l1 : Int32) (l2 : Int32) (l3 : Int32) (l4 : Int32) : Option (Int32) :=
  if l0 < 0 then
  f_I_allowed_b31
  else
  if (23 : Int32) < l0 then
    f_I_allowed_b31
    else
    if l1 < 0 then
      f_I_allowed_b31
      else
      if (6 : Int32) ≤ l1 then
        f_I_allowed_b31
        else
        if l2 < (-1 : Int32) then
          f_I_allowed_b31
          else
          if l2 < (6 : Int32) then
            if l0 = (14 : Int32) then
              f_I_allowed_b45 l0 l2 l3 l4
              else
              if ¬ l0 = (15 : Int32) then
                f_I_allowed_b62 l0 l4
                else
                f_I_allowed_b45 l0 l2 l3 l4
            else
            f_I_allowed_b31
def f_I_become (w : xw) (l0 : Nat) (l1 : Int32) (l2 : Int32) (l3 : Int32) (l4 : Int32) (l5 : Int32) : Option (Unit × xw) :=
  (xpI w l0 1 0 l1).bind fun w1 =>
  (xpI w1 l0 1 1 l2).bind fun w2 =>
  (xpI w2 l0 1 2 l3).bind fun w3 =>
  (xpI w3 l0 1 3 l4).bind fun w4 =>
  (xpI w4 l0 1 4 l5).bind fun w5 =>
  some ((), w5)
def f_G_add_b25 (w : xw) : Option (Int32 × xw) :=
  some ((-1 : Int32), w)
def f_G_add (w : xw) (l0 : Nat) (l1 : Int32) (l2 : Int32) (l3 : Int32) (l4 : Int32) (l5 : Int32) : Option (Int32 × xw) :=
  (xfR w l0 0 0).bind fun a1 =>
  (xfI w a1 5 1).bind fun x2 =>
  if (24 : Int32) ≤ x2 then
  f_G_add_b25 w
  else
  (f_I_allowed l1 l2 l3 l4 l5).bind fun q3 =>
    if ¬ q3 = 0 then
    (xfR w l0 0 0).bind fun a4 =>
      (xfR w a4 5 0).bind fun a5 =>
      (xfR w l0 0 0).bind fun a6 =>
      (xfI w a6 5 1).bind fun x7 =>
      (xaR w a5 x7).bind fun a8 =>
      (xck w a8 1).bind fun _ =>
      (f_I_become w a8 l1 l2 l3 l4 l5).bind fun q9 =>
      (xfR q9.2 l0 0 0).bind fun a10 =>
      (xfI q9.2 a10 5 1).bind fun x11 =>
      (xpI q9.2 a10 5 1 (x11 + (1 : Int32))).bind fun w12 =>
      (xfR w12 l0 0 0).bind fun a13 =>
      (xfI w12 a13 5 1).bind fun x14 =>
      some (x14, w12)
    else
    f_G_add_b25 w
def f_G_clear (w : xw) (l0 : Nat) : Option (Int32 × xw) :=
  (xfR w l0 0 0).bind fun a1 =>
  (xfI w a1 5 1).bind fun x2 =>
  (xfR w l0 0 0).bind fun a3 =>
  (xpI w a3 5 1 (0 : Int32)).bind fun w4 =>
  some (x2, w4)
def f_G_size (w : xw) (l0 : Nat) : Option (Int32 × xw) :=
  (xfR w l0 0 0).bind fun a1 =>
  (xfI w a1 5 1).bind fun x2 =>
  some (x2, w)
def f_P_become_b28 (r9 : (xw → Nat → Int64 → Int64 → Int32 → Int32 → Option (Unit × xw))) (w : xw) (l0 : Nat) (l1 : Int64) (l3 : Int64) (l5 : Int32) (l6 : Int32) (s0 : Int64) : Option (Unit × xw) :=
  (xfR w l0 4 0).bind fun a1 =>
  if (8 : Int32) = 0 then none else
  (xsI w a1 l6 ((((s0.toUInt64 >>> (((8 : Int32) * (l6 - l6 / (8 : Int32) * (8 : Int32))).toInt64.toUInt64 &&& Int64.toUInt64 63)).toInt64).toInt32) &&& (255 : Int32))).bind fun w2 =>
  (some (l6 + (1 : Int32))).bind fun x3 =>
  r9 w2 l0 l1 l3 l5 x3
def f_P_become_s9 (r9 : (xw → Nat → Int64 → Int64 → Int32 → Int32 → Option (Unit × xw))) (w : xw) (l0 : Nat) (l1 : Int64) (l3 : Int64) (l5 : Int32) (l6 : Int32) : Option (Unit × xw) :=
  if l5 ≤ l6 then
  some ((), w)
  else
  if (8 : Int32) ≤ l6 then
    f_P_become_b28 r9 w l0 l1 l3 l5 l6 l3
    else
    f_P_become_b28 r9 w l0 l1 l3 l5 l6 l1
def f_P_become_b9 (n : Nat) : xw → Nat → Int64 → Int64 → Int32 → Int32 → Option (Unit × xw) := xfix (fun _ _ _ _ _ _ => none) (f_P_become_s9) n
def f_P_become (w : xw) (l0 : Nat) (l1 : Int64) (l3 : Int64) (l5 : Int32) : Option (Unit × xw) :=
  (xpI w l0 4 1 l5).bind fun w1 =>
  (some (0 : Int32)).bind fun x2 =>
  f_P_become_b9 4000 w1 l0 l1 l3 l5 x2
def f_G_packet_b12 (w : xw) : Option (Int32 × xw) :=
  xrZ (0 : Int32) w
def f_G_packet (w : xw) (l0 : Nat) (l1 : Int64) (l3 : Int64) (l5 : Int32) : Option (Int32 × xw) :=
  if l5 < 0 then
  f_G_packet_b12 w
  else
  if l5 ≤ (16 : Int32) then
    (xfR w l0 0 1).bind fun a1 =>
      (xck w a1 4).bind fun _ =>
      (f_P_become w a1 l1 l3 l5).bind fun q2 =>
      xrZ (1 : Int32) q2.2
    else
    f_G_packet_b12 w
def f_K_becomeNothing (w : xw) (l0 : Nat) : Option (Unit × xw) :=
  (xpZ w l0 2 0 (1 : Int32)).bind fun w1 =>
  (xpI w1 l0 2 1 (0 : Int32)).bind fun w2 =>
  (xpI w2 l0 2 2 (0 : Int32)).bind fun w3 =>
  (xpL w3 l0 2 3 (0 : Int64)).bind fun w4 =>
  (xpL w4 l0 2 4 (4294967295 : Int64)).bind fun w5 =>
  (xpL w5 l0 2 5 (-2147483648 : Int64)).bind fun w6 =>
  (xpL w6 l0 2 6 (2147483647 : Int64)).bind fun w7 =>
  (xpI w7 l0 2 7 (0 : Int32)).bind fun w8 =>
  some ((), w8)
def f_K_boundUnsigned (w : xw) (l0 : Nat) (l1 : Int64) (l3 : Int64) : Option (Unit × xw) :=
  (xpL w l0 2 3 l1).bind fun w1 =>
  (xpL w1 l0 2 4 l3).bind fun w2 =>
  some ((), w2)
def f_K_boundSigned (w : xw) (l0 : Nat) (l1 : Int64) (l3 : Int64) : Option (Unit × xw) :=
  (xpL w l0 2 5 l1).bind fun w1 =>
  (xpL w1 l0 2 6 l3).bind fun w2 =>
  some ((), w2)
def f_G_unsigned (l0 : Int32) : Option (Int64) :=
  some (l0.toInt64 &&& (4294967295 : Int64))
def f_jI_numberOfLeadingZeros_b73 (l0 : Int32) (l1 : Int32) : Option (Int32) :=
  some (l1 - ((l0.toUInt32 >>> ((1 : Int32).toUInt32 &&& Int32.toUInt32 31)).toInt32))
def f_jI_numberOfLeadingZeros_b61 (l0 : Int32) (l1 : Int32) : Option (Int32) :=
  if l0 < (4 : Int32) then
  f_jI_numberOfLeadingZeros_b73 l0 l1
  else
  (some (l1 + (-2 : Int32))).bind fun x1 =>
    (some ((l0.toUInt32 >>> ((2 : Int32).toUInt32 &&& Int32.toUInt32 31)).toInt32)).bind fun x2 =>
    f_jI_numberOfLeadingZeros_b73 x2 x1
def f_jI_numberOfLeadingZeros_b48 (l0 : Int32) (l1 : Int32) : Option (Int32) :=
  if l0 < (16 : Int32) then
  f_jI_numberOfLeadingZeros_b61 l0 l1
  else
  (some (l1 + (-4 : Int32))).bind fun x1 =>
    (some ((l0.toUInt32 >>> ((4 : Int32).toUInt32 &&& Int32.toUInt32 31)).toInt32)).bind fun x2 =>
    f_jI_numberOfLeadingZeros_b61 x2 x1
def f_jI_numberOfLeadingZeros_b33 (l0 : Int32) (l1 : Int32) : Option (Int32) :=
  if l0 < (256 : Int32) then
  f_jI_numberOfLeadingZeros_b48 l0 l1
  else
  (some (l1 + (-8 : Int32))).bind fun x1 =>
    (some ((l0.toUInt32 >>> ((8 : Int32).toUInt32 &&& Int32.toUInt32 31)).toInt32)).bind fun x2 =>
    f_jI_numberOfLeadingZeros_b48 x2 x1
def f_jI_numberOfLeadingZeros_b14 (s0 : Int32) : Option (Int32) :=
  some s0
def f_jI_numberOfLeadingZeros (l0 : Int32) : Option (Int32) :=
  if 0 < l0 then
  (some (31 : Int32)).bind fun x1 =>
    if l0 < (65536 : Int32) then
    f_jI_numberOfLeadingZeros_b33 l0 x1
    else
    (some (x1 + (-16 : Int32))).bind fun x2 =>
      (some ((l0.toUInt32 >>> ((16 : Int32).toUInt32 &&& Int32.toUInt32 31)).toInt32)).bind fun x3 =>
      f_jI_numberOfLeadingZeros_b33 x3 x2
  else
  if ¬ l0 = 0 then
    f_jI_numberOfLeadingZeros_b14 ((0 : Int32))
    else
    f_jI_numberOfLeadingZeros_b14 ((32 : Int32))
def f_jL_numberOfLeadingZeros_b25 (s0 : Int32) : Option (Int32) :=
  some s0
def f_jL_numberOfLeadingZeros (l0 : Int64) : Option (Int32) :=
  (some (((l0.toUInt64 >>> ((32 : Int32).toInt64.toUInt64 &&& Int64.toUInt64 63)).toInt64).toInt32)).bind fun x1 =>
  if ¬ x1 = 0 then
  (f_jI_numberOfLeadingZeros x1).bind fun q2 =>
    f_jL_numberOfLeadingZeros_b25 q2
  else
  (f_jI_numberOfLeadingZeros l0.toInt32).bind fun q3 =>
    f_jL_numberOfLeadingZeros_b25 ((32 : Int32) + q3)
def f_K_contradicts_b21 (w : xw) (s0 : Int32) : Option (Int32 × xw) :=
  xrZ s0 w
def f_K_contradicts (w : xw) (l0 : Nat) (l1 : Int32) (l2 : Int32) : Option (Int32 × xw) :=
  (xfI w l0 2 1).bind fun x1 =>
  (xfI w l0 2 2).bind fun x2 =>
  if ((x1 &&& l1) &&& (x2 ^^^ l2)) = 0 then
  f_K_contradicts_b21 w ((0 : Int32))
  else
  f_K_contradicts_b21 w ((1 : Int32))
def f_K_tighten_b239 (w : xw) : Option (Int32 × xw) :=
  xrZ (0 : Int32) w
def f_K_tighten_b181 (w : xw) (l0 : Nat) : Option (Int32 × xw) :=
  (xfL w l0 2 3).bind fun x1 =>
  (xfL w l0 2 4).bind fun x2 =>
  (f_jL_numberOfLeadingZeros (x1 ^^^ x2)).bind fun q3 =>
  (some (((-1 : Int64) <<< (((64 : Int32) - q3).toInt64 &&& 63)).toInt32)).bind fun x4 =>
  (xfL w l0 2 3).bind fun x5 =>
  (xfL w l0 2 4).bind fun x6 =>
  if x6 < x5 then
  f_K_tighten_b239 w
  else
  (xfL w l0 2 5).bind fun x7 =>
    (xfL w l0 2 6).bind fun x8 =>
    if x8 < x7 then
    f_K_tighten_b239 w
    else
    (xfL w l0 2 3).bind fun x9 =>
      (xck w l0 2).bind fun _ =>
      (f_K_contradicts w l0 x4 x9.toInt32).bind fun q10 =>
      if q10.1 = 0 then
      (xfI q10.2 l0 2 1).bind fun x11 =>
        (xpI q10.2 l0 2 1 (x11 ||| x4)).bind fun w12 =>
        (xfI w12 l0 2 2).bind fun x13 =>
        (xfL w12 l0 2 3).bind fun x14 =>
        (xpI w12 l0 2 2 (x13 ||| (x14.toInt32 &&& x4))).bind fun w15 =>
        xrZ (1 : Int32) w15
      else
      f_K_tighten_b239 q10.2
def f_K_tighten_b140 (w : xw) (l0 : Nat) (s0 : Int32) (s1 : Int32) : Option (Int32 × xw) :=
  if ¬ s0 = s1 then
  f_K_tighten_b181 w l0
  else
  (xfL w l0 2 3).bind fun x1 =>
    (xfL w l0 2 5).bind fun x2 =>
    (f_G_unsigned x2.toInt32).bind fun q3 =>
    (some (if q3 < x1 then x1 else q3)).bind fun q4 =>
    (xpL w l0 2 3 q4).bind fun w5 =>
    (xfL w5 l0 2 4).bind fun x6 =>
    (xfL w5 l0 2 6).bind fun x7 =>
    (f_G_unsigned x7.toInt32).bind fun q8 =>
    (some (if q8 < x6 then q8 else x6)).bind fun q9 =>
    (xpL w5 l0 2 4 q9).bind fun w10 =>
    f_K_tighten_b181 w10 l0
def f_K_tighten_b126 (w : xw) (l0 : Nat) (s0 : Int32) : Option (Int32 × xw) :=
  (xfL w l0 2 6).bind fun x1 =>
  if (0 : Int64) ≤ x1 then
  f_K_tighten_b140 w l0 s0 ((0 : Int32))
  else
  f_K_tighten_b140 w l0 s0 ((1 : Int32))
def f_K_tighten_b112 (w : xw) (l0 : Nat) : Option (Int32 × xw) :=
  (xfL w l0 2 5).bind fun x1 =>
  if (0 : Int64) ≤ x1 then
  f_K_tighten_b126 w l0 ((0 : Int32))
  else
  f_K_tighten_b126 w l0 ((1 : Int32))
def f_K_tighten_b75 (w : xw) (l0 : Nat) (s0 : Int32) (s1 : Int32) : Option (Int32 × xw) :=
  if ¬ s0 = s1 then
  f_K_tighten_b112 w l0
  else
  (xfL w l0 2 5).bind fun x1 =>
    (xfL w l0 2 3).bind fun x2 =>
    (some (if x2.toInt32.toInt64 < x1 then x1 else x2.toInt32.toInt64)).bind fun q3 =>
    (xpL w l0 2 5 q3).bind fun w4 =>
    (xfL w4 l0 2 6).bind fun x5 =>
    (xfL w4 l0 2 4).bind fun x6 =>
    (some (if x6.toInt32.toInt64 < x5 then x6.toInt32.toInt64 else x5)).bind fun q7 =>
    (xpL w4 l0 2 6 q7).bind fun w8 =>
    f_K_tighten_b112 w8 l0
def f_K_tighten_b59 (w : xw) (l0 : Nat) (s0 : Int32) : Option (Int32 × xw) :=
  (xfL w l0 2 4).bind fun x1 =>
  if (2147483648 : Int64) ≤ x1 then
  f_K_tighten_b75 w l0 s0 ((0 : Int32))
  else
  f_K_tighten_b75 w l0 s0 ((1 : Int32))
def f_K_tighten (w : xw) (l0 : Nat) : Option (Int32 × xw) :=
  (xfL w l0 2 3).bind fun x1 =>
  (xfI w l0 2 2).bind fun x2 =>
  (f_G_unsigned x2).bind fun q3 =>
  (some (if q3 < x1 then x1 else q3)).bind fun q4 =>
  (xpL w l0 2 3 q4).bind fun w5 =>
  (xfL w5 l0 2 4).bind fun x6 =>
  (xfI w5 l0 2 2).bind fun x7 =>
  (xfI w5 l0 2 1).bind fun x8 =>
  (f_G_unsigned (x7 ||| (x8 ^^^ (-1 : Int32)))).bind fun q9 =>
  (some (if q9 < x6 then q9 else x6)).bind fun q10 =>
  (xpL w5 l0 2 4 q10).bind fun w11 =>
  (xfL w11 l0 2 3).bind fun x12 =>
  if (2147483648 : Int64) ≤ x12 then
  f_K_tighten_b59 w11 l0 ((0 : Int32))
  else
  f_K_tighten_b59 w11 l0 ((1 : Int32))
def f_K_becomeUpTo (w : xw) (l0 : Nat) (l1 : Int32) : Option (Unit × xw) :=
  (xck w l0 2).bind fun _ =>
  (f_K_becomeNothing w l0).bind fun q1 =>
  (xck q1.2 l0 2).bind fun _ =>
  (f_K_boundUnsigned q1.2 l0 (0 : Int64) l1.toInt64).bind fun q2 =>
  (xck q2.2 l0 2).bind fun _ =>
  (f_K_boundSigned q2.2 l0 (0 : Int64) l1.toInt64).bind fun q3 =>
  (xck q3.2 l0 2).bind fun _ =>
  (f_K_tighten q3.2 l0).bind fun q4 =>
  some ((), q4.2)
def f_S_begin_s26 (r26 : (xw → Nat → Int32 → Option (Unit × xw))) (w : xw) (l0 : Nat) (l1 : Int32) : Option (Unit × xw) :=
  if (4 : Int32) ≤ l1 then
  (xfR w l0 6 0).bind fun a1 =>
    (xaR w a1 (1 : Int32)).bind fun a2 =>
    (xck w a2 2).bind fun _ =>
    (f_K_becomeUpTo w a2 (16 : Int32)).bind fun q3 =>
    (xfR q3.2 l0 6 0).bind fun a4 =>
    (xaR q3.2 a4 (2 : Int32)).bind fun a5 =>
    (xck q3.2 a5 2).bind fun _ =>
    (f_K_becomeNothing q3.2 a5).bind fun q6 =>
    some ((), q6.2)
  else
  (xfR w l0 6 1).bind fun a7 =>
    (xaR w a7 l1).bind fun a8 =>
    (xpZ w a8 2 0 (0 : Int32)).bind fun w9 =>
    (some (l1 + (1 : Int32))).bind fun x10 =>
    r26 w9 l0 x10
def f_S_begin_b26 (n : Nat) : xw → Nat → Int32 → Option (Unit × xw) := xfix (fun _ _ _ => none) (f_S_begin_s26) n
def f_S_begin_s2 (r2 : (xw → Nat → Int32 → Option (Unit × xw))) (w : xw) (l0 : Nat) (l1 : Int32) : Option (Unit × xw) :=
  if (6 : Int32) ≤ l1 then
  (some (0 : Int32)).bind fun x1 =>
    f_S_begin_b26 4000 w l0 x1
  else
  (xfR w l0 6 0).bind fun a2 =>
    (xaR w a2 l1).bind fun a3 =>
    (xpZ w a3 2 0 (0 : Int32)).bind fun w4 =>
    (some (l1 + (1 : Int32))).bind fun x5 =>
    r2 w4 l0 x5
def f_S_begin_b2 (n : Nat) : xw → Nat → Int32 → Option (Unit × xw) := xfix (fun _ _ _ => none) (f_S_begin_s2) n
def f_S_begin (w : xw) (l0 : Nat) : Option (Unit × xw) :=
  (some (0 : Int32)).bind fun x1 =>
  f_S_begin_b2 4000 w l0 x1
def f_W_begin_s19 (r19 : (xw → Nat → Int32 → Option (Unit × xw))) (w : xw) (l0 : Nat) (l1 : Int32) : Option (Unit × xw) :=
  if (24 : Int32) ≤ l1 then
  some ((), w)
  else
  (xfR w l0 7 3).bind fun a1 =>
    (xsZ w a1 l1 (0 : Int32)).bind fun w2 =>
    (some (l1 + (1 : Int32))).bind fun x3 =>
    r19 w2 l0 x3
def f_W_begin_b19 (n : Nat) : xw → Nat → Int32 → Option (Unit × xw) := xfix (fun _ _ _ => none) (f_W_begin_s19) n
def f_W_begin (w : xw) (l0 : Nat) : Option (Unit × xw) :=
  (xpI w l0 7 9 (0 : Int32)).bind fun w1 =>
  (xpZ w1 l0 7 8 (0 : Int32)).bind fun w2 =>
  (xfR w2 l0 7 1).bind fun a3 =>
  (xck w2 a3 6).bind fun _ =>
  (f_S_begin w2 a3).bind fun q4 =>
  (some (0 : Int32)).bind fun x5 =>
  f_W_begin_b19 4000 q4.2 l0 x5
def f_I_readsA_b49 (w : xw) (s0 : Int32) : Option (Int32 × xw) :=
  xrZ s0 w
def f_I_readsA_b48 (w : xw) : Option (Int32 × xw) :=
  f_I_readsA_b49 w ((0 : Int32))
def f_I_readsA_b44 (w : xw) : Option (Int32 × xw) :=
  f_I_readsA_b49 w ((1 : Int32))
def f_I_readsA_b17 (w : xw) (l0 : Nat) : Option (Int32 × xw) :=
  (xfI w l0 1 0).bind fun x1 =>
  if x1 = (13 : Int32) then
  f_I_readsA_b44 w
  else
  (xfI w l0 1 0).bind fun x2 =>
    if x2 < (16 : Int32) then
    f_I_readsA_b48 w
    else
    (xfI w l0 1 0).bind fun x3 =>
      if (21 : Int32) < x3 then
      f_I_readsA_b48 w
      else
      f_I_readsA_b44 w
def f_I_readsA (w : xw) (l0 : Nat) : Option (Int32 × xw) :=
  (xfI w l0 1 0).bind fun x1 =>
  if x1 < (1 : Int32) then
  f_I_readsA_b17 w l0
  else
  (xfI w l0 1 0).bind fun x2 =>
    if x2 ≤ (11 : Int32) then
    f_I_readsA_b44 w
    else
    f_I_readsA_b17 w l0
def f_I_readsB_b22 (w : xw) (s0 : Int32) : Option (Int32 × xw) :=
  xrZ s0 w
def f_I_readsB_b21 (w : xw) : Option (Int32 × xw) :=
  f_I_readsB_b22 w ((0 : Int32))
def f_I_readsB (w : xw) (l0 : Nat) : Option (Int32 × xw) :=
  (xfI w l0 1 2).bind fun x1 =>
  if x1 = (-1 : Int32) then
  f_I_readsB_b21 w
  else
  (xfI w l0 1 0).bind fun x2 =>
    if (21 : Int32) < x2 then
    f_I_readsB_b21 w
    else
    f_I_readsB_b22 w ((1 : Int32))
def f_W_readsUnset_b85 (w : xw) (s0 : Int32) : Option (Int32 × xw) :=
  xrZ s0 w
def f_W_readsUnset_b84 (w : xw) : Option (Int32 × xw) :=
  f_W_readsUnset_b85 w ((0 : Int32))
def f_W_readsUnset_b80 (w : xw) : Option (Int32 × xw) :=
  f_W_readsUnset_b85 w ((1 : Int32))
def f_W_readsUnset_b55 (w : xw) (l0 : Nat) (l1 : Nat) : Option (Int32 × xw) :=
  (xck w l1 1).bind fun _ =>
  (f_I_readsB w l1).bind fun q1 =>
  if q1.1 = 0 then
  f_W_readsUnset_b84 q1.2
  else
  (xfR q1.2 l0 7 1).bind fun a2 =>
    (xfR q1.2 a2 6 0).bind fun a3 =>
    (xfI q1.2 l1 1 2).bind fun x4 =>
    (xaR q1.2 a3 x4).bind fun a5 =>
    (xfI q1.2 a5 2 0).bind fun x6 =>
    if ¬ x6 = 0 then
    f_W_readsUnset_b84 q1.2
    else
    f_W_readsUnset_b80 q1.2
def f_W_readsUnset_b29 (w : xw) (s0 : Int32) : Option (Int32 × xw) :=
  xrZ s0 w
def f_W_readsUnset (w : xw) (l0 : Nat) (l1 : Nat) : Option (Int32 × xw) :=
  (xfI w l1 1 0).bind fun x1 =>
  if ¬ x1 = (23 : Int32) then
  (xck w l1 1).bind fun _ =>
    (f_I_readsA w l1).bind fun q2 =>
    if q2.1 = 0 then
    f_W_readsUnset_b55 q2.2 l0 l1
    else
    (xfR q2.2 l0 7 1).bind fun a3 =>
      (xfR q2.2 a3 6 0).bind fun a4 =>
      (xfI q2.2 l1 1 1).bind fun x5 =>
      (xaR q2.2 a4 x5).bind fun a6 =>
      (xfI q2.2 a6 2 0).bind fun x7 =>
      if x7 = 0 then
      f_W_readsUnset_b80 q2.2
      else
      f_W_readsUnset_b55 q2.2 l0 l1
  else
  (xfR w l0 7 1).bind fun a8 =>
    (xfR w a8 6 0).bind fun a9 =>
    (xaR w a9 (0 : Int32)).bind fun a10 =>
    (xfI w a10 2 0).bind fun x11 =>
    if ¬ x11 = 0 then
    f_W_readsUnset_b29 w ((0 : Int32))
    else
    f_W_readsUnset_b29 w ((1 : Int32))
def f_K_becomeNumber (w : xw) (l0 : Nat) (l1 : Int32) : Option (Unit × xw) :=
  (xck w l0 2).bind fun _ =>
  (f_K_becomeNothing w l0).bind fun q1 =>
  (xpI q1.2 l0 2 1 (-1 : Int32)).bind fun w2 =>
  (xpI w2 l0 2 2 l1).bind fun w3 =>
  (f_G_unsigned l1).bind fun q4 =>
  (f_G_unsigned l1).bind fun q5 =>
  (xck w3 l0 2).bind fun _ =>
  (f_K_boundUnsigned w3 l0 q4 q5).bind fun q6 =>
  (xck q6.2 l0 2).bind fun _ =>
  (f_K_boundSigned q6.2 l0 l1.toInt64 l1.toInt64).bind fun q7 =>
  some ((), q7.2)
def f_W_knownOfY (w : xw) (l0 : Nat) (l1 : Nat) : Option (Nat × xw) :=
  (xfI w l1 1 2).bind fun x1 =>
  if x1 = (-1 : Int32) then
  (xfR w l0 7 4).bind fun a2 =>
    (xfI w l1 1 3).bind fun x3 =>
    (xck w a2 2).bind fun _ =>
    (f_K_becomeNumber w a2 x3).bind fun q4 =>
    (xfR q4.2 l0 7 4).bind fun a5 =>
    some (a5, q4.2)
  else
  (xfR w l0 7 1).bind fun a6 =>
    (xfR w a6 6 0).bind fun a7 =>
    (xfI w l1 1 2).bind fun x8 =>
    (xaR w a7 x8).bind fun a9 =>
    some (a9, w)
def f_W_alarmOfPlaces_b59 (w : xw) : Option (Int32 × xw) :=
  some ((0 : Int32), w)
def f_W_alarmOfPlaces_s19 (r19 : (xw → Nat → Int32 → Nat → Int32 → Option (Int32 × xw))) (w : xw) (l0 : Nat) (l1 : Int32) (l2 : Nat) (l3 : Int32) : Option (Int32 × xw) :=
  if ¬ l1 = (12 : Int32) then
  f_W_alarmOfPlaces_b59 w
  else
  (xfL w l2 2 4).bind fun x1 =>
    if x1 < l3.toInt64 then
    f_W_alarmOfPlaces_b59 w
    else
    (xfR w l0 7 1).bind fun a2 =>
      (xfR w a2 6 1).bind fun a3 =>
      (xaR w a3 l3).bind fun a4 =>
      (xfI w a4 2 0).bind fun x5 =>
      if ¬ x5 = 0 then
      (some (l3 + (1 : Int32))).bind fun x6 =>
        r19 w l0 l1 l2 x6
      else
      some ((6 : Int32), w)
def f_W_alarmOfPlaces_b19 (n : Nat) : xw → Nat → Int32 → Nat → Int32 → Option (Int32 × xw) := xfix (fun _ _ _ _ _ => none) (f_W_alarmOfPlaces_s19) n
def f_W_alarmOfPlaces (w : xw) (l0 : Nat) (l1 : Int32) (l2 : Nat) : Option (Int32 × xw) :=
  (xfL w l2 2 4).bind fun x1 =>
  if x1 < (4 : Int64) then
  (xfL w l2 2 3).bind fun x2 =>
    f_W_alarmOfPlaces_b19 4000 w l0 l1 l2 x2.toInt32
  else
  some ((5 : Int32), w)
def f_W_alarmAt_b150 (w : xw) (s0 : Int32) : Option (Int32 × xw) :=
  some (s0, w)
def f_W_alarmAt_b103 (w : xw) (l0 : Nat) (l2 : Nat) : Option (Int32 × xw) :=
  (xfI w l2 1 0).bind fun x1 =>
  (xck w l0 7).bind fun _ =>
  (f_W_knownOfY w l0 l2).bind fun q2 =>
  (xck q2.2 l0 7).bind fun _ =>
  (f_W_alarmOfPlaces q2.2 l0 x1 q2.1).bind fun q3 =>
  some (q3.1, q3.2)
def f_W_alarmAt_b102 (w : xw) (s0 : Int32) : Option (Int32 × xw) :=
  some (s0, w)
def f_W_alarmAt_b84 (w : xw) (l0 : Nat) (l2 : Nat) : Option (Int32 × xw) :=
  (xck w l0 7).bind fun _ =>
  (f_W_knownOfY w l0 l2).bind fun q1 =>
  (xfL q1.2 q1.1 2 3).bind fun x2 =>
  if ¬ x2 = (0 : Int64) then
  f_W_alarmAt_b102 q1.2 ((0 : Int32))
  else
  f_W_alarmAt_b102 q1.2 ((4 : Int32))
def f_W_alarmAt (w : xw) (l0 : Nat) (l1 : Int32) : Option (Int32 × xw) :=
  (xfR w l0 7 0).bind fun a1 =>
  (xfI w a1 5 1).bind fun x2 =>
  if l1 < x2 then
  (xfI w l0 7 9).bind fun x3 =>
    if x3 ≤ (300 : Int32) then
    (xfR w l0 7 0).bind fun a4 =>
      (xfR w a4 5 0).bind fun a5 =>
      (xaR w a5 l1).bind fun a6 =>
      (xck w l0 7).bind fun _ =>
      (f_W_readsUnset w l0 a6).bind fun q7 =>
      if q7.1 = 0 then
      (xfI q7.2 a6 1 0).bind fun x8 =>
        if x8 = (10 : Int32) then
        f_W_alarmAt_b84 q7.2 l0 a6
        else if x8 = (11 : Int32) then
        f_W_alarmAt_b84 q7.2 l0 a6
        else if x8 = (12 : Int32) then
        f_W_alarmAt_b103 q7.2 l0 a6
        else if x8 = (13 : Int32) then
        f_W_alarmAt_b103 q7.2 l0 a6
        else if x8 = (14 : Int32) then
        (xfI q7.2 a6 1 3).bind fun x9 =>
          (xfI q7.2 a6 1 4).bind fun x10 =>
          (xfR q7.2 l0 7 1).bind fun a11 =>
          (xfR q7.2 a11 6 0).bind fun a12 =>
          (xfI q7.2 a6 1 2).bind fun x13 =>
          (xaR q7.2 a12 x13).bind fun a14 =>
          (xfI q7.2 a14 2 7).bind fun x15 =>
          if (x9 + x10) ≤ x15 then
          f_W_alarmAt_b150 q7.2 ((0 : Int32))
          else
          f_W_alarmAt_b150 q7.2 ((7 : Int32))
        else some ((0 : Int32), q7.2)
      else
      some ((3 : Int32), q7.2)
    else
    some ((2 : Int32), w)
  else
  some ((1 : Int32), w)
def f_K_take (w : xw) (l0 : Nat) (l1 : Nat) : Option (Unit × xw) :=
  (xfI w l1 2 0).bind fun x1 =>
  (xpZ w l0 2 0 x1).bind fun w2 =>
  (xfI w2 l1 2 1).bind fun x3 =>
  (xpI w2 l0 2 1 x3).bind fun w4 =>
  (xfI w4 l1 2 2).bind fun x5 =>
  (xpI w4 l0 2 2 x5).bind fun w6 =>
  (xfL w6 l1 2 3).bind fun x7 =>
  (xfL w6 l1 2 4).bind fun x8 =>
  (xck w6 l0 2).bind fun _ =>
  (f_K_boundUnsigned w6 l0 x7 x8).bind fun q9 =>
  (xfL q9.2 l1 2 5).bind fun x10 =>
  (xfL q9.2 l1 2 6).bind fun x11 =>
  (xck q9.2 l0 2).bind fun _ =>
  (f_K_boundSigned q9.2 l0 x10 x11).bind fun q12 =>
  (xfI q12.2 l1 2 7).bind fun x13 =>
  (xpI q12.2 l0 2 7 x13).bind fun w14 =>
  some ((), w14)
def f_S_take_s31 (r31 : (xw → Nat → Nat → Int32 → Option (Unit × xw))) (w : xw) (l0 : Nat) (l1 : Nat) (l2 : Int32) : Option (Unit × xw) :=
  if (4 : Int32) ≤ l2 then
  some ((), w)
  else
  (xfR w l0 6 1).bind fun a1 =>
    (xaR w a1 l2).bind fun a2 =>
    (xfR w l1 6 1).bind fun a3 =>
    (xaR w a3 l2).bind fun a4 =>
    (xck w a2 2).bind fun _ =>
    (f_K_take w a2 a4).bind fun q5 =>
    (some (l2 + (1 : Int32))).bind fun x6 =>
    r31 q5.2 l0 l1 x6
def f_S_take_b31 (n : Nat) : xw → Nat → Nat → Int32 → Option (Unit × xw) := xfix (fun _ _ _ _ => none) (f_S_take_s31) n
def f_S_take_s2 (r2 : (xw → Nat → Nat → Int32 → Option (Unit × xw))) (w : xw) (l0 : Nat) (l1 : Nat) (l2 : Int32) : Option (Unit × xw) :=
  if (6 : Int32) ≤ l2 then
  (some (0 : Int32)).bind fun x1 =>
    f_S_take_b31 4000 w l0 l1 x1
  else
  (xfR w l0 6 0).bind fun a2 =>
    (xaR w a2 l2).bind fun a3 =>
    (xfR w l1 6 0).bind fun a4 =>
    (xaR w a4 l2).bind fun a5 =>
    (xck w a3 2).bind fun _ =>
    (f_K_take w a3 a5).bind fun q6 =>
    (some (l2 + (1 : Int32))).bind fun x7 =>
    r2 q6.2 l0 l1 x7
def f_S_take_b2 (n : Nat) : xw → Nat → Nat → Int32 → Option (Unit × xw) := xfix (fun _ _ _ _ => none) (f_S_take_s2) n
def f_S_take (w : xw) (l0 : Nat) (l1 : Nat) : Option (Unit × xw) :=
  (some (0 : Int32)).bind fun x1 =>
  f_S_take_b2 4000 w l0 l1 x1
def f_W_resume_s3 (r3 : (xw → Nat → Int32 → Option (Int32 × xw))) (w : xw) (l0 : Nat) (l1 : Int32) : Option (Int32 × xw) :=
  if l1 < 0 then
  some ((-1 : Int32), w)
  else
  (xfR w l0 7 3).bind fun a1 =>
    (xaZ w a1 l1).bind fun x2 =>
    if x2 = 0 then
    (some (l1 + (-1 : Int32))).bind fun x3 =>
      r3 w l0 x3
    else
    (xfR w l0 7 3).bind fun a4 =>
      (xsZ w a4 l1 (0 : Int32)).bind fun w5 =>
      (xfR w5 l0 7 1).bind fun a6 =>
      (xfR w5 l0 7 2).bind fun a7 =>
      (xaR w5 a7 l1).bind fun a8 =>
      (xck w5 a6 6).bind fun _ =>
      (f_S_take w5 a6 a8).bind fun q9 =>
      (xfR q9.2 l0 7 0).bind fun a10 =>
      (xfR q9.2 a10 5 0).bind fun a11 =>
      (xaR q9.2 a11 l1).bind fun a12 =>
      (xfI q9.2 a12 1 4).bind fun x13 =>
      some ((l1 + (1 : Int32)) + x13, q9.2)
def f_W_resume_b3 (n : Nat) : xw → Nat → Int32 → Option (Int32 × xw) := xfix (fun _ _ _ => none) (f_W_resume_s3) n
def f_W_resume (w : xw) (l0 : Nat) : Option (Int32 × xw) :=
  (some (23 : Int32)).bind fun x1 =>
  f_W_resume_b3 4000 w l0 x1
def f_W_takePair (w : xw) (l0 : Nat) (l1 : Nat) : Option (Unit × xw) :=
  (xfR w l0 7 5).bind fun a1 =>
  (xfR w l0 7 1).bind fun a2 =>
  (xfR w a2 6 0).bind fun a3 =>
  (xfI w l1 1 1).bind fun x4 =>
  (xaR w a3 x4).bind fun a5 =>
  (xck w a1 2).bind fun _ =>
  (f_K_take w a1 a5).bind fun q6 =>
  (xfR q6.2 l0 7 6).bind fun a7 =>
  (xck q6.2 l0 7).bind fun _ =>
  (f_W_knownOfY q6.2 l0 l1).bind fun q8 =>
  (xck q8.2 a7 2).bind fun _ =>
  (f_K_take q8.2 a7 q8.1).bind fun q9 =>
  some ((), q9.2)
def f_K_join (w : xw) (l0 : Nat) (l1 : Nat) : Option (Int32 × xw) :=
  (xfI w l1 2 1).bind fun x1 =>
  (xfI w l1 2 2).bind fun x2 =>
  (xck w l0 2).bind fun _ =>
  (f_K_contradicts w l0 x1 x2).bind fun q3 =>
  if q3.1 = 0 then
  (xfI q3.2 l0 2 1).bind fun x4 =>
    (xfI q3.2 l1 2 1).bind fun x5 =>
    (xpI q3.2 l0 2 1 (x4 ||| x5)).bind fun w6 =>
    (xfI w6 l0 2 2).bind fun x7 =>
    (xfI w6 l1 2 2).bind fun x8 =>
    (xpI w6 l0 2 2 (x7 ||| x8)).bind fun w9 =>
    (xfL w9 l0 2 3).bind fun x10 =>
    (xfL w9 l1 2 3).bind fun x11 =>
    (some (if x11 < x10 then x10 else x11)).bind fun q12 =>
    (xfL w9 l0 2 4).bind fun x13 =>
    (xfL w9 l1 2 4).bind fun x14 =>
    (some (if x14 < x13 then x14 else x13)).bind fun q15 =>
    (xck w9 l0 2).bind fun _ =>
    (f_K_boundUnsigned w9 l0 q12 q15).bind fun q16 =>
    (xfL q16.2 l0 2 5).bind fun x17 =>
    (xfL q16.2 l1 2 5).bind fun x18 =>
    (some (if x18 < x17 then x17 else x18)).bind fun q19 =>
    (xfL q16.2 l0 2 6).bind fun x20 =>
    (xfL q16.2 l1 2 6).bind fun x21 =>
    (some (if x21 < x20 then x21 else x20)).bind fun q22 =>
    (xck q16.2 l0 2).bind fun _ =>
    (f_K_boundSigned q16.2 l0 q19 q22).bind fun q23 =>
    (xfI q23.2 l0 2 7).bind fun x24 =>
    (xfI q23.2 l1 2 7).bind fun x25 =>
    (some (if x24 < x25 then x25 else x24)).bind fun q26 =>
    (xpI q23.2 l0 2 7 q26).bind fun w27 =>
    xrZ (1 : Int32) w27
  else
  xrZ (0 : Int32) q3.2
def f_K_isExact_b17 (w : xw) (s0 : Int32) : Option (Int32 × xw) :=
  xrZ s0 w
def f_K_isExact (w : xw) (l0 : Nat) : Option (Int32 × xw) :=
  (xfL w l0 2 3).bind fun x1 =>
  (xfL w l0 2 4).bind fun x2 =>
  if ¬ x1 = x2 then
  f_K_isExact_b17 w ((0 : Int32))
  else
  f_K_isExact_b17 w ((1 : Int32))
def f_W_relate_b344 (w : xw) (s0 : Int32) : Option (Int32 × xw) :=
  xrZ s0 w
def f_W_relate_b343 (w : xw) : Option (Int32 × xw) :=
  f_W_relate_b344 w ((0 : Int32))
def f_W_relate_b319 (w : xw) (l0 : Nat) : Option (Int32 × xw) :=
  (xfR w l0 7 5).bind fun a1 =>
  (xck w a1 2).bind fun _ =>
  (f_K_tighten w a1).bind fun q2 =>
  if q2.1 = 0 then
  f_W_relate_b343 q2.2
  else
  (xfR q2.2 l0 7 6).bind fun a3 =>
    (xck q2.2 a3 2).bind fun _ =>
    (f_K_tighten q2.2 a3).bind fun q4 =>
    if q4.1 = 0 then
    f_W_relate_b343 q4.2
    else
    f_W_relate_b344 q4.2 ((1 : Int32))
def f_W_relate_b109 (w : xw) (s0 : Int32) : Option (Int32 × xw) :=
  xrZ s0 w
def f_W_relate_b104 (w : xw) : Option (Int32 × xw) :=
  f_W_relate_b109 w ((1 : Int32))
def f_W_relate (w : xw) (l0 : Nat) (l1 : Int32) : Option (Int32 × xw) :=
  if l1 = (16 : Int32) then
  (xfR w l0 7 5).bind fun a1 =>
    (xfR w l0 7 6).bind fun a2 =>
    (xck w a1 2).bind fun _ =>
    (f_K_join w a1 a2).bind fun q3 =>
    if ¬ q3.1 = 0 then
    (xfR q3.2 l0 7 6).bind fun a4 =>
      (xfR q3.2 l0 7 5).bind fun a5 =>
      (xck q3.2 a4 2).bind fun _ =>
      (f_K_take q3.2 a4 a5).bind fun q6 =>
      f_W_relate_b319 q6.2 l0
    else
    xrZ (0 : Int32) q3.2
  else if l1 = (17 : Int32) then
  (xfR w l0 7 5).bind fun a7 =>
    (xck w a7 2).bind fun _ =>
    (f_K_isExact w a7).bind fun q8 =>
    if q8.1 = 0 then
    f_W_relate_b104 q8.2
    else
    (xfR q8.2 l0 7 6).bind fun a9 =>
      (xck q8.2 a9 2).bind fun _ =>
      (f_K_isExact q8.2 a9).bind fun q10 =>
      if q10.1 = 0 then
      f_W_relate_b104 q10.2
      else
      (xfR q10.2 l0 7 5).bind fun a11 =>
        (xfL q10.2 a11 2 3).bind fun x12 =>
        (xfR q10.2 l0 7 6).bind fun a13 =>
        (xfL q10.2 a13 2 3).bind fun x14 =>
        if x12 = x14 then
        f_W_relate_b109 q10.2 ((0 : Int32))
        else
        f_W_relate_b104 q10.2
  else if l1 = (18 : Int32) then
  (xfR w l0 7 5).bind fun a15 =>
    (xfR w l0 7 5).bind fun a16 =>
    (xfL w a16 2 4).bind fun x17 =>
    (xfR w l0 7 6).bind fun a18 =>
    (xfL w a18 2 4).bind fun x19 =>
    (some (if (x19 - (1 : Int64)) < x17 then (x19 - (1 : Int64)) else x17)).bind fun q20 =>
    (xpL w a15 2 4 q20).bind fun w21 =>
    (xfR w21 l0 7 6).bind fun a22 =>
    (xfR w21 l0 7 6).bind fun a23 =>
    (xfL w21 a23 2 3).bind fun x24 =>
    (xfR w21 l0 7 5).bind fun a25 =>
    (xfL w21 a25 2 3).bind fun x26 =>
    (some (if (x26 + (1 : Int64)) < x24 then x24 else (x26 + (1 : Int64)))).bind fun q27 =>
    (xpL w21 a22 2 3 q27).bind fun w28 =>
    f_W_relate_b319 w28 l0
  else if l1 = (19 : Int32) then
  (xfR w l0 7 5).bind fun a29 =>
    (xfR w l0 7 5).bind fun a30 =>
    (xfL w a30 2 3).bind fun x31 =>
    (xfR w l0 7 6).bind fun a32 =>
    (xfL w a32 2 3).bind fun x33 =>
    (some (if x33 < x31 then x31 else x33)).bind fun q34 =>
    (xpL w a29 2 3 q34).bind fun w35 =>
    (xfR w35 l0 7 6).bind fun a36 =>
    (xfR w35 l0 7 6).bind fun a37 =>
    (xfL w35 a37 2 4).bind fun x38 =>
    (xfR w35 l0 7 5).bind fun a39 =>
    (xfL w35 a39 2 4).bind fun x40 =>
    (some (if x40 < x38 then x40 else x38)).bind fun q41 =>
    (xpL w35 a36 2 4 q41).bind fun w42 =>
    f_W_relate_b319 w42 l0
  else if l1 = (20 : Int32) then
  (xfR w l0 7 5).bind fun a43 =>
    (xfR w l0 7 5).bind fun a44 =>
    (xfL w a44 2 6).bind fun x45 =>
    (xfR w l0 7 6).bind fun a46 =>
    (xfL w a46 2 6).bind fun x47 =>
    (some (if (x47 - (1 : Int64)) < x45 then (x47 - (1 : Int64)) else x45)).bind fun q48 =>
    (xpL w a43 2 6 q48).bind fun w49 =>
    (xfR w49 l0 7 6).bind fun a50 =>
    (xfR w49 l0 7 6).bind fun a51 =>
    (xfL w49 a51 2 5).bind fun x52 =>
    (xfR w49 l0 7 5).bind fun a53 =>
    (xfL w49 a53 2 5).bind fun x54 =>
    (some (if (x54 + (1 : Int64)) < x52 then x52 else (x54 + (1 : Int64)))).bind fun q55 =>
    (xpL w49 a50 2 5 q55).bind fun w56 =>
    f_W_relate_b319 w56 l0
  else (xfR w l0 7 5).bind fun a57 =>
  (xfR w l0 7 5).bind fun a58 =>
  (xfL w a58 2 5).bind fun x59 =>
  (xfR w l0 7 6).bind fun a60 =>
  (xfL w a60 2 5).bind fun x61 =>
  (some (if x61 < x59 then x59 else x61)).bind fun q62 =>
  (xpL w a57 2 5 q62).bind fun w63 =>
  (xfR w63 l0 7 6).bind fun a64 =>
  (xfR w63 l0 7 6).bind fun a65 =>
  (xfL w63 a65 2 6).bind fun x66 =>
  (xfR w63 l0 7 5).bind fun a67 =>
  (xfL w63 a67 2 6).bind fun x68 =>
  (some (if x68 < x66 then x68 else x66)).bind fun q69 =>
  (xpL w63 a64 2 6 q69).bind fun w70 =>
  f_W_relate_b319 w70 l0
def f_W_givePair_b40 (w : xw) : Option (Unit × xw) :=
  some ((), w)
def f_W_givePair (w : xw) (l0 : Nat) (l1 : Nat) (l2 : Nat) : Option (Unit × xw) :=
  (xfR w l2 6 0).bind fun a1 =>
  (xfI w l1 1 1).bind fun x2 =>
  (xaR w a1 x2).bind fun a3 =>
  (xfR w l0 7 5).bind fun a4 =>
  (xck w a3 2).bind fun _ =>
  (f_K_take w a3 a4).bind fun q5 =>
  (xfI q5.2 l1 1 2).bind fun x6 =>
  if x6 = (-1 : Int32) then
  f_W_givePair_b40 q5.2
  else
  (xfR q5.2 l2 6 0).bind fun a7 =>
    (xfI q5.2 l1 1 2).bind fun x8 =>
    (xaR q5.2 a7 x8).bind fun a9 =>
    (xfR q5.2 l0 7 6).bind fun a10 =>
    (xck q5.2 a9 2).bind fun _ =>
    (f_K_take q5.2 a9 a10).bind fun q11 =>
    f_W_givePair_b40 q11.2
def f_W_part (w : xw) (l0 : Nat) (l1 : Nat) (l2 : Int32) : Option (Int32 × xw) :=
  (xfR w l0 7 2).bind fun a1 =>
  (xaR w a1 l2).bind fun a2 =>
  (xfR w l0 7 1).bind fun a3 =>
  (xck w a2 6).bind fun _ =>
  (f_S_take w a2 a3).bind fun q4 =>
  (xfI q4.2 l1 1 0).bind fun x5 =>
  if ¬ x5 = (15 : Int32) then
  (xck q4.2 l0 7).bind fun _ =>
    (f_W_takePair q4.2 l0 l1).bind fun q6 =>
    (xfR q6.2 l0 7 3).bind fun a7 =>
    (xfI q6.2 l1 1 0).bind fun x8 =>
    (xck q6.2 l0 7).bind fun _ =>
    (f_W_relate q6.2 l0 x8).bind fun q9 =>
    (xsZ q9.2 a7 l2 q9.1).bind fun w10 =>
    (xfR w10 l0 7 2).bind fun a11 =>
    (xaR w10 a11 l2).bind fun a12 =>
    (xck w10 l0 7).bind fun _ =>
    (f_W_givePair w10 l0 l1 a12).bind fun q13 =>
    (xck q13.2 l0 7).bind fun _ =>
    (f_W_takePair q13.2 l0 l1).bind fun q14 =>
    (xfI q14.2 l1 1 0).bind fun x15 =>
    (xck q14.2 l0 7).bind fun _ =>
    (f_W_relate q14.2 l0 (x15 ^^^ (1 : Int32))).bind fun q16 =>
    (xfR q16.2 l0 7 1).bind fun a17 =>
    (xck q16.2 l0 7).bind fun _ =>
    (f_W_givePair q16.2 l0 l1 a17).bind fun q18 =>
    xrZ q16.1 q18.2
  else
  (xfR q4.2 l0 7 3).bind fun a19 =>
    (xsZ q4.2 a19 l2 (1 : Int32)).bind fun w20 =>
    (xfR w20 l0 7 1).bind fun a21 =>
    (xfR w20 a21 6 0).bind fun a22 =>
    (xfI w20 l1 1 2).bind fun x23 =>
    (xaR w20 a22 x23).bind fun a24 =>
    (xfI w20 a24 2 7).bind fun x25 =>
    (xfI w20 l1 1 3).bind fun x26 =>
    (some (if x25 < x26 then x26 else x25)).bind fun q27 =>
    (xpI w20 a24 2 7 q27).bind fun w28 =>
    xrZ (1 : Int32) w28
def f_K_meet (w : xw) (l0 : Nat) (l1 : Nat) : Option (Unit × xw) :=
  (xfI w l0 2 1).bind fun x1 =>
  (xfI w l1 2 1).bind fun x2 =>
  (xfI w l0 2 2).bind fun x3 =>
  (xfI w l1 2 2).bind fun x4 =>
  (xpI w l0 2 1 ((x1 &&& x2) &&& ((x3 ^^^ x4) ^^^ (-1 : Int32)))).bind fun w5 =>
  (xfI w5 l0 2 2).bind fun x6 =>
  (xfI w5 l0 2 1).bind fun x7 =>
  (xpI w5 l0 2 2 (x6 &&& x7)).bind fun w8 =>
  (xfL w8 l0 2 3).bind fun x9 =>
  (xfL w8 l1 2 3).bind fun x10 =>
  (some (if x10 < x9 then x10 else x9)).bind fun q11 =>
  (xfL w8 l0 2 4).bind fun x12 =>
  (xfL w8 l1 2 4).bind fun x13 =>
  (some (if x13 < x12 then x12 else x13)).bind fun q14 =>
  (xck w8 l0 2).bind fun _ =>
  (f_K_boundUnsigned w8 l0 q11 q14).bind fun q15 =>
  (xfL q15.2 l0 2 5).bind fun x16 =>
  (xfL q15.2 l1 2 5).bind fun x17 =>
  (some (if x17 < x16 then x17 else x16)).bind fun q18 =>
  (xfL q15.2 l0 2 6).bind fun x19 =>
  (xfL q15.2 l1 2 6).bind fun x20 =>
  (some (if x20 < x19 then x19 else x20)).bind fun q21 =>
  (xck q15.2 l0 2).bind fun _ =>
  (f_K_boundSigned q15.2 l0 q18 q21).bind fun q22 =>
  (xfI q22.2 l0 2 7).bind fun x23 =>
  (xfI q22.2 l1 2 7).bind fun x24 =>
  (some (if x24 < x23 then x24 else x23)).bind fun q25 =>
  (xpI q22.2 l0 2 7 q25).bind fun w26 =>
  some ((), w26)
def f_W_fetch_s31 (r31 : (xw → Nat → Nat → Int32 → Int32 → Option (Unit × xw))) (w : xw) (l0 : Nat) (l1 : Nat) (l4 : Int32) (l5 : Int32) : Option (Unit × xw) :=
  if l4 < l5 then
  some ((), w)
  else
  (xfR w l0 7 1).bind fun a1 =>
    (xfR w a1 6 1).bind fun a2 =>
    (xaR w a2 l5).bind fun a3 =>
    (xck w l1 2).bind fun _ =>
    (f_K_meet w l1 a3).bind fun q4 =>
    (some (l5 + (1 : Int32))).bind fun x5 =>
    r31 q4.2 l0 l1 l4 x5
def f_W_fetch_b31 (n : Nat) : xw → Nat → Nat → Int32 → Int32 → Option (Unit × xw) := xfix (fun _ _ _ _ _ => none) (f_W_fetch_s31) n
def f_W_fetch (w : xw) (l0 : Nat) (l1 : Nat) (l2 : Nat) : Option (Unit × xw) :=
  (xfL w l2 2 3).bind fun x1 =>
  (xfL w l2 2 4).bind fun x2 =>
  (xfR w l0 7 1).bind fun a3 =>
  (xfR w a3 6 1).bind fun a4 =>
  (xaR w a4 x1.toInt32).bind fun a5 =>
  (xck w l1 2).bind fun _ =>
  (f_K_take w l1 a5).bind fun q6 =>
  (some (x1.toInt32 + (1 : Int32))).bind fun x7 =>
  f_W_fetch_b31 4000 q6.2 l0 l1 x2.toInt32 x7
def f_W_store_b69 (r31 : (xw → Nat → Nat → Nat → Int32 → Option (Unit × xw))) (w : xw) (l0 : Nat) (l1 : Nat) (l2 : Nat) (l3 : Int32) : Option (Unit × xw) :=
  (some (l3 + (1 : Int32))).bind fun x1 =>
  r31 w l0 l1 l2 x1
def f_W_store_s31 (r31 : (xw → Nat → Nat → Nat → Int32 → Option (Unit × xw))) (w : xw) (l0 : Nat) (l1 : Nat) (l2 : Nat) (l3 : Int32) : Option (Unit × xw) :=
  (xfL w l2 2 4).bind fun x1 =>
  if x1 < l3.toInt64 then
  some ((), w)
  else
  (xfR w l0 7 1).bind fun a2 =>
    (xfR w a2 6 1).bind fun a3 =>
    (xaR w a3 l3).bind fun a4 =>
    (xfI w a4 2 0).bind fun x5 =>
    if x5 = 0 then
    f_W_store_b69 r31 w l0 l1 l2 l3
    else
    (xfR w l0 7 1).bind fun a6 =>
      (xfR w a6 6 1).bind fun a7 =>
      (xaR w a7 l3).bind fun a8 =>
      (xck w a8 2).bind fun _ =>
      (f_K_meet w a8 l1).bind fun q9 =>
      f_W_store_b69 r31 q9.2 l0 l1 l2 l3
def f_W_store_b31 (n : Nat) : xw → Nat → Nat → Nat → Int32 → Option (Unit × xw) := xfix (fun _ _ _ _ _ => none) (f_W_store_s31) n
def f_W_store (w : xw) (l0 : Nat) (l1 : Nat) (l2 : Nat) : Option (Unit × xw) :=
  (xck w l2 2).bind fun _ =>
  (f_K_isExact w l2).bind fun q1 =>
  if q1.1 = 0 then
  (xfL q1.2 l2 2 3).bind fun x2 =>
    f_W_store_b31 4000 q1.2 l0 l1 l2 x2.toInt32
  else
  (xfR q1.2 l0 7 1).bind fun a3 =>
    (xfR q1.2 a3 6 1).bind fun a4 =>
    (xfL q1.2 l2 2 3).bind fun x5 =>
    (xaR q1.2 a4 x5.toInt32).bind fun a6 =>
    (xck q1.2 a6 2).bind fun _ =>
    (f_K_take q1.2 a6 l1).bind fun q7 =>
    some ((), q7.2)
def f_O_lowestBits (w : xw) (l0 : Nat) (l1 : Nat) : Option (Int32 × xw) :=
  (xfI w l0 2 1).bind fun x1 =>
  (xfI w l1 2 1).bind fun x2 =>
  (some ((x1 &&& x2) ^^^ (-1 : Int32))).bind fun x3 =>
  some ((x3 &&& (-x3)) - (1 : Int32), w)
def f_G_isInt_b21 (s0 : Int32) : Option (Int32) :=
  xrZ0 s0
def f_G_isInt_b20 : Option (Int32) :=
  f_G_isInt_b21 ((0 : Int32))
def f_G_isInt (l0 : Int64) : Option (Int32) :=
  if l0 < (-2147483648 : Int64) then
  f_G_isInt_b20
  else
  if (2147483647 : Int64) < l0 then
    f_G_isInt_b20
    else
    f_G_isInt_b21 ((1 : Int32))
def f_O_sum_b169 (w : xw) : Option (Unit × xw) :=
  some ((), w)
def f_O_sum_b117 (w : xw) (l0 : Nat) (l1 : Nat) (l2 : Nat) : Option (Unit × xw) :=
  (xck w l1 2).bind fun _ =>
  (f_K_isExact w l1).bind fun q1 =>
  if q1.1 = 0 then
  f_O_sum_b169 q1.2
  else
  (xfL q1.2 l1 2 3).bind fun x2 =>
    if (20 : Int64) < x2 then
    f_O_sum_b169 q1.2
    else
    (xfL q1.2 l0 2 4).bind fun x3 =>
      (xfL q1.2 l1 2 3).bind fun x4 =>
      if (4294967295 : Int64) < (x3 + x4) then
      f_O_sum_b169 q1.2
      else
      (xfI q1.2 l0 2 7).bind fun x5 =>
        (xfL q1.2 l1 2 3).bind fun x6 =>
        (some (if (x5 - x6.toInt32) < (0 : Int32) then (0 : Int32) else (x5 - x6.toInt32))).bind fun q7 =>
        (xpI q1.2 l2 2 7 q7).bind fun w8 =>
        f_O_sum_b169 w8
def f_O_sum_b65 (w : xw) (l0 : Nat) (l1 : Nat) (l2 : Nat) : Option (Unit × xw) :=
  (xfL w l0 2 5).bind fun x1 =>
  (xfL w l1 2 5).bind fun x2 =>
  (f_G_isInt (x1 + x2)).bind fun q3 =>
  if q3 = 0 then
  f_O_sum_b117 w l0 l1 l2
  else
  (xfL w l0 2 6).bind fun x4 =>
    (xfL w l1 2 6).bind fun x5 =>
    (f_G_isInt (x4 + x5)).bind fun q6 =>
    if q6 = 0 then
    f_O_sum_b117 w l0 l1 l2
    else
    (xfL w l0 2 5).bind fun x7 =>
      (xfL w l1 2 5).bind fun x8 =>
      (xfL w l0 2 6).bind fun x9 =>
      (xfL w l1 2 6).bind fun x10 =>
      (xck w l2 2).bind fun _ =>
      (f_K_boundSigned w l2 (x7 + x8) (x9 + x10)).bind fun q11 =>
      f_O_sum_b117 q11.2 l0 l1 l2
def f_O_sum (w : xw) (l0 : Nat) (l1 : Nat) (l2 : Nat) : Option (Unit × xw) :=
  (f_O_lowestBits w l0 l1).bind fun q1 =>
  (xpI q1.2 l2 2 1 q1.1).bind fun w2 =>
  (xfI w2 l0 2 2).bind fun x3 =>
  (xfI w2 l1 2 2).bind fun x4 =>
  (xfI w2 l2 2 1).bind fun x5 =>
  (xpI w2 l2 2 2 ((x3 + x4) &&& x5)).bind fun w6 =>
  (xfL w6 l0 2 4).bind fun x7 =>
  (xfL w6 l1 2 4).bind fun x8 =>
  if (4294967295 : Int64) < (x7 + x8) then
  f_O_sum_b65 w6 l0 l1 l2
  else
  (xfL w6 l0 2 3).bind fun x9 =>
    (xfL w6 l1 2 3).bind fun x10 =>
    (xfL w6 l0 2 4).bind fun x11 =>
    (xfL w6 l1 2 4).bind fun x12 =>
    (xck w6 l2 2).bind fun _ =>
    (f_K_boundUnsigned w6 l2 (x9 + x10) (x11 + x12)).bind fun q13 =>
    f_O_sum_b65 q13.2 l0 l1 l2
def f_O_difference_b115 (w : xw) : Option (Unit × xw) :=
  some ((), w)
def f_O_difference_b63 (w : xw) (l0 : Nat) (l1 : Nat) (l2 : Nat) : Option (Unit × xw) :=
  (xfL w l0 2 5).bind fun x1 =>
  (xfL w l1 2 6).bind fun x2 =>
  (f_G_isInt (x1 - x2)).bind fun q3 =>
  if q3 = 0 then
  f_O_difference_b115 w
  else
  (xfL w l0 2 6).bind fun x4 =>
    (xfL w l1 2 5).bind fun x5 =>
    (f_G_isInt (x4 - x5)).bind fun q6 =>
    if q6 = 0 then
    f_O_difference_b115 w
    else
    (xfL w l0 2 5).bind fun x7 =>
      (xfL w l1 2 6).bind fun x8 =>
      (xfL w l0 2 6).bind fun x9 =>
      (xfL w l1 2 5).bind fun x10 =>
      (xck w l2 2).bind fun _ =>
      (f_K_boundSigned w l2 (x7 - x8) (x9 - x10)).bind fun q11 =>
      f_O_difference_b115 q11.2
def f_O_difference (w : xw) (l0 : Nat) (l1 : Nat) (l2 : Nat) : Option (Unit × xw) :=
  (f_O_lowestBits w l0 l1).bind fun q1 =>
  (xpI q1.2 l2 2 1 q1.1).bind fun w2 =>
  (xfI w2 l0 2 2).bind fun x3 =>
  (xfI w2 l1 2 2).bind fun x4 =>
  (xfI w2 l2 2 1).bind fun x5 =>
  (xpI w2 l2 2 2 ((x3 - x4) &&& x5)).bind fun w6 =>
  (xfL w6 l0 2 3).bind fun x7 =>
  (xfL w6 l1 2 4).bind fun x8 =>
  if (x7 - x8) < (0 : Int64) then
  f_O_difference_b63 w6 l0 l1 l2
  else
  (xfL w6 l0 2 3).bind fun x9 =>
    (xfL w6 l1 2 4).bind fun x10 =>
    (xfL w6 l0 2 4).bind fun x11 =>
    (xfL w6 l1 2 3).bind fun x12 =>
    (xck w6 l2 2).bind fun _ =>
    (f_K_boundUnsigned w6 l2 (x9 - x10) (x11 - x12)).bind fun q13 =>
    f_O_difference_b63 q13.2 l0 l1 l2
def f_O_product_b66 (w : xw) : Option (Unit × xw) :=
  some ((), w)
def f_O_product (w : xw) (l0 : Nat) (l1 : Nat) (l2 : Nat) : Option (Unit × xw) :=
  (f_O_lowestBits w l0 l1).bind fun q1 =>
  (xpI q1.2 l2 2 1 q1.1).bind fun w2 =>
  (xfI w2 l0 2 2).bind fun x3 =>
  (xfI w2 l1 2 2).bind fun x4 =>
  (xfI w2 l2 2 1).bind fun x5 =>
  (xpI w2 l2 2 2 ((x3 * x4) &&& x5)).bind fun w6 =>
  (xfL w6 l0 2 4).bind fun x7 =>
  (xfL w6 l1 2 4).bind fun x8 =>
  if ¬ (((x7 * x8).toUInt64 >>> ((32 : Int32).toInt64.toUInt64 &&& Int64.toUInt64 63)).toInt64) = (0 : Int64) then
  f_O_product_b66 w6
  else
  (xfL w6 l0 2 3).bind fun x9 =>
    (xfL w6 l1 2 3).bind fun x10 =>
    (xfL w6 l0 2 4).bind fun x11 =>
    (xfL w6 l1 2 4).bind fun x12 =>
    (xck w6 l2 2).bind fun _ =>
    (f_K_boundUnsigned w6 l2 (x9 * x10) (x11 * x12)).bind fun q13 =>
    f_O_product_b66 q13.2
def f_K_zeros (w : xw) (l0 : Nat) : Option (Int32 × xw) :=
  (xfI w l0 2 1).bind fun x1 =>
  (xfI w l0 2 2).bind fun x2 =>
  some (x1 &&& (x2 ^^^ (-1 : Int32)), w)
def f_O_bothOnes (w : xw) (l0 : Nat) (l1 : Nat) (l2 : Nat) : Option (Unit × xw) :=
  (xfI w l0 2 2).bind fun x1 =>
  (xfI w l1 2 2).bind fun x2 =>
  (xpI w l2 2 2 (x1 &&& x2)).bind fun w3 =>
  (xfI w3 l2 2 2).bind fun x4 =>
  (xck w3 l0 2).bind fun _ =>
  (f_K_zeros w3 l0).bind fun q5 =>
  (xck q5.2 l1 2).bind fun _ =>
  (f_K_zeros q5.2 l1).bind fun q6 =>
  (xpI q6.2 l2 2 1 ((x4 ||| q5.1) ||| q6.1)).bind fun w7 =>
  (xfL w7 l0 2 4).bind fun x8 =>
  (xfL w7 l1 2 4).bind fun x9 =>
  (some (if x9 < x8 then x9 else x8)).bind fun q10 =>
  (xpL w7 l2 2 4 q10).bind fun w11 =>
  some ((), w11)
def f_O_eitherOne (w : xw) (l0 : Nat) (l1 : Nat) (l2 : Nat) : Option (Unit × xw) :=
  (xfI w l0 2 2).bind fun x1 =>
  (xfI w l1 2 2).bind fun x2 =>
  (xpI w l2 2 2 (x1 ||| x2)).bind fun w3 =>
  (xfI w3 l2 2 2).bind fun x4 =>
  (xck w3 l0 2).bind fun _ =>
  (f_K_zeros w3 l0).bind fun q5 =>
  (xck q5.2 l1 2).bind fun _ =>
  (f_K_zeros q5.2 l1).bind fun q6 =>
  (xpI q6.2 l2 2 1 (x4 ||| (q5.1 &&& q6.1))).bind fun w7 =>
  (xfL w7 l0 2 3).bind fun x8 =>
  (xfL w7 l1 2 3).bind fun x9 =>
  (some (if x9 < x8 then x8 else x9)).bind fun q10 =>
  (xpL w7 l2 2 3 q10).bind fun w11 =>
  some ((), w11)
def f_O_unlikeBits (w : xw) (l0 : Nat) (l1 : Nat) (l2 : Nat) : Option (Unit × xw) :=
  (xfI w l0 2 1).bind fun x1 =>
  (xfI w l1 2 1).bind fun x2 =>
  (xpI w l2 2 1 (x1 &&& x2)).bind fun w3 =>
  (xfI w3 l0 2 2).bind fun x4 =>
  (xfI w3 l1 2 2).bind fun x5 =>
  (xfI w3 l2 2 1).bind fun x6 =>
  (xpI w3 l2 2 2 ((x4 ^^^ x5) &&& x6)).bind fun w7 =>
  some ((), w7)
def f_O_quotient_b40 (w : xw) : Option (Unit × xw) :=
  some ((), w)
def f_O_quotient (w : xw) (l0 : Nat) (l1 : Nat) (l2 : Nat) : Option (Unit × xw) :=
  (xfL w l1 2 3).bind fun x1 =>
  if x1 ≤ (0 : Int64) then
  f_O_quotient_b40 w
  else
  (xfL w l1 2 4).bind fun x2 =>
    if x2 ≤ (0 : Int64) then
    f_O_quotient_b40 w
    else
    (xfL w l0 2 3).bind fun x3 =>
      (xfL w l1 2 4).bind fun x4 =>
      if x4 = 0 then none else
      (xfL w l0 2 4).bind fun x5 =>
      (xfL w l1 2 3).bind fun x6 =>
      if x6 = 0 then none else
      (xck w l2 2).bind fun _ =>
      (f_K_boundUnsigned w l2 (x3 / x4) (x5 / x6)).bind fun q7 =>
      f_O_quotient_b40 q7.2
def f_O_rest_b27 (w : xw) : Option (Unit × xw) :=
  some ((), w)
def f_O_rest (w : xw) (l0 : Nat) (l1 : Nat) (l2 : Nat) : Option (Unit × xw) :=
  (xfL w l1 2 3).bind fun x1 =>
  if x1 ≤ (0 : Int64) then
  f_O_rest_b27 w
  else
  (xfL w l0 2 4).bind fun x2 =>
    (xfL w l1 2 4).bind fun x3 =>
    (some (if (x3 - (1 : Int64)) < x2 then (x3 - (1 : Int64)) else x2)).bind fun q4 =>
    (xck w l2 2).bind fun _ =>
    (f_K_boundUnsigned w l2 (0 : Int64) q4).bind fun q5 =>
    f_O_rest_b27 q5.2
def f_O_shifted_b152 (w : xw) : Option (Unit × xw) :=
  some ((), w)
def f_O_shifted (w : xw) (l0 : Int32) (l1 : Nat) (l2 : Nat) (l3 : Nat) : Option (Unit × xw) :=
  (xck w l2 2).bind fun _ =>
  (f_K_isExact w l2).bind fun q1 =>
  if ¬ q1.1 = 0 then
  (xfL q1.2 l2 2 3).bind fun x2 =>
    (some (x2.toInt32 &&& (31 : Int32))).bind fun x3 =>
    if ¬ l0 = (7 : Int32) then
    if ¬ l0 = (8 : Int32) then
      (xfI q1.2 l1 2 1).bind fun x4 =>
        (xpI q1.2 l3 2 1 (x4 >>> (x3 &&& 31))).bind fun w5 =>
        (xfI w5 l1 2 2).bind fun x6 =>
        (xpI w5 l3 2 2 (x6 >>> (x3 &&& 31))).bind fun w7 =>
        (xfL w7 l1 2 5).bind fun x8 =>
        (xfL w7 l1 2 6).bind fun x9 =>
        (xck w7 l3 2).bind fun _ =>
        (f_K_boundSigned w7 l3 (x8 >>> (x3.toInt64 &&& 63)) (x9 >>> (x3.toInt64 &&& 63))).bind fun q10 =>
        f_O_shifted_b152 q10.2
      else
      (xfI q1.2 l1 2 1).bind fun x11 =>
        (xpI q1.2 l3 2 1 (((x11.toUInt32 >>> (x3.toUInt32 &&& Int32.toUInt32 31)).toInt32) ||| ((((-1 : Int32).toUInt32 >>> (x3.toUInt32 &&& Int32.toUInt32 31)).toInt32) ^^^ (-1 : Int32)))).bind fun w12 =>
        (xfI w12 l1 2 2).bind fun x13 =>
        (xpI w12 l3 2 2 ((x13.toUInt32 >>> (x3.toUInt32 &&& Int32.toUInt32 31)).toInt32)).bind fun w14 =>
        (xfL w14 l1 2 3).bind fun x15 =>
        (xfL w14 l1 2 4).bind fun x16 =>
        (xck w14 l3 2).bind fun _ =>
        (f_K_boundUnsigned w14 l3 ((x15.toUInt64 >>> (x3.toInt64.toUInt64 &&& Int64.toUInt64 63)).toInt64) ((x16.toUInt64 >>> (x3.toInt64.toUInt64 &&& Int64.toUInt64 63)).toInt64)).bind fun q17 =>
        f_O_shifted_b152 q17.2
    else
    (xfI q1.2 l1 2 1).bind fun x18 =>
      (xpI q1.2 l3 2 1 ((x18 <<< (x3 &&& 31)) ||| (((-1 : Int32) <<< (x3 &&& 31)) ^^^ (-1 : Int32)))).bind fun w19 =>
      (xfI w19 l1 2 2).bind fun x20 =>
      (xpI w19 l3 2 2 (x20 <<< (x3 &&& 31))).bind fun w21 =>
      f_O_shifted_b152 w21
  else
  some ((), q1.2)
def f_O_outcome_b143 (w : xw) (l3 : Nat) : Option (Int32 × xw) :=
  (xck w l3 2).bind fun _ =>
  (f_K_tighten w l3).bind fun q1 =>
  xrZ q1.1 q1.2
def f_O_outcome_b136 (w : xw) (l0 : Int32) (l1 : Nat) (l2 : Nat) (l3 : Nat) : Option (Int32 × xw) :=
  (f_O_shifted w l0 l1 l2 l3).bind fun q1 =>
  f_O_outcome_b143 q1.2 l3
def f_O_outcome (w : xw) (l0 : Int32) (l1 : Nat) (l2 : Nat) (l3 : Nat) : Option (Int32 × xw) :=
  (xck w l3 2).bind fun _ =>
  (f_K_becomeNothing w l3).bind fun q1 =>
  if l0 = (1 : Int32) then
  (f_O_sum q1.2 l1 l2 l3).bind fun q2 =>
    f_O_outcome_b143 q2.2 l3
  else if l0 = (2 : Int32) then
  (f_O_difference q1.2 l1 l2 l3).bind fun q3 =>
    f_O_outcome_b143 q3.2 l3
  else if l0 = (3 : Int32) then
  (f_O_product q1.2 l1 l2 l3).bind fun q4 =>
    f_O_outcome_b143 q4.2 l3
  else if l0 = (4 : Int32) then
  (f_O_bothOnes q1.2 l1 l2 l3).bind fun q5 =>
    f_O_outcome_b143 q5.2 l3
  else if l0 = (5 : Int32) then
  (f_O_eitherOne q1.2 l1 l2 l3).bind fun q6 =>
    f_O_outcome_b143 q6.2 l3
  else if l0 = (6 : Int32) then
  (f_O_unlikeBits q1.2 l1 l2 l3).bind fun q7 =>
    f_O_outcome_b143 q7.2 l3
  else if l0 = (7 : Int32) then
  f_O_outcome_b136 q1.2 l0 l1 l2 l3
  else if l0 = (8 : Int32) then
  f_O_outcome_b136 q1.2 l0 l1 l2 l3
  else if l0 = (9 : Int32) then
  f_O_outcome_b136 q1.2 l0 l1 l2 l3
  else if l0 = (10 : Int32) then
  (f_O_quotient q1.2 l1 l2 l3).bind fun q8 =>
    f_O_outcome_b143 q8.2 l3
  else if l0 = (11 : Int32) then
  (f_O_rest q1.2 l1 l2 l3).bind fun q9 =>
    f_O_outcome_b143 q9.2 l3
  else f_O_outcome_b136 q1.2 l0 l1 l2 l3
def f_W_change_b122 (w : xw) : Option (Int32 × xw) :=
  xrZ (1 : Int32) w
def f_W_change_b119 (w : xw) (s0 : Nat) (s1 : Int32) : Option (Int32 × xw) :=
  (xck w s0 2).bind fun _ =>
  (f_K_becomeUpTo w s0 s1).bind fun q1 =>
  f_W_change_b122 q1.2
def f_W_change (w : xw) (l0 : Nat) (l1 : Nat) : Option (Int32 × xw) :=
  (xfR w l0 7 1).bind fun a1 =>
  (xfR w a1 6 0).bind fun a2 =>
  (xfI w l1 1 1).bind fun x3 =>
  (xaR w a2 x3).bind fun a4 =>
  (xck w l0 7).bind fun _ =>
  (f_W_knownOfY w l0 l1).bind fun q5 =>
  (xfI q5.2 l1 1 0).bind fun x6 =>
  if x6 = (0 : Int32) then
  (xck q5.2 a4 2).bind fun _ =>
    (f_K_take q5.2 a4 q5.1).bind fun q7 =>
    xrZ (1 : Int32) q7.2
  else if x6 = (12 : Int32) then
  (xck q5.2 l0 7).bind fun _ =>
    (f_W_fetch q5.2 l0 a4 q5.1).bind fun q8 =>
    xrZ (1 : Int32) q8.2
  else if x6 = (13 : Int32) then
  (xck q5.2 l0 7).bind fun _ =>
    (f_W_store q5.2 l0 a4 q5.1).bind fun q9 =>
    xrZ (1 : Int32) q9.2
  else if x6 = (14 : Int32) then
  (xfI q5.2 l1 1 4).bind fun x10 =>
    if ¬ x10 = (4 : Int32) then
    (xfI q5.2 l1 1 4).bind fun x11 =>
      if ¬ x11 = (1 : Int32) then
      f_W_change_b119 q5.2 a4 ((65535 : Int32))
      else
      f_W_change_b119 q5.2 a4 ((255 : Int32))
    else
    (xck q5.2 a4 2).bind fun _ =>
      (f_K_becomeNothing q5.2 a4).bind fun q12 =>
      f_W_change_b122 q12.2
  else (xfI q5.2 l1 1 0).bind fun x13 =>
  (xfR q5.2 l0 7 5).bind fun a14 =>
  (f_O_outcome q5.2 x13 a4 q5.1 a14).bind fun q15 =>
  (xfR q15.2 l0 7 5).bind fun a16 =>
  (xck q15.2 a4 2).bind fun _ =>
  (f_K_take q15.2 a4 a16).bind fun q17 =>
  xrZ q15.1 q17.2
def f_W_placeAfter_b96 (w : xw) (s0 : Int32) : Option (Int32 × xw) :=
  some (s0, w)
def f_W_placeAfter_b81 (w : xw) (l0 : Nat) (l1 : Int32) (s0 : Int32) : Option (Int32 × xw) :=
  if s0 = 0 then
  (xck w l0 7).bind fun _ =>
    (f_W_resume w l0).bind fun q1 =>
    f_W_placeAfter_b96 q1.2 q1.1
  else
  f_W_placeAfter_b96 w (l1 + (1 : Int32))
def f_W_placeAfter (w : xw) (l0 : Nat) (l1 : Int32) : Option (Int32 × xw) :=
  (xfR w l0 7 0).bind fun a1 =>
  (xfR w a1 5 0).bind fun a2 =>
  (xaR w a2 l1).bind fun a3 =>
  (xfI w a3 1 0).bind fun x4 =>
  if ¬ x4 = (23 : Int32) then
  (xfI w a3 1 0).bind fun x5 =>
    if ¬ x5 = (22 : Int32) then
    (xfI w a3 1 0).bind fun x6 =>
      if x6 < (15 : Int32) then
      (xck w l0 7).bind fun _ =>
        (f_W_change w l0 a3).bind fun q7 =>
        f_W_placeAfter_b81 q7.2 l0 l1 q7.1
      else
      (xck w l0 7).bind fun _ =>
        (f_W_part w l0 a3 l1).bind fun q8 =>
        f_W_placeAfter_b81 q8.2 l0 l1 q8.1
    else
    (xfI w a3 1 4).bind fun x9 =>
      some ((l1 + (1 : Int32)) + x9, w)
  else
  (xfR w l0 7 7).bind fun a10 =>
    (xfR w l0 7 1).bind fun a11 =>
    (xck w a10 6).bind fun _ =>
    (f_S_take w a10 a11).bind fun q12 =>
    (xpZ q12.2 l0 7 8 (1 : Int32)).bind fun w13 =>
    (xck w13 l0 7).bind fun _ =>
    (f_W_resume w13 l0).bind fun q14 =>
    some (q14.1, q14.2)
def f_W_judge_b70 (w : xw) (s0 : Int32) : Option (Int32 × xw) :=
  some (s0, w)
def f_W_judge_b56 (w : xw) (l1 : Int32) (l2 : Int32) : Option (Int32 × xw) :=
  if ¬ l2 = 0 then
  f_W_judge_b70 w (((100 : Int32) * l2) + l1)
  else
  f_W_judge_b70 w ((0 : Int32))
def f_W_judge_s8 (r8 : (xw → Nat → Int32 → Int32 → Option (Int32 × xw))) (w : xw) (l0 : Nat) (l1 : Int32) (l2 : Int32) : Option (Int32 × xw) :=
  if l1 = (-1 : Int32) then
  f_W_judge_b56 w l1 l2
  else
  if ¬ l2 = 0 then
    f_W_judge_b56 w l1 l2
    else
    (xfI w l0 7 9).bind fun x1 =>
      if (300 : Int32) < x1 then
      f_W_judge_b56 w l1 l2
      else
      (xfI w l0 7 9).bind fun x2 =>
        (xpI w l0 7 9 (x2 + (1 : Int32))).bind fun w3 =>
        (xck w3 l0 7).bind fun _ =>
        (f_W_alarmAt w3 l0 l1).bind fun q4 =>
        if ¬ q4.1 = 0 then
        r8 q4.2 l0 l1 q4.1
        else
        (xck q4.2 l0 7).bind fun _ =>
          (f_W_placeAfter q4.2 l0 l1).bind fun q5 =>
          r8 q5.2 l0 q5.1 q4.1
def f_W_judge_b8 (n : Nat) : xw → Nat → Int32 → Int32 → Option (Int32 × xw) := xfix (fun _ _ _ _ => none) (f_W_judge_s8) n
def f_W_judge (w : xw) (l0 : Nat) : Option (Int32 × xw) :=
  (xck w l0 7).bind fun _ =>
  (f_W_begin w l0).bind fun q1 =>
  (some (0 : Int32)).bind fun x2 =>
  (some (0 : Int32)).bind fun x3 =>
  f_W_judge_b8 4000 q1.2 l0 x2 x3
def f_G_walk (w : xw) (l0 : Nat) : Option (Int32 × xw) :=
  (xfR w l0 0 2).bind fun a1 =>
  (xck w a1 7).bind fun _ =>
  (f_W_judge w a1).bind fun q2 =>
  some (q2.1, q2.2)
def f_G_steps (w : xw) (l0 : Nat) : Option (Int32 × xw) :=
  (xfR w l0 0 2).bind fun a1 =>
  (xfI w a1 7 9).bind fun x2 =>
  some (x2, w)
def f_G_ran (w : xw) (l0 : Nat) : Option (Int32 × xw) :=
  (xfR w l0 0 3).bind fun a1 =>
  (xfI w a1 3 4).bind fun x2 =>
  some (x2, w)
def f_K_told (w : xw) (l0 : Nat) (l1 : Int32) : Option (Int64 × xw) :=
  (xfI w l0 2 0).bind fun x1 =>
  if ¬ x1 = 0 then
  if l1 = (0 : Int32) then
    (xfI w l0 2 1).bind fun x2 =>
      (f_G_unsigned x2).bind fun q3 =>
      some (q3, w)
    else if l1 = (1 : Int32) then
    (xfI w l0 2 2).bind fun x4 =>
      (f_G_unsigned x4).bind fun q5 =>
      some (q5, w)
    else if l1 = (2 : Int32) then
    (xfL w l0 2 3).bind fun x6 =>
      some (x6, w)
    else if l1 = (3 : Int32) then
    (xfL w l0 2 4).bind fun x7 =>
      some (x7, w)
    else if l1 = (4 : Int32) then
    (xfL w l0 2 5).bind fun x8 =>
      some (x8, w)
    else if l1 = (5 : Int32) then
    (xfL w l0 2 6).bind fun x9 =>
      some (x9, w)
    else if l1 = (6 : Int32) then
    (xfI w l0 2 7).bind fun x10 =>
      some (x10.toInt64, w)
    else some ((4611686018427387904 : Int64), w)
  else
  some ((4611686018427387904 : Int64), w)
def f_G_known_b20 (w : xw) : Option (Int64 × xw) :=
  some ((4611686018427387904 : Int64), w)
def f_G_known (w : xw) (l0 : Nat) (l1 : Int32) (l2 : Int32) : Option (Int64 × xw) :=
  if l1 < 0 then
  f_G_known_b20 w
  else
  if (6 : Int32) ≤ l1 then
    f_G_known_b20 w
    else
    (xfR w l0 0 2).bind fun a1 =>
      (xfI w a1 7 8).bind fun x2 =>
      if ¬ x2 = 0 then
      (xfR w l0 0 2).bind fun a3 =>
        (xfR w a3 7 7).bind fun a4 =>
        (xfR w a4 6 0).bind fun a5 =>
        (xaR w a5 l1).bind fun a6 =>
        (xck w a6 2).bind fun _ =>
        (f_K_told w a6 l2).bind fun q7 =>
        some (q7.1, q7.2)
      else
      f_G_known_b20 w
def f_M_begin_s28 (r28 : (xw → Nat → Int32 → Int32 → Option (Unit × xw))) (w : xw) (l0 : Nat) (l1 : Int32) (l2 : Int32) : Option (Unit × xw) :=
  if (4 : Int32) ≤ l2 then
  (xfR w l0 3 2).bind fun a1 =>
    (xfR w l0 3 1).bind fun a2 =>
    (xfI w a2 4 1).bind fun x3 =>
    (xsI w a1 (1 : Int32) x3).bind fun w4 =>
    (xfR w4 l0 3 2).bind fun a5 =>
    (xsI w4 a5 (2 : Int32) l1).bind fun w6 =>
    some ((), w6)
  else
  (xfR w l0 3 3).bind fun a7 =>
    (xsI w a7 l2 (0 : Int32)).bind fun w8 =>
    (some (l2 + (1 : Int32))).bind fun x9 =>
    r28 w8 l0 l1 x9
def f_M_begin_b28 (n : Nat) : xw → Nat → Int32 → Int32 → Option (Unit × xw) := xfix (fun _ _ _ _ => none) (f_M_begin_s28) n
def f_M_begin_s7 (r7 : (xw → Nat → Int32 → Int32 → Option (Unit × xw))) (w : xw) (l0 : Nat) (l1 : Int32) (l2 : Int32) : Option (Unit × xw) :=
  if (6 : Int32) ≤ l2 then
  (some (0 : Int32)).bind fun x1 =>
    f_M_begin_b28 4000 w l0 l1 x1
  else
  (xfR w l0 3 2).bind fun a2 =>
    (xsI w a2 l2 (0 : Int32)).bind fun w3 =>
    (some (l2 + (1 : Int32))).bind fun x4 =>
    r7 w3 l0 l1 x4
def f_M_begin_b7 (n : Nat) : xw → Nat → Int32 → Int32 → Option (Unit × xw) := xfix (fun _ _ _ _ => none) (f_M_begin_s7) n
def f_M_begin (w : xw) (l0 : Nat) (l1 : Int32) : Option (Unit × xw) :=
  (xpI w l0 3 4 (0 : Int32)).bind fun w1 =>
  (some (0 : Int32)).bind fun x2 =>
  f_M_begin_b7 4000 w1 l0 l1 x2
def f_M_holds_b115 (s0 : Int32) : Option (Int32) :=
  xrZ0 s0
def f_M_holds_b104 (s0 : Int32) : Option (Int32) :=
  xrZ0 s0
def f_M_holds_b93 (s0 : Int32) : Option (Int32) :=
  xrZ0 s0
def f_M_holds_b75 (s0 : Int32) : Option (Int32) :=
  xrZ0 s0
def f_M_holds_b57 (s0 : Int32) : Option (Int32) :=
  xrZ0 s0
def f_M_holds_b46 (s0 : Int32) : Option (Int32) :=
  xrZ0 s0
def f_M_holds (l0 : Int32) (l1 : Int32) (l2 : Int32) : Option (Int32) :=
  if l0 = (16 : Int32) then
  if ¬ l1 = l2 then
    f_M_holds_b46 ((0 : Int32))
    else
    f_M_holds_b46 ((1 : Int32))
  else if l0 = (17 : Int32) then
  if l1 = l2 then
    f_M_holds_b57 ((0 : Int32))
    else
    f_M_holds_b57 ((1 : Int32))
  else if l0 = (18 : Int32) then
  (f_G_unsigned l1).bind fun q1 =>
    (f_G_unsigned l2).bind fun q2 =>
    if q2 ≤ q1 then
    f_M_holds_b75 ((0 : Int32))
    else
    f_M_holds_b75 ((1 : Int32))
  else if l0 = (19 : Int32) then
  (f_G_unsigned l1).bind fun q3 =>
    (f_G_unsigned l2).bind fun q4 =>
    if q3 < q4 then
    f_M_holds_b93 ((0 : Int32))
    else
    f_M_holds_b93 ((1 : Int32))
  else if l0 = (20 : Int32) then
  if l2 ≤ l1 then
    f_M_holds_b104 ((0 : Int32))
    else
    f_M_holds_b104 ((1 : Int32))
  else if l1 < l2 then
  f_M_holds_b115 ((0 : Int32))
  else
  f_M_holds_b115 ((1 : Int32))
def f_R_thrown (w : xw) (l0 : Nat) : Option (Int32 × xw) :=
  (xfI w l0 8 0).bind fun x1 =>
  some (x1, w)
def f_R_within_b15 (s0 : Int32) : Option (Int32) :=
  xrZ0 s0
def f_R_within_b14 : Option (Int32) :=
  f_R_within_b15 ((0 : Int32))
def f_R_within (l0 : Int32) (l1 : Int32) (l2 : Int32) : Option (Int32) :=
  if l0 < l1 then
  f_R_within_b14
  else
  if l2 < l0 then
    f_R_within_b14
    else
    f_R_within_b15 ((1 : Int32))
def f_R_add_b162 (w : xw) (l0 : Nat) (l1 : Int32) (l2 : Int32) (l3 : Int32) (l4 : Int32) (l5 : Int32) (l6 : Int32) : Option (Int32 × xw) :=
  if ¬ l6 = 0 then
  (xfR w l0 8 2).bind fun a1 =>
    (xfI w l0 8 1).bind fun x2 =>
    (xsI w a1 x2 l1).bind fun w3 =>
    (xfR w3 l0 8 3).bind fun a4 =>
    (xfI w3 l0 8 1).bind fun x5 =>
    (xsI w3 a4 x5 l2).bind fun w6 =>
    (xfR w6 l0 8 4).bind fun a7 =>
    (xfI w6 l0 8 1).bind fun x8 =>
    (xsI w6 a7 x8 l3).bind fun w9 =>
    (xfR w9 l0 8 5).bind fun a10 =>
    (xfI w9 l0 8 1).bind fun x11 =>
    (xsI w9 a10 x11 l4).bind fun w12 =>
    (xfR w12 l0 8 6).bind fun a13 =>
    (xfI w12 l0 8 1).bind fun x14 =>
    (xsI w12 a13 x14 l5).bind fun w15 =>
    (xfI w15 l0 8 1).bind fun x16 =>
    (xpI w15 l0 8 1 (x16 + (1 : Int32))).bind fun w17 =>
    (xfI w17 l0 8 1).bind fun x18 =>
    some (x18, w17)
  else
  some ((-1 : Int32), w)
def f_R_add_b160 (w : xw) (l0 : Nat) (l1 : Int32) (l2 : Int32) (l3 : Int32) (l4 : Int32) (l5 : Int32) (s0 : Int32) : Option (Int32 × xw) :=
  f_R_add_b162 w l0 l1 l2 l3 l4 l5 s0
def f_R_add_b159 (w : xw) (l0 : Nat) (l1 : Int32) (l2 : Int32) (l3 : Int32) (l4 : Int32) (l5 : Int32) : Option (Int32 × xw) :=
  f_R_add_b160 w l0 l1 l2 l3 l4 l5 ((0 : Int32))
def f_R_add_b122 (w : xw) (l0 : Nat) (l1 : Int32) (l2 : Int32) (l3 : Int32) (l4 : Int32) (l5 : Int32) (s0 : Int32) : Option (Int32 × xw) :=
  f_R_add_b162 w l0 l1 l2 l3 l4 l5 s0
def f_R_add_b121 (w : xw) (l0 : Nat) (l1 : Int32) (l2 : Int32) (l3 : Int32) (l4 : Int32) (l5 : Int32) : Option (Int32 × xw) :=
  f_R_add_b122 w l0 l1 l2 l3 l4 l5 ((0 : Int32))
def f_R_add_b117 (w : xw) (l0 : Nat) (l1 : Int32) (l2 : Int32) (l3 : Int32) (l4 : Int32) (l5 : Int32) : Option (Int32 × xw) :=
  f_R_add_b122 w l0 l1 l2 l3 l4 l5 ((1 : Int32))
def f_R_add_b88 (w : xw) (l0 : Nat) (l1 : Int32) (l2 : Int32) (l3 : Int32) (l4 : Int32) (l5 : Int32) (l6 : Int32) : Option (Int32 × xw) :=
  if ¬ l1 = (14 : Int32) then
  if l1 < (15 : Int32) then
    f_R_add_b162 w l0 l1 l2 l3 l4 l5 l6
    else
    if (22 : Int32) < l1 then
      f_R_add_b162 w l0 l1 l2 l3 l4 l5 l6
      else
      if l6 = 0 then
        f_R_add_b159 w l0 l1 l2 l3 l4 l5
        else
        (f_R_within l5 (1 : Int32) (23 : Int32)).bind fun q1 =>
          if q1 = 0 then
          f_R_add_b159 w l0 l1 l2 l3 l4 l5
          else
          f_R_add_b160 w l0 l1 l2 l3 l4 l5 ((1 : Int32))
  else
  if l6 = 0 then
    f_R_add_b121 w l0 l1 l2 l3 l4 l5
    else
    if l5 = (1 : Int32) then
      f_R_add_b117 w l0 l1 l2 l3 l4 l5
      else
      if l5 = (2 : Int32) then
        f_R_add_b117 w l0 l1 l2 l3 l4 l5
        else
        if ¬ l5 = (4 : Int32) then
          f_R_add_b121 w l0 l1 l2 l3 l4 l5
          else
          f_R_add_b117 w l0 l1 l2 l3 l4 l5
def f_R_add_b86 (w : xw) (l0 : Nat) (l1 : Int32) (l2 : Int32) (l3 : Int32) (l4 : Int32) (l5 : Int32) (s0 : Int32) : Option (Int32 × xw) :=
  f_R_add_b88 w l0 l1 l2 l3 l4 l5 s0
def f_R_add_b85 (w : xw) (l0 : Nat) (l1 : Int32) (l2 : Int32) (l3 : Int32) (l4 : Int32) (l5 : Int32) : Option (Int32 × xw) :=
  f_R_add_b86 w l0 l1 l2 l3 l4 l5 ((0 : Int32))
def f_R_add_b61 (w : xw) (l0 : Nat) (l1 : Int32) (l2 : Int32) (l3 : Int32) (l4 : Int32) (l5 : Int32) (l6 : Int32) : Option (Int32 × xw) :=
  if l6 = 0 then
  f_R_add_b85 w l0 l1 l2 l3 l4 l5
  else
  if l3 < 0 then
    f_R_add_b85 w l0 l1 l2 l3 l4 l5
    else
    (f_R_within l4 (0 : Int32) (16 : Int32)).bind fun q1 =>
      if q1 = 0 then
      f_R_add_b85 w l0 l1 l2 l3 l4 l5
      else
      f_R_add_b86 w l0 l1 l2 l3 l4 l5 ((1 : Int32))
def f_R_add_b47 (w : xw) (l0 : Nat) (l1 : Int32) (l2 : Int32) (l3 : Int32) (l4 : Int32) (l5 : Int32) (s0 : Int32) : Option (Int32 × xw) :=
  if l1 = (14 : Int32) then
  f_R_add_b61 w l0 l1 l2 l3 l4 l5 s0
  else
  if ¬ l1 = (15 : Int32) then
    f_R_add_b88 w l0 l1 l2 l3 l4 l5 s0
    else
    f_R_add_b61 w l0 l1 l2 l3 l4 l5 s0
def f_R_add_b46 (w : xw) (l0 : Nat) (l1 : Int32) (l2 : Int32) (l3 : Int32) (l4 : Int32) (l5 : Int32) : Option (Int32 × xw) :=
  f_R_add_b47 w l0 l1 l2 l3 l4 l5 ((0 : Int32))
def f_R_add (w : xw) (l0 : Nat) (l1 : Int32) (l2 : Int32) (l3 : Int32) (l4 : Int32) (l5 : Int32) : Option (Int32 × xw) :=
  (xpI w l0 8 0 (0 : Int32)).bind fun w1 =>
  (xfI w1 l0 8 1).bind fun x2 =>
  if (24 : Int32) ≤ x2 then
  f_R_add_b46 w1 l0 l1 l2 l3 l4 l5
  else
  (f_R_within l1 (0 : Int32) (23 : Int32)).bind fun q3 =>
    if q3 = 0 then
    f_R_add_b46 w1 l0 l1 l2 l3 l4 l5
    else
    (f_R_within l2 (0 : Int32) (5 : Int32)).bind fun q4 =>
      if q4 = 0 then
      f_R_add_b46 w1 l0 l1 l2 l3 l4 l5
      else
      (f_R_within l3 (-1 : Int32) (5 : Int32)).bind fun q5 =>
        if q5 = 0 then
        f_R_add_b46 w1 l0 l1 l2 l3 l4 l5
        else
        f_R_add_b47 w1 l0 l1 l2 l3 l4 l5 ((1 : Int32))
def f_R_clear (w : xw) (l0 : Nat) : Option (Int32 × xw) :=
  (xpI w l0 8 0 (0 : Int32)).bind fun w1 =>
  (xfI w1 l0 8 1).bind fun x2 =>
  (xpI w1 l0 8 1 (0 : Int32)).bind fun w3 =>
  some (x2, w3)
def f_R_size (w : xw) (l0 : Nat) : Option (Int32 × xw) :=
  (xpI w l0 8 0 (0 : Int32)).bind fun w1 =>
  (xfI w1 l0 8 1).bind fun x2 =>
  some (x2, w1)
def f_R_packet_b67 (r27 : (xw → Nat → Int64 → Int64 → Int32 → Int32 → Option (Int32 × xw))) (w : xw) (l0 : Nat) (l1 : Int64) (l3 : Int64) (l5 : Int32) (l6 : Int32) (s0 : Nat) (s1 : Int32) (s2 : Int64) : Option (Int32 × xw) :=
  (xsI w s0 s1 ((s2 &&& (255 : Int64)).toInt32)).bind fun w1 =>
  (some (l6 + (1 : Int32))).bind fun x2 =>
  r27 w1 l0 l1 l3 l5 x2
def f_R_packet_s27 (r27 : (xw → Nat → Int64 → Int64 → Int32 → Int32 → Option (Int32 × xw))) (w : xw) (l0 : Nat) (l1 : Int64) (l3 : Int64) (l5 : Int32) (l6 : Int32) : Option (Int32 × xw) :=
  if l5 ≤ l6 then
  xrZ (1 : Int32) w
  else
  (xfR w l0 8 8).bind fun a1 =>
    if (8 : Int32) ≤ l6 then
    f_R_packet_b67 r27 w l0 l1 l3 l5 l6 a1 l6 (l3 >>> (((8 : Int32) * (l6 - (8 : Int32))).toInt64 &&& 63))
    else
    f_R_packet_b67 r27 w l0 l1 l3 l5 l6 a1 l6 (l1 >>> (((8 : Int32) * l6).toInt64 &&& 63))
def f_R_packet_b27 (n : Nat) : xw → Nat → Int64 → Int64 → Int32 → Int32 → Option (Int32 × xw) := xfix (fun _ _ _ _ _ _ => none) (f_R_packet_s27) n
def f_R_packet (w : xw) (l0 : Nat) (l1 : Int64) (l3 : Int64) (l5 : Int32) : Option (Int32 × xw) :=
  (xpI w l0 8 0 (0 : Int32)).bind fun w1 =>
  (f_R_within l5 (0 : Int32) (16 : Int32)).bind fun q2 =>
  if ¬ q2 = 0 then
  (xpI w1 l0 8 7 l5).bind fun w3 =>
    (some (0 : Int32)).bind fun x4 =>
    f_R_packet_b27 4000 w3 l0 l1 l3 l5 x4
  else
  xrZ (0 : Int32) w1
def f_R_nothing (w : xw) (l0 : Nat) (l1 : Int32) : Option (Unit × xw) :=
  (xfR w l0 8 9).bind fun a1 =>
  (xsZ w a1 l1 (1 : Int32)).bind fun w2 =>
  (xfR w2 l0 8 10).bind fun a3 =>
  (xsI w2 a3 l1 (0 : Int32)).bind fun w4 =>
  (xfR w4 l0 8 11).bind fun a5 =>
  (xsI w4 a5 l1 (0 : Int32)).bind fun w6 =>
  (xfR w6 l0 8 12).bind fun a7 =>
  (xsL w6 a7 l1 (0 : Int64)).bind fun w8 =>
  (xfR w8 l0 8 13).bind fun a9 =>
  (xsL w8 a9 l1 (4294967295 : Int64)).bind fun w10 =>
  (xfR w10 l0 8 14).bind fun a11 =>
  (xsL w10 a11 l1 (-2147483648 : Int64)).bind fun w12 =>
  (xfR w12 l0 8 15).bind fun a13 =>
  (xsL w12 a13 l1 (2147483647 : Int64)).bind fun w14 =>
  (xfR w14 l0 8 16).bind fun a15 =>
  (xsI w14 a15 l1 (0 : Int32)).bind fun w16 =>
  some ((), w16)
def f_R_greater_b11 (s0 : Int64) : Option (Int64) :=
  some s0
def f_R_greater (l0 : Int64) (l2 : Int64) : Option (Int64) :=
  if l0 ≤ l2 then
  f_R_greater_b11 l2
  else
  f_R_greater_b11 l0
def f_R_lesser_b11 (s0 : Int64) : Option (Int64) :=
  some s0
def f_R_lesser (l0 : Int64) (l2 : Int64) : Option (Int64) :=
  if l2 ≤ l0 then
  f_R_lesser_b11 l2
  else
  f_R_lesser_b11 l0
def f_R_tighten_b375 (w : xw) (s0 : Int32) : Option (Int32 × xw) :=
  xrZ s0 w
def f_R_tighten_b374 (w : xw) : Option (Int32 × xw) :=
  f_R_tighten_b375 w ((0 : Int32))
def f_R_tighten_b296 (w : xw) (l0 : Nat) (l1 : Int32) (l3 : Int32) (l4 : Int32) (s0 : Int32) : Option (Int32 × xw) :=
  (xfR w l0 8 10).bind fun a1 =>
  (xfR w l0 8 10).bind fun a2 =>
  (xaI w a2 l1).bind fun x3 =>
  (xsI w a1 l1 (x3 ||| l3)).bind fun w4 =>
  (xfR w4 l0 8 11).bind fun a5 =>
  (xfR w4 l0 8 11).bind fun a6 =>
  (xaI w4 a6 l1).bind fun x7 =>
  (xsI w4 a5 l1 ((x7 &&& (l3 ^^^ (-1 : Int32))) ||| (l4 &&& l3))).bind fun w8 =>
  if s0 = 0 then
  f_R_tighten_b374 w8
  else
  (xfR w8 l0 8 12).bind fun a9 =>
    (xaL w8 a9 l1).bind fun x10 =>
    (xfR w8 l0 8 13).bind fun a11 =>
    (xaL w8 a11 l1).bind fun x12 =>
    if x12 < x10 then
    f_R_tighten_b374 w8
    else
    (xfR w8 l0 8 14).bind fun a13 =>
      (xaL w8 a13 l1).bind fun x14 =>
      (xfR w8 l0 8 15).bind fun a15 =>
      (xaL w8 a15 l1).bind fun x16 =>
      if x16 < x14 then
      f_R_tighten_b374 w8
      else
      f_R_tighten_b375 w8 ((1 : Int32))
def f_R_tighten_s248 (r248 : (xw → Nat → Int32 → Int32 → Int32 → Option (Int32 × xw))) (w : xw) (l0 : Nat) (l1 : Int32) (l2 : Int32) (l3 : Int32) : Option (Int32 × xw) :=
  if (l2 &&& l3) = 0 then
  (xfR w l0 8 12).bind fun a1 =>
    (xaL w a1 l1).bind fun x2 =>
    (xfR w l0 8 10).bind fun a3 =>
    (xaI w a3 l1).bind fun x4 =>
    (xfR w l0 8 11).bind fun a5 =>
    (xaI w a5 l1).bind fun x6 =>
    if ¬ ((x4 &&& l3) &&& (x6 ^^^ x2.toInt32)) = 0 then
    f_R_tighten_b296 w l0 l1 l3 x2.toInt32 ((0 : Int32))
    else
    f_R_tighten_b296 w l0 l1 l3 x2.toInt32 ((1 : Int32))
  else
  (some (l3 <<< ((1 : Int32) &&& 31))).bind fun x7 =>
    r248 w l0 l1 l2 x7
def f_R_tighten_b248 (n : Nat) : xw → Nat → Int32 → Int32 → Int32 → Option (Int32 × xw) := xfix (fun _ _ _ _ _ => none) (f_R_tighten_s248) n
def f_R_tighten_b231 (w : xw) (l0 : Nat) (l1 : Int32) : Option (Int32 × xw) :=
  (xfR w l0 8 12).bind fun a1 =>
  (xaL w a1 l1).bind fun x2 =>
  (xfR w l0 8 13).bind fun a3 =>
  (xaL w a3 l1).bind fun x4 =>
  (some ((x2 ^^^ x4).toInt32)).bind fun x5 =>
  (some (-1 : Int32)).bind fun x6 =>
  f_R_tighten_b248 4000 w l0 l1 x5 x6
def f_R_tighten_b178 (w : xw) (l0 : Nat) (l1 : Int32) (s0 : Int32) (s1 : Int32) : Option (Int32 × xw) :=
  if ¬ s0 = s1 then
  f_R_tighten_b231 w l0 l1
  else
  (xfR w l0 8 12).bind fun a1 =>
    (xfR w l0 8 12).bind fun a2 =>
    (xaL w a2 l1).bind fun x3 =>
    (xfR w l0 8 14).bind fun a4 =>
    (xaL w a4 l1).bind fun x5 =>
    (f_R_greater x3 (x5 &&& (4294967295 : Int64))).bind fun q6 =>
    (xsL w a1 l1 q6).bind fun w7 =>
    (xfR w7 l0 8 13).bind fun a8 =>
    (xfR w7 l0 8 13).bind fun a9 =>
    (xaL w7 a9 l1).bind fun x10 =>
    (xfR w7 l0 8 15).bind fun a11 =>
    (xaL w7 a11 l1).bind fun x12 =>
    (f_R_lesser x10 (x12 &&& (4294967295 : Int64))).bind fun q13 =>
    (xsL w7 a8 l1 q13).bind fun w14 =>
    f_R_tighten_b231 w14 l0 l1
def f_R_tighten_b162 (w : xw) (l0 : Nat) (l1 : Int32) (s0 : Int32) : Option (Int32 × xw) :=
  (xfR w l0 8 15).bind fun a1 =>
  (xaL w a1 l1).bind fun x2 =>
  if (0 : Int64) ≤ x2 then
  f_R_tighten_b178 w l0 l1 s0 ((0 : Int32))
  else
  f_R_tighten_b178 w l0 l1 s0 ((1 : Int32))
def f_R_tighten_b146 (w : xw) (l0 : Nat) (l1 : Int32) : Option (Int32 × xw) :=
  (xfR w l0 8 14).bind fun a1 =>
  (xaL w a1 l1).bind fun x2 =>
  if (0 : Int64) ≤ x2 then
  f_R_tighten_b162 w l0 l1 ((0 : Int32))
  else
  f_R_tighten_b162 w l0 l1 ((1 : Int32))
def f_R_tighten_b97 (w : xw) (l0 : Nat) (l1 : Int32) (s0 : Int32) (s1 : Int32) : Option (Int32 × xw) :=
  if ¬ s0 = s1 then
  f_R_tighten_b146 w l0 l1
  else
  (xfR w l0 8 14).bind fun a1 =>
    (xfR w l0 8 14).bind fun a2 =>
    (xaL w a2 l1).bind fun x3 =>
    (xfR w l0 8 12).bind fun a4 =>
    (xaL w a4 l1).bind fun x5 =>
    (f_R_greater x3 x5.toInt32.toInt64).bind fun q6 =>
    (xsL w a1 l1 q6).bind fun w7 =>
    (xfR w7 l0 8 15).bind fun a8 =>
    (xfR w7 l0 8 15).bind fun a9 =>
    (xaL w7 a9 l1).bind fun x10 =>
    (xfR w7 l0 8 13).bind fun a11 =>
    (xaL w7 a11 l1).bind fun x12 =>
    (f_R_lesser x10 x12.toInt32.toInt64).bind fun q13 =>
    (xsL w7 a8 l1 q13).bind fun w14 =>
    f_R_tighten_b146 w14 l0 l1
def f_R_tighten_b79 (w : xw) (l0 : Nat) (l1 : Int32) (s0 : Int32) : Option (Int32 × xw) :=
  (xfR w l0 8 13).bind fun a1 =>
  (xaL w a1 l1).bind fun x2 =>
  if (2147483648 : Int64) ≤ x2 then
  f_R_tighten_b97 w l0 l1 s0 ((0 : Int32))
  else
  f_R_tighten_b97 w l0 l1 s0 ((1 : Int32))
def f_R_tighten (w : xw) (l0 : Nat) (l1 : Int32) : Option (Int32 × xw) :=
  (xfR w l0 8 12).bind fun a1 =>
  (xfR w l0 8 12).bind fun a2 =>
  (xaL w a2 l1).bind fun x3 =>
  (xfR w l0 8 11).bind fun a4 =>
  (xaI w a4 l1).bind fun x5 =>
  (f_R_greater x3 (x5.toInt64 &&& (4294967295 : Int64))).bind fun q6 =>
  (xsL w a1 l1 q6).bind fun w7 =>
  (xfR w7 l0 8 13).bind fun a8 =>
  (xfR w7 l0 8 13).bind fun a9 =>
  (xaL w7 a9 l1).bind fun x10 =>
  (xfR w7 l0 8 11).bind fun a11 =>
  (xaI w7 a11 l1).bind fun x12 =>
  (xfR w7 l0 8 10).bind fun a13 =>
  (xaI w7 a13 l1).bind fun x14 =>
  (f_R_lesser x10 (((x12 ||| (x14 ^^^ (-1 : Int32))).toInt64) &&& (4294967295 : Int64))).bind fun q15 =>
  (xsL w7 a8 l1 q15).bind fun w16 =>
  (xfR w16 l0 8 12).bind fun a17 =>
  (xaL w16 a17 l1).bind fun x18 =>
  if (2147483648 : Int64) ≤ x18 then
  f_R_tighten_b79 w16 l0 l1 ((0 : Int32))
  else
  f_R_tighten_b79 w16 l0 l1 ((1 : Int32))
def f_R_setUp_s2 (r2 : (xw → Nat → Int32 → Option (Unit × xw))) (w : xw) (l0 : Nat) (l1 : Int32) : Option (Unit × xw) :=
  if (256 : Int32) ≤ l1 then
  (xck w l0 8).bind fun _ =>
    (f_R_nothing w l0 (1 : Int32)).bind fun q1 =>
    (xfR q1.2 l0 8 13).bind fun a2 =>
    (xsL q1.2 a2 (1 : Int32) (16 : Int64)).bind fun w3 =>
    (xfR w3 l0 8 14).bind fun a4 =>
    (xsL w3 a4 (1 : Int32) (0 : Int64)).bind fun w5 =>
    (xfR w5 l0 8 15).bind fun a6 =>
    (xsL w5 a6 (1 : Int32) (16 : Int64)).bind fun w7 =>
    (xck w7 l0 8).bind fun _ =>
    (f_R_tighten w7 l0 (1 : Int32)).bind fun q8 =>
    (xfR q8.2 l0 8 9).bind fun a9 =>
    (xsZ q8.2 a9 (2 : Int32) q8.1).bind fun w10 =>
    (xck w10 l0 8).bind fun _ =>
    (f_R_nothing w10 l0 (2 : Int32)).bind fun q11 =>
    some ((), q11.2)
  else
  (xfR w l0 8 9).bind fun a12 =>
    (xsZ w a12 l1 (0 : Int32)).bind fun w13 =>
    (some (l1 + (1 : Int32))).bind fun x14 =>
    r2 w13 l0 x14
def f_R_setUp_b2 (n : Nat) : xw → Nat → Int32 → Option (Unit × xw) := xfix (fun _ _ _ => none) (f_R_setUp_s2) n
def f_R_setUp (w : xw) (l0 : Nat) : Option (Unit × xw) :=
  (some (0 : Int32)).bind fun x1 =>
  f_R_setUp_b2 4000 w l0 x1
def f_R_readsA_b34 (s0 : Int32) : Option (Int32) :=
  xrZ0 s0
def f_R_readsA_b33 : Option (Int32) :=
  f_R_readsA_b34 ((0 : Int32))
def f_R_readsA_b29 : Option (Int32) :=
  f_R_readsA_b34 ((1 : Int32))
def f_R_readsA_b11 (l0 : Int32) : Option (Int32) :=
  if l0 = (13 : Int32) then
  f_R_readsA_b29
  else
  if l0 < (16 : Int32) then
    f_R_readsA_b33
    else
    if (21 : Int32) < l0 then
      f_R_readsA_b33
      else
      f_R_readsA_b29
def f_R_readsA (l0 : Int32) : Option (Int32) :=
  if l0 < (1 : Int32) then
  f_R_readsA_b11 l0
  else
  if l0 ≤ (11 : Int32) then
    f_R_readsA_b29
    else
    f_R_readsA_b11 l0
def f_R_readsB_b11 (s0 : Int32) : Option (Int32) :=
  xrZ0 s0
def f_R_readsB (l0 : Int32) : Option (Int32) :=
  if (21 : Int32) < l0 then
  f_R_readsB_b11 ((0 : Int32))
  else
  f_R_readsB_b11 ((1 : Int32))
def f_R_copy (w : xw) (l0 : Nat) (l1 : Int32) (l2 : Int32) : Option (Unit × xw) :=
  (xfR w l0 8 9).bind fun a1 =>
  (xfR w l0 8 9).bind fun a2 =>
  (xaZ w a2 l1).bind fun x3 =>
  (xsZ w a1 l2 x3).bind fun w4 =>
  (xfR w4 l0 8 10).bind fun a5 =>
  (xfR w4 l0 8 10).bind fun a6 =>
  (xaI w4 a6 l1).bind fun x7 =>
  (xsI w4 a5 l2 x7).bind fun w8 =>
  (xfR w8 l0 8 11).bind fun a9 =>
  (xfR w8 l0 8 11).bind fun a10 =>
  (xaI w8 a10 l1).bind fun x11 =>
  (xsI w8 a9 l2 x11).bind fun w12 =>
  (xfR w12 l0 8 12).bind fun a13 =>
  (xfR w12 l0 8 12).bind fun a14 =>
  (xaL w12 a14 l1).bind fun x15 =>
  (xsL w12 a13 l2 x15).bind fun w16 =>
  (xfR w16 l0 8 13).bind fun a17 =>
  (xfR w16 l0 8 13).bind fun a18 =>
  (xaL w16 a18 l1).bind fun x19 =>
  (xsL w16 a17 l2 x19).bind fun w20 =>
  (xfR w20 l0 8 14).bind fun a21 =>
  (xfR w20 l0 8 14).bind fun a22 =>
  (xaL w20 a22 l1).bind fun x23 =>
  (xsL w20 a21 l2 x23).bind fun w24 =>
  (xfR w24 l0 8 15).bind fun a25 =>
  (xfR w24 l0 8 15).bind fun a26 =>
  (xaL w24 a26 l1).bind fun x27 =>
  (xsL w24 a25 l2 x27).bind fun w28 =>
  (xfR w28 l0 8 16).bind fun a29 =>
  (xfR w28 l0 8 16).bind fun a30 =>
  (xaI w28 a30 l1).bind fun x31 =>
  (xsI w28 a29 l2 x31).bind fun w32 =>
  some ((), w32)
def f_R_number (w : xw) (l0 : Nat) (l1 : Int32) (l2 : Int32) : Option (Unit × xw) :=
  (xck w l0 8).bind fun _ =>
  (f_R_nothing w l0 l1).bind fun q1 =>
  (xfR q1.2 l0 8 10).bind fun a2 =>
  (xsI q1.2 a2 l1 (-1 : Int32)).bind fun w3 =>
  (xfR w3 l0 8 11).bind fun a4 =>
  (xsI w3 a4 l1 l2).bind fun w5 =>
  (xfR w5 l0 8 12).bind fun a6 =>
  (xsL w5 a6 l1 (l2.toInt64 &&& (4294967295 : Int64))).bind fun w7 =>
  (xfR w7 l0 8 13).bind fun a8 =>
  (xsL w7 a8 l1 (l2.toInt64 &&& (4294967295 : Int64))).bind fun w9 =>
  (xfR w9 l0 8 14).bind fun a10 =>
  (xsL w9 a10 l1 l2.toInt64).bind fun w11 =>
  (xfR w11 l0 8 15).bind fun a12 =>
  (xsL w11 a12 l1 l2.toInt64).bind fun w13 =>
  some ((), w13)
def f_R_alarm_b312 (w : xw) (s0 : Int32) : Option (Int32 × xw) :=
  some (s0, w)
def f_R_alarm_b311 (w : xw) : Option (Int32 × xw) :=
  f_R_alarm_b312 w ((0 : Int32))
def f_R_alarm_b270 (w : xw) (l0 : Nat) (l1 : Int32) : Option (Int32 × xw) :=
  if ¬ l1 = (14 : Int32) then
  f_R_alarm_b311 w
  else
  (xfR w l0 8 5).bind fun a1 =>
    (xfI w l0 8 17).bind fun x2 =>
    (xaI w a1 x2).bind fun x3 =>
    (xfR w l0 8 6).bind fun a4 =>
    (xfI w l0 8 17).bind fun x5 =>
    (xaI w a4 x5).bind fun x6 =>
    (xfR w l0 8 16).bind fun a7 =>
    (xaI w a7 (257 : Int32)).bind fun x8 =>
    if (x3 + x6) ≤ x8 then
    f_R_alarm_b311 w
    else
    f_R_alarm_b312 w ((7 : Int32))
def f_R_alarm_b264 (r206 : (xw → Nat → Int32 → Int32 → Option (Int32 × xw))) (w : xw) (l0 : Nat) (l1 : Int32) (l4 : Int32) : Option (Int32 × xw) :=
  (some (l4 + (1 : Int32))).bind fun x1 =>
  r206 w l0 l1 x1
def f_R_alarm_s206 (r206 : (xw → Nat → Int32 → Int32 → Option (Int32 × xw))) (w : xw) (l0 : Nat) (l1 : Int32) (l4 : Int32) : Option (Int32 × xw) :=
  if (4 : Int32) ≤ l4 then
  f_R_alarm_b270 w l0 l1
  else
  if ¬ l1 = (12 : Int32) then
    f_R_alarm_b270 w l0 l1
    else
    (xfR w l0 8 12).bind fun a1 =>
      (xaL w a1 (257 : Int32)).bind fun x2 =>
      if l4.toInt64 < x2 then
      f_R_alarm_b264 r206 w l0 l1 l4
      else
      (xfR w l0 8 13).bind fun a3 =>
        (xaL w a3 (257 : Int32)).bind fun x4 =>
        if x4 < l4.toInt64 then
        f_R_alarm_b264 r206 w l0 l1 l4
        else
        (xfR w l0 8 9).bind fun a5 =>
          (xaZ w a5 ((6 : Int32) + l4)).bind fun x6 =>
          if ¬ x6 = 0 then
          f_R_alarm_b264 r206 w l0 l1 l4
          else
          some ((6 : Int32), w)
def f_R_alarm_b206 (n : Nat) : xw → Nat → Int32 → Int32 → Option (Int32 × xw) := xfix (fun _ _ _ _ => none) (f_R_alarm_s206) n
def f_R_alarm_b203 (w : xw) (l0 : Nat) (l1 : Int32) : Option (Int32 × xw) :=
  (some (0 : Int32)).bind fun x1 =>
  f_R_alarm_b206 4000 w l0 l1 x1
def f_R_alarm_b186 (w : xw) (l0 : Nat) (l1 : Int32) : Option (Int32 × xw) :=
  (xfR w l0 8 13).bind fun a1 =>
  (xaL w a1 (257 : Int32)).bind fun x2 =>
  if x2 ≤ (3 : Int64) then
  f_R_alarm_b203 w l0 l1
  else
  some ((5 : Int32), w)
def f_R_alarm_b174 (w : xw) (l0 : Nat) (l1 : Int32) : Option (Int32 × xw) :=
  if l1 = (12 : Int32) then
  f_R_alarm_b186 w l0 l1
  else
  if ¬ l1 = (13 : Int32) then
    f_R_alarm_b203 w l0 l1
    else
    f_R_alarm_b186 w l0 l1
def f_R_alarm_b159 (w : xw) (l0 : Nat) (l1 : Int32) : Option (Int32 × xw) :=
  (xfR w l0 8 12).bind fun a1 =>
  (xaL w a1 (257 : Int32)).bind fun x2 =>
  if ¬ x2 = (0 : Int64) then
  f_R_alarm_b174 w l0 l1
  else
  some ((4 : Int32), w)
def f_R_alarm_b147 (w : xw) (l0 : Nat) (l1 : Int32) : Option (Int32 × xw) :=
  if l1 = (10 : Int32) then
  f_R_alarm_b159 w l0 l1
  else
  if ¬ l1 = (11 : Int32) then
    f_R_alarm_b174 w l0 l1
    else
    f_R_alarm_b159 w l0 l1
def f_R_alarm_b108 (w : xw) (l0 : Nat) (l1 : Int32) (l2 : Int32) (l3 : Int32) : Option (Int32 × xw) :=
  (xck w l0 8).bind fun _ =>
  (f_R_copy w l0 l2 (256 : Int32)).bind fun q1 =>
  if l3 < 0 then
  (xfR q1.2 l0 8 5).bind fun a2 =>
    (xfI q1.2 l0 8 17).bind fun x3 =>
    (xaI q1.2 a2 x3).bind fun x4 =>
    (xck q1.2 l0 8).bind fun _ =>
    (f_R_number q1.2 l0 (257 : Int32) x4).bind fun q5 =>
    f_R_alarm_b147 q5.2 l0 l1
  else
  (xck q1.2 l0 8).bind fun _ =>
    (f_R_copy q1.2 l0 l3 (257 : Int32)).bind fun q6 =>
    f_R_alarm_b147 q6.2 l0 l1
def f_R_alarm_b106 (w : xw) : Option (Int32 × xw) :=
  some ((3 : Int32), w)
def f_R_alarm_b91 (w : xw) (l0 : Nat) (l1 : Int32) (l2 : Int32) (l3 : Int32) : Option (Int32 × xw) :=
  if ¬ l1 = (23 : Int32) then
  f_R_alarm_b108 w l0 l1 l2 l3
  else
  (xfR w l0 8 9).bind fun a1 =>
    (xaZ w a1 (0 : Int32)).bind fun x2 =>
    if ¬ x2 = 0 then
    f_R_alarm_b108 w l0 l1 l2 l3
    else
    f_R_alarm_b106 w
def f_R_alarm_b71 (w : xw) (l0 : Nat) (l1 : Int32) (l2 : Int32) (l3 : Int32) : Option (Int32 × xw) :=
  (f_R_readsB l1).bind fun q1 =>
  if q1 = 0 then
  f_R_alarm_b91 w l0 l1 l2 l3
  else
  if l3 < 0 then
    f_R_alarm_b91 w l0 l1 l2 l3
    else
    (xfR w l0 8 9).bind fun a2 =>
      (xaZ w a2 l3).bind fun x3 =>
      if x3 = 0 then
      f_R_alarm_b106 w
      else
      f_R_alarm_b91 w l0 l1 l2 l3
def f_R_alarm (w : xw) (l0 : Nat) : Option (Int32 × xw) :=
  (xfI w l0 8 17).bind fun x1 =>
  (xfI w l0 8 1).bind fun x2 =>
  if x1 < x2 then
  (xfI w l0 8 18).bind fun x3 =>
    if x3 ≤ (300 : Int32) then
    (xfR w l0 8 2).bind fun a4 =>
      (xfI w l0 8 17).bind fun x5 =>
      (xaI w a4 x5).bind fun x6 =>
      (xfR w l0 8 3).bind fun a7 =>
      (xfI w l0 8 17).bind fun x8 =>
      (xaI w a7 x8).bind fun x9 =>
      (xfR w l0 8 4).bind fun a10 =>
      (xfI w l0 8 17).bind fun x11 =>
      (xaI w a10 x11).bind fun x12 =>
      (f_R_readsA x6).bind fun q13 =>
      if q13 = 0 then
      f_R_alarm_b71 w l0 x6 x9 x12
      else
      (xfR w l0 8 9).bind fun a14 =>
        (xaZ w a14 x9).bind fun x15 =>
        if x15 = 0 then
        f_R_alarm_b106 w
        else
        f_R_alarm_b71 w l0 x6 x9 x12
    else
    some ((2 : Int32), w)
  else
  some ((1 : Int32), w)
def f_R_alike_b274 (w : xw) (l0 : Nat) (s0 : Int32) : Option (Int32 × xw) :=
  (xck w l0 8).bind fun _ =>
  (f_R_copy w l0 (258 : Int32) (259 : Int32)).bind fun q1 =>
  xrZ s0 q1.2
def f_R_alike_b273 (w : xw) (l0 : Nat) : Option (Int32 × xw) :=
  f_R_alike_b274 w l0 ((0 : Int32))
def f_R_alike_b254 (w : xw) (l0 : Nat) (l1 : Int32) (s0 : Nat) (s1 : Int32) (s2 : Int32) : Option (Int32 × xw) :=
  (xsI w s0 s1 s2).bind fun w1 =>
  if l1 = 0 then
  f_R_alike_b273 w1 l0
  else
  (xck w1 l0 8).bind fun _ =>
    (f_R_tighten w1 l0 (258 : Int32)).bind fun q2 =>
    if q2.1 = 0 then
    f_R_alike_b273 q2.2 l0
    else
    f_R_alike_b274 q2.2 l0 ((1 : Int32))
def f_R_alike_b43 (w : xw) (l0 : Nat) (s0 : Int32) : Option (Int32 × xw) :=
  (xck w l0 8).bind fun _ =>
  (f_R_nothing w l0 (258 : Int32)).bind fun q1 =>
  (xfR q1.2 l0 8 10).bind fun a2 =>
  (xfR q1.2 l0 8 10).bind fun a3 =>
  (xaI q1.2 a3 (256 : Int32)).bind fun x4 =>
  (xfR q1.2 l0 8 10).bind fun a5 =>
  (xaI q1.2 a5 (257 : Int32)).bind fun x6 =>
  (xsI q1.2 a2 (258 : Int32) (x4 ||| x6)).bind fun w7 =>
  (xfR w7 l0 8 11).bind fun a8 =>
  (xfR w7 l0 8 11).bind fun a9 =>
  (xaI w7 a9 (256 : Int32)).bind fun x10 =>
  (xfR w7 l0 8 11).bind fun a11 =>
  (xaI w7 a11 (257 : Int32)).bind fun x12 =>
  (xsI w7 a8 (258 : Int32) (x10 ||| x12)).bind fun w13 =>
  (xfR w13 l0 8 12).bind fun a14 =>
  (xfR w13 l0 8 12).bind fun a15 =>
  (xaL w13 a15 (256 : Int32)).bind fun x16 =>
  (xfR w13 l0 8 12).bind fun a17 =>
  (xaL w13 a17 (257 : Int32)).bind fun x18 =>
  (f_R_greater x16 x18).bind fun q19 =>
  (xsL w13 a14 (258 : Int32) q19).bind fun w20 =>
  (xfR w20 l0 8 13).bind fun a21 =>
  (xfR w20 l0 8 13).bind fun a22 =>
  (xaL w20 a22 (256 : Int32)).bind fun x23 =>
  (xfR w20 l0 8 13).bind fun a24 =>
  (xaL w20 a24 (257 : Int32)).bind fun x25 =>
  (f_R_lesser x23 x25).bind fun q26 =>
  (xsL w20 a21 (258 : Int32) q26).bind fun w27 =>
  (xfR w27 l0 8 14).bind fun a28 =>
  (xfR w27 l0 8 14).bind fun a29 =>
  (xaL w27 a29 (256 : Int32)).bind fun x30 =>
  (xfR w27 l0 8 14).bind fun a31 =>
  (xaL w27 a31 (257 : Int32)).bind fun x32 =>
  (f_R_greater x30 x32).bind fun q33 =>
  (xsL w27 a28 (258 : Int32) q33).bind fun w34 =>
  (xfR w34 l0 8 15).bind fun a35 =>
  (xfR w34 l0 8 15).bind fun a36 =>
  (xaL w34 a36 (256 : Int32)).bind fun x37 =>
  (xfR w34 l0 8 15).bind fun a38 =>
  (xaL w34 a38 (257 : Int32)).bind fun x39 =>
  (f_R_lesser x37 x39).bind fun q40 =>
  (xsL w34 a35 (258 : Int32) q40).bind fun w41 =>
  (xfR w41 l0 8 16).bind fun a42 =>
  (xfR w41 l0 8 16).bind fun a43 =>
  (xaI w41 a43 (256 : Int32)).bind fun x44 =>
  (xfR w41 l0 8 16).bind fun a45 =>
  (xaI w41 a45 (257 : Int32)).bind fun x46 =>
  if x44 ≤ x46 then
  (xfR w41 l0 8 16).bind fun a47 =>
    (xaI w41 a47 (257 : Int32)).bind fun x48 =>
    f_R_alike_b254 w41 l0 s0 a42 ((258 : Int32)) x48
  else
  (xfR w41 l0 8 16).bind fun a49 =>
    (xaI w41 a49 (256 : Int32)).bind fun x50 =>
    f_R_alike_b254 w41 l0 s0 a42 ((258 : Int32)) x50
def f_R_alike (w : xw) (l0 : Nat) : Option (Int32 × xw) :=
  (xfR w l0 8 10).bind fun a1 =>
  (xaI w a1 (256 : Int32)).bind fun x2 =>
  (xfR w l0 8 10).bind fun a3 =>
  (xaI w a3 (257 : Int32)).bind fun x4 =>
  (xfR w l0 8 11).bind fun a5 =>
  (xaI w a5 (256 : Int32)).bind fun x6 =>
  (xfR w l0 8 11).bind fun a7 =>
  (xaI w a7 (257 : Int32)).bind fun x8 =>
  if ¬ ((x2 &&& x4) &&& (x6 ^^^ x8)) = 0 then
  f_R_alike_b43 w l0 ((0 : Int32))
  else
  f_R_alike_b43 w l0 ((1 : Int32))
def f_R_isExact_b21 (w : xw) (s0 : Int32) : Option (Int32 × xw) :=
  xrZ s0 w
def f_R_isExact (w : xw) (l0 : Nat) (l1 : Int32) : Option (Int32 × xw) :=
  (xfR w l0 8 12).bind fun a1 =>
  (xaL w a1 l1).bind fun x2 =>
  (xfR w l0 8 13).bind fun a3 =>
  (xaL w a3 l1).bind fun x4 =>
  if ¬ x2 = x4 then
  f_R_isExact_b21 w ((0 : Int32))
  else
  f_R_isExact_b21 w ((1 : Int32))
def f_R_less_b146 (w : xw) (s0 : Int32) : Option (Int32 × xw) :=
  xrZ s0 w
def f_R_less_b145 (w : xw) : Option (Int32 × xw) :=
  f_R_less_b146 w ((0 : Int32))
def f_R_less_b119 (w : xw) (l0 : Nat) : Option (Int32 × xw) :=
  (xck w l0 8).bind fun _ =>
  (f_R_tighten w l0 (258 : Int32)).bind fun q1 =>
  (xck q1.2 l0 8).bind fun _ =>
  (f_R_tighten q1.2 l0 (259 : Int32)).bind fun q2 =>
  if q2.1 = 0 then
  f_R_less_b145 q2.2
  else
  if q1.1 = 0 then
    f_R_less_b145 q2.2
    else
    f_R_less_b146 q2.2 ((1 : Int32))
def f_R_less (w : xw) (l0 : Nat) (l1 : Int32) : Option (Int32 × xw) :=
  if l1 = 0 then
  (xfR w l0 8 12).bind fun a1 =>
    (xfR w l0 8 12).bind fun a2 =>
    (xaL w a2 (256 : Int32)).bind fun x3 =>
    (xfR w l0 8 12).bind fun a4 =>
    (xaL w a4 (257 : Int32)).bind fun x5 =>
    (f_R_greater x3 x5).bind fun q6 =>
    (xsL w a1 (258 : Int32) q6).bind fun w7 =>
    (xfR w7 l0 8 13).bind fun a8 =>
    (xfR w7 l0 8 13).bind fun a9 =>
    (xaL w7 a9 (257 : Int32)).bind fun x10 =>
    (xfR w7 l0 8 13).bind fun a11 =>
    (xaL w7 a11 (256 : Int32)).bind fun x12 =>
    (f_R_lesser x10 x12).bind fun q13 =>
    (xsL w7 a8 (259 : Int32) q13).bind fun w14 =>
    f_R_less_b119 w14 l0
  else
  (xfR w l0 8 13).bind fun a15 =>
    (xfR w l0 8 13).bind fun a16 =>
    (xaL w a16 (256 : Int32)).bind fun x17 =>
    (xfR w l0 8 13).bind fun a18 =>
    (xaL w a18 (257 : Int32)).bind fun x19 =>
    (f_R_lesser x17 (x19 - (1 : Int64))).bind fun q20 =>
    (xsL w a15 (258 : Int32) q20).bind fun w21 =>
    (xfR w21 l0 8 12).bind fun a22 =>
    (xfR w21 l0 8 12).bind fun a23 =>
    (xaL w21 a23 (257 : Int32)).bind fun x24 =>
    (xfR w21 l0 8 12).bind fun a25 =>
    (xaL w21 a25 (256 : Int32)).bind fun x26 =>
    (f_R_greater x24 (x26 + (1 : Int64))).bind fun q27 =>
    (xsL w21 a22 (259 : Int32) q27).bind fun w28 =>
    f_R_less_b119 w28 l0
def f_R_lessSigned_b146 (w : xw) (s0 : Int32) : Option (Int32 × xw) :=
  xrZ s0 w
def f_R_lessSigned_b145 (w : xw) : Option (Int32 × xw) :=
  f_R_lessSigned_b146 w ((0 : Int32))
def f_R_lessSigned_b119 (w : xw) (l0 : Nat) : Option (Int32 × xw) :=
  (xck w l0 8).bind fun _ =>
  (f_R_tighten w l0 (258 : Int32)).bind fun q1 =>
  (xck q1.2 l0 8).bind fun _ =>
  (f_R_tighten q1.2 l0 (259 : Int32)).bind fun q2 =>
  if q2.1 = 0 then
  f_R_lessSigned_b145 q2.2
  else
  if q1.1 = 0 then
    f_R_lessSigned_b145 q2.2
    else
    f_R_lessSigned_b146 q2.2 ((1 : Int32))
def f_R_lessSigned (w : xw) (l0 : Nat) (l1 : Int32) : Option (Int32 × xw) :=
  if l1 = 0 then
  (xfR w l0 8 14).bind fun a1 =>
    (xfR w l0 8 14).bind fun a2 =>
    (xaL w a2 (256 : Int32)).bind fun x3 =>
    (xfR w l0 8 14).bind fun a4 =>
    (xaL w a4 (257 : Int32)).bind fun x5 =>
    (f_R_greater x3 x5).bind fun q6 =>
    (xsL w a1 (258 : Int32) q6).bind fun w7 =>
    (xfR w7 l0 8 15).bind fun a8 =>
    (xfR w7 l0 8 15).bind fun a9 =>
    (xaL w7 a9 (257 : Int32)).bind fun x10 =>
    (xfR w7 l0 8 15).bind fun a11 =>
    (xaL w7 a11 (256 : Int32)).bind fun x12 =>
    (f_R_lesser x10 x12).bind fun q13 =>
    (xsL w7 a8 (259 : Int32) q13).bind fun w14 =>
    f_R_lessSigned_b119 w14 l0
  else
  (xfR w l0 8 15).bind fun a15 =>
    (xfR w l0 8 15).bind fun a16 =>
    (xaL w a16 (256 : Int32)).bind fun x17 =>
    (xfR w l0 8 15).bind fun a18 =>
    (xaL w a18 (257 : Int32)).bind fun x19 =>
    (f_R_lesser x17 (x19 - (1 : Int64))).bind fun q20 =>
    (xsL w a15 (258 : Int32) q20).bind fun w21 =>
    (xfR w21 l0 8 14).bind fun a22 =>
    (xfR w21 l0 8 14).bind fun a23 =>
    (xaL w21 a23 (257 : Int32)).bind fun x24 =>
    (xfR w21 l0 8 14).bind fun a25 =>
    (xaL w21 a25 (256 : Int32)).bind fun x26 =>
    (f_R_greater x24 (x26 + (1 : Int64))).bind fun q27 =>
    (xsL w21 a22 (259 : Int32) q27).bind fun w28 =>
    f_R_lessSigned_b119 w28 l0
def f_R_compare_b102 (w : xw) (s0 : Int32) : Option (Int32 × xw) :=
  xrZ s0 w
def f_R_compare_b82 (w : xw) (s0 : Int32) : Option (Int32 × xw) :=
  xrZ s0 w
def f_R_compare_b77 (w : xw) : Option (Int32 × xw) :=
  f_R_compare_b82 w ((1 : Int32))
def f_R_compare (w : xw) (l0 : Nat) (l1 : Int32) (l2 : Int32) : Option (Int32 × xw) :=
  (xck w l0 8).bind fun _ =>
  (f_R_copy w l0 (256 : Int32) (258 : Int32)).bind fun q1 =>
  (xck q1.2 l0 8).bind fun _ =>
  (f_R_copy q1.2 l0 (257 : Int32) (259 : Int32)).bind fun q2 =>
  if (18 : Int32) ≤ l1 then
  if (20 : Int32) ≤ l1 then
    (xck q2.2 l0 8).bind fun _ =>
      (f_R_lessSigned q2.2 l0 l2).bind fun q3 =>
      f_R_compare_b102 q3.2 q3.1
    else
    (xck q2.2 l0 8).bind fun _ =>
      (f_R_less q2.2 l0 l2).bind fun q4 =>
      f_R_compare_b102 q4.2 q4.1
  else
  if l2 = 0 then
    (xck q2.2 l0 8).bind fun _ =>
      (f_R_isExact q2.2 l0 (256 : Int32)).bind fun q5 =>
      if q5.1 = 0 then
      f_R_compare_b77 q5.2
      else
      (xck q5.2 l0 8).bind fun _ =>
        (f_R_isExact q5.2 l0 (257 : Int32)).bind fun q6 =>
        if q6.1 = 0 then
        f_R_compare_b77 q6.2
        else
        (xfR q6.2 l0 8 12).bind fun a7 =>
          (xaL q6.2 a7 (256 : Int32)).bind fun x8 =>
          (xfR q6.2 l0 8 12).bind fun a9 =>
          (xaL q6.2 a9 (257 : Int32)).bind fun x10 =>
          if x8 = x10 then
          f_R_compare_b82 q6.2 ((0 : Int32))
          else
          f_R_compare_b77 q6.2
    else
    (xck q2.2 l0 8).bind fun _ =>
      (f_R_alike q2.2 l0).bind fun q11 =>
      f_R_compare_b82 q11.2 q11.1
def f_R_wait_b92 (w : xw) : Option (Unit × xw) :=
  some ((), w)
def f_R_wait_b72 (w : xw) (l0 : Nat) (l3 : Int32) : Option (Unit × xw) :=
  if l3 < 0 then
  f_R_wait_b92 w
  else
  (xfI w l0 8 20).bind fun x1 =>
    (xck w l0 8).bind fun _ =>
    (f_R_copy w l0 (259 : Int32) (((10 : Int32) * x1) + l3)).bind fun q2 =>
    f_R_wait_b92 q2.2
def f_R_wait_s23 (r23 : (xw → Nat → Int32 → Int32 → Int32 → Option (Unit × xw))) (w : xw) (l0 : Nat) (l2 : Int32) (l3 : Int32) (l4 : Int32) : Option (Unit × xw) :=
  if (10 : Int32) ≤ l4 then
  if l2 < 0 then
    f_R_wait_b72 w l0 l3
    else
    (xfI w l0 8 20).bind fun x1 =>
      (xck w l0 8).bind fun _ =>
      (f_R_copy w l0 (258 : Int32) (((10 : Int32) * x1) + l2)).bind fun q2 =>
      f_R_wait_b72 q2.2 l0 l3
  else
  (xfI w l0 8 20).bind fun x3 =>
    (xck w l0 8).bind fun _ =>
    (f_R_copy w l0 l4 (((10 : Int32) * x3) + l4)).bind fun q4 =>
    (some (l4 + (1 : Int32))).bind fun x5 =>
    r23 q4.2 l0 l2 l3 x5
def f_R_wait_b23 (n : Nat) : xw → Nat → Int32 → Int32 → Int32 → Option (Unit × xw) := xfix (fun _ _ _ _ _ => none) (f_R_wait_s23) n
def f_R_wait (w : xw) (l0 : Nat) (l1 : Int32) (l2 : Int32) (l3 : Int32) : Option (Unit × xw) :=
  (xfI w l0 8 20).bind fun x1 =>
  (xpI w l0 8 20 (x1 + (1 : Int32))).bind fun w2 =>
  (xfR w2 l0 8 21).bind fun a3 =>
  (xfI w2 l0 8 20).bind fun x4 =>
  (xsI w2 a3 x4 l1).bind fun w5 =>
  (some (0 : Int32)).bind fun x6 =>
  f_R_wait_b23 4000 w5 l0 l2 l3 x6
def f_R_part_b71 (w : xw) (l0 : Nat) : Option (Int32 × xw) :=
  (xfI w l0 8 17).bind fun x1 =>
  (xpI w l0 8 17 (x1 + (1 : Int32))).bind fun w2 =>
  xrZ (1 : Int32) w2
def f_R_part_b43 (w : xw) (l0 : Nat) (l2 : Int32) (l3 : Int32) (s0 : Nat) (s1 : Int32) (s2 : Int32) : Option (Int32 × xw) :=
  (xck w s0 8).bind fun _ =>
  (f_R_compare w s0 s1 s2).bind fun q1 =>
  if ¬ q1.1 = 0 then
  (xck q1.2 l0 8).bind fun _ =>
    (f_R_copy q1.2 l0 (258 : Int32) l2).bind fun q2 =>
    if l3 < 0 then
    f_R_part_b71 q2.2 l0
    else
    (xck q2.2 l0 8).bind fun _ =>
      (f_R_copy q2.2 l0 (259 : Int32) l3).bind fun q3 =>
      f_R_part_b71 q3.2 l0
  else
  xrZ (0 : Int32) q1.2
def f_R_part_b31 (w : xw) (l0 : Nat) (l1 : Int32) (l2 : Int32) (l3 : Int32) (l5 : Int32) : Option (Int32 × xw) :=
  if ¬ l5 = 0 then
  f_R_part_b43 w l0 l2 l3 l0 l1 ((0 : Int32))
  else
  f_R_part_b43 w l0 l2 l3 l0 l1 ((1 : Int32))
def f_R_part_b11 (w : xw) (l0 : Nat) (l1 : Int32) (l2 : Int32) (l3 : Int32) (l4 : Int32) (s0 : Int32) : Option (Int32 × xw) :=
  (xck w l0 8).bind fun _ =>
  (f_R_compare w l0 l1 s0).bind fun q1 =>
  if q1.1 = 0 then
  f_R_part_b31 q1.2 l0 l1 l2 l3 s0
  else
  (xck q1.2 l0 8).bind fun _ =>
    (f_R_wait q1.2 l0 l4 l2 l3).bind fun q2 =>
    f_R_part_b31 q2.2 l0 l1 l2 l3 s0
def f_R_part (w : xw) (l0 : Nat) (l1 : Int32) (l2 : Int32) (l3 : Int32) (l4 : Int32) : Option (Int32 × xw) :=
  if (2 : Int32) = 0 then none else
  if ¬ (l1 - l1 / (2 : Int32) * (2 : Int32)) = 0 then
  f_R_part_b11 w l0 l1 l2 l3 l4 ((0 : Int32))
  else
  f_R_part_b11 w l0 l1 l2 l3 l4 ((1 : Int32))
def f_R_lowest_b49 (w : xw) (l2 : Int32) : Option (Int32 × xw) :=
  some (l2, w)
def f_R_lowest_s22 (r22 : (xw → Int32 → Int32 → Int32 → Option (Int32 × xw))) (w : xw) (l1 : Int32) (l2 : Int32) (l3 : Int32) : Option (Int32 × xw) :=
  if (32 : Int32) ≤ l3 then
  f_R_lowest_b49 w l2
  else
  if ¬ ((l1 >>> (l3 &&& 31)) &&& (1 : Int32)) = (1 : Int32) then
    f_R_lowest_b49 w l2
    else
    (some (l2 ||| ((1 : Int32) <<< (l3 &&& 31)))).bind fun x1 =>
      (some (l3 + (1 : Int32))).bind fun x2 =>
      r22 w l1 x1 x2
def f_R_lowest_b22 (n : Nat) : xw → Int32 → Int32 → Int32 → Option (Int32 × xw) := xfix (fun _ _ _ _ => none) (f_R_lowest_s22) n
def f_R_lowest (w : xw) (l0 : Nat) : Option (Int32 × xw) :=
  (xfR w l0 8 10).bind fun a1 =>
  (xaI w a1 (256 : Int32)).bind fun x2 =>
  (xfR w l0 8 10).bind fun a3 =>
  (xaI w a3 (257 : Int32)).bind fun x4 =>
  (some (x2 &&& x4)).bind fun x5 =>
  (some (0 : Int32)).bind fun x6 =>
  (some (0 : Int32)).bind fun x7 =>
  f_R_lowest_b22 4000 w x5 x6 x7
def f_R_knows (w : xw) (l0 : Nat) (l1 : Int32) (l2 : Int32) : Option (Unit × xw) :=
  (xfR w l0 8 10).bind fun a1 =>
  (xsI w a1 (258 : Int32) l1).bind fun w2 =>
  (xfR w2 l0 8 11).bind fun a3 =>
  (xsI w2 a3 (258 : Int32) (l2 &&& l1)).bind fun w4 =>
  some ((), w4)
def f_R_bitsOf_b351 (w : xw) : Option (Unit × xw) :=
  some ((), w)
def f_R_bitsOf_b348 (w : xw) (s0 : Nat) (s1 : Int32) (s2 : Int32) : Option (Unit × xw) :=
  (xck w s0 8).bind fun _ =>
  (f_R_knows w s0 s1 s2).bind fun q1 =>
  f_R_bitsOf_b351 q1.2
def f_R_bitsOf_b310 (w : xw) (l0 : Nat) (l1 : Int32) (l2 : Int32) (l4 : Int32) (l5 : Int32) (s0 : Int32) : Option (Unit × xw) :=
  if ¬ l1 = (7 : Int32) then
  if ¬ l1 = (8 : Int32) then
    f_R_bitsOf_b348 w l0 (s0 ||| l5) (l2 >>> (l4 &&& 31))
    else
    f_R_bitsOf_b348 w l0 (s0 ||| l5) ((l2.toUInt32 >>> (l4.toUInt32 &&& Int32.toUInt32 31)).toInt32)
  else
  f_R_bitsOf_b348 w l0 (s0 ||| l5) (l2 <<< (l4 &&& 31))
def f_R_bitsOf_b257 (w : xw) (l0 : Nat) (l1 : Int32) (l2 : Int32) (l4 : Int32) (s0 : Int32) : Option (Unit × xw) :=
  if ¬ l1 = (7 : Int32) then
  if ¬ l1 = (8 : Int32) then
    (xfR w l0 8 10).bind fun a1 =>
      (xaI w a1 (256 : Int32)).bind fun x2 =>
      f_R_bitsOf_b310 w l0 l1 l2 l4 s0 (x2 >>> (l4 &&& 31))
    else
    (xfR w l0 8 10).bind fun a3 =>
      (xaI w a3 (256 : Int32)).bind fun x4 =>
      f_R_bitsOf_b310 w l0 l1 l2 l4 s0 ((x4.toUInt32 >>> (l4.toUInt32 &&& Int32.toUInt32 31)).toInt32)
  else
  (xfR w l0 8 10).bind fun a5 =>
    (xaI w a5 (256 : Int32)).bind fun x6 =>
    f_R_bitsOf_b310 w l0 l1 l2 l4 s0 (x6 <<< (l4 &&& 31))
def f_R_bitsOf_b63 (w : xw) (s0 : Nat) (s1 : Int32) (s2 : Int32) : Option (Unit × xw) :=
  (xck w s0 8).bind fun _ =>
  (f_R_knows w s0 s1 s2).bind fun q1 =>
  f_R_bitsOf_b351 q1.2
def f_R_bitsOf_b33 (w : xw) (l0 : Nat) (l1 : Int32) (l2 : Int32) (l3 : Int32) : Option (Unit × xw) :=
  (xck w l0 8).bind fun _ =>
  (f_R_lowest w l0).bind fun q1 =>
  if ¬ l1 = (1 : Int32) then
  if ¬ l1 = (2 : Int32) then
    f_R_bitsOf_b63 q1.2 l0 q1.1 (l2 * l3)
    else
    f_R_bitsOf_b63 q1.2 l0 q1.1 (l2 - l3)
  else
  f_R_bitsOf_b63 q1.2 l0 q1.1 (l2 + l3)
def f_R_bitsOf (w : xw) (l0 : Nat) (l1 : Int32) : Option (Unit × xw) :=
  (xfR w l0 8 11).bind fun a1 =>
  (xaI w a1 (256 : Int32)).bind fun x2 =>
  (xfR w l0 8 11).bind fun a3 =>
  (xaI w a3 (257 : Int32)).bind fun x4 =>
  if l1 = (1 : Int32) then
  f_R_bitsOf_b33 w l0 l1 x2 x4
  else
  if l1 = (2 : Int32) then
    f_R_bitsOf_b33 w l0 l1 x2 x4
    else
    if ¬ l1 = (3 : Int32) then
      if ¬ l1 = (4 : Int32) then
        if ¬ l1 = (5 : Int32) then
          if ¬ l1 = (6 : Int32) then
            if (9 : Int32) < l1 then
              f_R_bitsOf_b351 w
              else
              (xck w l0 8).bind fun _ =>
                (f_R_isExact w l0 (257 : Int32)).bind fun q5 =>
                if q5.1 = 0 then
                f_R_bitsOf_b351 q5.2
                else
                (xfR q5.2 l0 8 12).bind fun a6 =>
                  (xaL q5.2 a6 (257 : Int32)).bind fun x7 =>
                  (some (x7.toInt32 &&& (31 : Int32))).bind fun x8 =>
                  if ¬ l1 = (7 : Int32) then
                  if ¬ l1 = (8 : Int32) then
                    f_R_bitsOf_b257 q5.2 l0 l1 x2 x8 ((0 : Int32))
                    else
                    f_R_bitsOf_b257 q5.2 l0 l1 x2 x8 ((((-1 : Int32).toUInt32 >>> (x8.toUInt32 &&& Int32.toUInt32 31)).toInt32) ^^^ (-1 : Int32))
                  else
                  f_R_bitsOf_b257 q5.2 l0 l1 x2 x8 (((-1 : Int32) <<< (x8 &&& 31)) ^^^ (-1 : Int32))
            else
            (xfR w l0 8 10).bind fun a9 =>
              (xaI w a9 (256 : Int32)).bind fun x10 =>
              (xfR w l0 8 10).bind fun a11 =>
              (xaI w a11 (257 : Int32)).bind fun x12 =>
              (xck w l0 8).bind fun _ =>
              (f_R_knows w l0 (x10 &&& x12) (x2 ^^^ x4)).bind fun q13 =>
              f_R_bitsOf_b351 q13.2
          else
          (xfR w l0 8 10).bind fun a14 =>
            (xaI w a14 (256 : Int32)).bind fun x15 =>
            (xfR w l0 8 10).bind fun a16 =>
            (xaI w a16 (257 : Int32)).bind fun x17 =>
            (xck w l0 8).bind fun _ =>
            (f_R_knows w l0 (((x15 &&& x17) ||| x2) ||| x4) (x2 ||| x4)).bind fun q18 =>
            f_R_bitsOf_b351 q18.2
        else
        (xfR w l0 8 10).bind fun a19 =>
          (xaI w a19 (256 : Int32)).bind fun x20 =>
          (xfR w l0 8 10).bind fun a21 =>
          (xaI w a21 (257 : Int32)).bind fun x22 =>
          (xfR w l0 8 10).bind fun a23 =>
          (xaI w a23 (256 : Int32)).bind fun x24 =>
          (xfR w l0 8 10).bind fun a25 =>
          (xaI w a25 (257 : Int32)).bind fun x26 =>
          (xck w l0 8).bind fun _ =>
          (f_R_knows w l0 (((x20 &&& x22) ||| (x24 &&& (x2 ^^^ (-1 : Int32)))) ||| (x26 &&& (x4 ^^^ (-1 : Int32)))) (x2 &&& x4)).bind fun q27 =>
          f_R_bitsOf_b351 q27.2
      else
      f_R_bitsOf_b33 w l0 l1 x2 x4
def f_R_bound (w : xw) (l0 : Nat) (l1 : Int64) (l3 : Int64) : Option (Unit × xw) :=
  (xfR w l0 8 12).bind fun a1 =>
  (xsL w a1 (258 : Int32) l1).bind fun w2 =>
  (xfR w2 l0 8 13).bind fun a3 =>
  (xsL w2 a3 (258 : Int32) l3).bind fun w4 =>
  some ((), w4)
def f_R_boundSigned_b34 (w : xw) : Option (Unit × xw) :=
  some ((), w)
def f_R_boundSigned (w : xw) (l0 : Nat) (l1 : Int64) (l3 : Int64) : Option (Unit × xw) :=
  if l1 < (-2147483648 : Int64) then
  f_R_boundSigned_b34 w
  else
  if (2147483648 : Int64) ≤ l3 then
    f_R_boundSigned_b34 w
    else
    (xfR w l0 8 14).bind fun a1 =>
      (xsL w a1 (258 : Int32) l1).bind fun w2 =>
      (xfR w2 l0 8 15).bind fun a3 =>
      (xsL w2 a3 (258 : Int32) l3).bind fun w4 =>
      f_R_boundSigned_b34 w4
def f_R_boundsOf_b543 (w : xw) : Option (Unit × xw) :=
  some ((), w)
def f_R_boundsOf_b464 (w : xw) (l0 : Nat) (l1 : Int32) : Option (Unit × xw) :=
  if ¬ l1 = (10 : Int32) then
  if ¬ l1 = (11 : Int32) then
    f_R_boundsOf_b543 w
    else
    (xfR w l0 8 13).bind fun a1 =>
      (xaL w a1 (256 : Int32)).bind fun x2 =>
      (xfR w l0 8 13).bind fun a3 =>
      (xaL w a3 (257 : Int32)).bind fun x4 =>
      (f_R_lesser x2 (x4 - (1 : Int64))).bind fun q5 =>
      (xck w l0 8).bind fun _ =>
      (f_R_bound w l0 (0 : Int64) q5).bind fun q6 =>
      f_R_boundsOf_b543 q6.2
  else
  (xfR w l0 8 12).bind fun a7 =>
    (xaL w a7 (256 : Int32)).bind fun x8 =>
    (xfR w l0 8 13).bind fun a9 =>
    (xaL w a9 (257 : Int32)).bind fun x10 =>
    if x10 = 0 then none else
    (xfR w l0 8 13).bind fun a11 =>
    (xaL w a11 (256 : Int32)).bind fun x12 =>
    (xfR w l0 8 12).bind fun a13 =>
    (xaL w a13 (257 : Int32)).bind fun x14 =>
    if x14 = 0 then none else
    (xck w l0 8).bind fun _ =>
    (f_R_bound w l0 (x8 / x10) (x12 / x14)).bind fun q15 =>
    f_R_boundsOf_b543 q15.2
def f_R_boundsOf_b421 (w : xw) (l0 : Nat) (l1 : Int32) (l2 : Int32) : Option (Unit × xw) :=
  if ¬ l1 = (9 : Int32) then
  f_R_boundsOf_b464 w l0 l1
  else
  (xck w l0 8).bind fun _ =>
    (f_R_isExact w l0 (257 : Int32)).bind fun q1 =>
    if q1.1 = 0 then
    f_R_boundsOf_b464 q1.2 l0 l1
    else
    (xfR q1.2 l0 8 14).bind fun a2 =>
      (xaL q1.2 a2 (256 : Int32)).bind fun x3 =>
      (xfR q1.2 l0 8 15).bind fun a4 =>
      (xaL q1.2 a4 (256 : Int32)).bind fun x5 =>
      (xck q1.2 l0 8).bind fun _ =>
      (f_R_boundSigned q1.2 l0 (x3 >>> (l2.toInt64 &&& 63)) (x5 >>> (l2.toInt64 &&& 63))).bind fun q6 =>
      f_R_boundsOf_b543 q6.2
def f_R_boundsOf_b267 (w : xw) (l0 : Nat) : Option (Unit × xw) :=
  (xfR w l0 8 12).bind fun a1 =>
  (xaL w a1 (256 : Int32)).bind fun x2 =>
  (xfR w l0 8 12).bind fun a3 =>
  (xaL w a3 (257 : Int32)).bind fun x4 =>
  (xfR w l0 8 13).bind fun a5 =>
  (xaL w a5 (256 : Int32)).bind fun x6 =>
  (xfR w l0 8 13).bind fun a7 =>
  (xaL w a7 (257 : Int32)).bind fun x8 =>
  (xck w l0 8).bind fun _ =>
  (f_R_bound w l0 (x2 * x4) (x6 * x8)).bind fun q9 =>
  f_R_boundsOf_b543 q9.2
def f_R_boundsOf_b184 (w : xw) (l0 : Nat) : Option (Unit × xw) :=
  (xfR w l0 8 14).bind fun a1 =>
  (xaL w a1 (256 : Int32)).bind fun x2 =>
  (xfR w l0 8 15).bind fun a3 =>
  (xaL w a3 (257 : Int32)).bind fun x4 =>
  (xfR w l0 8 15).bind fun a5 =>
  (xaL w a5 (256 : Int32)).bind fun x6 =>
  (xfR w l0 8 14).bind fun a7 =>
  (xaL w a7 (257 : Int32)).bind fun x8 =>
  (xck w l0 8).bind fun _ =>
  (f_R_boundSigned w l0 (x2 - x4) (x6 - x8)).bind fun q9 =>
  f_R_boundsOf_b543 q9.2
def f_R_boundsOf_b80 (w : xw) (l0 : Nat) : Option (Unit × xw) :=
  (xfR w l0 8 14).bind fun a1 =>
  (xaL w a1 (256 : Int32)).bind fun x2 =>
  (xfR w l0 8 14).bind fun a3 =>
  (xaL w a3 (257 : Int32)).bind fun x4 =>
  (xfR w l0 8 15).bind fun a5 =>
  (xaL w a5 (256 : Int32)).bind fun x6 =>
  (xfR w l0 8 15).bind fun a7 =>
  (xaL w a7 (257 : Int32)).bind fun x8 =>
  (xck w l0 8).bind fun _ =>
  (f_R_boundSigned w l0 (x2 + x4) (x6 + x8)).bind fun q9 =>
  f_R_boundsOf_b543 q9.2
def f_R_boundsOf (w : xw) (l0 : Nat) (l1 : Int32) : Option (Unit × xw) :=
  (xfR w l0 8 12).bind fun a1 =>
  (xaL w a1 (257 : Int32)).bind fun x2 =>
  (some (x2.toInt32 &&& (31 : Int32))).bind fun x3 =>
  if ¬ l1 = (1 : Int32) then
  if ¬ l1 = (2 : Int32) then
    if ¬ l1 = (3 : Int32) then
      if ¬ l1 = (4 : Int32) then
        if ¬ l1 = (5 : Int32) then
          if ¬ l1 = (8 : Int32) then
            f_R_boundsOf_b421 w l0 l1 x3
            else
            (xck w l0 8).bind fun _ =>
              (f_R_isExact w l0 (257 : Int32)).bind fun q4 =>
              if q4.1 = 0 then
              f_R_boundsOf_b421 q4.2 l0 l1 x3
              else
              (xfR q4.2 l0 8 12).bind fun a5 =>
                (xaL q4.2 a5 (256 : Int32)).bind fun x6 =>
                (xfR q4.2 l0 8 13).bind fun a7 =>
                (xaL q4.2 a7 (256 : Int32)).bind fun x8 =>
                (xck q4.2 l0 8).bind fun _ =>
                (f_R_bound q4.2 l0 (x6 >>> (x3.toInt64 &&& 63)) (x8 >>> (x3.toInt64 &&& 63))).bind fun q9 =>
                f_R_boundsOf_b543 q9.2
          else
          (xfR w l0 8 12).bind fun a10 =>
            (xfR w l0 8 12).bind fun a11 =>
            (xaL w a11 (256 : Int32)).bind fun x12 =>
            (xfR w l0 8 12).bind fun a13 =>
            (xaL w a13 (257 : Int32)).bind fun x14 =>
            (f_R_greater x12 x14).bind fun q15 =>
            (xsL w a10 (258 : Int32) q15).bind fun w16 =>
            f_R_boundsOf_b543 w16
        else
        (xfR w l0 8 13).bind fun a17 =>
          (xfR w l0 8 13).bind fun a18 =>
          (xaL w a18 (256 : Int32)).bind fun x19 =>
          (xfR w l0 8 13).bind fun a20 =>
          (xaL w a20 (257 : Int32)).bind fun x21 =>
          (f_R_lesser x19 x21).bind fun q22 =>
          (xsL w a17 (258 : Int32) q22).bind fun w23 =>
          f_R_boundsOf_b543 w23
      else
      (xfR w l0 8 13).bind fun a24 =>
        (xaL w a24 (256 : Int32)).bind fun x25 =>
        if x25 = (0 : Int64) then
        f_R_boundsOf_b267 w l0
        else
        (xfR w l0 8 13).bind fun a26 =>
          (xaL w a26 (257 : Int32)).bind fun x27 =>
          (xfR w l0 8 13).bind fun a28 =>
          (xaL w a28 (256 : Int32)).bind fun x29 =>
          if x29 = 0 then none else
          if ((4294967295 : Int64) / x29) < x27 then
          f_R_boundsOf_b543 w
          else
          f_R_boundsOf_b267 w l0
    else
    (xfR w l0 8 12).bind fun a30 =>
      (xaL w a30 (256 : Int32)).bind fun x31 =>
      (xfR w l0 8 13).bind fun a32 =>
      (xaL w a32 (257 : Int32)).bind fun x33 =>
      if x31 < x33 then
      f_R_boundsOf_b184 w l0
      else
      (xfR w l0 8 12).bind fun a34 =>
        (xaL w a34 (256 : Int32)).bind fun x35 =>
        (xfR w l0 8 13).bind fun a36 =>
        (xaL w a36 (257 : Int32)).bind fun x37 =>
        (xfR w l0 8 13).bind fun a38 =>
        (xaL w a38 (256 : Int32)).bind fun x39 =>
        (xfR w l0 8 12).bind fun a40 =>
        (xaL w a40 (257 : Int32)).bind fun x41 =>
        (xck w l0 8).bind fun _ =>
        (f_R_bound w l0 (x35 - x37) (x39 - x41)).bind fun q42 =>
        f_R_boundsOf_b184 q42.2 l0
  else
  (xfR w l0 8 13).bind fun a43 =>
    (xaL w a43 (256 : Int32)).bind fun x44 =>
    (xfR w l0 8 13).bind fun a45 =>
    (xaL w a45 (257 : Int32)).bind fun x46 =>
    if (4294967295 : Int64) < (x44 + x46) then
    f_R_boundsOf_b80 w l0
    else
    (xfR w l0 8 12).bind fun a47 =>
      (xaL w a47 (256 : Int32)).bind fun x48 =>
      (xfR w l0 8 12).bind fun a49 =>
      (xaL w a49 (257 : Int32)).bind fun x50 =>
      (xfR w l0 8 13).bind fun a51 =>
      (xaL w a51 (256 : Int32)).bind fun x52 =>
      (xfR w l0 8 13).bind fun a53 =>
      (xaL w a53 (257 : Int32)).bind fun x54 =>
      (xck w l0 8).bind fun _ =>
      (f_R_bound w l0 (x48 + x50) (x52 + x54)).bind fun q55 =>
      f_R_boundsOf_b80 q55.2 l0
def f_R_operate_b115 (w : xw) (l2 : Int32) : Option (Int32 × xw) :=
  xrZ l2 w
def f_R_operate_b114 (w : xw) (l2 : Int32) (s0 : Nat) (s1 : Int32) (s2 : Int32) : Option (Int32 × xw) :=
  (xsI w s0 s1 s2).bind fun w1 =>
  f_R_operate_b115 w1 l2
def f_R_operate (w : xw) (l0 : Nat) (l1 : Int32) : Option (Int32 × xw) :=
  (xck w l0 8).bind fun _ =>
  (f_R_nothing w l0 (258 : Int32)).bind fun q1 =>
  (xck q1.2 l0 8).bind fun _ =>
  (f_R_bitsOf q1.2 l0 l1).bind fun q2 =>
  (xck q2.2 l0 8).bind fun _ =>
  (f_R_boundsOf q2.2 l0 l1).bind fun q3 =>
  (xck q3.2 l0 8).bind fun _ =>
  (f_R_tighten q3.2 l0 (258 : Int32)).bind fun q4 =>
  if ¬ l1 = (1 : Int32) then
  f_R_operate_b115 q4.2 q4.1
  else
  (xck q4.2 l0 8).bind fun _ =>
    (f_R_isExact q4.2 l0 (257 : Int32)).bind fun q5 =>
    if q5.1 = 0 then
    f_R_operate_b115 q5.2 q4.1
    else
    (xfR q5.2 l0 8 12).bind fun a6 =>
      (xaL q5.2 a6 (257 : Int32)).bind fun x7 =>
      if (20 : Int64) < x7 then
      f_R_operate_b115 q5.2 q4.1
      else
      (xfR q5.2 l0 8 13).bind fun a8 =>
        (xaL q5.2 a8 (256 : Int32)).bind fun x9 =>
        (xfR q5.2 l0 8 12).bind fun a10 =>
        (xaL q5.2 a10 (257 : Int32)).bind fun x11 =>
        if (4294967295 : Int64) < (x9 + x11) then
        f_R_operate_b115 q5.2 q4.1
        else
        (xfR q5.2 l0 8 16).bind fun a12 =>
          (xaI q5.2 a12 (256 : Int32)).bind fun x13 =>
          (xfR q5.2 l0 8 12).bind fun a14 =>
          (xaL q5.2 a14 (257 : Int32)).bind fun x15 =>
          (some (x13 - x15.toInt32)).bind fun x16 =>
          (xfR q5.2 l0 8 16).bind fun a17 =>
          if x16 ≤ 0 then
          f_R_operate_b114 q5.2 q4.1 a17 ((258 : Int32)) ((0 : Int32))
          else
          f_R_operate_b114 q5.2 q4.1 a17 ((258 : Int32)) x16
def f_R_meet_b173 (w : xw) (s0 : Nat) (s1 : Int32) (s2 : Int32) : Option (Unit × xw) :=
  (xsI w s0 s1 s2).bind fun w1 =>
  some ((), w1)
def f_R_meet (w : xw) (l0 : Nat) (l1 : Int32) (l2 : Int32) : Option (Unit × xw) :=
  (xfR w l0 8 10).bind fun a1 =>
  (xfR w l0 8 10).bind fun a2 =>
  (xaI w a2 l1).bind fun x3 =>
  (xfR w l0 8 10).bind fun a4 =>
  (xaI w a4 l2).bind fun x5 =>
  (xfR w l0 8 11).bind fun a6 =>
  (xaI w a6 l1).bind fun x7 =>
  (xfR w l0 8 11).bind fun a8 =>
  (xaI w a8 l2).bind fun x9 =>
  (xsI w a1 l1 ((x3 &&& x5) &&& ((x7 ^^^ x9) ^^^ (-1 : Int32)))).bind fun w10 =>
  (xfR w10 l0 8 11).bind fun a11 =>
  (xfR w10 l0 8 11).bind fun a12 =>
  (xaI w10 a12 l1).bind fun x13 =>
  (xfR w10 l0 8 10).bind fun a14 =>
  (xaI w10 a14 l1).bind fun x15 =>
  (xsI w10 a11 l1 (x13 &&& x15)).bind fun w16 =>
  (xfR w16 l0 8 12).bind fun a17 =>
  (xfR w16 l0 8 12).bind fun a18 =>
  (xaL w16 a18 l1).bind fun x19 =>
  (xfR w16 l0 8 12).bind fun a20 =>
  (xaL w16 a20 l2).bind fun x21 =>
  (f_R_lesser x19 x21).bind fun q22 =>
  (xsL w16 a17 l1 q22).bind fun w23 =>
  (xfR w23 l0 8 13).bind fun a24 =>
  (xfR w23 l0 8 13).bind fun a25 =>
  (xaL w23 a25 l1).bind fun x26 =>
  (xfR w23 l0 8 13).bind fun a27 =>
  (xaL w23 a27 l2).bind fun x28 =>
  (f_R_greater x26 x28).bind fun q29 =>
  (xsL w23 a24 l1 q29).bind fun w30 =>
  (xfR w30 l0 8 14).bind fun a31 =>
  (xfR w30 l0 8 14).bind fun a32 =>
  (xaL w30 a32 l1).bind fun x33 =>
  (xfR w30 l0 8 14).bind fun a34 =>
  (xaL w30 a34 l2).bind fun x35 =>
  (f_R_lesser x33 x35).bind fun q36 =>
  (xsL w30 a31 l1 q36).bind fun w37 =>
  (xfR w37 l0 8 15).bind fun a38 =>
  (xfR w37 l0 8 15).bind fun a39 =>
  (xaL w37 a39 l1).bind fun x40 =>
  (xfR w37 l0 8 15).bind fun a41 =>
  (xaL w37 a41 l2).bind fun x42 =>
  (f_R_greater x40 x42).bind fun q43 =>
  (xsL w37 a38 l1 q43).bind fun w44 =>
  (xfR w44 l0 8 16).bind fun a45 =>
  (xfR w44 l0 8 16).bind fun a46 =>
  (xaI w44 a46 l1).bind fun x47 =>
  (xfR w44 l0 8 16).bind fun a48 =>
  (xaI w44 a48 l2).bind fun x49 =>
  if x49 ≤ x47 then
  (xfR w44 l0 8 16).bind fun a50 =>
    (xaI w44 a50 l2).bind fun x51 =>
    f_R_meet_b173 w44 a45 l1 x51
  else
  (xfR w44 l0 8 16).bind fun a52 =>
    (xaI w44 a52 l1).bind fun x53 =>
    f_R_meet_b173 w44 a45 l1 x53
def f_R_get_s31 (r31 : (xw → Nat → Int32 → Int32 → Option (Unit × xw))) (w : xw) (l0 : Nat) (l1 : Int32) (l2 : Int32) : Option (Unit × xw) :=
  (xfR w l0 8 13).bind fun a1 =>
  (xaL w a1 (257 : Int32)).bind fun x2 =>
  if x2 < l2.toInt64 then
  (xck w l0 8).bind fun _ =>
    (f_R_copy w l0 (258 : Int32) l1).bind fun q3 =>
    some ((), q3.2)
  else
  (xck w l0 8).bind fun _ =>
    (f_R_meet w l0 (258 : Int32) ((6 : Int32) + l2)).bind fun q4 =>
    (some (l2 + (1 : Int32))).bind fun x5 =>
    r31 q4.2 l0 l1 x5
def f_R_get_b31 (n : Nat) : xw → Nat → Int32 → Int32 → Option (Unit × xw) := xfix (fun _ _ _ _ => none) (f_R_get_s31) n
def f_R_get (w : xw) (l0 : Nat) (l1 : Int32) : Option (Unit × xw) :=
  (xfR w l0 8 12).bind fun a1 =>
  (xaL w a1 (257 : Int32)).bind fun x2 =>
  (xck w l0 8).bind fun _ =>
  (f_R_copy w l0 ((6 : Int32) + x2.toInt32) (258 : Int32)).bind fun q3 =>
  (xfR q3.2 l0 8 12).bind fun a4 =>
  (xaL q3.2 a4 (257 : Int32)).bind fun x5 =>
  (some (x5.toInt32 + (1 : Int32))).bind fun x6 =>
  f_R_get_b31 4000 q3.2 l0 l1 x6
def f_R_put_b77 (r40 : (xw → Nat → Int32 → Option (Unit × xw))) (w : xw) (l0 : Nat) (l1 : Int32) : Option (Unit × xw) :=
  (some (l1 + (1 : Int32))).bind fun x1 =>
  r40 w l0 x1
def f_R_put_s40 (r40 : (xw → Nat → Int32 → Option (Unit × xw))) (w : xw) (l0 : Nat) (l1 : Int32) : Option (Unit × xw) :=
  (xfR w l0 8 13).bind fun a1 =>
  (xaL w a1 (257 : Int32)).bind fun x2 =>
  if x2 < l1.toInt64 then
  some ((), w)
  else
  (xfR w l0 8 9).bind fun a3 =>
    (xaZ w a3 ((6 : Int32) + l1)).bind fun x4 =>
    if x4 = 0 then
    f_R_put_b77 r40 w l0 l1
    else
    (xck w l0 8).bind fun _ =>
      (f_R_meet w l0 ((6 : Int32) + l1) (256 : Int32)).bind fun q5 =>
      f_R_put_b77 r40 q5.2 l0 l1
def f_R_put_b40 (n : Nat) : xw → Nat → Int32 → Option (Unit × xw) := xfix (fun _ _ _ => none) (f_R_put_s40) n
def f_R_put (w : xw) (l0 : Nat) : Option (Unit × xw) :=
  (xck w l0 8).bind fun _ =>
  (f_R_isExact w l0 (257 : Int32)).bind fun q1 =>
  if q1.1 = 0 then
  (xfR q1.2 l0 8 12).bind fun a2 =>
    (xaL q1.2 a2 (257 : Int32)).bind fun x3 =>
    f_R_put_b40 4000 q1.2 l0 x3.toInt32
  else
  (xfR q1.2 l0 8 12).bind fun a4 =>
    (xaL q1.2 a4 (257 : Int32)).bind fun x5 =>
    (xck q1.2 l0 8).bind fun _ =>
    (f_R_copy q1.2 l0 (256 : Int32) ((6 : Int32) + x5.toInt32)).bind fun q6 =>
    some ((), q6.2)
def f_R_load_b76 (w : xw) (l0 : Nat) (l1 : Int32) : Option (Unit × xw) :=
  (xck w l0 8).bind fun _ =>
  (f_R_copy w l0 (258 : Int32) l1).bind fun q1 =>
  some ((), q1.2)
def f_R_load_b33 (w : xw) (l0 : Nat) (l1 : Int32) (s0 : Nat) (s1 : Int32) (s2 : Int64) : Option (Unit × xw) :=
  (xsL w s0 s1 s2).bind fun w1 =>
  (xfR w1 l0 8 14).bind fun a2 =>
  (xsL w1 a2 (258 : Int32) (0 : Int64)).bind fun w3 =>
  (xfR w3 l0 8 15).bind fun a4 =>
  (xfR w3 l0 8 13).bind fun a5 =>
  (xaL w3 a5 (258 : Int32)).bind fun x6 =>
  (xsL w3 a4 (258 : Int32) x6).bind fun w7 =>
  (xck w7 l0 8).bind fun _ =>
  (f_R_tighten w7 l0 (258 : Int32)).bind fun q8 =>
  (xfR q8.2 l0 8 9).bind fun a9 =>
  (xsZ q8.2 a9 (258 : Int32) q8.1).bind fun w10 =>
  f_R_load_b76 w10 l0 l1
def f_R_load (w : xw) (l0 : Nat) (l1 : Int32) (l2 : Int32) : Option (Unit × xw) :=
  (xck w l0 8).bind fun _ =>
  (f_R_nothing w l0 (258 : Int32)).bind fun q1 =>
  if (4 : Int32) ≤ l2 then
  f_R_load_b76 q1.2 l0 l1
  else
  (xfR q1.2 l0 8 13).bind fun a2 =>
    if ¬ l2 = (1 : Int32) then
    f_R_load_b33 q1.2 l0 l1 a2 ((258 : Int32)) ((65535 : Int64))
    else
    f_R_load_b33 q1.2 l0 l1 a2 ((258 : Int32)) ((255 : Int64))
def f_R_pass_b277 (w : xw) (l5 : Int32) (s0 : Nat) (s1 : Int32) : Option (Int32 × xw) :=
  (xpI w s0 8 17 s1).bind fun w1 =>
  xrZ l5 w1
def f_R_pass_b259 (w : xw) (l0 : Nat) (l1 : Int32) (l4 : Int32) (l5 : Int32) : Option (Int32 × xw) :=
  if ¬ l1 = (22 : Int32) then
  (xfI w l0 8 17).bind fun x1 =>
    f_R_pass_b277 w l5 l0 (x1 + (1 : Int32))
  else
  f_R_pass_b277 w l5 l0 l4
def f_R_pass_b258 (w : xw) (l0 : Nat) (l1 : Int32) (l4 : Int32) (l5 : Int32) (s0 : Nat) (s1 : Int32) (s2 : Int32) : Option (Int32 × xw) :=
  (xsI w s0 s1 s2).bind fun w1 =>
  f_R_pass_b259 w1 l0 l1 l4 l5
def f_R_pass_b111 (w : xw) (l0 : Nat) (l1 : Int32) (l2 : Int32) (l3 : Int32) (l4 : Int32) : Option (Int32 × xw) :=
  (some (1 : Int32)).bind fun x1 =>
  if ¬ l1 = 0 then
  if (11 : Int32) < l1 then
    if ¬ l1 = (12 : Int32) then
      if ¬ l1 = (13 : Int32) then
        if ¬ l1 = (14 : Int32) then
          if ¬ l1 = (15 : Int32) then
            f_R_pass_b259 w l0 l1 l4 x1
            else
            (xck w l0 8).bind fun _ =>
              (f_R_wait w l0 l4 (-1 : Int32) (-1 : Int32)).bind fun q2 =>
              (xfR q2.2 l0 8 16).bind fun a3 =>
              (xfR q2.2 l0 8 16).bind fun a4 =>
              (xaI q2.2 a4 l3).bind fun x5 =>
              (xfR q2.2 l0 8 5).bind fun a6 =>
              (xfI q2.2 l0 8 17).bind fun x7 =>
              (xaI q2.2 a6 x7).bind fun x8 =>
              if x5 ≤ x8 then
              (xfR q2.2 l0 8 5).bind fun a9 =>
                (xfI q2.2 l0 8 17).bind fun x10 =>
                (xaI q2.2 a9 x10).bind fun x11 =>
                f_R_pass_b258 q2.2 l0 l1 l4 x1 a3 l3 x11
              else
              (xfR q2.2 l0 8 16).bind fun a12 =>
                (xaI q2.2 a12 l3).bind fun x13 =>
                f_R_pass_b258 q2.2 l0 l1 l4 x1 a3 l3 x13
          else
          (xfR w l0 8 6).bind fun a14 =>
            (xfI w l0 8 17).bind fun x15 =>
            (xaI w a14 x15).bind fun x16 =>
            (xck w l0 8).bind fun _ =>
            (f_R_load w l0 l2 x16).bind fun q17 =>
            f_R_pass_b259 q17.2 l0 l1 l4 x1
        else
        (xck w l0 8).bind fun _ =>
          (f_R_put w l0).bind fun q18 =>
          f_R_pass_b259 q18.2 l0 l1 l4 x1
      else
      (xck w l0 8).bind fun _ =>
        (f_R_get w l0 l2).bind fun q19 =>
        f_R_pass_b259 q19.2 l0 l1 l4 x1
    else
    (xck w l0 8).bind fun _ =>
      (f_R_operate w l0 l1).bind fun q20 =>
      (xck q20.2 l0 8).bind fun _ =>
      (f_R_copy q20.2 l0 (258 : Int32) l2).bind fun q21 =>
      f_R_pass_b259 q21.2 l0 l1 l4 q20.1
  else
  (xck w l0 8).bind fun _ =>
    (f_R_copy w l0 (257 : Int32) l2).bind fun q22 =>
    f_R_pass_b259 q22.2 l0 l1 l4 x1
def f_R_pass_s62 (r62 : (xw → Nat → Int32 → Option (Int32 × xw))) (w : xw) (l0 : Nat) (l5 : Int32) : Option (Int32 × xw) :=
  if (6 : Int32) ≤ l5 then
  xrZ (0 : Int32) w
  else
  (xck w l0 8).bind fun _ =>
    (f_R_copy w l0 l5 ((250 : Int32) + l5)).bind fun q1 =>
    (some (l5 + (1 : Int32))).bind fun x2 =>
    r62 q1.2 l0 x2
def f_R_pass_b62 (n : Nat) : xw → Nat → Int32 → Option (Int32 × xw) := xfix (fun _ _ _ => none) (f_R_pass_s62) n
def f_R_pass (w : xw) (l0 : Nat) : Option (Int32 × xw) :=
  (xfR w l0 8 2).bind fun a1 =>
  (xfI w l0 8 17).bind fun x2 =>
  (xaI w a1 x2).bind fun x3 =>
  (xfR w l0 8 3).bind fun a4 =>
  (xfI w l0 8 17).bind fun x5 =>
  (xaI w a4 x5).bind fun x6 =>
  (xfR w l0 8 4).bind fun a7 =>
  (xfI w l0 8 17).bind fun x8 =>
  (xaI w a7 x8).bind fun x9 =>
  (xfI w l0 8 17).bind fun x10 =>
  (xfR w l0 8 6).bind fun a11 =>
  (xfI w l0 8 17).bind fun x12 =>
  (xaI w a11 x12).bind fun x13 =>
  (some ((x10 + (1 : Int32)) + x13)).bind fun x14 =>
  if ¬ x3 = (23 : Int32) then
  if x3 < (16 : Int32) then
    f_R_pass_b111 w l0 x3 x6 x9 x14
    else
    if (21 : Int32) < x3 then
      f_R_pass_b111 w l0 x3 x6 x9 x14
      else
      (xck w l0 8).bind fun _ =>
        (f_R_part w l0 x3 x6 x9 x14).bind fun q15 =>
        xrZ q15.1 q15.2
  else
  (xpZ w l0 8 19 (1 : Int32)).bind fun w16 =>
    (some (0 : Int32)).bind fun x17 =>
    f_R_pass_b62 4000 w16 l0 x17
def f_R_walk_b143 (r31 : (xw → Nat → Int32 → Option (Int32 × xw))) (w : xw) (l0 : Nat) (l1 : Int32) : Option (Int32 × xw) :=
  r31 w l0 l1
def f_R_walk_b140 (r31 : (xw → Nat → Int32 → Option (Int32 × xw))) (w : xw) (l0 : Nat) (l1 : Int32) (s0 : Nat) (s1 : Int32) : Option (Int32 × xw) :=
  (xpI w s0 8 20 s1).bind fun w1 =>
  f_R_walk_b143 r31 w1 l0 l1
def f_R_walk_s86 (r31 : (xw → Nat → Int32 → Option (Int32 × xw))) (r86 : (xw → Nat → Int32 → Int32 → Option (Int32 × xw))) (w : xw) (l0 : Nat) (l1 : Int32) (l3 : Int32) : Option (Int32 × xw) :=
  if (10 : Int32) ≤ l3 then
  (xfR w l0 8 21).bind fun a1 =>
    (xfI w l0 8 20).bind fun x2 =>
    (xaI w a1 x2).bind fun x3 =>
    (xpI w l0 8 17 x3).bind fun w4 =>
    if l1 = 0 then
    f_R_walk_b140 r31 w4 l0 l1 l0 ((0 : Int32))
    else
    (xfI w4 l0 8 20).bind fun x5 =>
      f_R_walk_b140 r31 w4 l0 l1 l0 (x5 - (1 : Int32))
  else
  (xfI w l0 8 20).bind fun x6 =>
    (xck w l0 8).bind fun _ =>
    (f_R_copy w l0 (((10 : Int32) * x6) + l3) l3).bind fun q7 =>
    (some (l3 + (1 : Int32))).bind fun x8 =>
    r86 q7.2 l0 l1 x8
def f_R_walk_b86 (r31 : (xw → Nat → Int32 → Option (Int32 × xw))) (n : Nat) : xw → Nat → Int32 → Int32 → Option (Int32 × xw) := xfix (fun _ _ _ _ => none) (f_R_walk_s86 r31) n
def f_R_walk_b83 (r31 : (xw → Nat → Int32 → Option (Int32 × xw))) (w : xw) (l0 : Nat) (s0 : Int32) : Option (Int32 × xw) :=
  (some (0 : Int32)).bind fun x1 =>
  f_R_walk_b86 r31 4000 w l0 s0 x1
def f_R_walk_s31 (r31 : (xw → Nat → Int32 → Option (Int32 × xw))) (w : xw) (l0 : Nat) (l1 : Int32) : Option (Int32 × xw) :=
  if l1 = 0 then
  some ((0 : Int32), w)
  else
  (xfI w l0 8 18).bind fun x1 =>
    (xpI w l0 8 18 (x1 + (1 : Int32))).bind fun w2 =>
    (xck w2 l0 8).bind fun _ =>
    (f_R_alarm w2 l0).bind fun q3 =>
    if q3.1 ≤ 0 then
    (xck q3.2 l0 8).bind fun _ =>
      (f_R_pass q3.2 l0).bind fun q4 =>
      if ¬ q4.1 = 0 then
      f_R_walk_b143 r31 q4.2 l0 l1
      else
      (xfI q4.2 l0 8 20).bind fun x5 =>
        if x5 ≤ 0 then
        f_R_walk_b83 r31 q4.2 l0 ((0 : Int32))
        else
        f_R_walk_b83 r31 q4.2 l0 ((1 : Int32))
    else
    (xfI q3.2 l0 8 17).bind fun x6 =>
      some (((100 : Int32) * q3.1) + x6, q3.2)
def f_R_walk_b31 (n : Nat) : xw → Nat → Int32 → Option (Int32 × xw) := xfix (fun _ _ _ => none) (f_R_walk_s31) n
def f_R_walk (w : xw) (l0 : Nat) : Option (Int32 × xw) :=
  (xpI w l0 8 0 (0 : Int32)).bind fun w1 =>
  (xpI w1 l0 8 18 (0 : Int32)).bind fun w2 =>
  (xpZ w2 l0 8 19 (0 : Int32)).bind fun w3 =>
  (xpI w3 l0 8 20 (0 : Int32)).bind fun w4 =>
  (xpI w4 l0 8 17 (0 : Int32)).bind fun w5 =>
  (xck w5 l0 8).bind fun _ =>
  (f_R_setUp w5 l0).bind fun q6 =>
  (some (1 : Int32)).bind fun x7 =>
  f_R_walk_b31 4000 q6.2 l0 x7
def f_R_steps (w : xw) (l0 : Nat) : Option (Int32 × xw) :=
  (xpI w l0 8 0 (0 : Int32)).bind fun w1 =>
  (xfI w1 l0 8 18).bind fun x2 =>
  some (x2, w1)
def f_R_known_b154 (w : xw) (s0 : Int64) : Option (Int64 × xw) :=
  some (s0, w)
def f_R_known_b44 (w : xw) : Option (Int64 × xw) :=
  some ((4611686018427387904 : Int64), w)
def f_R_known (w : xw) (l0 : Nat) (l1 : Int32) (l2 : Int32) : Option (Int64 × xw) :=
  (xpI w l0 8 0 (0 : Int32)).bind fun w1 =>
  (f_R_within l1 (0 : Int32) (5 : Int32)).bind fun q2 =>
  if q2 = 0 then
  f_R_known_b44 w1
  else
  (f_R_within l2 (0 : Int32) (6 : Int32)).bind fun q3 =>
    if q3 = 0 then
    f_R_known_b44 w1
    else
    (xfI w1 l0 8 19).bind fun x4 =>
      if x4 = 0 then
      f_R_known_b44 w1
      else
      (xfR w1 l0 8 9).bind fun a5 =>
        (xaZ w1 a5 ((250 : Int32) + l1)).bind fun x6 =>
        if ¬ x6 = 0 then
        (some ((250 : Int32) + l1)).bind fun x7 =>
          if ¬ l2 = 0 then
          if ¬ l2 = (1 : Int32) then
            if ¬ l2 = (2 : Int32) then
              if ¬ l2 = (3 : Int32) then
                if ¬ l2 = (4 : Int32) then
                  if ¬ l2 = (5 : Int32) then
                    (xfR w1 l0 8 16).bind fun a8 =>
                      (xaI w1 a8 x7).bind fun x9 =>
                      f_R_known_b154 w1 x9.toInt64
                    else
                    (xfR w1 l0 8 15).bind fun a10 =>
                      (xaL w1 a10 x7).bind fun x11 =>
                      f_R_known_b154 w1 x11
                  else
                  (xfR w1 l0 8 14).bind fun a12 =>
                    (xaL w1 a12 x7).bind fun x13 =>
                    f_R_known_b154 w1 x13
                else
                (xfR w1 l0 8 13).bind fun a14 =>
                  (xaL w1 a14 x7).bind fun x15 =>
                  f_R_known_b154 w1 x15
              else
              (xfR w1 l0 8 12).bind fun a16 =>
                (xaL w1 a16 x7).bind fun x17 =>
                f_R_known_b154 w1 x17
            else
            (xfR w1 l0 8 11).bind fun a18 =>
              (xaI w1 a18 x7).bind fun x19 =>
              f_R_known_b154 w1 (x19.toInt64 &&& (4294967295 : Int64))
          else
          (xfR w1 l0 8 10).bind fun a20 =>
            (xaI w1 a20 x7).bind fun x21 =>
            f_R_known_b154 w1 (x21.toInt64 &&& (4294967295 : Int64))
        else
        f_R_known_b44 w1
def f_R_refuse (w : xw) (l0 : Nat) (l1 : Int32) : Option (Int32 × xw) :=
  (xpI w l0 8 0 l1).bind fun w1 =>
  some ((0 : Int32), w1)
def f_R_unsignedRest (l0 : Int32) (l1 : Int32) : Option (Int32) :=
  if (l1.toInt64 &&& (4294967295 : Int64)) = 0 then none else
  some (((l0.toInt64 &&& (4294967295 : Int64)) - (l0.toInt64 &&& (4294967295 : Int64)) / (l1.toInt64 &&& (4294967295 : Int64)) * (l1.toInt64 &&& (4294967295 : Int64))).toInt32)
def f_R_reckon (l0 : Int32) (l1 : Int32) (l2 : Int32) : Option (Int32) :=
  if l0 = (0 : Int32) then
  some l2
  else if l0 = (1 : Int32) then
  some (l1 + l2)
  else if l0 = (2 : Int32) then
  some (l1 - l2)
  else if l0 = (3 : Int32) then
  some (l1 * l2)
  else if l0 = (4 : Int32) then
  some (l1 &&& l2)
  else if l0 = (5 : Int32) then
  some (l1 ||| l2)
  else if l0 = (6 : Int32) then
  some (l1 ^^^ l2)
  else if l0 = (7 : Int32) then
  some (l1 <<< ((l2 &&& (31 : Int32)) &&& 31))
  else if l0 = (8 : Int32) then
  some ((l1.toUInt32 >>> ((l2 &&& (31 : Int32)).toUInt32 &&& Int32.toUInt32 31)).toInt32)
  else if l0 = (9 : Int32) then
  some (l1 >>> ((l2 &&& (31 : Int32)) &&& 31))
  else if l0 = (10 : Int32) then
  if (l2.toInt64 &&& (4294967295 : Int64)) = 0 then none else
    some (((l1.toInt64 &&& (4294967295 : Int64)) / (l2.toInt64 &&& (4294967295 : Int64))).toInt32)
  else (f_R_unsignedRest l1 l2).bind fun q1 =>
  some q1
def f_R_bytesAt_s7 (r7 : (xw → Nat → Int32 → Int32 → Int32 → Option (Int32 × xw))) (w : xw) (l0 : Nat) (l1 : Int32) (l3 : Int32) (l4 : Int32) : Option (Int32 × xw) :=
  if l4 < 0 then
  some (l3, w)
  else
  (xfR w l0 8 8).bind fun a1 =>
    (xaI w a1 (l1 + l4)).bind fun x2 =>
    (some ((l3 <<< ((8 : Int32) &&& 31)) ||| x2)).bind fun x3 =>
    (some (l4 + (-1 : Int32))).bind fun x4 =>
    r7 w l0 l1 x3 x4
def f_R_bytesAt_b7 (n : Nat) : xw → Nat → Int32 → Int32 → Int32 → Option (Int32 × xw) := xfix (fun _ _ _ _ _ => none) (f_R_bytesAt_s7) n
def f_R_bytesAt (w : xw) (l0 : Nat) (l1 : Int32) (l2 : Int32) : Option (Int32 × xw) :=
  (some (0 : Int32)).bind fun x1 =>
  (some (l2 - (1 : Int32))).bind fun x2 =>
  f_R_bytesAt_b7 4000 w l0 l1 x1 x2
def f_R_holds_b84 (s0 : Int32) : Option (Int32) :=
  xrZ0 s0
def f_R_holds_b76 (s0 : Int32) (s1 : Int32) : Option (Int32) :=
  if ¬ s0 = s1 then
  f_R_holds_b84 ((0 : Int32))
  else
  f_R_holds_b84 ((1 : Int32))
def f_R_holds_b61 (l0 : Int32) (s0 : Int32) : Option (Int32) :=
  if (2 : Int32) = 0 then none else
  if ¬ (l0 - l0 / (2 : Int32) * (2 : Int32)) = 0 then
  f_R_holds_b76 s0 ((0 : Int32))
  else
  f_R_holds_b76 s0 ((1 : Int32))
def f_R_holds_b40 (l0 : Int32) (l1 : Int32) (l2 : Int32) (s0 : Int32) : Option (Int32) :=
  if (18 : Int32) ≤ l0 then
  f_R_holds_b61 l0 s0
  else
  if ¬ l1 = l2 then
    f_R_holds_b61 l0 ((0 : Int32))
    else
    f_R_holds_b61 l0 ((1 : Int32))
def f_R_holds (l0 : Int32) (l1 : Int32) (l2 : Int32) : Option (Int32) :=
  if (20 : Int32) ≤ l0 then
  if l2 ≤ l1 then
    f_R_holds_b40 l0 l1 l2 ((0 : Int32))
    else
    f_R_holds_b40 l0 l1 l2 ((1 : Int32))
  else
  if (l2.toInt64 &&& (4294967295 : Int64)) ≤ (l1.toInt64 &&& (4294967295 : Int64)) then
    f_R_holds_b40 l0 l1 l2 ((0 : Int32))
    else
    f_R_holds_b40 l0 l1 l2 ((1 : Int32))
def f_R_run_b445 (w : xw) (l0 : Nat) (l2 : Int32) : Option (Int32 × xw) :=
  (xfI w l0 8 1).bind fun x1 =>
  if l2 < x1 then
  (xfI w l0 8 22).bind fun x2 =>
    (xpI w l0 8 22 (x2 + (1 : Int32))).bind fun w3 =>
    (xfR w3 l0 8 23).bind fun a4 =>
    (xaI w3 a4 (0 : Int32)).bind fun x5 =>
    some (x5, w3)
  else
  (xck w l0 8).bind fun _ =>
    (f_R_refuse w l0 (1 : Int32)).bind fun q6 =>
    some (q6.1, q6.2)
def f_R_run_b441 (r74 : (xw → Nat → Int32 → Option (Int32 × xw))) (w : xw) (l0 : Nat) (s0 : Int32) : Option (Int32 × xw) :=
  r74 w l0 s0
def f_R_run_b420 (r74 : (xw → Nat → Int32 → Option (Int32 × xw))) (w : xw) (l0 : Nat) (l2 : Int32) (l6 : Int32) : Option (Int32 × xw) :=
  if l6 = 0 then
  f_R_run_b441 r74 w l0 (l2 + (1 : Int32))
  else
  (xfR w l0 8 6).bind fun a1 =>
    (xaI w a1 l2).bind fun x2 =>
    f_R_run_b441 r74 w l0 ((l2 + (1 : Int32)) + x2)
def f_R_run_b394 (r74 : (xw → Nat → Int32 → Option (Int32 × xw))) (w : xw) (l0 : Nat) (l2 : Int32) (s0 : Int32) : Option (Int32 × xw) :=
  f_R_run_b420 r74 w l0 l2 s0
def f_R_run_b213 (r74 : (xw → Nat → Int32 → Option (Int32 × xw))) (w : xw) (l0 : Nat) (l2 : Int32) (l3 : Int32) (l4 : Int32) (l5 : Int32) (l6 : Int32) : Option (Int32 × xw) :=
  if (11 : Int32) < l3 then
  if ¬ l3 = (12 : Int32) then
    if ¬ l3 = (13 : Int32) then
      if ¬ l3 = (14 : Int32) then
        if ¬ l3 = (15 : Int32) then
          if (21 : Int32) < l3 then
            f_R_run_b420 r74 w l0 l2 l6
            else
            (xfR w l0 8 23).bind fun a1 =>
              (xaI w a1 l4).bind fun x2 =>
              (f_R_holds l3 x2 l5).bind fun q3 =>
              f_R_run_b420 r74 w l0 l2 q3
          else
          (xfR w l0 8 5).bind fun a4 =>
            (xaI w a4 l2).bind fun x5 =>
            (xfI w l0 8 7).bind fun x6 =>
            if ((l5.toInt64 &&& (4294967295 : Int64)) + x5.toInt64) ≤ x6.toInt64 then
            f_R_run_b394 r74 w l0 l2 ((0 : Int32))
            else
            f_R_run_b394 r74 w l0 l2 ((1 : Int32))
        else
        (xfR w l0 8 5).bind fun a7 =>
          (xaI w a7 l2).bind fun x8 =>
          (some ((l5.toInt64 &&& (4294967295 : Int64)) + x8.toInt64)).bind fun x9 =>
          (xfR w l0 8 6).bind fun a10 =>
          (xaI w a10 l2).bind fun x11 =>
          (xfI w l0 8 7).bind fun x12 =>
          if (x9 + x11.toInt64) ≤ x12.toInt64 then
          (xfR w l0 8 23).bind fun a13 =>
            (xfR w l0 8 6).bind fun a14 =>
            (xaI w a14 l2).bind fun x15 =>
            (xck w l0 8).bind fun _ =>
            (f_R_bytesAt w l0 x9.toInt32 x15).bind fun q16 =>
            (xsI q16.2 a13 l4 q16.1).bind fun w17 =>
            f_R_run_b420 r74 w17 l0 l2 l6
          else
          (xck w l0 8).bind fun _ =>
            (f_R_refuse w l0 (3 : Int32)).bind fun q18 =>
            some (q18.1, q18.2)
      else
      (xfR w l0 8 24).bind fun a19 =>
        (xfR w l0 8 23).bind fun a20 =>
        (xaI w a20 l4).bind fun x21 =>
        (xsI w a19 l5 x21).bind fun w22 =>
        f_R_run_b420 r74 w22 l0 l2 l6
    else
    (xfR w l0 8 23).bind fun a23 =>
      (xfR w l0 8 24).bind fun a24 =>
      (xaI w a24 l5).bind fun x25 =>
      (xsI w a23 l4 x25).bind fun w26 =>
      f_R_run_b420 r74 w26 l0 l2 l6
  else
  (xfR w l0 8 23).bind fun a27 =>
    (xfR w l0 8 23).bind fun a28 =>
    (xaI w a28 l4).bind fun x29 =>
    (f_R_reckon l3 x29 l5).bind fun q30 =>
    (xsI w a27 l4 q30).bind fun w31 =>
    f_R_run_b420 r74 w31 l0 l2 l6
def f_R_run_b197 (r74 : (xw → Nat → Int32 → Option (Int32 × xw))) (w : xw) (l0 : Nat) (l2 : Int32) (l3 : Int32) (l4 : Int32) (l5 : Int32) (l6 : Int32) : Option (Int32 × xw) :=
  (f_R_within l5 (0 : Int32) (3 : Int32)).bind fun q1 =>
  if ¬ q1 = 0 then
  f_R_run_b213 r74 w l0 l2 l3 l4 l5 l6
  else
  (xck w l0 8).bind fun _ =>
    (f_R_refuse w l0 (3 : Int32)).bind fun q2 =>
    some (q2.1, q2.2)
def f_R_run_b185 (r74 : (xw → Nat → Int32 → Option (Int32 × xw))) (w : xw) (l0 : Nat) (l2 : Int32) (l3 : Int32) (l4 : Int32) (l5 : Int32) (l6 : Int32) : Option (Int32 × xw) :=
  if l3 = (12 : Int32) then
  f_R_run_b197 r74 w l0 l2 l3 l4 l5 l6
  else
  if ¬ l3 = (13 : Int32) then
    f_R_run_b213 r74 w l0 l2 l3 l4 l5 l6
    else
    f_R_run_b197 r74 w l0 l2 l3 l4 l5 l6
def f_R_run_b174 (r74 : (xw → Nat → Int32 → Option (Int32 × xw))) (w : xw) (l0 : Nat) (l2 : Int32) (l3 : Int32) (l4 : Int32) (l5 : Int32) (l6 : Int32) : Option (Int32 × xw) :=
  if ¬ l5 = 0 then
  f_R_run_b185 r74 w l0 l2 l3 l4 l5 l6
  else
  (xck w l0 8).bind fun _ =>
    (f_R_refuse w l0 (2 : Int32)).bind fun q1 =>
    some (q1.1, q1.2)
def f_R_run_b160 (r74 : (xw → Nat → Int32 → Option (Int32 × xw))) (w : xw) (l0 : Nat) (l2 : Int32) (l3 : Int32) (l4 : Int32) (l5 : Int32) (s0 : Int32) : Option (Int32 × xw) :=
  if l3 = (10 : Int32) then
  f_R_run_b174 r74 w l0 l2 l3 l4 l5 s0
  else
  if ¬ l3 = (11 : Int32) then
    f_R_run_b185 r74 w l0 l2 l3 l4 l5 s0
    else
    f_R_run_b174 r74 w l0 l2 l3 l4 l5 s0
def f_R_run_b147 (r74 : (xw → Nat → Int32 → Option (Int32 × xw))) (w : xw) (l0 : Nat) (l2 : Int32) (l3 : Int32) (l4 : Int32) (s0 : Int32) : Option (Int32 × xw) :=
  if ¬ l3 = (22 : Int32) then
  f_R_run_b160 r74 w l0 l2 l3 l4 s0 ((0 : Int32))
  else
  f_R_run_b160 r74 w l0 l2 l3 l4 s0 ((1 : Int32))
def f_R_run_s74 (r74 : (xw → Nat → Int32 → Option (Int32 × xw))) (w : xw) (l0 : Nat) (l2 : Int32) : Option (Int32 × xw) :=
  (xfI w l0 8 1).bind fun x1 =>
  if x1 ≤ l2 then
  f_R_run_b445 w l0 l2
  else
  (xfR w l0 8 2).bind fun a2 =>
    (xaI w a2 l2).bind fun x3 =>
    if x3 = (23 : Int32) then
    f_R_run_b445 w l0 l2
    else
    (xfI w l0 8 22).bind fun x4 =>
      (xpI w l0 8 22 (x4 + (1 : Int32))).bind fun w5 =>
      (xfR w5 l0 8 2).bind fun a6 =>
      (xaI w5 a6 l2).bind fun x7 =>
      (xfR w5 l0 8 3).bind fun a8 =>
      (xaI w5 a8 l2).bind fun x9 =>
      (xfR w5 l0 8 4).bind fun a10 =>
      (xaI w5 a10 l2).bind fun x11 =>
      if 0 ≤ x11 then
      (xfR w5 l0 8 23).bind fun a12 =>
        (xfR w5 l0 8 4).bind fun a13 =>
        (xaI w5 a13 l2).bind fun x14 =>
        (xaI w5 a12 x14).bind fun x15 =>
        f_R_run_b147 r74 w5 l0 l2 x7 x9 x15
      else
      (xfR w5 l0 8 5).bind fun a16 =>
        (xaI w5 a16 l2).bind fun x17 =>
        f_R_run_b147 r74 w5 l0 l2 x7 x9 x17
def f_R_run_b74 (n : Nat) : xw → Nat → Int32 → Option (Int32 × xw) := xfix (fun _ _ _ => none) (f_R_run_s74) n
def f_R_run_s54 (r54 : (xw → Nat → Int32 → Option (Int32 × xw))) (w : xw) (l0 : Nat) (l2 : Int32) : Option (Int32 × xw) :=
  if (4 : Int32) ≤ l2 then
  (some (0 : Int32)).bind fun x1 =>
    f_R_run_b74 4000 w l0 x1
  else
  (xfR w l0 8 24).bind fun a2 =>
    (xsI w a2 l2 (0 : Int32)).bind fun w3 =>
    (some (l2 + (1 : Int32))).bind fun x4 =>
    r54 w3 l0 x4
def f_R_run_b54 (n : Nat) : xw → Nat → Int32 → Option (Int32 × xw) := xfix (fun _ _ _ => none) (f_R_run_s54) n
def f_R_run_b45 (r12 : (xw → Nat → Int32 → Int32 → Option (Int32 × xw))) (w : xw) (l0 : Nat) (l1 : Int32) (l2 : Int32) (s0 : Nat) (s1 : Int32) (s2 : Int32) : Option (Int32 × xw) :=
  (xsI w s0 s1 s2).bind fun w1 =>
  (some (l2 + (1 : Int32))).bind fun x2 =>
  r12 w1 l0 l1 x2
def f_R_run_s12 (r12 : (xw → Nat → Int32 → Int32 → Option (Int32 × xw))) (w : xw) (l0 : Nat) (l1 : Int32) (l2 : Int32) : Option (Int32 × xw) :=
  if (6 : Int32) ≤ l2 then
  (some (0 : Int32)).bind fun x1 =>
    f_R_run_b54 4000 w l0 x1
  else
  (xfR w l0 8 23).bind fun a2 =>
    if ¬ l2 = (1 : Int32) then
    if ¬ l2 = (2 : Int32) then
      f_R_run_b45 r12 w l0 l1 l2 a2 l2 ((0 : Int32))
      else
      f_R_run_b45 r12 w l0 l1 l2 a2 l2 l1
    else
    (xfI w l0 8 7).bind fun x3 =>
      f_R_run_b45 r12 w l0 l1 l2 a2 l2 x3
def f_R_run_b12 (n : Nat) : xw → Nat → Int32 → Int32 → Option (Int32 × xw) := xfix (fun _ _ _ _ => none) (f_R_run_s12) n
def f_R_run (w : xw) (l0 : Nat) (l1 : Int32) : Option (Int32 × xw) :=
  (xpI w l0 8 0 (0 : Int32)).bind fun w1 =>
  (xpI w1 l0 8 22 (0 : Int32)).bind fun w2 =>
  (some (0 : Int32)).bind fun x3 =>
  f_R_run_b12 4000 w2 l0 l1 x3
def f_R_ran (w : xw) (l0 : Nat) : Option (Int32 × xw) :=
  (xpI w l0 8 0 (0 : Int32)).bind fun w1 =>
  (xfI w1 l0 8 22).bind fun x2 =>
  some (x2, w1)
