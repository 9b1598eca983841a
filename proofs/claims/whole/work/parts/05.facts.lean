theorem xc_0 : xC 0 R_0 T_0 4 ty_0 := ⟨rfl, List.forall_mem_cons.mpr ⟨tw_228, List.forall_mem_cons.mpr ⟨tw_230, List.forall_mem_cons.mpr ⟨tw_232, List.forall_mem_cons.mpr ⟨tw_234, fun _ h => absurd h List.not_mem_nil⟩⟩⟩⟩, by decide +kernel, by decide +kernel⟩
theorem xc_1 : xC 1 R_1 T_1 5 ty_1 := ⟨rfl, List.forall_mem_cons.mpr ⟨tw_56, List.forall_mem_cons.mpr ⟨tw_58, List.forall_mem_cons.mpr ⟨tw_60, List.forall_mem_cons.mpr ⟨tw_62, List.forall_mem_cons.mpr ⟨tw_64, fun _ h => absurd h List.not_mem_nil⟩⟩⟩⟩⟩, by decide +kernel, by decide +kernel⟩
theorem xc_2 : xC 2 R_2 T_2 8 ty_2 := ⟨rfl, List.forall_mem_cons.mpr ⟨tw_136, List.forall_mem_cons.mpr ⟨tw_138, List.forall_mem_cons.mpr ⟨tw_140, List.forall_mem_cons.mpr ⟨tw_142, List.forall_mem_cons.mpr ⟨tw_144, List.forall_mem_cons.mpr ⟨tw_146, List.forall_mem_cons.mpr ⟨tw_148, List.forall_mem_cons.mpr ⟨tw_150, fun _ h => absurd h List.not_mem_nil⟩⟩⟩⟩⟩⟩⟩⟩, by decide +kernel, by decide +kernel⟩
theorem xc_3 : xC 3 R_3 T_3 5 ty_3 := ⟨rfl, List.forall_mem_cons.mpr ⟨tw_213, List.forall_mem_cons.mpr ⟨tw_215, List.forall_mem_cons.mpr ⟨tw_217, List.forall_mem_cons.mpr ⟨tw_219, List.forall_mem_cons.mpr ⟨tw_221, fun _ h => absurd h List.not_mem_nil⟩⟩⟩⟩⟩, by decide +kernel, by decide +kernel⟩
theorem xc_4 : xC 4 R_4 T_4 2 ty_4 := ⟨rfl, List.forall_mem_cons.mpr ⟨tw_89, List.forall_mem_cons.mpr ⟨tw_91, fun _ h => absurd h List.not_mem_nil⟩⟩, by decide +kernel, by decide +kernel⟩
theorem xc_5 : xC 5 R_5 T_5 2 ty_5 := ⟨rfl, List.forall_mem_cons.mpr ⟨tw_74, List.forall_mem_cons.mpr ⟨tw_76, fun _ h => absurd h List.not_mem_nil⟩⟩, by decide +kernel, by decide +kernel⟩
theorem xc_6 : xC 6 R_6 T_6 2 ty_6 := ⟨rfl, List.forall_mem_cons.mpr ⟨tw_158, List.forall_mem_cons.mpr ⟨tw_160, fun _ h => absurd h List.not_mem_nil⟩⟩, by decide +kernel, by decide +kernel⟩
theorem xc_7 : xC 7 R_7 T_7 10 ty_7 := ⟨rfl, List.forall_mem_cons.mpr ⟨tw_179, List.forall_mem_cons.mpr ⟨tw_181, List.forall_mem_cons.mpr ⟨tw_183, List.forall_mem_cons.mpr ⟨tw_185, List.forall_mem_cons.mpr ⟨tw_187, List.forall_mem_cons.mpr ⟨tw_189, List.forall_mem_cons.mpr ⟨tw_191, List.forall_mem_cons.mpr ⟨tw_193, List.forall_mem_cons.mpr ⟨tw_195, List.forall_mem_cons.mpr ⟨tw_197, fun _ h => absurd h List.not_mem_nil⟩⟩⟩⟩⟩⟩⟩⟩⟩⟩, by decide +kernel, by decide +kernel⟩
theorem xc_8 : xC 8 R_8 T_8 25 ty_8 := ⟨rfl, List.forall_mem_cons.mpr ⟨tw_668, List.forall_mem_cons.mpr ⟨tw_670, List.forall_mem_cons.mpr ⟨tw_672, List.forall_mem_cons.mpr ⟨tw_674, List.forall_mem_cons.mpr ⟨tw_676, List.forall_mem_cons.mpr ⟨tw_678, List.forall_mem_cons.mpr ⟨tw_680, List.forall_mem_cons.mpr ⟨tw_682, List.forall_mem_cons.mpr ⟨tw_684, List.forall_mem_cons.mpr ⟨tw_686, List.forall_mem_cons.mpr ⟨tw_688, List.forall_mem_cons.mpr ⟨tw_690, List.forall_mem_cons.mpr ⟨tw_692, List.forall_mem_cons.mpr ⟨tw_694, List.forall_mem_cons.mpr ⟨tw_696, List.forall_mem_cons.mpr ⟨tw_698, List.forall_mem_cons.mpr ⟨tw_700, List.forall_mem_cons.mpr ⟨tw_702, List.forall_mem_cons.mpr ⟨tw_704, List.forall_mem_cons.mpr ⟨tw_706, List.forall_mem_cons.mpr ⟨tw_708, List.forall_mem_cons.mpr ⟨tw_710, List.forall_mem_cons.mpr ⟨tw_712, List.forall_mem_cons.mpr ⟨tw_714, List.forall_mem_cons.mpr ⟨tw_716, fun _ h => absurd h List.not_mem_nil⟩⟩⟩⟩⟩⟩⟩⟩⟩⟩⟩⟩⟩⟩⟩⟩⟩⟩⟩⟩⟩⟩⟩⟩⟩, by decide +kernel, by decide +kernel⟩
theorem yw_I_allowed : xYS y_I_allowed b_I_allowed 6 t_I_allowed 5 := ⟨tw_243, tw_242, tw_3, ⟨by decide +kernel, by decide +kernel, by decide +kernel⟩⟩
theorem yw_I_become : xYV y_I_become b_I_become 6 t_I_become 5 := ⟨tw_247, tw_245, tw_3, ⟨by decide +kernel, by decide +kernel, by decide +kernel⟩, tw_246⟩
theorem yw_P_become : xYV y_P_become b_P_become 9 t_P_become 3 := ⟨tw_263, tw_261, tw_4, ⟨by decide +kernel, by decide +kernel, by decide +kernel⟩, tw_262⟩
theorem yw_K_becomeNothing : xYV y_K_becomeNothing b_K_becomeNothing 1 t_K_becomeNothing 0 := ⟨tw_287, tw_285, tw_7, ⟨by decide +kernel, by decide +kernel, by decide +kernel⟩, tw_286⟩
theorem yw_K_boundUnsigned : xYV y_K_boundUnsigned b_K_boundUnsigned 5 t_K_boundUnsigned 2 := ⟨tw_294, tw_292, tw_7, ⟨by decide +kernel, by decide +kernel, by decide +kernel⟩, tw_293⟩
theorem yw_K_boundSigned : xYV y_K_boundSigned b_K_boundSigned 5 t_K_boundSigned 2 := ⟨tw_298, tw_296, tw_7, ⟨by decide +kernel, by decide +kernel, by decide +kernel⟩, tw_297⟩
theorem yw_G_unsigned : xYS y_G_unsigned b_G_unsigned 1 t_G_unsigned 1 := ⟨tw_305, tw_304, tw_1, ⟨by decide +kernel, by decide +kernel, by decide +kernel⟩⟩
theorem yw_jI_numberOfLeadingZeros : xYS y_jI_numberOfLeadingZeros b_jI_numberOfLeadingZeros 2 t_jI_numberOfLeadingZeros 1 := ⟨tw_320, tw_319, tw_12, ⟨by decide +kernel, by decide +kernel, by decide +kernel⟩⟩
theorem yw_jL_numberOfLeadingZeros : xYS y_jL_numberOfLeadingZeros b_jL_numberOfLeadingZeros 3 t_jL_numberOfLeadingZeros 1 := ⟨tw_317, tw_316, tw_11, ⟨by decide +kernel, by decide +kernel, by decide +kernel⟩⟩
theorem yw_K_contradicts : xYV y_K_contradicts b_K_contradicts 3 t_K_contradicts 2 := ⟨tw_325, tw_323, tw_7, ⟨by decide +kernel, by decide +kernel, by decide +kernel⟩, tw_324⟩
theorem yw_K_tighten : xYV y_K_tighten b_K_tighten 2 t_K_tighten 0 := ⟨tw_302, tw_300, tw_7, ⟨by decide +kernel, by decide +kernel, by decide +kernel⟩, tw_301⟩
theorem yw_K_becomeUpTo : xYV y_K_becomeUpTo b_K_becomeUpTo 2 t_K_becomeUpTo 1 := ⟨tw_283, tw_281, tw_7, ⟨by decide +kernel, by decide +kernel, by decide +kernel⟩, tw_282⟩
theorem yw_S_begin : xYV y_S_begin b_S_begin 2 t_S_begin 0 := ⟨tw_279, tw_277, tw_6, ⟨by decide +kernel, by decide +kernel, by decide +kernel⟩, tw_278⟩
theorem yw_W_begin : xYV y_W_begin b_W_begin 2 t_W_begin 0 := ⟨tw_275, tw_274, tw_5, ⟨by decide +kernel, by decide +kernel, by decide +kernel⟩, List.mem_filter.mpr ⟨List.mem_append_left _ (List.mem_of_getElem? (i := 0) (by decide +kernel)), by decide +kernel⟩⟩
theorem yw_I_readsA : xYV y_I_readsA b_I_readsA 1 t_I_readsA 0 := ⟨tw_338, tw_336, tw_3, ⟨by decide +kernel, by decide +kernel, by decide +kernel⟩, tw_337⟩
theorem yw_I_readsB : xYV y_I_readsB b_I_readsB 1 t_I_readsB 0 := ⟨tw_342, tw_340, tw_3, ⟨by decide +kernel, by decide +kernel, by decide +kernel⟩, tw_341⟩
theorem yw_W_readsUnset : xYV y_W_readsUnset b_W_readsUnset 2 t_W_readsUnset 1 := ⟨tw_334, tw_333, tw_5, ⟨by decide +kernel, by decide +kernel, by decide +kernel⟩, List.mem_filter.mpr ⟨List.mem_append_left _ (List.mem_of_getElem? (i := 2) (by decide +kernel)), by decide +kernel⟩⟩
theorem yw_K_becomeNumber : xYV y_K_becomeNumber b_K_becomeNumber 2 t_K_becomeNumber 1 := ⟨tw_350, tw_348, tw_7, ⟨by decide +kernel, by decide +kernel, by decide +kernel⟩, tw_349⟩
theorem yw_W_knownOfY : xYV y_W_knownOfY b_W_knownOfY 2 t_W_knownOfY 1 := ⟨tw_346, tw_345, tw_5, ⟨by decide +kernel, by decide +kernel, by decide +kernel⟩, List.mem_filter.mpr ⟨List.mem_append_left _ (List.mem_of_getElem? (i := 3) (by decide +kernel)), by decide +kernel⟩⟩
theorem yw_W_alarmOfPlaces : xYV y_W_alarmOfPlaces b_W_alarmOfPlaces 4 t_W_alarmOfPlaces 2 := ⟨tw_354, tw_353, tw_5, ⟨by decide +kernel, by decide +kernel, by decide +kernel⟩, List.mem_filter.mpr ⟨List.mem_append_left _ (List.mem_of_getElem? (i := 4) (by decide +kernel)), by decide +kernel⟩⟩
theorem yw_W_alarmAt : xYV y_W_alarmAt b_W_alarmAt 3 t_W_alarmAt 1 := ⟨tw_330, tw_329, tw_5, ⟨by decide +kernel, by decide +kernel, by decide +kernel⟩, List.mem_filter.mpr ⟨List.mem_append_left _ (List.mem_of_getElem? (i := 1) (by decide +kernel)), by decide +kernel⟩⟩
theorem yw_K_take : xYV y_K_take b_K_take 2 t_K_take 1 := ⟨tw_367, tw_365, tw_7, ⟨by decide +kernel, by decide +kernel, by decide +kernel⟩, tw_366⟩
theorem yw_S_take : xYV y_S_take b_S_take 3 t_S_take 1 := ⟨tw_363, tw_361, tw_6, ⟨by decide +kernel, by decide +kernel, by decide +kernel⟩, tw_362⟩
theorem yw_W_resume : xYV y_W_resume b_W_resume 2 t_W_resume 0 := ⟨tw_371, tw_370, tw_5, ⟨by decide +kernel, by decide +kernel, by decide +kernel⟩, List.mem_filter.mpr ⟨List.mem_append_left _ (List.mem_of_getElem? (i := 6) (by decide +kernel)), by decide +kernel⟩⟩
theorem yw_W_takePair : xYV y_W_takePair b_W_takePair 2 t_W_takePair 1 := ⟨tw_382, tw_381, tw_5, ⟨by decide +kernel, by decide +kernel, by decide +kernel⟩, List.mem_filter.mpr ⟨List.mem_append_left _ (List.mem_of_getElem? (i := 8) (by decide +kernel)), by decide +kernel⟩⟩
theorem yw_K_join : xYV y_K_join b_K_join 2 t_K_join 1 := ⟨tw_391, tw_389, tw_7, ⟨by decide +kernel, by decide +kernel, by decide +kernel⟩, tw_390⟩
theorem yw_K_isExact : xYV y_K_isExact b_K_isExact 1 t_K_isExact 0 := ⟨tw_396, tw_394, tw_7, ⟨by decide +kernel, by decide +kernel, by decide +kernel⟩, tw_395⟩
theorem yw_W_relate : xYV y_W_relate b_W_relate 2 t_W_relate 1 := ⟨tw_387, tw_386, tw_5, ⟨by decide +kernel, by decide +kernel, by decide +kernel⟩, List.mem_filter.mpr ⟨List.mem_append_left _ (List.mem_of_getElem? (i := 9) (by decide +kernel)), by decide +kernel⟩⟩
theorem yw_W_givePair : xYV y_W_givePair b_W_givePair 3 t_W_givePair 2 := ⟨tw_403, tw_402, tw_5, ⟨by decide +kernel, by decide +kernel, by decide +kernel⟩, List.mem_filter.mpr ⟨List.mem_append_left _ (List.mem_of_getElem? (i := 10) (by decide +kernel)), by decide +kernel⟩⟩
theorem yw_W_part : xYV y_W_part b_W_part 4 t_W_part 2 := ⟨tw_375, tw_374, tw_5, ⟨by decide +kernel, by decide +kernel, by decide +kernel⟩, List.mem_filter.mpr ⟨List.mem_append_left _ (List.mem_of_getElem? (i := 7) (by decide +kernel)), by decide +kernel⟩⟩
theorem yw_K_meet : xYV y_K_meet b_K_meet 2 t_K_meet 1 := ⟨tw_415, tw_413, tw_7, ⟨by decide +kernel, by decide +kernel, by decide +kernel⟩, tw_414⟩
theorem yw_W_fetch : xYV y_W_fetch b_W_fetch 6 t_W_fetch 2 := ⟨tw_411, tw_410, tw_5, ⟨by decide +kernel, by decide +kernel, by decide +kernel⟩, List.mem_filter.mpr ⟨List.mem_append_left _ (List.mem_of_getElem? (i := 12) (by decide +kernel)), by decide +kernel⟩⟩
theorem yw_W_store : xYV y_W_store b_W_store 4 t_W_store 2 := ⟨tw_422, tw_421, tw_5, ⟨by decide +kernel, by decide +kernel, by decide +kernel⟩, List.mem_filter.mpr ⟨List.mem_append_left _ (List.mem_of_getElem? (i := 13) (by decide +kernel)), by decide +kernel⟩⟩
theorem yw_O_lowestBits : xYS y_O_lowestBits b_O_lowestBits 3 t_O_lowestBits 2 := ⟨tw_435, tw_434, tw_13, ⟨by decide +kernel, by decide +kernel, by decide +kernel⟩⟩
theorem yw_G_isInt : xYS y_G_isInt b_G_isInt 2 t_G_isInt 1 := ⟨tw_440, tw_439, tw_1, ⟨by decide +kernel, by decide +kernel, by decide +kernel⟩⟩
theorem yw_O_sum : xYS y_O_sum b_O_sum 3 t_O_sum 3 := ⟨tw_432, tw_431, tw_13, ⟨by decide +kernel, by decide +kernel, by decide +kernel⟩⟩
theorem yw_O_difference : xYS y_O_difference b_O_difference 3 t_O_difference 3 := ⟨tw_449, tw_448, tw_13, ⟨by decide +kernel, by decide +kernel, by decide +kernel⟩⟩
theorem yw_O_product : xYS y_O_product b_O_product 3 t_O_product 3 := ⟨tw_452, tw_451, tw_13, ⟨by decide +kernel, by decide +kernel, by decide +kernel⟩⟩
theorem yw_K_zeros : xYV y_K_zeros b_K_zeros 1 t_K_zeros 0 := ⟨tw_459, tw_457, tw_7, ⟨by decide +kernel, by decide +kernel, by decide +kernel⟩, tw_458⟩
theorem yw_O_bothOnes : xYS y_O_bothOnes b_O_bothOnes 3 t_O_bothOnes 3 := ⟨tw_455, tw_454, tw_13, ⟨by decide +kernel, by decide +kernel, by decide +kernel⟩⟩
theorem yw_O_eitherOne : xYS y_O_eitherOne b_O_eitherOne 3 t_O_eitherOne 3 := ⟨tw_463, tw_462, tw_13, ⟨by decide +kernel, by decide +kernel, by decide +kernel⟩⟩
theorem yw_O_unlikeBits : xYS y_O_unlikeBits b_O_unlikeBits 3 t_O_unlikeBits 3 := ⟨tw_467, tw_466, tw_13, ⟨by decide +kernel, by decide +kernel, by decide +kernel⟩⟩
theorem yw_O_quotient : xYS y_O_quotient b_O_quotient 3 t_O_quotient 3 := ⟨tw_470, tw_469, tw_13, ⟨by decide +kernel, by decide +kernel, by decide +kernel⟩⟩
theorem yw_O_rest : xYS y_O_rest b_O_rest 3 t_O_rest 3 := ⟨tw_473, tw_472, tw_13, ⟨by decide +kernel, by decide +kernel, by decide +kernel⟩⟩
theorem yw_O_shifted : xYS y_O_shifted b_O_shifted 5 t_O_shifted 4 := ⟨tw_476, tw_475, tw_13, ⟨by decide +kernel, by decide +kernel, by decide +kernel⟩⟩
theorem yw_O_outcome : xYS y_O_outcome b_O_outcome 4 t_O_outcome 4 := ⟨tw_428, tw_427, tw_13, ⟨by decide +kernel, by decide +kernel, by decide +kernel⟩⟩
theorem yw_W_change : xYV y_W_change b_W_change 5 t_W_change 1 := ⟨tw_407, tw_406, tw_5, ⟨by decide +kernel, by decide +kernel, by decide +kernel⟩, List.mem_filter.mpr ⟨List.mem_append_left _ (List.mem_of_getElem? (i := 11) (by decide +kernel)), by decide +kernel⟩⟩
theorem yw_W_placeAfter : xYV y_W_placeAfter b_W_placeAfter 4 t_W_placeAfter 1 := ⟨tw_359, tw_358, tw_5, ⟨by decide +kernel, by decide +kernel, by decide +kernel⟩, List.mem_filter.mpr ⟨List.mem_append_left _ (List.mem_of_getElem? (i := 5) (by decide +kernel)), by decide +kernel⟩⟩
theorem yw_W_judge : xYV y_W_judge b_W_judge 3 t_W_judge 0 := ⟨tw_271, tw_269, tw_5, ⟨by decide +kernel, by decide +kernel, by decide +kernel⟩, tw_270⟩
theorem yw_K_told : xYV y_K_told b_K_told 2 t_K_told 1 := ⟨tw_494, tw_492, tw_7, ⟨by decide +kernel, by decide +kernel, by decide +kernel⟩, tw_493⟩
theorem yw_R_within : xYS y_R_within b_R_within 3 t_R_within 3 := ⟨tw_730, tw_729, tw_9, ⟨by decide +kernel, by decide +kernel, by decide +kernel⟩⟩
theorem yw_R_nothing : xYV y_R_nothing b_R_nothing 2 t_R_nothing 1 := ⟨tw_755, tw_754, tw_9, ⟨by decide +kernel, by decide +kernel, by decide +kernel⟩, List.mem_filter.mpr ⟨List.mem_append_left _ (List.mem_of_getElem? (i := 20) (by decide +kernel)), by decide +kernel⟩⟩
theorem yw_R_greater : xYS y_R_greater b_R_greater 4 t_R_greater 2 := ⟨tw_766, tw_765, tw_9, ⟨by decide +kernel, by decide +kernel, by decide +kernel⟩⟩
theorem yw_R_lesser : xYS y_R_lesser b_R_lesser 4 t_R_lesser 2 := ⟨tw_769, tw_768, tw_9, ⟨by decide +kernel, by decide +kernel, by decide +kernel⟩⟩
theorem yw_R_tighten : xYV y_R_tighten b_R_tighten 6 t_R_tighten 1 := ⟨tw_763, tw_762, tw_9, ⟨by decide +kernel, by decide +kernel, by decide +kernel⟩, List.mem_filter.mpr ⟨List.mem_append_left _ (List.mem_of_getElem? (i := 21) (by decide +kernel)), by decide +kernel⟩⟩
theorem yw_R_setUp : xYV y_R_setUp b_R_setUp 2 t_R_setUp 0 := ⟨tw_751, tw_750, tw_9, ⟨by decide +kernel, by decide +kernel, by decide +kernel⟩, List.mem_filter.mpr ⟨List.mem_append_left _ (List.mem_of_getElem? (i := 19) (by decide +kernel)), by decide +kernel⟩⟩
theorem yw_R_readsA : xYS y_R_readsA b_R_readsA 1 t_R_readsA 1 := ⟨tw_777, tw_776, tw_9, ⟨by decide +kernel, by decide +kernel, by decide +kernel⟩⟩
theorem yw_R_readsB : xYS y_R_readsB b_R_readsB 1 t_R_readsB 1 := ⟨tw_780, tw_779, tw_9, ⟨by decide +kernel, by decide +kernel, by decide +kernel⟩⟩
theorem yw_R_copy : xYV y_R_copy b_R_copy 3 t_R_copy 2 := ⟨tw_784, tw_783, tw_9, ⟨by decide +kernel, by decide +kernel, by decide +kernel⟩, List.mem_filter.mpr ⟨List.mem_append_left _ (List.mem_of_getElem? (i := 23) (by decide +kernel)), by decide +kernel⟩⟩
theorem yw_R_number : xYV y_R_number b_R_number 3 t_R_number 2 := ⟨tw_788, tw_787, tw_9, ⟨by decide +kernel, by decide +kernel, by decide +kernel⟩, List.mem_filter.mpr ⟨List.mem_append_left _ (List.mem_of_getElem? (i := 24) (by decide +kernel)), by decide +kernel⟩⟩
theorem yw_R_alarm : xYV y_R_alarm b_R_alarm 5 t_R_alarm 0 := ⟨tw_774, tw_773, tw_9, ⟨by decide +kernel, by decide +kernel, by decide +kernel⟩, List.mem_filter.mpr ⟨List.mem_append_left _ (List.mem_of_getElem? (i := 22) (by decide +kernel)), by decide +kernel⟩⟩
theorem yw_R_alike : xYV y_R_alike b_R_alike 2 t_R_alike 0 := ⟨tw_805, tw_804, tw_9, ⟨by decide +kernel, by decide +kernel, by decide +kernel⟩, List.mem_filter.mpr ⟨List.mem_append_left _ (List.mem_of_getElem? (i := 28) (by decide +kernel)), by decide +kernel⟩⟩
theorem yw_R_isExact : xYV y_R_isExact b_R_isExact 2 t_R_isExact 1 := ⟨tw_809, tw_808, tw_9, ⟨by decide +kernel, by decide +kernel, by decide +kernel⟩, List.mem_filter.mpr ⟨List.mem_append_left _ (List.mem_of_getElem? (i := 29) (by decide +kernel)), by decide +kernel⟩⟩
theorem yw_R_less : xYV y_R_less b_R_less 3 t_R_less 1 := ⟨tw_813, tw_812, tw_9, ⟨by decide +kernel, by decide +kernel, by decide +kernel⟩, List.mem_filter.mpr ⟨List.mem_append_left _ (List.mem_of_getElem? (i := 30) (by decide +kernel)), by decide +kernel⟩⟩
theorem yw_R_lessSigned : xYV y_R_lessSigned b_R_lessSigned 3 t_R_lessSigned 1 := ⟨tw_817, tw_816, tw_9, ⟨by decide +kernel, by decide +kernel, by decide +kernel⟩, List.mem_filter.mpr ⟨List.mem_append_left _ (List.mem_of_getElem? (i := 31) (by decide +kernel)), by decide +kernel⟩⟩
theorem yw_R_compare : xYV y_R_compare b_R_compare 3 t_R_compare 2 := ⟨tw_801, tw_800, tw_9, ⟨by decide +kernel, by decide +kernel, by decide +kernel⟩, List.mem_filter.mpr ⟨List.mem_append_left _ (List.mem_of_getElem? (i := 27) (by decide +kernel)), by decide +kernel⟩⟩
theorem yw_R_wait : xYV y_R_wait b_R_wait 5 t_R_wait 3 := ⟨tw_821, tw_820, tw_9, ⟨by decide +kernel, by decide +kernel, by decide +kernel⟩, List.mem_filter.mpr ⟨List.mem_append_left _ (List.mem_of_getElem? (i := 32) (by decide +kernel)), by decide +kernel⟩⟩
theorem yw_R_part : xYV y_R_part b_R_part 6 t_R_part 4 := ⟨tw_797, tw_796, tw_9, ⟨by decide +kernel, by decide +kernel, by decide +kernel⟩, List.mem_filter.mpr ⟨List.mem_append_left _ (List.mem_of_getElem? (i := 26) (by decide +kernel)), by decide +kernel⟩⟩
theorem yw_R_lowest : xYV y_R_lowest b_R_lowest 4 t_R_lowest 0 := ⟨tw_833, tw_832, tw_9, ⟨by decide +kernel, by decide +kernel, by decide +kernel⟩, List.mem_filter.mpr ⟨List.mem_append_left _ (List.mem_of_getElem? (i := 35) (by decide +kernel)), by decide +kernel⟩⟩
theorem yw_R_knows : xYV y_R_knows b_R_knows 3 t_R_knows 2 := ⟨tw_837, tw_836, tw_9, ⟨by decide +kernel, by decide +kernel, by decide +kernel⟩, List.mem_filter.mpr ⟨List.mem_append_left _ (List.mem_of_getElem? (i := 36) (by decide +kernel)), by decide +kernel⟩⟩
theorem yw_R_bitsOf : xYV y_R_bitsOf b_R_bitsOf 7 t_R_bitsOf 1 := ⟨tw_829, tw_828, tw_9, ⟨by decide +kernel, by decide +kernel, by decide +kernel⟩, List.mem_filter.mpr ⟨List.mem_append_left _ (List.mem_of_getElem? (i := 34) (by decide +kernel)), by decide +kernel⟩⟩
theorem yw_R_bound : xYV y_R_bound b_R_bound 5 t_R_bound 2 := ⟨tw_845, tw_844, tw_9, ⟨by decide +kernel, by decide +kernel, by decide +kernel⟩, List.mem_filter.mpr ⟨List.mem_append_left _ (List.mem_of_getElem? (i := 38) (by decide +kernel)), by decide +kernel⟩⟩
theorem yw_R_boundSigned : xYV y_R_boundSigned b_R_boundSigned 5 t_R_boundSigned 2 := ⟨tw_849, tw_848, tw_9, ⟨by decide +kernel, by decide +kernel, by decide +kernel⟩, List.mem_filter.mpr ⟨List.mem_append_left _ (List.mem_of_getElem? (i := 39) (by decide +kernel)), by decide +kernel⟩⟩
theorem yw_R_boundsOf : xYV y_R_boundsOf b_R_boundsOf 3 t_R_boundsOf 1 := ⟨tw_841, tw_840, tw_9, ⟨by decide +kernel, by decide +kernel, by decide +kernel⟩, List.mem_filter.mpr ⟨List.mem_append_left _ (List.mem_of_getElem? (i := 37) (by decide +kernel)), by decide +kernel⟩⟩
theorem yw_R_operate : xYV y_R_operate b_R_operate 4 t_R_operate 1 := ⟨tw_825, tw_824, tw_9, ⟨by decide +kernel, by decide +kernel, by decide +kernel⟩, List.mem_filter.mpr ⟨List.mem_append_left _ (List.mem_of_getElem? (i := 33) (by decide +kernel)), by decide +kernel⟩⟩
theorem yw_R_meet : xYV y_R_meet b_R_meet 3 t_R_meet 2 := ⟨tw_858, tw_857, tw_9, ⟨by decide +kernel, by decide +kernel, by decide +kernel⟩, List.mem_filter.mpr ⟨List.mem_append_left _ (List.mem_of_getElem? (i := 41) (by decide +kernel)), by decide +kernel⟩⟩
theorem yw_R_get : xYV y_R_get b_R_get 3 t_R_get 1 := ⟨tw_854, tw_853, tw_9, ⟨by decide +kernel, by decide +kernel, by decide +kernel⟩, List.mem_filter.mpr ⟨List.mem_append_left _ (List.mem_of_getElem? (i := 40) (by decide +kernel)), by decide +kernel⟩⟩
theorem yw_R_put : xYV y_R_put b_R_put 2 t_R_put 0 := ⟨tw_862, tw_861, tw_9, ⟨by decide +kernel, by decide +kernel, by decide +kernel⟩, List.mem_filter.mpr ⟨List.mem_append_left _ (List.mem_of_getElem? (i := 42) (by decide +kernel)), by decide +kernel⟩⟩
theorem yw_R_load : xYV y_R_load b_R_load 4 t_R_load 2 := ⟨tw_866, tw_865, tw_9, ⟨by decide +kernel, by decide +kernel, by decide +kernel⟩, List.mem_filter.mpr ⟨List.mem_append_left _ (List.mem_of_getElem? (i := 43) (by decide +kernel)), by decide +kernel⟩⟩
theorem yw_R_pass : xYV y_R_pass b_R_pass 6 t_R_pass 0 := ⟨tw_793, tw_792, tw_9, ⟨by decide +kernel, by decide +kernel, by decide +kernel⟩, List.mem_filter.mpr ⟨List.mem_append_left _ (List.mem_of_getElem? (i := 25) (by decide +kernel)), by decide +kernel⟩⟩
theorem yw_R_refuse : xYV y_R_refuse b_R_refuse 2 t_R_refuse 1 := ⟨tw_884, tw_883, tw_9, ⟨by decide +kernel, by decide +kernel, by decide +kernel⟩, List.mem_filter.mpr ⟨List.mem_append_left _ (List.mem_of_getElem? (i := 44) (by decide +kernel)), by decide +kernel⟩⟩
theorem yw_R_unsignedRest : xYS y_R_unsignedRest b_R_unsignedRest 2 t_R_unsignedRest 2 := ⟨tw_890, tw_889, tw_9, ⟨by decide +kernel, by decide +kernel, by decide +kernel⟩⟩
theorem yw_R_reckon : xYS y_R_reckon b_R_reckon 3 t_R_reckon 3 := ⟨tw_887, tw_886, tw_9, ⟨by decide +kernel, by decide +kernel, by decide +kernel⟩⟩
theorem yw_R_bytesAt : xYV y_R_bytesAt b_R_bytesAt 5 t_R_bytesAt 2 := ⟨tw_894, tw_893, tw_9, ⟨by decide +kernel, by decide +kernel, by decide +kernel⟩, List.mem_filter.mpr ⟨List.mem_append_left _ (List.mem_of_getElem? (i := 45) (by decide +kernel)), by decide +kernel⟩⟩
theorem yw_R_holds : xYS y_R_holds b_R_holds 5 t_R_holds 3 := ⟨tw_897, tw_896, tw_9, ⟨by decide +kernel, by decide +kernel, by decide +kernel⟩⟩
theorem xbp_6 : (Int8.ofInt 6).toInt32 = (6 : Int32) := by decide
theorem xbp_7 : (Int8.ofInt 7).toInt32 = (7 : Int32) := by decide
theorem xbp_8 : (Int8.ofInt 8).toInt32 = (8 : Int32) := by decide
theorem xbp_9 : (Int8.ofInt 9).toInt32 = (9 : Int32) := by decide
theorem xbp_10 : (Int8.ofInt 10).toInt32 = (10 : Int32) := by decide
theorem xbp_11 : (Int8.ofInt 11).toInt32 = (11 : Int32) := by decide
theorem xbp_12 : (Int8.ofInt 12).toInt32 = (12 : Int32) := by decide
theorem xbp_13 : (Int8.ofInt 13).toInt32 = (13 : Int32) := by decide
theorem xbp_14 : (Int8.ofInt 14).toInt32 = (14 : Int32) := by decide
theorem xbp_15 : (Int8.ofInt 15).toInt32 = (15 : Int32) := by decide
theorem xbp_16 : (Int8.ofInt 16).toInt32 = (16 : Int32) := by decide
theorem xbp_18 : (Int8.ofInt 18).toInt32 = (18 : Int32) := by decide
theorem xbp_20 : (Int8.ofInt 20).toInt32 = (20 : Int32) := by decide
theorem xbp_21 : (Int8.ofInt 21).toInt32 = (21 : Int32) := by decide
theorem xbp_22 : (Int8.ofInt 22).toInt32 = (22 : Int32) := by decide
theorem xbp_23 : (Int8.ofInt 23).toInt32 = (23 : Int32) := by decide
theorem xbp_24 : (Int8.ofInt 24).toInt32 = (24 : Int32) := by decide
theorem xbp_31 : (Int8.ofInt 31).toInt32 = (31 : Int32) := by decide
theorem xbp_32 : (Int8.ofInt 32).toInt32 = (32 : Int32) := by decide
theorem xbp_64 : (Int8.ofInt 64).toInt32 = (64 : Int32) := by decide
theorem xbp_100 : (Int8.ofInt 100).toInt32 = (100 : Int32) := by decide
theorem xic_m16 : Int32.ofInt (-16) = (-16 : Int32) := by decide
theorem xic_m8 : Int32.ofInt (-8) = (-8 : Int32) := by decide
theorem xic_m4 : Int32.ofInt (-4) = (-4 : Int32) := by decide
theorem xic_m2 : Int32.ofInt (-2) = (-2 : Int32) := by decide
theorem xic_m1 : Int32.ofInt (-1) = (-1 : Int32) := by decide
theorem xic_0 : Int32.ofInt 0 = (0 : Int32) := by decide
theorem xic_1 : Int32.ofInt 1 = (1 : Int32) := by decide
theorem xic_2 : Int32.ofInt 2 = (2 : Int32) := by decide
theorem xic_3 : Int32.ofInt 3 = (3 : Int32) := by decide
theorem xic_4 : Int32.ofInt 4 = (4 : Int32) := by decide
theorem xic_5 : Int32.ofInt 5 = (5 : Int32) := by decide
theorem xlc_0 : Int64.ofNat ((0 : Fin 2) : Nat) = (0 : Int64) := by decide
theorem xlc_1 : Int64.ofNat ((1 : Fin 2) : Nat) = (1 : Int64) := by decide
theorem xsp_250 : (Int16.ofInt 250).toInt32 = (250 : Int32) := by decide
theorem xsp_255 : (Int16.ofInt 255).toInt32 = (255 : Int32) := by decide
theorem xsp_256 : (Int16.ofInt 256).toInt32 = (256 : Int32) := by decide
theorem xsp_257 : (Int16.ofInt 257).toInt32 = (257 : Int32) := by decide
theorem xsp_258 : (Int16.ofInt 258).toInt32 = (258 : Int32) := by decide
theorem xsp_259 : (Int16.ofInt 259).toInt32 = (259 : Int32) := by decide
theorem xsp_300 : (Int16.ofInt 300).toInt32 = (300 : Int32) := by decide
