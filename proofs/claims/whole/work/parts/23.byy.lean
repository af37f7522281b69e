/-! the words of the methods as callees (by program) -/
theorem yy_B_letter : bn_Y R_B y_B_letter b_B_letter 3 (some .int) 2 := ⟨rfl, q_281, q_282, q_283, q_103, by decide +kernel, by decide +kernel, by decide +kernel⟩
theorem yy_B_token : bn_Y R_B y_B_token b_B_token 4 (some .int) 3 := ⟨rfl, q_410, q_411, q_412, q_103, by decide +kernel, by decide +kernel, by decide +kernel⟩
theorem yy_B_wipe : bn_Y R_B y_B_wipe b_B_wipe 4 (some .int) 2 := ⟨rfl, q_430, q_431, q_432, q_103, by decide +kernel, by decide +kernel, by decide +kernel⟩
theorem yy_B_run : bn_Y R_B y_B_run b_B_run 3 (some .int) 2 := ⟨rfl, q_441, q_442, q_443, q_103, by decide +kernel, by decide +kernel, by decide +kernel⟩
theorem yy_B_keep : bn_Y R_B y_B_keep b_B_keep 3 (some .int) 2 := ⟨rfl, q_845, q_846, q_847, q_103, by decide +kernel, by decide +kernel, by decide +kernel⟩
theorem yy_B_kind : bn_Y R_B y_B_kind b_B_kind 3 (some .int) 2 := ⟨rfl, q_858, q_859, q_860, q_103, by decide +kernel, by decide +kernel, by decide +kernel⟩
theorem yy_B_length : bn_Y R_B y_B_length b_B_length 3 (some .int) 2 := ⟨rfl, q_880, q_881, q_882, q_103, by decide +kernel, by decide +kernel, by decide +kernel⟩
theorem yy_B_number : bn_Y R_B y_B_number b_B_number 5 (some .int) 3 := ⟨rfl, q_887, q_888, q_889, q_103, by decide +kernel, by decide +kernel, by decide +kernel⟩
theorem yy_B_character : bn_Y R_B y_B_character b_B_character 6 (some .int) 4 := ⟨rfl, q_896, q_897, q_898, q_103, by decide +kernel, by decide +kernel, by decide +kernel⟩
theorem yy_B_order : bn_Y R_B y_B_order b_B_order 3 (some .int) 2 := ⟨rfl, q_909, q_910, q_911, q_103, by decide +kernel, by decide +kernel, by decide +kernel⟩
theorem yy_B_count : bn_Y R_B y_B_count b_B_count 2 (some .int) 1 := ⟨rfl, q_270, q_271, q_272, q_103, by decide +kernel, by decide +kernel, by decide +kernel⟩
theorem yy_B_forgetLastRun : bn_Y R_B y_B_forgetLastRun b_B_forgetLastRun 2 none 0 := ⟨rfl, q_473, q_4, q_474, q_103, by decide +kernel, by decide +kernel, by decide +kernel⟩
theorem yy_B_requirePart : bn_Y R_B y_B_requirePart b_B_requirePart 3 none 2 := ⟨rfl, q_863, q_36, q_864, q_103, by decide +kernel, by decide +kernel, by decide +kernel⟩
theorem yy_B_require : bn_YS "FilterBench" y_B_require b_B_require 1 none 1 := ⟨rfl, q_288, q_289, q_103, by decide +kernel, by decide +kernel, by decide +kernel⟩
theorem yy_B_isBelow : bn_YS "FilterBench" y_B_isBelow b_B_isBelow 2 (some .boolean) 2 := ⟨rfl, q_285, q_286, q_103, by decide +kernel, by decide +kernel, by decide +kernel⟩
theorem yy_F_size : bn_Y R_F y_F_size b_F_size 1 (some .int) 0 := ⟨rfl, q_418, q_419, q_420, q_106, by decide +kernel, by decide +kernel, by decide +kernel⟩
theorem yy_F_add : bn_Y R_F y_F_add b_F_add 3 none 2 := ⟨rfl, q_423, q_424, q_425, q_106, by decide +kernel, by decide +kernel, by decide +kernel⟩
theorem yy_F_cleared : bn_Y R_F y_F_cleared b_F_cleared 2 (some .int) 0 := ⟨rfl, q_434, q_435, q_436, q_106, by decide +kernel, by decide +kernel, by decide +kernel⟩
theorem yy_F_isRight : bn_Y R_F y_F_isRight b_F_isRight 1 (some .boolean) 0 := ⟨rfl, q_445, q_446, q_447, q_106, by decide +kernel, by decide +kernel, by decide +kernel⟩
theorem yy_F_opAt : bn_Y R_F y_F_opAt b_F_opAt 2 (some .int) 1 := ⟨rfl, q_505, q_506, q_507, q_106, by decide +kernel, by decide +kernel, by decide +kernel⟩
theorem yy_F_choiceAt : bn_Y R_F y_F_choiceAt b_F_choiceAt 2 (some .int) 1 := ⟨rfl, q_501, q_502, q_503, q_106, by decide +kernel, by decide +kernel, by decide +kernel⟩
theorem yy_F_firstPart : bn_Y R_F y_F_firstPart b_F_firstPart 2 (some .int) 1 := ⟨rfl, q_571, q_572, q_573, q_106, by decide +kernel, by decide +kernel, by decide +kernel⟩
theorem yy_F_secondPart : bn_Y R_F y_F_secondPart b_F_secondPart 2 (some .int) 1 := ⟨rfl, q_580, q_581, q_582, q_106, by decide +kernel, by decide +kernel, by decide +kernel⟩
theorem yy_F_thirdPart : bn_Y R_F y_F_thirdPart b_F_thirdPart 2 (some .int) 1 := ⟨rfl, q_729, q_730, q_731, q_106, by decide +kernel, by decide +kernel, by decide +kernel⟩
theorem yy_F_endOf : bn_Y R_F y_F_endOf b_F_endOf 5 (some .int) 2 := ⟨rfl, q_450, q_3, q_451, q_106, by decide +kernel, by decide +kernel, by decide +kernel⟩
theorem yy_O_takes : bn_YS "FilterBench$Op" y_O_takes b_O_takes 2 (some .boolean) 2 := ⟨rfl, q_414, q_415, q_117, by decide +kernel, by decide +kernel, by decide +kernel⟩
theorem yy_O_partsOf : bn_YS "FilterBench$Op" y_O_partsOf b_O_partsOf 1 (some .int) 1 := ⟨rfl, q_453, q_454, q_117, by decide +kernel, by decide +kernel, by decide +kernel⟩
theorem yy_R_clear : bn_Y R_R y_R_clear b_R_clear 1 none 0 := ⟨rfl, q_476, q_477, q_478, q_108, by decide +kernel, by decide +kernel, by decide +kernel⟩
theorem yy_R_put : bn_Y R_R y_R_put b_R_put 2 none 1 := ⟨rfl, q_509, q_510, q_511, q_108, by decide +kernel, by decide +kernel, by decide +kernel⟩
theorem yy_R_size : bn_Y R_R y_R_size b_R_size 1 (some .int) 0 := ⟨rfl, q_614, q_615, q_616, q_108, by decide +kernel, by decide +kernel, by decide +kernel⟩
theorem yy_R_at : bn_Y R_R y_R_at b_R_at 2 (some .int) 1 := ⟨rfl, q_638, q_639, q_640, q_108, by decide +kernel, by decide +kernel, by decide +kernel⟩
theorem yy_R_items : bn_Y R_R y_R_items b_R_items 1 (some (.array .int)) 0 := ⟨rfl, q_610, q_611, q_612, q_108, by decide +kernel, by decide +kernel, by decide +kernel⟩
theorem yy_R_isEnded : bn_Y R_R y_R_isEnded b_R_isEnded 1 (some .boolean) 0 := ⟨rfl, q_576, q_577, q_578, q_108, by decide +kernel, by decide +kernel, by decide +kernel⟩
theorem yy_R_error : bn_Y R_R y_R_error b_R_error 1 (some .int) 0 := ⟨rfl, q_822, q_823, q_824, q_108, by decide +kernel, by decide +kernel, by decide +kernel⟩
theorem yy_R_end : bn_Y R_R y_R_end b_R_end 2 none 1 := ⟨rfl, q_553, q_554, q_555, q_108, by decide +kernel, by decide +kernel, by decide +kernel⟩
theorem yy_R_caught : bn_Y R_R y_R_caught b_R_caught 2 (some .int) 0 := ⟨rfl, q_717, q_718, q_719, q_108, by decide +kernel, by decide +kernel, by decide +kernel⟩
theorem yy_R_endAs : bn_Y R_R y_R_endAs b_R_endAs 2 none 1 := ⟨rfl, q_605, q_606, q_607, q_108, by decide +kernel, by decide +kernel, by decide +kernel⟩
theorem yy_N_start : bn_Y R_N y_N_start b_N_start 2 none 1 := ⟨rfl, q_489, q_490, q_491, q_107, by decide +kernel, by decide +kernel, by decide +kernel⟩
theorem yy_N_steps : bn_Y R_N y_N_steps b_N_steps 1 (some .int) 0 := ⟨rfl, q_817, q_818, q_819, q_107, by decide +kernel, by decide +kernel, by decide +kernel⟩
theorem yy_N_work : bn_Y R_N y_N_work b_N_work 6 none 4 := ⟨rfl, q_495, q_6, q_496, q_107, by decide +kernel, by decide +kernel, by decide +kernel⟩
theorem yy_N_rowOf : bn_Y R_N y_N_rowOf b_N_rowOf 6 (some (.object "FilterBench$Row")) 4 := ⟨rfl, q_601, q_13, q_602, q_107, by decide +kernel, by decide +kernel, by decide +kernel⟩
theorem yy_N_give : bn_Y R_N y_N_give b_N_give 3 none 2 := ⟨rfl, q_549, q_9, q_550, q_107, by decide +kernel, by decide +kernel, by decide +kernel⟩
theorem yy_N_forEach : bn_Y R_N y_N_forEach b_N_forEach 7 none 4 := ⟨rfl, q_774, q_29, q_775, q_107, by decide +kernel, by decide +kernel, by decide +kernel⟩
theorem yy_N_follow : bn_Y R_N y_N_follow b_N_follow 6 none 5 := ⟨rfl, q_778, q_30, q_779, q_107, by decide +kernel, by decide +kernel, by decide +kernel⟩
theorem yy_N_bothOrEither : bn_Y R_N y_N_bothOrEither b_N_bothOrEither 9 none 5 := ⟨rfl, q_791, q_31, q_792, q_107, by decide +kernel, by decide +kernel, by decide +kernel⟩
theorem yy_N_choose : bn_Y R_N y_N_choose b_N_choose 7 none 5 := ⟨rfl, q_795, q_32, q_796, q_107, by decide +kernel, by decide +kernel, by decide +kernel⟩
theorem yy_N_bind : bn_Y R_N y_N_bind b_N_bind 8 none 5 := ⟨rfl, q_799, q_33, q_800, q_107, by decide +kernel, by decide +kernel, by decide +kernel⟩
theorem yy_N_range : bn_Y R_N y_N_range b_N_range 4 none 2 := ⟨rfl, q_803, q_34, q_804, q_107, by decide +kernel, by decide +kernel, by decide +kernel⟩
theorem yy_N_select : bn_Y R_N y_N_select b_N_select 4 none 3 := ⟨rfl, q_813, q_35, q_814, q_107, by decide +kernel, by decide +kernel, by decide +kernel⟩
theorem yy_N_forEachPair : bn_Y R_N y_N_forEachPair b_N_forEachPair 9 none 4 := ⟨rfl, q_635, q_15, q_636, q_107, by decide +kernel, by decide +kernel, by decide +kernel⟩
theorem yy_N_paired : bn_Y R_N y_N_paired b_N_paired 5 (some .int) 3 := ⟨rfl, q_643, q_16, q_644, q_107, by decide +kernel, by decide +kernel, by decide +kernel⟩
theorem yy_N_holds : bn_YS "FilterBench$Runner" y_N_holds b_N_holds 2 (some .boolean) 2 := ⟨rfl, q_672, q_673, q_107, by decide +kernel, by decide +kernel, by decide +kernel⟩
theorem yy_N_each : bn_Y R_N y_N_each b_N_each 4 none 2 := ⟨rfl, q_558, q_10, q_559, q_107, by decide +kernel, by decide +kernel, by decide +kernel⟩
theorem yy_N_all : bn_Y R_N y_N_all b_N_all 4 none 2 := ⟨rfl, q_755, q_26, q_756, q_107, by decide +kernel, by decide +kernel, by decide +kernel⟩
theorem yy_N_comma : bn_Y R_N y_N_comma b_N_comma 5 none 4 := ⟨rfl, q_568, q_11, q_569, q_107, by decide +kernel, by decide +kernel, by decide +kernel⟩
theorem yy_N_array : bn_Y R_N y_N_array b_N_array 6 none 4 := ⟨rfl, q_597, q_12, q_598, q_107, by decide +kernel, by decide +kernel, by decide +kernel⟩
theorem yy_N_attempt : bn_Y R_N y_N_attempt b_N_attempt 5 none 4 := ⟨rfl, q_714, q_23, q_715, q_107, by decide +kernel, by decide +kernel, by decide +kernel⟩
theorem yy_N_alternative : bn_Y R_N y_N_alternative b_N_alternative 8 none 4 := ⟨rfl, q_722, q_24, q_723, q_107, by decide +kernel, by decide +kernel, by decide +kernel⟩
theorem yy_N_limit : bn_Y R_N y_N_limit b_N_limit 8 none 4 := ⟨rfl, q_759, q_27, q_760, q_107, by decide +kernel, by decide +kernel, by decide +kernel⟩
theorem yy_N_reduce : bn_Y R_N y_N_reduce b_N_reduce 12 none 4 := ⟨rfl, q_726, q_25, q_727, q_107, by decide +kernel, by decide +kernel, by decide +kernel⟩
theorem yy_V_kindOf : bn_Y R_V y_V_kindOf b_V_kindOf 2 (some .int) 1 := ⟨rfl, q_520, q_521, q_522, q_104, by decide +kernel, by decide +kernel, by decide +kernel⟩
theorem yy_V_lengthOf : bn_Y R_V y_V_lengthOf b_V_lengthOf 2 (some .int) 1 := ⟨rfl, q_360, q_361, q_362, q_104, by decide +kernel, by decide +kernel, by decide +kernel⟩
theorem yy_V_sizeOf : bn_Y R_V y_V_sizeOf b_V_sizeOf 2 (some .int) 1 := ⟨rfl, q_851, q_852, q_853, q_104, by decide +kernel, by decide +kernel, by decide +kernel⟩
theorem yy_V_wholeOf : bn_Y R_V y_V_wholeOf b_V_wholeOf 2 (some .int) 1 := ⟨rfl, q_654, q_655, q_656, q_104, by decide +kernel, by decide +kernel, by decide +kernel⟩
theorem yy_V_scaleOf : bn_Y R_V y_V_scaleOf b_V_scaleOf 2 (some .int) 1 := ⟨rfl, q_660, q_661, q_662, q_104, by decide +kernel, by decide +kernel, by decide +kernel⟩
theorem yy_V_letterAt : bn_Y R_V y_V_letterAt b_V_letterAt 3 (some .int) 2 := ⟨rfl, q_537, q_538, q_539, q_104, by decide +kernel, by decide +kernel, by decide +kernel⟩
theorem yy_V_itemAt : bn_Y R_V y_V_itemAt b_V_itemAt 3 (some .int) 2 := ⟨rfl, q_544, q_545, q_546, q_104, by decide +kernel, by decide +kernel, by decide +kernel⟩
theorem yy_V_nameAt : bn_Y R_V y_V_nameAt b_V_nameAt 3 (some .int) 2 := ⟨rfl, q_528, q_529, q_530, q_104, by decide +kernel, by decide +kernel, by decide +kernel⟩
theorem yy_V_hasParts : bn_Y R_V y_V_hasParts b_V_hasParts 2 (some .boolean) 1 := ⟨rfl, q_561, q_562, q_563, q_104, by decide +kernel, by decide +kernel, by decide +kernel⟩
theorem yy_V_isGood : bn_Y R_V y_V_isGood b_V_isGood 2 (some .boolean) 1 := ⟨rfl, q_709, q_710, q_711, q_104, by decide +kernel, by decide +kernel, by decide +kernel⟩
theorem yy_V_partAt : bn_Y R_V y_V_partAt b_V_partAt 3 (some .int) 2 := ⟨rfl, q_867, q_868, q_869, q_104, by decide +kernel, by decide +kernel, by decide +kernel⟩
theorem yy_V_nameOfPart : bn_Y R_V y_V_nameOfPart b_V_nameOfPart 3 (some .int) 2 := ⟨rfl, q_900, q_901, q_902, q_104, by decide +kernel, by decide +kernel, by decide +kernel⟩
theorem yy_V_found : bn_Y R_V y_V_found b_V_found 9 (some .int) 3 := ⟨rfl, q_872, q_37, q_873, q_104, by decide +kernel, by decide +kernel, by decide +kernel⟩
theorem yy_V_turnOver : bn_Y R_V y_V_turnOver b_V_turnOver 2 none 0 := ⟨rfl, q_480, q_481, q_482, q_104, by decide +kernel, by decide +kernel, by decide +kernel⟩
theorem yy_V_moved : bn_Y R_V y_V_moved b_V_moved 6 (some .int) 1 := ⟨rfl, q_485, q_5, q_486, q_104, by decide +kernel, by decide +kernel, by decide +kernel⟩
theorem yy_V_cellsFor : bn_YS "FilterBench$Values" y_V_cellsFor b_V_cellsFor 2 (some .int) 2 := ⟨rfl, q_392, q_393, q_104, by decide +kernel, by decide +kernel, by decide +kernel⟩
theorem yy_V_setHead : bn_Y R_V y_V_setHead b_V_setHead 4 none 3 := ⟨rfl, q_138, q_0, q_139, q_104, by decide +kernel, by decide +kernel, by decide +kernel⟩
theorem yy_V_open : bn_Y R_V y_V_open b_V_open 4 (some .int) 2 := ⟨rfl, q_386, q_2, q_387, q_104, by decide +kernel, by decide +kernel, by decide +kernel⟩
theorem yy_V_closed : bn_Y R_V y_V_closed b_V_closed 5 (some .int) 1 := ⟨rfl, q_623, q_14, q_624, q_104, by decide +kernel, by decide +kernel, by decide +kernel⟩
theorem yy_V_truth : bn_Y R_V y_V_truth b_V_truth 2 (some .int) 1 := ⟨rfl, q_675, q_676, q_677, q_104, by decide +kernel, by decide +kernel, by decide +kernel⟩
theorem yy_V_wordFor : bn_Y R_V y_V_wordFor b_V_wordFor 2 (some .int) 1 := ⟨rfl, q_592, q_593, q_594, q_104, by decide +kernel, by decide +kernel, by decide +kernel⟩
theorem yy_V_small : bn_Y R_V y_V_small b_V_small 2 (some .int) 1 := ⟨rfl, q_141, q_142, q_143, q_104, by decide +kernel, by decide +kernel, by decide +kernel⟩
theorem yy_V_numberOf : bn_Y R_V y_V_numberOf b_V_numberOf 8 (some .int) 2 := ⟨rfl, q_584, q_585, q_586, q_104, by decide +kernel, by decide +kernel, by decide +kernel⟩
theorem yy_V_longer : bn_Y R_V y_V_longer b_V_longer 5 (some .int) 2 := ⟨rfl, q_380, q_381, q_382, q_104, by decide +kernel, by decide +kernel, by decide +kernel⟩
theorem yy_V_arrayOf : bn_Y R_V y_V_arrayOf b_V_arrayOf 4 (some .int) 2 := ⟨rfl, q_618, q_619, q_620, q_104, by decide +kernel, by decide +kernel, by decide +kernel⟩
theorem yy_V_emptyArray : bn_Y R_V y_V_emptyArray b_V_emptyArray 1 (some .int) 0 := ⟨rfl, q_630, q_631, q_632, q_104, by decide +kernel, by decide +kernel, by decide +kernel⟩
theorem yy_V_objectOf : bn_Y R_V y_V_objectOf b_V_objectOf 4 (some .int) 2 := ⟨rfl, q_786, q_787, q_788, q_104, by decide +kernel, by decide +kernel, by decide +kernel⟩
theorem yy_V_compared : bn_Y R_V y_V_compared b_V_compared 4 (some .int) 2 := ⟨rfl, q_647, q_17, q_648, q_104, by decide +kernel, by decide +kernel, by decide +kernel⟩
theorem yy_V_comparedTexts : bn_Y R_V y_V_comparedTexts b_V_comparedTexts 5 (some .int) 2 := ⟨rfl, q_533, q_8, q_534, q_104, by decide +kernel, by decide +kernel, by decide +kernel⟩
theorem yy_V_comparedParts : bn_Y R_V y_V_comparedParts b_V_comparedParts 8 (some .int) 4 := ⟨rfl, q_668, q_19, q_669, q_104, by decide +kernel, by decide +kernel, by decide +kernel⟩
theorem yy_V_millionthsOf : bn_Y R_V y_V_millionthsOf b_V_millionthsOf 2 (some .long) 1 := ⟨rfl, q_651, q_18, q_652, q_104, by decide +kernel, by decide +kernel, by decide +kernel⟩
theorem yy_V_floorOf : bn_Y R_V y_V_floorOf b_V_floorOf 2 (some .int) 1 := ⟨rfl, q_767, q_28, q_768, q_104, by decide +kernel, by decide +kernel, by decide +kernel⟩
theorem yy_V_towardZero : bn_Y R_V y_V_towardZero b_V_towardZero 2 (some .int) 1 := ⟨rfl, q_706, q_22, q_707, q_104, by decide +kernel, by decide +kernel, by decide +kernel⟩
theorem yy_V_fieldOf : bn_Y R_V y_V_fieldOf b_V_fieldOf 3 (some .int) 2 := ⟨rfl, q_516, q_517, q_518, q_104, by decide +kernel, by decide +kernel, by decide +kernel⟩
theorem yy_V_memberOf : bn_Y R_V y_V_memberOf b_V_memberOf 5 (some .int) 3 := ⟨rfl, q_525, q_7, q_526, q_104, by decide +kernel, by decide +kernel, by decide +kernel⟩
theorem yy_V_indexed : bn_Y R_V y_V_indexed b_V_indexed 4 (some .int) 2 := ⟨rfl, q_781, q_782, q_783, q_104, by decide +kernel, by decide +kernel, by decide +kernel⟩
theorem yy_V_has : bn_Y R_V y_V_has b_V_has 3 (some .int) 2 := ⟨rfl, q_807, q_808, q_809, q_104, by decide +kernel, by decide +kernel, by decide +kernel⟩
theorem yy_V_plus : bn_Y R_V y_V_plus b_V_plus 3 (some .int) 2 := ⟨rfl, q_679, q_680, q_681, q_104, by decide +kernel, by decide +kernel, by decide +kernel⟩
theorem yy_V_joined : bn_Y R_V y_V_joined b_V_joined 4 (some .int) 2 := ⟨rfl, q_685, q_20, q_686, q_104, by decide +kernel, by decide +kernel, by decide +kernel⟩
theorem yy_V_merged : bn_Y R_V y_V_merged b_V_merged 9 (some .int) 2 := ⟨rfl, q_689, q_21, q_690, q_104, by decide +kernel, by decide +kernel, by decide +kernel⟩
theorem yy_V_minus : bn_Y R_V y_V_minus b_V_minus 6 (some .int) 2 := ⟨rfl, q_692, q_693, q_694, q_104, by decide +kernel, by decide +kernel, by decide +kernel⟩
theorem yy_V_times : bn_Y R_V y_V_times b_V_times 3 (some .int) 2 := ⟨rfl, q_697, q_698, q_699, q_104, by decide +kernel, by decide +kernel, by decide +kernel⟩
theorem yy_V_rest : bn_Y R_V y_V_rest b_V_rest 4 (some .int) 2 := ⟨rfl, q_701, q_702, q_703, q_104, by decide +kernel, by decide +kernel, by decide +kernel⟩
theorem yy_V_sumOf : bn_Y R_V y_V_sumOf b_V_sumOf 4 (some .int) 1 := ⟨rfl, q_749, q_750, q_751, q_104, by decide +kernel, by decide +kernel, by decide +kernel⟩
theorem yy_V_measured : bn_Y R_V y_V_measured b_V_measured 2 (some .int) 1 := ⟨rfl, q_733, q_734, q_735, q_104, by decide +kernel, by decide +kernel, by decide +kernel⟩
theorem yy_V_floored : bn_Y R_V y_V_floored b_V_floored 2 (some .int) 1 := ⟨rfl, q_762, q_763, q_764, q_104, by decide +kernel, by decide +kernel, by decide +kernel⟩
theorem yy_V_keysOf : bn_Y R_V y_V_keysOf b_V_keysOf 3 (some .int) 1 := ⟨rfl, q_740, q_741, q_742, q_104, by decide +kernel, by decide +kernel, by decide +kernel⟩
theorem yy_V_sorted : bn_Y R_V y_V_sorted b_V_sorted 4 (some .int) 1 := ⟨rfl, q_745, q_746, q_747, q_104, by decide +kernel, by decide +kernel, by decide +kernel⟩
abbrev b_J_icompare : ByteArray := prog_14_method_40_code
def y_J_icompare : MethodName := ⟨"java/lang/Integer", "compare", "(II)I"⟩
theorem d_J_icompare_0 : decode b_J_icompare 0 = .ok (.iload_n 0, 1) := by decide +kernel
theorem d_J_icompare_1 : decode b_J_icompare 1 = .ok (.iload_n 1, 1) := by decide +kernel
theorem d_J_icompare_2 : decode b_J_icompare 2 = .ok (.if_icmp .ge 7, 3) := by decide +kernel
theorem d_J_icompare_5 : decode b_J_icompare 5 = .ok (.iconst (-1), 1) := by decide +kernel
theorem d_J_icompare_6 : decode b_J_icompare 6 = .ok (.goto 13, 3) := by decide +kernel
theorem d_J_icompare_9 : decode b_J_icompare 9 = .ok (.iload_n 0, 1) := by decide +kernel
theorem d_J_icompare_10 : decode b_J_icompare 10 = .ok (.iload_n 1, 1) := by decide +kernel
theorem d_J_icompare_11 : decode b_J_icompare 11 = .ok (.if_icmp .ne 7, 3) := by decide +kernel
theorem d_J_icompare_14 : decode b_J_icompare 14 = .ok (.iconst 0, 1) := by decide +kernel
theorem d_J_icompare_15 : decode b_J_icompare 15 = .ok (.goto 4, 3) := by decide +kernel
theorem d_J_icompare_18 : decode b_J_icompare 18 = .ok (.iconst 1, 1) := by decide +kernel
theorem d_J_icompare_19 : decode b_J_icompare 19 = .ok (.ireturn, 1) := by decide +kernel
theorem yy_J_icompare : bn_YS "java/lang/Integer" y_J_icompare b_J_icompare 2 (some .int) 2 := ⟨rfl, q_541, q_542, q_119, by decide +kernel, by decide +kernel, by decide +kernel⟩
abbrev b_J_lcompare : ByteArray := prog_15_method_42_code
def y_J_lcompare : MethodName := ⟨"java/lang/Long", "compare", "(JJ)I"⟩
theorem d_J_lcompare_0 : decode b_J_lcompare 0 = .ok (.lload_n 0, 1) := by decide +kernel
theorem d_J_lcompare_1 : decode b_J_lcompare 1 = .ok (.lload_n 2, 1) := by decide +kernel
theorem d_J_lcompare_2 : decode b_J_lcompare 2 = .ok (.lcmp, 1) := by decide +kernel
theorem d_J_lcompare_3 : decode b_J_lcompare 3 = .ok (.ifCond .ge 7, 3) := by decide +kernel
theorem d_J_lcompare_6 : decode b_J_lcompare 6 = .ok (.iconst (-1), 1) := by decide +kernel
theorem d_J_lcompare_7 : decode b_J_lcompare 7 = .ok (.goto 14, 3) := by decide +kernel
theorem d_J_lcompare_10 : decode b_J_lcompare 10 = .ok (.lload_n 0, 1) := by decide +kernel
theorem d_J_lcompare_11 : decode b_J_lcompare 11 = .ok (.lload_n 2, 1) := by decide +kernel
theorem d_J_lcompare_12 : decode b_J_lcompare 12 = .ok (.lcmp, 1) := by decide +kernel
theorem d_J_lcompare_13 : decode b_J_lcompare 13 = .ok (.ifCond .ne 7, 3) := by decide +kernel
theorem d_J_lcompare_16 : decode b_J_lcompare 16 = .ok (.iconst 0, 1) := by decide +kernel
theorem d_J_lcompare_17 : decode b_J_lcompare 17 = .ok (.goto 4, 3) := by decide +kernel
theorem d_J_lcompare_20 : decode b_J_lcompare 20 = .ok (.iconst 1, 1) := by decide +kernel
theorem d_J_lcompare_21 : decode b_J_lcompare 21 = .ok (.ireturn, 1) := by decide +kernel
theorem yy_J_lcompare : bn_YS "java/lang/Long" y_J_lcompare b_J_lcompare 4 (some .int) 2 := ⟨rfl, q_664, q_665, q_120, by decide +kernel, by decide +kernel, by decide +kernel⟩
abbrev b_J_floorDiv : ByteArray := prog_16_method_47_code
def y_J_floorDiv : MethodName := ⟨"java/lang/Math", "floorDiv", "(II)I"⟩
theorem d_J_floorDiv_0 : decode b_J_floorDiv 0 = .ok (.iload_n 0, 1) := by decide +kernel
theorem d_J_floorDiv_1 : decode b_J_floorDiv 1 = .ok (.iload_n 1, 1) := by decide +kernel
theorem d_J_floorDiv_2 : decode b_J_floorDiv 2 = .ok (.idiv, 1) := by decide +kernel
theorem d_J_floorDiv_3 : decode b_J_floorDiv 3 = .ok (.istore_n 2, 1) := by decide +kernel
theorem d_J_floorDiv_4 : decode b_J_floorDiv 4 = .ok (.iload_n 0, 1) := by decide +kernel
theorem d_J_floorDiv_5 : decode b_J_floorDiv 5 = .ok (.iload_n 1, 1) := by decide +kernel
theorem d_J_floorDiv_6 : decode b_J_floorDiv 6 = .ok (.ixor, 1) := by decide +kernel
theorem d_J_floorDiv_7 : decode b_J_floorDiv 7 = .ok (.ifCond .ge 14, 3) := by decide +kernel
theorem d_J_floorDiv_10 : decode b_J_floorDiv 10 = .ok (.iload_n 2, 1) := by decide +kernel
theorem d_J_floorDiv_11 : decode b_J_floorDiv 11 = .ok (.iload_n 1, 1) := by decide +kernel
theorem d_J_floorDiv_12 : decode b_J_floorDiv 12 = .ok (.imul, 1) := by decide +kernel
theorem d_J_floorDiv_13 : decode b_J_floorDiv 13 = .ok (.iload_n 0, 1) := by decide +kernel
theorem d_J_floorDiv_14 : decode b_J_floorDiv 14 = .ok (.if_icmp .eq 7, 3) := by decide +kernel
theorem d_J_floorDiv_17 : decode b_J_floorDiv 17 = .ok (.iload_n 2, 1) := by decide +kernel
theorem d_J_floorDiv_18 : decode b_J_floorDiv 18 = .ok (.iconst 1, 1) := by decide +kernel
theorem d_J_floorDiv_19 : decode b_J_floorDiv 19 = .ok (.isub, 1) := by decide +kernel
theorem d_J_floorDiv_20 : decode b_J_floorDiv 20 = .ok (.ireturn, 1) := by decide +kernel
theorem d_J_floorDiv_21 : decode b_J_floorDiv 21 = .ok (.iload_n 2, 1) := by decide +kernel
theorem d_J_floorDiv_22 : decode b_J_floorDiv 22 = .ok (.ireturn, 1) := by decide +kernel
theorem yy_J_floorDiv : bn_YS "java/lang/Math" y_J_floorDiv b_J_floorDiv 3 (some .int) 2 := ⟨rfl, q_770, q_771, q_115, by decide +kernel, by decide +kernel, by decide +kernel⟩
