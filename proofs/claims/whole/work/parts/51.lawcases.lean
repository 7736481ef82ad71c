theorem vw_L_13 : rp_V "RegretPegsLaw" 13 "RegretPegs" yX6_guest cX6_guest 3 (some .int) 2 := ⟨wd_229, wd_230, wd_231, wd_1, wd_232, ⟨rfl, by decide, by decide, by decide +kernel⟩, by decide⟩
theorem vw_L_17 : rp_V "RegretPegsLaw" 17 "RegretPegsModel" yX7_guest cX7_guest 3 (some .int) 2 := ⟨wd_845, wd_846, wd_847, wd_8, wd_848, ⟨rfl, by decide, by decide, by decide +kernel⟩, by decide⟩
theorem vw_L_18 : rp_V "RegretPegsLaw" 18 "RegretPegs" yX6_ofGuest cX6_ofGuest 4 (some .int) 2 := ⟨wd_248, wd_249, wd_250, wd_1, wd_251, ⟨rfl, by decide, by decide, by decide +kernel⟩, by decide⟩
theorem vw_L_21 : rp_V "RegretPegsLaw" 21 "RegretPegsModel" yX7_ofGuest cX7_ofGuest 3 (some .int) 2 := ⟨wd_862, wd_863, wd_864, wd_8, wd_865, ⟨rfl, by decide, by decide, by decide +kernel⟩, by decide⟩
theorem vw_L_22 : rp_V "RegretPegsLaw" 22 "RegretPegs" yX6_change cX6_change 4 (some .int) 3 := ⟨wd_264, wd_265, wd_266, wd_1, wd_267, ⟨rfl, by decide, by decide, by decide +kernel⟩, by decide⟩
theorem vw_L_26 : rp_V "RegretPegsLaw" 26 "RegretPegsModel" yX7_change cX7_change 5 (some .int) 3 := ⟨wd_882, wd_883, wd_884, wd_8, wd_885, ⟨rfl, by decide, by decide, by decide +kernel⟩, by decide⟩
theorem vw_L_27 : rp_V "RegretPegsLaw" 27 "RegretPegs" yX6_peg cX6_peg 2 (some .int) 1 := ⟨wd_272, wd_273, wd_274, wd_1, wd_275, ⟨rfl, by decide, by decide, by decide +kernel⟩, by decide⟩
theorem vw_L_31 : rp_V "RegretPegsLaw" 31 "RegretPegsModel" yX7_peg cX7_peg 2 (some .int) 1 := ⟨wd_890, wd_891, wd_892, wd_8, wd_893, ⟨rfl, by decide, by decide, by decide +kernel⟩, by decide⟩
theorem vw_L_32 : rp_V "RegretPegsLaw" 32 "RegretPegs" yX6_hang cX6_hang 3 (some .int) 2 := ⟨wd_280, wd_281, wd_282, wd_1, wd_283, ⟨rfl, by decide, by decide, by decide +kernel⟩, by decide⟩
theorem vw_L_35 : rp_V "RegretPegsLaw" 35 "RegretPegsModel" yX7_hang cX7_hang 3 (some .int) 2 := ⟨wd_894, wd_895, wd_896, wd_8, wd_897, ⟨rfl, by decide, by decide, by decide +kernel⟩, by decide⟩
theorem vw_L_36 : rp_V "RegretPegsLaw" 36 "RegretPegs" yX6_become cX6_become 4 (some .int) 2 := ⟨wd_288, wd_289, wd_290, wd_1, wd_291, ⟨rfl, by decide, by decide, by decide +kernel⟩, by decide⟩
theorem vw_L_39 : rp_V "RegretPegsLaw" 39 "RegretPegsModel" yX7_become cX7_become 3 (some .int) 2 := ⟨wd_902, wd_903, wd_904, wd_8, wd_905, ⟨rfl, by decide, by decide, by decide +kernel⟩, by decide⟩
theorem vw_L_40 : rp_V "RegretPegsLaw" 40 "RegretPegs" yX6_as cX6_as 3 (some .int) 2 := ⟨wd_292, wd_293, wd_294, wd_1, wd_295, ⟨rfl, by decide, by decide, by decide +kernel⟩, by decide⟩
theorem vw_L_43 : rp_V "RegretPegsLaw" 43 "RegretPegsModel" yX7_as cX7_as 3 (some .int) 2 := ⟨wd_906, wd_907, wd_908, wd_8, wd_909, ⟨rfl, by decide, by decide, by decide +kernel⟩, by decide⟩
theorem vw_L_46 : rp_V "RegretPegsLaw" 46 "RegretPegs" yX6_feed cX6_feed 5 (some .int) 2 := ⟨wd_301, wd_302, wd_303, wd_1, wd_304, ⟨rfl, by decide, by decide, by decide +kernel⟩, by decide⟩
theorem vw_L_50 : rp_V "RegretPegsLaw" 50 "RegretPegsModel" yX7_feed cX7_feed 5 (some .int) 2 := ⟨wd_714, wd_715, wd_716, wd_8, wd_717, ⟨rfl, by decide, by decide, by decide +kernel⟩, by decide⟩
theorem vw_L_51 : rp_V "RegretPegsLaw" 51 "RegretPegs" yX6_text cX6_text 3 (some .int) 1 := ⟨wd_305, wd_306, wd_307, wd_1, wd_308, ⟨rfl, by decide, by decide, by decide +kernel⟩, by decide⟩
theorem vw_L_54 : rp_V "RegretPegsLaw" 54 "RegretPegsModel" yX7_text cX7_text 3 (some .int) 1 := ⟨wd_729, wd_730, wd_731, wd_8, wd_732, ⟨rfl, by decide, by decide, by decide +kernel⟩, by decide⟩
theorem vw_L_55 : rp_V "RegretPegsLaw" 55 "RegretPegs" yX6_law cX6_law 5 (some .int) 4 := ⟨wd_367, wd_368, wd_369, wd_1, wd_370, ⟨rfl, by decide, by decide, by decide +kernel⟩, by decide⟩
theorem vw_L_59 : rp_V "RegretPegsLaw" 59 "RegretPegsModel" yX7_law cX7_law 5 (some .int) 4 := ⟨wd_821, wd_822, wd_823, wd_8, wd_824, ⟨rfl, by decide, by decide, by decide +kernel⟩, by decide⟩
theorem vw_L_60 : rp_V "RegretPegsLaw" 60 "RegretPegs" yX6_dance cX6_dance 3 (some .int) 2 := ⟨wd_393, wd_394, wd_395, wd_1, wd_396, ⟨rfl, by decide, by decide, by decide +kernel⟩, by decide⟩
theorem vw_L_63 : rp_V "RegretPegsLaw" 63 "RegretPegsModel" yX7_dance cX7_dance 3 (some .int) 2 := ⟨wd_917, wd_918, wd_919, wd_8, wd_920, ⟨rfl, by decide, by decide, by decide +kernel⟩, by decide⟩
theorem vw_L_64 : rp_V "RegretPegsLaw" 64 "RegretPegs" yX6_hours cX6_hours 2 (some .int) 1 := ⟨wd_407, wd_408, wd_409, wd_1, wd_410, ⟨rfl, by decide, by decide, by decide +kernel⟩, by decide⟩
theorem vw_L_67 : rp_V "RegretPegsLaw" 67 "RegretPegsModel" yX7_hours cX7_hours 2 (some .int) 1 := ⟨wd_938, wd_939, wd_940, wd_8, wd_941, ⟨rfl, by decide, by decide, by decide +kernel⟩, by decide⟩
theorem vw_L_68 : rp_V "RegretPegsLaw" 68 "RegretPegs" yX6_loose cX6_loose 3 (some .int) 1 := ⟨wd_430, wd_431, wd_432, wd_1, wd_433, ⟨rfl, by decide, by decide, by decide +kernel⟩, by decide⟩
theorem vw_L_71 : rp_V "RegretPegsLaw" 71 "RegretPegsModel" yX7_loose cX7_loose 3 (some .int) 1 := ⟨wd_958, wd_959, wd_960, wd_8, wd_961, ⟨rfl, by decide, by decide, by decide +kernel⟩, by decide⟩
theorem vw_L_72 : rp_V "RegretPegsLaw" 72 "RegretPegs" yX6_then cX6_then 4 (some .int) 3 := ⟨wd_445, wd_446, wd_447, wd_1, wd_448, ⟨rfl, by decide, by decide, by decide +kernel⟩, by decide⟩
theorem vw_L_75 : rp_V "RegretPegsLaw" 75 "RegretPegsModel" yX7_then cX7_then 4 (some .int) 3 := ⟨wd_971, wd_972, wd_973, wd_8, wd_974, ⟨rfl, by decide, by decide, by decide +kernel⟩, by decide⟩
theorem vw_L_76 : rp_V "RegretPegsLaw" 76 "RegretPegs" yX6_last cX6_last 3 (some .int) 1 := ⟨wd_454, wd_455, wd_456, wd_1, wd_457, ⟨rfl, by decide, by decide, by decide +kernel⟩, by decide⟩
theorem vw_L_79 : rp_V "RegretPegsLaw" 79 "RegretPegsModel" yX7_last cX7_last 5 (some .int) 1 := ⟨wd_985, wd_986, wd_987, wd_8, wd_988, ⟨rfl, by decide, by decide, by decide +kernel⟩, by decide⟩
theorem vw_L_80 : rp_V "RegretPegsLaw" 80 "RegretPegs" yX6_partner cX6_partner 8 (some .int) 3 := ⟨wd_462, wd_463, wd_464, wd_1, wd_465, ⟨rfl, by decide, by decide, by decide +kernel⟩, by decide⟩
theorem vw_L_83 : rp_V "RegretPegsLaw" 83 "RegretPegsModel" yX7_partner cX7_partner 8 (some .int) 3 := ⟨wd_990, wd_991, wd_992, wd_8, wd_993, ⟨rfl, by decide, by decide, by decide +kernel⟩, by decide⟩
theorem vw_L_84 : rp_V "RegretPegsLaw" 84 "RegretPegs" yX6_dances cX6_dances 6 (some .int) 4 := ⟨wd_470, wd_471, wd_472, wd_1, wd_473, ⟨rfl, by decide, by decide, by decide +kernel⟩, by decide⟩
theorem vw_L_87 : rp_V "RegretPegsLaw" 87 "RegretPegsModel" yX7_dances cX7_dances 9 (some .int) 4 := ⟨wd_1001, wd_1002, wd_1003, wd_8, wd_1004, ⟨rfl, by decide, by decide, by decide +kernel⟩, by decide⟩
theorem vw_L_88 : rp_V "RegretPegsLaw" 88 "RegretPegs" yX6_whoDanced cX6_whoDanced 8 (some .int) 2 := ⟨wd_482, wd_483, wd_484, wd_1, wd_485, ⟨rfl, by decide, by decide, by decide +kernel⟩, by decide⟩
theorem vw_L_91 : rp_V "RegretPegsLaw" 91 "RegretPegsModel" yX7_whoDanced cX7_whoDanced 8 (some .int) 2 := ⟨wd_1013, wd_1014, wd_1015, wd_8, wd_1016, ⟨rfl, by decide, by decide, by decide +kernel⟩, by decide⟩
theorem vw_L_92 : rp_V "RegretPegsLaw" 92 "RegretPegs" yX6_inOrder cX6_inOrder 2 (some .int) 0 := ⟨wd_493, wd_494, wd_495, wd_1, wd_496, ⟨rfl, by decide, by decide, by decide +kernel⟩, by decide⟩
theorem vw_L_96 : rp_V "RegretPegsLaw" 96 "RegretPegsModel" yX7_inOrder cX7_inOrder 3 (some .int) 0 := ⟨wd_1024, wd_1025, wd_1026, wd_8, wd_1027, ⟨rfl, by decide, by decide, by decide +kernel⟩, by decide⟩
theorem vw_L_97 : rp_V "RegretPegsLaw" 97 "RegretPegs" yX6_wrongs cX6_wrongs 1 (some .int) 0 := ⟨wd_501, wd_502, wd_503, wd_1, wd_504, ⟨rfl, by decide, by decide, by decide +kernel⟩, by decide⟩
theorem vw_L_100 : rp_V "RegretPegsLaw" 100 "RegretPegsModel" yX7_wrongs cX7_wrongs 4 (some .int) 0 := ⟨wd_1032, wd_1033, wd_1034, wd_8, wd_1035, ⟨rfl, by decide, by decide, by decide +kernel⟩, by decide⟩
theorem vw_L_101 : rp_V "RegretPegsLaw" 101 "RegretPegs" yX6_swap cX6_swap 6 (some .int) 0 := ⟨wd_505, wd_506, wd_507, wd_1, wd_508, ⟨rfl, by decide, by decide, by decide +kernel⟩, by decide⟩
theorem vw_L_104 : rp_V "RegretPegsLaw" 104 "RegretPegsModel" yX7_swap cX7_swap 9 (some .int) 0 := ⟨wd_1036, wd_1037, wd_1038, wd_8, wd_1039, ⟨rfl, by decide, by decide, by decide +kernel⟩, by decide⟩
theorem vw_L_105 : rp_V "RegretPegsLaw" 105 "RegretPegs" yX6_go cX6_go 7 (some .int) 2 := ⟨wd_509, wd_510, wd_511, wd_1, wd_512, ⟨rfl, by decide, by decide, by decide +kernel⟩, by decide⟩
theorem vw_L_108 : rp_V "RegretPegsLaw" 108 "RegretPegsModel" yX7_go cX7_go 7 (some .int) 2 := ⟨wd_1041, wd_1042, wd_1043, wd_8, wd_1044, ⟨rfl, by decide, by decide, by decide +kernel⟩, by decide⟩
theorem vw_L_109 : rp_V "RegretPegsLaw" 109 "RegretPegs" yX6_allRue cX6_allRue 2 (some .int) 1 := ⟨wd_513, wd_514, wd_515, wd_1, wd_516, ⟨rfl, by decide, by decide, by decide +kernel⟩, by decide⟩
theorem vw_L_112 : rp_V "RegretPegsLaw" 112 "RegretPegsModel" yX7_allRue cX7_allRue 2 (some .int) 1 := ⟨wd_1045, wd_1046, wd_1047, wd_8, wd_1048, ⟨rfl, by decide, by decide, by decide +kernel⟩, by decide⟩
theorem vw_L_113 : rp_V "RegretPegsLaw" 113 "RegretPegs" yX6_sorriest cX6_sorriest 5 (some .int) 2 := ⟨wd_517, wd_518, wd_519, wd_1, wd_520, ⟨rfl, by decide, by decide, by decide +kernel⟩, by decide⟩
theorem vw_L_116 : rp_V "RegretPegsLaw" 116 "RegretPegsModel" yX7_sorriest cX7_sorriest 5 (some .int) 2 := ⟨wd_1049, wd_1050, wd_1051, wd_8, wd_1052, ⟨rfl, by decide, by decide, by decide +kernel⟩, by decide⟩
theorem vw_L_117 : rp_V "RegretPegsLaw" 117 "RegretPegs" yX6_odds cX6_odds 8 (some .int) 4 := ⟨wd_521, wd_522, wd_523, wd_1, wd_524, ⟨rfl, by decide, by decide, by decide +kernel⟩, by decide⟩
theorem vw_L_120 : rp_V "RegretPegsLaw" 120 "RegretPegsModel" yX7_odds cX7_odds 10 (some .int) 4 := ⟨wd_1053, wd_1054, wd_1055, wd_8, wd_1056, ⟨rfl, by decide, by decide, by decide +kernel⟩, by decide⟩
theorem vw_L_121 : rp_V "RegretPegsLaw" 121 "RegretPegs" yX6_seed cX6_seed 3 (some .int) 1 := ⟨wd_528, wd_529, wd_530, wd_1, wd_531, ⟨rfl, by decide, by decide, by decide +kernel⟩, by decide⟩
theorem vw_L_124 : rp_V "RegretPegsLaw" 124 "RegretPegsModel" yX7_seed cX7_seed 2 (some .int) 1 := ⟨wd_1057, wd_1058, wd_1059, wd_8, wd_1060, ⟨rfl, by decide, by decide, by decide +kernel⟩, by decide⟩
theorem vw_L_125 : rp_V "RegretPegsLaw" 125 "RegretPegs" yX6_voice cX6_voice 4 (some .int) 3 := ⟨wd_532, wd_533, wd_534, wd_1, wd_535, ⟨rfl, by decide, by decide, by decide +kernel⟩, by decide⟩
theorem vw_L_128 : rp_V "RegretPegsLaw" 128 "RegretPegsModel" yX7_voice cX7_voice 4 (some .int) 3 := ⟨wd_1061, wd_1062, wd_1063, wd_8, wd_1064, ⟨rfl, by decide, by decide, by decide +kernel⟩, by decide⟩
theorem vw_L_129 : rp_V "RegretPegsLaw" 129 "RegretPegs" yX6_trace cX6_trace 2 (some .int) 1 := ⟨wd_555, wd_556, wd_557, wd_1, wd_558, ⟨rfl, by decide, by decide, by decide +kernel⟩, by decide⟩
theorem vw_L_132 : rp_V "RegretPegsLaw" 132 "RegretPegsModel" yX7_trace cX7_trace 2 (some .int) 1 := ⟨wd_1089, wd_1090, wd_1091, wd_8, wd_1092, ⟨rfl, by decide, by decide, by decide +kernel⟩, by decide⟩
theorem vw_L_133 : rp_V "RegretPegsLaw" 133 "RegretPegs" yX6_sheet cX6_sheet 4 (some .int) 3 := ⟨wd_559, wd_560, wd_561, wd_1, wd_562, ⟨rfl, by decide, by decide, by decide +kernel⟩, by decide⟩
theorem vw_L_136 : rp_V "RegretPegsLaw" 136 "RegretPegsModel" yX7_sheet cX7_sheet 5 (some .int) 3 := ⟨wd_1093, wd_1094, wd_1095, wd_8, wd_1096, ⟨rfl, by decide, by decide, by decide +kernel⟩, by decide⟩
theorem vw_L_137 : rp_V "RegretPegsLaw" 137 "RegretPegs" yX6_put cX6_put 4 (some .int) 3 := ⟨wd_567, wd_568, wd_569, wd_1, wd_570, ⟨rfl, by decide, by decide, by decide +kernel⟩, by decide⟩
theorem vw_L_140 : rp_V "RegretPegsLaw" 140 "RegretPegsModel" yX7_put cX7_put 4 (some .int) 3 := ⟨wd_1097, wd_1098, wd_1099, wd_8, wd_1100, ⟨rfl, by decide, by decide, by decide +kernel⟩, by decide⟩
theorem vw_L_141 : rp_V "RegretPegsLaw" 141 "RegretPegs" yX6_move cX6_move 8 (some .int) 5 := ⟨wd_575, wd_576, wd_577, wd_1, wd_578, ⟨rfl, by decide, by decide, by decide +kernel⟩, by decide⟩
theorem vw_L_145 : rp_V "RegretPegsLaw" 145 "RegretPegsModel" yX7_move cX7_move 7 (some .int) 5 := ⟨wd_1101, wd_1102, wd_1103, wd_8, wd_1104, ⟨rfl, by decide, by decide, by decide +kernel⟩, by decide⟩
theorem vw_L_146 : rp_V "RegretPegsLaw" 146 "RegretPegs" yX6_rues cX6_rues 5 (some .int) 1 := ⟨wd_584, wd_585, wd_586, wd_1, wd_587, ⟨rfl, by decide, by decide, by decide +kernel⟩, by decide⟩
theorem vw_L_149 : rp_V "RegretPegsLaw" 149 "RegretPegsModel" yX7_rues cX7_rues 3 (some .int) 1 := ⟨wd_1105, wd_1106, wd_1107, wd_8, wd_1108, ⟨rfl, by decide, by decide, by decide +kernel⟩, by decide⟩
theorem vw_L_150 : rp_V "RegretPegsLaw" 150 "RegretPegs" yX6_judge cX6_judge 5 (some .int) 1 := ⟨wd_588, wd_589, wd_590, wd_1, wd_591, ⟨rfl, by decide, by decide, by decide +kernel⟩, by decide⟩
theorem vw_L_153 : rp_V "RegretPegsLaw" 153 "RegretPegsModel" yX7_judge cX7_judge 3 (some .int) 1 := ⟨wd_1109, wd_1110, wd_1111, wd_8, wd_1112, ⟨rfl, by decide, by decide, by decide +kernel⟩, by decide⟩
theorem vw_L_154 : rp_V "RegretPegsLaw" 154 "RegretPegs" yX6_image cX6_image 1 (some .int) 0 := ⟨wd_592, wd_593, wd_594, wd_1, wd_595, ⟨rfl, by decide, by decide, by decide +kernel⟩, by decide⟩
theorem vw_L_157 : rp_V "RegretPegsLaw" 157 "RegretPegsModel" yX7_image cX7_image 1 (some .int) 0 := ⟨wd_1113, wd_1114, wd_1115, wd_8, wd_1116, ⟨rfl, by decide, by decide, by decide +kernel⟩, by decide⟩
theorem vw_L_158 : rp_V "RegretPegsLaw" 158 "RegretPegs" yX6_restore cX6_restore 1 (some .int) 0 := ⟨wd_603, wd_604, wd_605, wd_1, wd_606, ⟨rfl, by decide, by decide, by decide +kernel⟩, by decide⟩
theorem vw_L_161 : rp_V "RegretPegsLaw" 161 "RegretPegsModel" yX7_restore cX7_restore 1 (some .int) 0 := ⟨wd_1117, wd_1118, wd_1119, wd_8, wd_1120, ⟨rfl, by decide, by decide, by decide +kernel⟩, by decide⟩
theorem vw_L_162 : rp_V "RegretPegsLaw" 162 "RegretPegs" yX6_tell cX6_tell 2 (some .int) 1 := ⟨wd_607, wd_608, wd_609, wd_1, wd_610, ⟨rfl, by decide, by decide, by decide +kernel⟩, by decide⟩
theorem vw_L_165 : rp_V "RegretPegsLaw" 165 "RegretPegsModel" yX7_tell cX7_tell 2 (some .int) 1 := ⟨wd_1121, wd_1122, wd_1123, wd_8, wd_1124, ⟨rfl, by decide, by decide, by decide +kernel⟩, by decide⟩
theorem vw_L_166 : rp_V "RegretPegsLaw" 166 "RegretPegs" yX6_check cX6_check 3 (some .int) 0 := ⟨wd_611, wd_612, wd_613, wd_1, wd_614, ⟨rfl, by decide, by decide, by decide +kernel⟩, by decide⟩
theorem vw_L_169 : rp_V "RegretPegsLaw" 169 "RegretPegsModel" yX7_check cX7_check 4 (some .int) 0 := ⟨wd_1125, wd_1126, wd_1127, wd_8, wd_1128, ⟨rfl, by decide, by decide, by decide +kernel⟩, by decide⟩
theorem vw_L_170 : rp_V "RegretPegsLaw" 170 "RegretPegs" yX6_count cX6_count 2 (some .int) 1 := ⟨wd_615, wd_616, wd_617, wd_1, wd_618, ⟨rfl, by decide, by decide, by decide +kernel⟩, by decide⟩
theorem vw_L_173 : rp_V "RegretPegsLaw" 173 "RegretPegsModel" yX7_count cX7_count 2 (some .int) 1 := ⟨wd_1129, wd_1130, wd_1131, wd_8, wd_1132, ⟨rfl, by decide, by decide, by decide +kernel⟩, by decide⟩
theorem vw_L_174 : rp_V "RegretPegsLaw" 174 "RegretPegs" yX6_told cX6_told 2 (some .int) 1 := ⟨wd_627, wd_628, wd_629, wd_1, wd_630, ⟨rfl, by decide, by decide, by decide +kernel⟩, by decide⟩
theorem vw_L_177 : rp_V "RegretPegsLaw" 177 "RegretPegsModel" yX7_told cX7_told 2 (some .int) 1 := ⟨wd_1137, wd_1138, wd_1139, wd_8, wd_1140, ⟨rfl, by decide, by decide, by decide +kernel⟩, by decide⟩
set_option maxRecDepth 100000 in
set_option maxHeartbeats 4000000 in
theorem law_c0 {p : Program} {l : Launch} {e : Env} {s : State} {m : MethodId} {below : List Frame} {meth : Method} {c : Code} {D : va_G} {cI cB cS cT : ClassId} {ax am ad av : Nat → Nat} {b L : Nat} {xs : Nat → Int32} {RR : rp_St → rp_St → Prop} (hop : ∀ (v1 : Int32) (v2 : Int32) (σ τ : rp_St), RR σ τ → ∃ (r : Int32) (σ' τ' : rp_St), fX6_guest v1 v2 σ = some (r, σ') ∧ fX7_guest v1 v2 τ = some (r, τ') ∧ RR σ' τ') (hC : lC p s m meth c b L xs D cI cB cS cT ax am ad av) (x3 : Int32) (h0 : vp_in x3 L) (h1 : vp_in (x3 + 1) L) (h2 : vp_in (x3 + 2) L) (h3 : vp_in (x3 + 3) L) (h4 : vp_in (x3 + 4) L) (h5 : vp_in (x3 + 5) L) (ls : Array Slot) (hl : lv_has ls 4 [(0, .ref b), (1, .ref (ax 54)), (2, .ref (am 0)), (3, .int x3)]) (hk : ∀ (σ τ : rp_St) (H : Heap) (locs : List Loc), RR σ τ → lS D cI cB cS cT ax am ad s σ τ H locs → W p l e room_1 s m #[Value.ref b] below meth c H locs 77 2186 (lw_Z below #[Value.ref b] s) (F0 m 1421 ls [])) (σ τ : rp_St) (H : Heap) (locs : List Loc) (hR : RR σ τ) (hw : lS D cI cB cS cT ax am ad s σ τ H locs) : W p l e room_1 s m #[Value.ref b] below meth c H locs 77 2186 (lw_Z below #[Value.ref b] s) (F0 m 204 ls []) := by
  have hx := hC.1.1
  have hb := hC.1.2.1
  have hown : s.vm.findClass "RegretPegsLaw" = some m.cls := hC.1.2.2.2.2.1
  have hts0 : ∀ w ∈ rp_W0, w.before #[Value.ref b] s = true := fun w hw => hC.1.2.2.2.2.2.1 w (rp_W0_in w hw)
  refine lv_aload_n (pc := 204) hx hb dL_law_204 rfl (lv_at hl 1 rfl) ?_
  refine lv_aload_n (pc := 205) hx hb dL_law_205 rfl (lv_at hl 0 rfl) ?_
  refine lv_iload_n (pc := 206) hx hb dL_law_206 rfl (lv_at hl 3 rfl) ?_
  refine lv_iconst (pc := 207) (v := 1) hx hb dL_law_207 (by decide) ?_
  refine lv_iadd (pc := 208) hx hb dL_law_208 ?_
  refine ls_ld (pc := 209) hC hw h1 dL_law_209 ?_
  refine lv_aload_n (pc := 210) hx hb dL_law_210 rfl (lv_at hl 0 rfl) ?_
  refine lv_iload_n (pc := 211) hx hb dL_law_211 rfl (lv_at hl 3 rfl) ?_
  refine lv_iconst (pc := 212) (v := 2) hx hb dL_law_212 (by decide) ?_
  refine lv_iadd (pc := 213) hx hb dL_law_213 ?_
  refine ls_ld (pc := 214) hC hw h2 dL_law_214 ?_
  obtain ⟨r, σ', τ', hf, hg, hR'⟩ := hop (xs ((x3 + 1) : Int32).toNatClampNeg) (xs ((x3 + 2) : Int32).toNatClampNeg) σ τ hR
  refine lx_call (pc := 215) (rest := []) hC hw hl.1 (mX6_guest (l := l) (xs ((x3 + 1) : Int32).toNatClampNeg) (xs ((x3 + 2) : Int32).toNatClampNeg) σ _ hf) vw_L_13 rfl rfl (Nat.le_of_ble_eq_true rfl) (by decide) ⟨by decide, by decide⟩ dL_law_215 (fun H locs hw => ?_)
  refine lv_aload_n (pc := 218) hx hb dL_law_218 rfl (lv_at hl 2 rfl) ?_
  refine lv_aload_n (pc := 219) hx hb dL_law_219 rfl (lv_at hl 0 rfl) ?_
  refine lv_iload_n (pc := 220) hx hb dL_law_220 rfl (lv_at hl 3 rfl) ?_
  refine lv_iconst (pc := 221) (v := 1) hx hb dL_law_221 (by decide) ?_
  refine lv_iadd (pc := 222) hx hb dL_law_222 ?_
  refine ls_ld (pc := 223) hC hw h1 dL_law_223 ?_
  refine lv_aload_n (pc := 224) hx hb dL_law_224 rfl (lv_at hl 0 rfl) ?_
  refine lv_iload_n (pc := 225) hx hb dL_law_225 rfl (lv_at hl 3 rfl) ?_
  refine lv_iconst (pc := 226) (v := 2) hx hb dL_law_226 (by decide) ?_
  refine lv_iadd (pc := 227) hx hb dL_law_227 ?_
  refine ls_ld (pc := 228) hC hw h2 dL_law_228 ?_
  refine lm_call (pc := 229) (rest := [.int r]) hC hw hl.1 (mX7_guest (l := l) (xs ((x3 + 1) : Int32).toNatClampNeg) (xs ((x3 + 2) : Int32).toNatClampNeg) τ _ hg) vw_L_17 rfl rfl (Nat.le_of_ble_eq_true rfl) (by decide) ⟨by decide, by decide⟩ dL_law_229 (fun H locs hw => ?_)
  refine lv_icmp_eq (pc := 232) (tgt := 1421) hx hb dL_law_232 (by decide) (fun _ => ?_) (fun hc => absurd rfl hc)
  exact hk σ' τ' H locs hR' hw
set_option maxRecDepth 100000 in
set_option maxHeartbeats 4000000 in
theorem law_c1 {p : Program} {l : Launch} {e : Env} {s : State} {m : MethodId} {below : List Frame} {meth : Method} {c : Code} {D : va_G} {cI cB cS cT : ClassId} {ax am ad av : Nat → Nat} {b L : Nat} {xs : Nat → Int32} {RR : rp_St → rp_St → Prop} (hop : ∀ (v1 : Int32) (v2 : Int32) (σ τ : rp_St), RR σ τ → ∃ (r : Int32) (σ' τ' : rp_St), fX6_ofGuest v1 v2 σ = some (r, σ') ∧ fX7_ofGuest v1 v2 τ = some (r, τ') ∧ RR σ' τ') (hC : lC p s m meth c b L xs D cI cB cS cT ax am ad av) (x3 : Int32) (h0 : vp_in x3 L) (h1 : vp_in (x3 + 1) L) (h2 : vp_in (x3 + 2) L) (h3 : vp_in (x3 + 3) L) (h4 : vp_in (x3 + 4) L) (h5 : vp_in (x3 + 5) L) (ls : Array Slot) (hl : lv_has ls 4 [(0, .ref b), (1, .ref (ax 54)), (2, .ref (am 0)), (3, .int x3)]) (hk : ∀ (σ τ : rp_St) (H : Heap) (locs : List Loc), RR σ τ → lS D cI cB cS cT ax am ad s σ τ H locs → W p l e room_1 s m #[Value.ref b] below meth c H locs 77 2186 (lw_Z below #[Value.ref b] s) (F0 m 1421 ls [])) (σ τ : rp_St) (H : Heap) (locs : List Loc) (hR : RR σ τ) (hw : lS D cI cB cS cT ax am ad s σ τ H locs) : W p l e room_1 s m #[Value.ref b] below meth c H locs 77 2186 (lw_Z below #[Value.ref b] s) (F0 m 237 ls []) := by
  have hx := hC.1.1
  have hb := hC.1.2.1
  have hown : s.vm.findClass "RegretPegsLaw" = some m.cls := hC.1.2.2.2.2.1
  have hts0 : ∀ w ∈ rp_W0, w.before #[Value.ref b] s = true := fun w hw => hC.1.2.2.2.2.2.1 w (rp_W0_in w hw)
  refine lv_aload_n (pc := 237) hx hb dL_law_237 rfl (lv_at hl 1 rfl) ?_
  refine lv_aload_n (pc := 238) hx hb dL_law_238 rfl (lv_at hl 0 rfl) ?_
  refine lv_iload_n (pc := 239) hx hb dL_law_239 rfl (lv_at hl 3 rfl) ?_
  refine lv_iconst (pc := 240) (v := 1) hx hb dL_law_240 (by decide) ?_
  refine lv_iadd (pc := 241) hx hb dL_law_241 ?_
  refine ls_ld (pc := 242) hC hw h1 dL_law_242 ?_
  refine lv_aload_n (pc := 243) hx hb dL_law_243 rfl (lv_at hl 0 rfl) ?_
  refine lv_iload_n (pc := 244) hx hb dL_law_244 rfl (lv_at hl 3 rfl) ?_
  refine lv_iconst (pc := 245) (v := 2) hx hb dL_law_245 (by decide) ?_
  refine lv_iadd (pc := 246) hx hb dL_law_246 ?_
  refine ls_ld (pc := 247) hC hw h2 dL_law_247 ?_
  obtain ⟨r, σ', τ', hf, hg, hR'⟩ := hop (xs ((x3 + 1) : Int32).toNatClampNeg) (xs ((x3 + 2) : Int32).toNatClampNeg) σ τ hR
  refine lx_call (pc := 248) (rest := []) hC hw hl.1 (mX6_ofGuest (l := l) (xs ((x3 + 1) : Int32).toNatClampNeg) (xs ((x3 + 2) : Int32).toNatClampNeg) σ _ hf) vw_L_18 rfl rfl (Nat.le_of_ble_eq_true rfl) (by decide) ⟨by decide, by decide⟩ dL_law_248 (fun H locs hw => ?_)
  refine lv_aload_n (pc := 251) hx hb dL_law_251 rfl (lv_at hl 2 rfl) ?_
  refine lv_aload_n (pc := 252) hx hb dL_law_252 rfl (lv_at hl 0 rfl) ?_
  refine lv_iload_n (pc := 253) hx hb dL_law_253 rfl (lv_at hl 3 rfl) ?_
  refine lv_iconst (pc := 254) (v := 1) hx hb dL_law_254 (by decide) ?_
  refine lv_iadd (pc := 255) hx hb dL_law_255 ?_
  refine ls_ld (pc := 256) hC hw h1 dL_law_256 ?_
  refine lv_aload_n (pc := 257) hx hb dL_law_257 rfl (lv_at hl 0 rfl) ?_
  refine lv_iload_n (pc := 258) hx hb dL_law_258 rfl (lv_at hl 3 rfl) ?_
  refine lv_iconst (pc := 259) (v := 2) hx hb dL_law_259 (by decide) ?_
  refine lv_iadd (pc := 260) hx hb dL_law_260 ?_
  refine ls_ld (pc := 261) hC hw h2 dL_law_261 ?_
  refine lm_call (pc := 262) (rest := [.int r]) hC hw hl.1 (mX7_ofGuest (l := l) (xs ((x3 + 1) : Int32).toNatClampNeg) (xs ((x3 + 2) : Int32).toNatClampNeg) τ _ hg) vw_L_21 rfl rfl (Nat.le_of_ble_eq_true rfl) (by decide) ⟨by decide, by decide⟩ dL_law_262 (fun H locs hw => ?_)
  refine lv_icmp_eq (pc := 265) (tgt := 1421) hx hb dL_law_265 (by decide) (fun _ => ?_) (fun hc => absurd rfl hc)
  exact hk σ' τ' H locs hR' hw
set_option maxRecDepth 100000 in
set_option maxHeartbeats 4000000 in
theorem law_c2 {p : Program} {l : Launch} {e : Env} {s : State} {m : MethodId} {below : List Frame} {meth : Method} {c : Code} {D : va_G} {cI cB cS cT : ClassId} {ax am ad av : Nat → Nat} {b L : Nat} {xs : Nat → Int32} {RR : rp_St → rp_St → Prop} (hop : ∀ (v1 : Int32) (v2 : Int32) (v3 : Int32) (σ τ : rp_St), RR σ τ → ∃ (r : Int32) (σ' τ' : rp_St), fX6_change v1 v2 v3 σ = some (r, σ') ∧ fX7_change v1 v2 v3 τ = some (r, τ') ∧ RR σ' τ') (hC : lC p s m meth c b L xs D cI cB cS cT ax am ad av) (x3 : Int32) (h0 : vp_in x3 L) (h1 : vp_in (x3 + 1) L) (h2 : vp_in (x3 + 2) L) (h3 : vp_in (x3 + 3) L) (h4 : vp_in (x3 + 4) L) (h5 : vp_in (x3 + 5) L) (ls : Array Slot) (hl : lv_has ls 4 [(0, .ref b), (1, .ref (ax 54)), (2, .ref (am 0)), (3, .int x3)]) (hk : ∀ (σ τ : rp_St) (H : Heap) (locs : List Loc), RR σ τ → lS D cI cB cS cT ax am ad s σ τ H locs → W p l e room_1 s m #[Value.ref b] below meth c H locs 77 2186 (lw_Z below #[Value.ref b] s) (F0 m 1421 ls [])) (σ τ : rp_St) (H : Heap) (locs : List Loc) (hR : RR σ τ) (hw : lS D cI cB cS cT ax am ad s σ τ H locs) : W p l e room_1 s m #[Value.ref b] below meth c H locs 77 2186 (lw_Z below #[Value.ref b] s) (F0 m 270 ls []) := by
  have hx := hC.1.1
  have hb := hC.1.2.1
  have hown : s.vm.findClass "RegretPegsLaw" = some m.cls := hC.1.2.2.2.2.1
  have hts0 : ∀ w ∈ rp_W0, w.before #[Value.ref b] s = true := fun w hw => hC.1.2.2.2.2.2.1 w (rp_W0_in w hw)
  refine lv_aload_n (pc := 270) hx hb dL_law_270 rfl (lv_at hl 1 rfl) ?_
  refine lv_aload_n (pc := 271) hx hb dL_law_271 rfl (lv_at hl 0 rfl) ?_
  refine lv_iload_n (pc := 272) hx hb dL_law_272 rfl (lv_at hl 3 rfl) ?_
  refine lv_iconst (pc := 273) (v := 1) hx hb dL_law_273 (by decide) ?_
  refine lv_iadd (pc := 274) hx hb dL_law_274 ?_
  refine ls_ld (pc := 275) hC hw h1 dL_law_275 ?_
  refine lv_aload_n (pc := 276) hx hb dL_law_276 rfl (lv_at hl 0 rfl) ?_
  refine lv_iload_n (pc := 277) hx hb dL_law_277 rfl (lv_at hl 3 rfl) ?_
  refine lv_iconst (pc := 278) (v := 2) hx hb dL_law_278 (by decide) ?_
  refine lv_iadd (pc := 279) hx hb dL_law_279 ?_
  refine ls_ld (pc := 280) hC hw h2 dL_law_280 ?_
  refine lv_aload_n (pc := 281) hx hb dL_law_281 rfl (lv_at hl 0 rfl) ?_
  refine lv_iload_n (pc := 282) hx hb dL_law_282 rfl (lv_at hl 3 rfl) ?_
  refine lv_iconst (pc := 283) (v := 3) hx hb dL_law_283 (by decide) ?_
  refine lv_iadd (pc := 284) hx hb dL_law_284 ?_
  refine ls_ld (pc := 285) hC hw h3 dL_law_285 ?_
  obtain ⟨r, σ', τ', hf, hg, hR'⟩ := hop (xs ((x3 + 1) : Int32).toNatClampNeg) (xs ((x3 + 2) : Int32).toNatClampNeg) (xs ((x3 + 3) : Int32).toNatClampNeg) σ τ hR
  refine lx_call (pc := 286) (rest := []) hC hw hl.1 (mX6_change (l := l) (xs ((x3 + 1) : Int32).toNatClampNeg) (xs ((x3 + 2) : Int32).toNatClampNeg) (xs ((x3 + 3) : Int32).toNatClampNeg) σ _ hf) vw_L_22 rfl rfl (Nat.le_of_ble_eq_true rfl) (by decide) ⟨by decide, by decide⟩ dL_law_286 (fun H locs hw => ?_)
  refine lv_aload_n (pc := 289) hx hb dL_law_289 rfl (lv_at hl 2 rfl) ?_
  refine lv_aload_n (pc := 290) hx hb dL_law_290 rfl (lv_at hl 0 rfl) ?_
  refine lv_iload_n (pc := 291) hx hb dL_law_291 rfl (lv_at hl 3 rfl) ?_
  refine lv_iconst (pc := 292) (v := 1) hx hb dL_law_292 (by decide) ?_
  refine lv_iadd (pc := 293) hx hb dL_law_293 ?_
  refine ls_ld (pc := 294) hC hw h1 dL_law_294 ?_
  refine lv_aload_n (pc := 295) hx hb dL_law_295 rfl (lv_at hl 0 rfl) ?_
  refine lv_iload_n (pc := 296) hx hb dL_law_296 rfl (lv_at hl 3 rfl) ?_
  refine lv_iconst (pc := 297) (v := 2) hx hb dL_law_297 (by decide) ?_
  refine lv_iadd (pc := 298) hx hb dL_law_298 ?_
  refine ls_ld (pc := 299) hC hw h2 dL_law_299 ?_
  refine lv_aload_n (pc := 300) hx hb dL_law_300 rfl (lv_at hl 0 rfl) ?_
  refine lv_iload_n (pc := 301) hx hb dL_law_301 rfl (lv_at hl 3 rfl) ?_
  refine lv_iconst (pc := 302) (v := 3) hx hb dL_law_302 (by decide) ?_
  refine lv_iadd (pc := 303) hx hb dL_law_303 ?_
  refine ls_ld (pc := 304) hC hw h3 dL_law_304 ?_
  refine lm_call (pc := 305) (rest := [.int r]) hC hw hl.1 (mX7_change (l := l) (xs ((x3 + 1) : Int32).toNatClampNeg) (xs ((x3 + 2) : Int32).toNatClampNeg) (xs ((x3 + 3) : Int32).toNatClampNeg) τ _ hg) vw_L_26 rfl rfl (Nat.le_of_ble_eq_true rfl) (by decide) ⟨by decide, by decide⟩ dL_law_305 (fun H locs hw => ?_)
  refine lv_icmp_eq (pc := 308) (tgt := 1421) hx hb dL_law_308 (by decide) (fun _ => ?_) (fun hc => absurd rfl hc)
  exact hk σ' τ' H locs hR' hw
set_option maxRecDepth 100000 in
set_option maxHeartbeats 4000000 in
theorem law_c3 {p : Program} {l : Launch} {e : Env} {s : State} {m : MethodId} {below : List Frame} {meth : Method} {c : Code} {D : va_G} {cI cB cS cT : ClassId} {ax am ad av : Nat → Nat} {b L : Nat} {xs : Nat → Int32} {RR : rp_St → rp_St → Prop} (hop : ∀ (v1 : Int32) (σ τ : rp_St), RR σ τ → ∃ (r : Int32) (σ' τ' : rp_St), fX6_peg v1 σ = some (r, σ') ∧ fX7_peg v1 τ = some (r, τ') ∧ RR σ' τ') (hC : lC p s m meth c b L xs D cI cB cS cT ax am ad av) (x3 : Int32) (h0 : vp_in x3 L) (h1 : vp_in (x3 + 1) L) (h2 : vp_in (x3 + 2) L) (h3 : vp_in (x3 + 3) L) (h4 : vp_in (x3 + 4) L) (h5 : vp_in (x3 + 5) L) (ls : Array Slot) (hl : lv_has ls 4 [(0, .ref b), (1, .ref (ax 54)), (2, .ref (am 0)), (3, .int x3)]) (hk : ∀ (σ τ : rp_St) (H : Heap) (locs : List Loc), RR σ τ → lS D cI cB cS cT ax am ad s σ τ H locs → W p l e room_1 s m #[Value.ref b] below meth c H locs 77 2186 (lw_Z below #[Value.ref b] s) (F0 m 1421 ls [])) (σ τ : rp_St) (H : Heap) (locs : List Loc) (hR : RR σ τ) (hw : lS D cI cB cS cT ax am ad s σ τ H locs) : W p l e room_1 s m #[Value.ref b] below meth c H locs 77 2186 (lw_Z below #[Value.ref b] s) (F0 m 313 ls []) := by
  have hx := hC.1.1
  have hb := hC.1.2.1
  have hown : s.vm.findClass "RegretPegsLaw" = some m.cls := hC.1.2.2.2.2.1
  have hts0 : ∀ w ∈ rp_W0, w.before #[Value.ref b] s = true := fun w hw => hC.1.2.2.2.2.2.1 w (rp_W0_in w hw)
  refine lv_aload_n (pc := 313) hx hb dL_law_313 rfl (lv_at hl 1 rfl) ?_
  refine lv_aload_n (pc := 314) hx hb dL_law_314 rfl (lv_at hl 0 rfl) ?_
  refine lv_iload_n (pc := 315) hx hb dL_law_315 rfl (lv_at hl 3 rfl) ?_
  refine lv_iconst (pc := 316) (v := 1) hx hb dL_law_316 (by decide) ?_
  refine lv_iadd (pc := 317) hx hb dL_law_317 ?_
  refine ls_ld (pc := 318) hC hw h1 dL_law_318 ?_
  obtain ⟨r, σ', τ', hf, hg, hR'⟩ := hop (xs ((x3 + 1) : Int32).toNatClampNeg) σ τ hR
  refine lx_call (pc := 319) (rest := []) hC hw hl.1 (mX6_peg (l := l) (xs ((x3 + 1) : Int32).toNatClampNeg) σ _ hf) vw_L_27 rfl rfl (Nat.le_of_ble_eq_true rfl) (by decide) ⟨by decide, by decide⟩ dL_law_319 (fun H locs hw => ?_)
  refine lv_aload_n (pc := 322) hx hb dL_law_322 rfl (lv_at hl 2 rfl) ?_
  refine lv_aload_n (pc := 323) hx hb dL_law_323 rfl (lv_at hl 0 rfl) ?_
  refine lv_iload_n (pc := 324) hx hb dL_law_324 rfl (lv_at hl 3 rfl) ?_
  refine lv_iconst (pc := 325) (v := 1) hx hb dL_law_325 (by decide) ?_
  refine lv_iadd (pc := 326) hx hb dL_law_326 ?_
  refine ls_ld (pc := 327) hC hw h1 dL_law_327 ?_
  refine lm_call (pc := 328) (rest := [.int r]) hC hw hl.1 (mX7_peg (l := l) (xs ((x3 + 1) : Int32).toNatClampNeg) τ _ hg) vw_L_31 rfl rfl (Nat.le_of_ble_eq_true rfl) (by decide) ⟨by decide, by decide⟩ dL_law_328 (fun H locs hw => ?_)
  refine lv_icmp_eq (pc := 331) (tgt := 1421) hx hb dL_law_331 (by decide) (fun _ => ?_) (fun hc => absurd rfl hc)
  exact hk σ' τ' H locs hR' hw
set_option maxRecDepth 100000 in
set_option maxHeartbeats 4000000 in
theorem law_c4 {p : Program} {l : Launch} {e : Env} {s : State} {m : MethodId} {below : List Frame} {meth : Method} {c : Code} {D : va_G} {cI cB cS cT : ClassId} {ax am ad av : Nat → Nat} {b L : Nat} {xs : Nat → Int32} {RR : rp_St → rp_St → Prop} (hop : ∀ (v1 : Int32) (v2 : Int32) (σ τ : rp_St), RR σ τ → ∃ (r : Int32) (σ' τ' : rp_St), fX6_hang v1 v2 σ = some (r, σ') ∧ fX7_hang v1 v2 τ = some (r, τ') ∧ RR σ' τ') (hC : lC p s m meth c b L xs D cI cB cS cT ax am ad av) (x3 : Int32) (h0 : vp_in x3 L) (h1 : vp_in (x3 + 1) L) (h2 : vp_in (x3 + 2) L) (h3 : vp_in (x3 + 3) L) (h4 : vp_in (x3 + 4) L) (h5 : vp_in (x3 + 5) L) (ls : Array Slot) (hl : lv_has ls 4 [(0, .ref b), (1, .ref (ax 54)), (2, .ref (am 0)), (3, .int x3)]) (hk : ∀ (σ τ : rp_St) (H : Heap) (locs : List Loc), RR σ τ → lS D cI cB cS cT ax am ad s σ τ H locs → W p l e room_1 s m #[Value.ref b] below meth c H locs 77 2186 (lw_Z below #[Value.ref b] s) (F0 m 1421 ls [])) (σ τ : rp_St) (H : Heap) (locs : List Loc) (hR : RR σ τ) (hw : lS D cI cB cS cT ax am ad s σ τ H locs) : W p l e room_1 s m #[Value.ref b] below meth c H locs 77 2186 (lw_Z below #[Value.ref b] s) (F0 m 336 ls []) := by
  have hx := hC.1.1
  have hb := hC.1.2.1
  have hown : s.vm.findClass "RegretPegsLaw" = some m.cls := hC.1.2.2.2.2.1
  have hts0 : ∀ w ∈ rp_W0, w.before #[Value.ref b] s = true := fun w hw => hC.1.2.2.2.2.2.1 w (rp_W0_in w hw)
  refine lv_aload_n (pc := 336) hx hb dL_law_336 rfl (lv_at hl 1 rfl) ?_
  refine lv_aload_n (pc := 337) hx hb dL_law_337 rfl (lv_at hl 0 rfl) ?_
  refine lv_iload_n (pc := 338) hx hb dL_law_338 rfl (lv_at hl 3 rfl) ?_
  refine lv_iconst (pc := 339) (v := 1) hx hb dL_law_339 (by decide) ?_
  refine lv_iadd (pc := 340) hx hb dL_law_340 ?_
  refine ls_ld (pc := 341) hC hw h1 dL_law_341 ?_
  refine lv_aload_n (pc := 342) hx hb dL_law_342 rfl (lv_at hl 0 rfl) ?_
  refine lv_iload_n (pc := 343) hx hb dL_law_343 rfl (lv_at hl 3 rfl) ?_
  refine lv_iconst (pc := 344) (v := 2) hx hb dL_law_344 (by decide) ?_
  refine lv_iadd (pc := 345) hx hb dL_law_345 ?_
  refine ls_ld (pc := 346) hC hw h2 dL_law_346 ?_
  obtain ⟨r, σ', τ', hf, hg, hR'⟩ := hop (xs ((x3 + 1) : Int32).toNatClampNeg) (xs ((x3 + 2) : Int32).toNatClampNeg) σ τ hR
  refine lx_call (pc := 347) (rest := []) hC hw hl.1 (mX6_hang (l := l) (xs ((x3 + 1) : Int32).toNatClampNeg) (xs ((x3 + 2) : Int32).toNatClampNeg) σ _ hf) vw_L_32 rfl rfl (Nat.le_of_ble_eq_true rfl) (by decide) ⟨by decide, by decide⟩ dL_law_347 (fun H locs hw => ?_)
  refine lv_aload_n (pc := 350) hx hb dL_law_350 rfl (lv_at hl 2 rfl) ?_
  refine lv_aload_n (pc := 351) hx hb dL_law_351 rfl (lv_at hl 0 rfl) ?_
  refine lv_iload_n (pc := 352) hx hb dL_law_352 rfl (lv_at hl 3 rfl) ?_
  refine lv_iconst (pc := 353) (v := 1) hx hb dL_law_353 (by decide) ?_
  refine lv_iadd (pc := 354) hx hb dL_law_354 ?_
  refine ls_ld (pc := 355) hC hw h1 dL_law_355 ?_
  refine lv_aload_n (pc := 356) hx hb dL_law_356 rfl (lv_at hl 0 rfl) ?_
  refine lv_iload_n (pc := 357) hx hb dL_law_357 rfl (lv_at hl 3 rfl) ?_
  refine lv_iconst (pc := 358) (v := 2) hx hb dL_law_358 (by decide) ?_
  refine lv_iadd (pc := 359) hx hb dL_law_359 ?_
  refine ls_ld (pc := 360) hC hw h2 dL_law_360 ?_
  refine lm_call (pc := 361) (rest := [.int r]) hC hw hl.1 (mX7_hang (l := l) (xs ((x3 + 1) : Int32).toNatClampNeg) (xs ((x3 + 2) : Int32).toNatClampNeg) τ _ hg) vw_L_35 rfl rfl (Nat.le_of_ble_eq_true rfl) (by decide) ⟨by decide, by decide⟩ dL_law_361 (fun H locs hw => ?_)
  refine lv_icmp_eq (pc := 364) (tgt := 1421) hx hb dL_law_364 (by decide) (fun _ => ?_) (fun hc => absurd rfl hc)
  exact hk σ' τ' H locs hR' hw
set_option maxRecDepth 100000 in
set_option maxHeartbeats 4000000 in
theorem law_c5 {p : Program} {l : Launch} {e : Env} {s : State} {m : MethodId} {below : List Frame} {meth : Method} {c : Code} {D : va_G} {cI cB cS cT : ClassId} {ax am ad av : Nat → Nat} {b L : Nat} {xs : Nat → Int32} {RR : rp_St → rp_St → Prop} (hop : ∀ (v1 : Int32) (v2 : Int32) (σ τ : rp_St), RR σ τ → ∃ (r : Int32) (σ' τ' : rp_St), fX6_become v1 v2 σ = some (r, σ') ∧ fX7_become v1 v2 τ = some (r, τ') ∧ RR σ' τ') (hC : lC p s m meth c b L xs D cI cB cS cT ax am ad av) (x3 : Int32) (h0 : vp_in x3 L) (h1 : vp_in (x3 + 1) L) (h2 : vp_in (x3 + 2) L) (h3 : vp_in (x3 + 3) L) (h4 : vp_in (x3 + 4) L) (h5 : vp_in (x3 + 5) L) (ls : Array Slot) (hl : lv_has ls 4 [(0, .ref b), (1, .ref (ax 54)), (2, .ref (am 0)), (3, .int x3)]) (hk : ∀ (σ τ : rp_St) (H : Heap) (locs : List Loc), RR σ τ → lS D cI cB cS cT ax am ad s σ τ H locs → W p l e room_1 s m #[Value.ref b] below meth c H locs 77 2186 (lw_Z below #[Value.ref b] s) (F0 m 1421 ls [])) (σ τ : rp_St) (H : Heap) (locs : List Loc) (hR : RR σ τ) (hw : lS D cI cB cS cT ax am ad s σ τ H locs) : W p l e room_1 s m #[Value.ref b] below meth c H locs 77 2186 (lw_Z below #[Value.ref b] s) (F0 m 369 ls []) := by
  have hx := hC.1.1
  have hb := hC.1.2.1
  have hown : s.vm.findClass "RegretPegsLaw" = some m.cls := hC.1.2.2.2.2.1
  have hts0 : ∀ w ∈ rp_W0, w.before #[Value.ref b] s = true := fun w hw => hC.1.2.2.2.2.2.1 w (rp_W0_in w hw)
  refine lv_aload_n (pc := 369) hx hb dL_law_369 rfl (lv_at hl 1 rfl) ?_
  refine lv_aload_n (pc := 370) hx hb dL_law_370 rfl (lv_at hl 0 rfl) ?_
  refine lv_iload_n (pc := 371) hx hb dL_law_371 rfl (lv_at hl 3 rfl) ?_
  refine lv_iconst (pc := 372) (v := 1) hx hb dL_law_372 (by decide) ?_
  refine lv_iadd (pc := 373) hx hb dL_law_373 ?_
  refine ls_ld (pc := 374) hC hw h1 dL_law_374 ?_
  refine lv_aload_n (pc := 375) hx hb dL_law_375 rfl (lv_at hl 0 rfl) ?_
  refine lv_iload_n (pc := 376) hx hb dL_law_376 rfl (lv_at hl 3 rfl) ?_
  refine lv_iconst (pc := 377) (v := 2) hx hb dL_law_377 (by decide) ?_
  refine lv_iadd (pc := 378) hx hb dL_law_378 ?_
  refine ls_ld (pc := 379) hC hw h2 dL_law_379 ?_
  obtain ⟨r, σ', τ', hf, hg, hR'⟩ := hop (xs ((x3 + 1) : Int32).toNatClampNeg) (xs ((x3 + 2) : Int32).toNatClampNeg) σ τ hR
  refine lx_call (pc := 380) (rest := []) hC hw hl.1 (mX6_become (l := l) (xs ((x3 + 1) : Int32).toNatClampNeg) (xs ((x3 + 2) : Int32).toNatClampNeg) σ _ hf) vw_L_36 rfl rfl (Nat.le_of_ble_eq_true rfl) (by decide) ⟨by decide, by decide⟩ dL_law_380 (fun H locs hw => ?_)
  refine lv_aload_n (pc := 383) hx hb dL_law_383 rfl (lv_at hl 2 rfl) ?_
  refine lv_aload_n (pc := 384) hx hb dL_law_384 rfl (lv_at hl 0 rfl) ?_
  refine lv_iload_n (pc := 385) hx hb dL_law_385 rfl (lv_at hl 3 rfl) ?_
  refine lv_iconst (pc := 386) (v := 1) hx hb dL_law_386 (by decide) ?_
  refine lv_iadd (pc := 387) hx hb dL_law_387 ?_
  refine ls_ld (pc := 388) hC hw h1 dL_law_388 ?_
  refine lv_aload_n (pc := 389) hx hb dL_law_389 rfl (lv_at hl 0 rfl) ?_
  refine lv_iload_n (pc := 390) hx hb dL_law_390 rfl (lv_at hl 3 rfl) ?_
  refine lv_iconst (pc := 391) (v := 2) hx hb dL_law_391 (by decide) ?_
  refine lv_iadd (pc := 392) hx hb dL_law_392 ?_
  refine ls_ld (pc := 393) hC hw h2 dL_law_393 ?_
  refine lm_call (pc := 394) (rest := [.int r]) hC hw hl.1 (mX7_become (l := l) (xs ((x3 + 1) : Int32).toNatClampNeg) (xs ((x3 + 2) : Int32).toNatClampNeg) τ _ hg) vw_L_39 rfl rfl (Nat.le_of_ble_eq_true rfl) (by decide) ⟨by decide, by decide⟩ dL_law_394 (fun H locs hw => ?_)
  refine lv_icmp_eq (pc := 397) (tgt := 1421) hx hb dL_law_397 (by decide) (fun _ => ?_) (fun hc => absurd rfl hc)
  exact hk σ' τ' H locs hR' hw
set_option maxRecDepth 100000 in
set_option maxHeartbeats 4000000 in
theorem law_c6 {p : Program} {l : Launch} {e : Env} {s : State} {m : MethodId} {below : List Frame} {meth : Method} {c : Code} {D : va_G} {cI cB cS cT : ClassId} {ax am ad av : Nat → Nat} {b L : Nat} {xs : Nat → Int32} {RR : rp_St → rp_St → Prop} (hop : ∀ (v1 : Int32) (v2 : Int32) (σ τ : rp_St), RR σ τ → ∃ (r : Int32) (σ' τ' : rp_St), fX6_as v1 v2 σ = some (r, σ') ∧ fX7_as v1 v2 τ = some (r, τ') ∧ RR σ' τ') (hC : lC p s m meth c b L xs D cI cB cS cT ax am ad av) (x3 : Int32) (h0 : vp_in x3 L) (h1 : vp_in (x3 + 1) L) (h2 : vp_in (x3 + 2) L) (h3 : vp_in (x3 + 3) L) (h4 : vp_in (x3 + 4) L) (h5 : vp_in (x3 + 5) L) (ls : Array Slot) (hl : lv_has ls 4 [(0, .ref b), (1, .ref (ax 54)), (2, .ref (am 0)), (3, .int x3)]) (hk : ∀ (σ τ : rp_St) (H : Heap) (locs : List Loc), RR σ τ → lS D cI cB cS cT ax am ad s σ τ H locs → W p l e room_1 s m #[Value.ref b] below meth c H locs 77 2186 (lw_Z below #[Value.ref b] s) (F0 m 1421 ls [])) (σ τ : rp_St) (H : Heap) (locs : List Loc) (hR : RR σ τ) (hw : lS D cI cB cS cT ax am ad s σ τ H locs) : W p l e room_1 s m #[Value.ref b] below meth c H locs 77 2186 (lw_Z below #[Value.ref b] s) (F0 m 402 ls []) := by
  have hx := hC.1.1
  have hb := hC.1.2.1
  have hown : s.vm.findClass "RegretPegsLaw" = some m.cls := hC.1.2.2.2.2.1
  have hts0 : ∀ w ∈ rp_W0, w.before #[Value.ref b] s = true := fun w hw => hC.1.2.2.2.2.2.1 w (rp_W0_in w hw)
  refine lv_aload_n (pc := 402) hx hb dL_law_402 rfl (lv_at hl 1 rfl) ?_
  refine lv_aload_n (pc := 403) hx hb dL_law_403 rfl (lv_at hl 0 rfl) ?_
  refine lv_iload_n (pc := 404) hx hb dL_law_404 rfl (lv_at hl 3 rfl) ?_
  refine lv_iconst (pc := 405) (v := 1) hx hb dL_law_405 (by decide) ?_
  refine lv_iadd (pc := 406) hx hb dL_law_406 ?_
  refine ls_ld (pc := 407) hC hw h1 dL_law_407 ?_
  refine lv_aload_n (pc := 408) hx hb dL_law_408 rfl (lv_at hl 0 rfl) ?_
  refine lv_iload_n (pc := 409) hx hb dL_law_409 rfl (lv_at hl 3 rfl) ?_
  refine lv_iconst (pc := 410) (v := 2) hx hb dL_law_410 (by decide) ?_
  refine lv_iadd (pc := 411) hx hb dL_law_411 ?_
  refine ls_ld (pc := 412) hC hw h2 dL_law_412 ?_
  obtain ⟨r, σ', τ', hf, hg, hR'⟩ := hop (xs ((x3 + 1) : Int32).toNatClampNeg) (xs ((x3 + 2) : Int32).toNatClampNeg) σ τ hR
  refine lx_call (pc := 413) (rest := []) hC hw hl.1 (mX6_as (l := l) (xs ((x3 + 1) : Int32).toNatClampNeg) (xs ((x3 + 2) : Int32).toNatClampNeg) σ _ hf) vw_L_40 rfl rfl (Nat.le_of_ble_eq_true rfl) (by decide) ⟨by decide, by decide⟩ dL_law_413 (fun H locs hw => ?_)
  refine lv_aload_n (pc := 416) hx hb dL_law_416 rfl (lv_at hl 2 rfl) ?_
  refine lv_aload_n (pc := 417) hx hb dL_law_417 rfl (lv_at hl 0 rfl) ?_
  refine lv_iload_n (pc := 418) hx hb dL_law_418 rfl (lv_at hl 3 rfl) ?_
  refine lv_iconst (pc := 419) (v := 1) hx hb dL_law_419 (by decide) ?_
  refine lv_iadd (pc := 420) hx hb dL_law_420 ?_
  refine ls_ld (pc := 421) hC hw h1 dL_law_421 ?_
  refine lv_aload_n (pc := 422) hx hb dL_law_422 rfl (lv_at hl 0 rfl) ?_
  refine lv_iload_n (pc := 423) hx hb dL_law_423 rfl (lv_at hl 3 rfl) ?_
  refine lv_iconst (pc := 424) (v := 2) hx hb dL_law_424 (by decide) ?_
  refine lv_iadd (pc := 425) hx hb dL_law_425 ?_
  refine ls_ld (pc := 426) hC hw h2 dL_law_426 ?_
  refine lm_call (pc := 427) (rest := [.int r]) hC hw hl.1 (mX7_as (l := l) (xs ((x3 + 1) : Int32).toNatClampNeg) (xs ((x3 + 2) : Int32).toNatClampNeg) τ _ hg) vw_L_43 rfl rfl (Nat.le_of_ble_eq_true rfl) (by decide) ⟨by decide, by decide⟩ dL_law_427 (fun H locs hw => ?_)
  refine lv_icmp_eq (pc := 430) (tgt := 1421) hx hb dL_law_430 (by decide) (fun _ => ?_) (fun hc => absurd rfl hc)
  exact hk σ' τ' H locs hR' hw
set_option maxRecDepth 100000 in
set_option maxHeartbeats 4000000 in
theorem law_c7 {p : Program} {l : Launch} {e : Env} {s : State} {m : MethodId} {below : List Frame} {meth : Method} {c : Code} {D : va_G} {cI cB cS cT : ClassId} {ax am ad av : Nat → Nat} {b L : Nat} {xs : Nat → Int32} {RR : rp_St → rp_St → Prop} (hop : ∀ (v1 : Int64) (v3 : Int32) (σ τ : rp_St), RR σ τ → ∃ (r : Int32) (σ' τ' : rp_St), fX6_feed v1 v3 σ = some (r, σ') ∧ fX7_feed v1 v3 τ = some (r, τ') ∧ RR σ' τ') (hC : lC p s m meth c b L xs D cI cB cS cT ax am ad av) (x3 : Int32) (h0 : vp_in x3 L) (h1 : vp_in (x3 + 1) L) (h2 : vp_in (x3 + 2) L) (h3 : vp_in (x3 + 3) L) (h4 : vp_in (x3 + 4) L) (h5 : vp_in (x3 + 5) L) (ls : Array Slot) (hl : lv_has ls 4 [(0, .ref b), (1, .ref (ax 54)), (2, .ref (am 0)), (3, .int x3)]) (hk : ∀ (σ τ : rp_St) (H : Heap) (locs : List Loc), RR σ τ → lS D cI cB cS cT ax am ad s σ τ H locs → W p l e room_1 s m #[Value.ref b] below meth c H locs 77 2186 (lw_Z below #[Value.ref b] s) (F0 m 1421 ls [])) (σ τ : rp_St) (H : Heap) (locs : List Loc) (hR : RR σ τ) (hw : lS D cI cB cS cT ax am ad s σ τ H locs) : W p l e room_1 s m #[Value.ref b] below meth c H locs 77 2186 (lw_Z below #[Value.ref b] s) (F0 m 435 ls []) := by
  have hx := hC.1.1
  have hb := hC.1.2.1
  have hown : s.vm.findClass "RegretPegsLaw" = some m.cls := hC.1.2.2.2.2.1
  have hts0 : ∀ w ∈ rp_W0, w.before #[Value.ref b] s = true := fun w hw => hC.1.2.2.2.2.2.1 w (rp_W0_in w hw)
  refine lv_aload_n (pc := 435) hx hb dL_law_435 rfl (lv_at hl 1 rfl) ?_
  refine lv_aload_n (pc := 436) hx hb dL_law_436 rfl (lv_at hl 0 rfl) ?_
  refine lv_iload_n (pc := 437) hx hb dL_law_437 rfl (lv_at hl 3 rfl) ?_
  refine lv_iconst (pc := 438) (v := 1) hx hb dL_law_438 (by decide) ?_
  refine lv_iadd (pc := 439) hx hb dL_law_439 ?_
  refine ls_ld (pc := 440) hC hw h1 dL_law_440 ?_
  refine lv_i2l (pc := 441) hx hb dL_law_441 rfl ?_
  refine lv_bipush (pc := 442) (v := 32) hx hb dL_law_442 (by decide) ?_
  refine lv_lshl (pc := 444) hx hb dL_law_444 rfl ?_
  refine lv_aload_n (pc := 445) hx hb dL_law_445 rfl (lv_at hl 0 rfl) ?_
  refine lv_iload_n (pc := 446) hx hb dL_law_446 rfl (lv_at hl 3 rfl) ?_
  refine lv_iconst (pc := 447) (v := 2) hx hb dL_law_447 (by decide) ?_
  refine lv_iadd (pc := 448) hx hb dL_law_448 ?_
  refine ls_ld (pc := 449) hC hw h2 dL_law_449 ?_
  refine lv_i2l (pc := 450) hx hb dL_law_450 rfl ?_
  refine lv_ldc2 (pc := 451) (v := 4294967295) hx hb hown (hts0 _ wd_1141) dL_law_451 ?_
  refine lv_land (pc := 454) hx hb dL_law_454 ?_
  refine lv_lor (pc := 455) hx hb dL_law_455 ?_
  refine lv_aload_n (pc := 456) hx hb dL_law_456 rfl (lv_at hl 0 rfl) ?_
  refine lv_iload_n (pc := 457) hx hb dL_law_457 rfl (lv_at hl 3 rfl) ?_
  refine lv_iconst (pc := 458) (v := 3) hx hb dL_law_458 (by decide) ?_
  refine lv_iadd (pc := 459) hx hb dL_law_459 ?_
  refine ls_ld (pc := 460) hC hw h3 dL_law_460 ?_
  obtain ⟨r, σ', τ', hf, hg, hR'⟩ := hop (((((xs ((x3 + 1) : Int32).toNatClampNeg) : Int32).toInt64) <<< ((32 : Int32).toInt64 &&& 63)) ||| ((((xs ((x3 + 2) : Int32).toNatClampNeg) : Int32).toInt64) &&& (4294967295 : Int64))) (xs ((x3 + 3) : Int32).toNatClampNeg) σ τ hR
  refine lx_call (pc := 461) (rest := []) hC hw hl.1 (mX6_feed (l := l) (((((xs ((x3 + 1) : Int32).toNatClampNeg) : Int32).toInt64) <<< ((32 : Int32).toInt64 &&& 63)) ||| ((((xs ((x3 + 2) : Int32).toNatClampNeg) : Int32).toInt64) &&& (4294967295 : Int64))) (xs ((x3 + 3) : Int32).toNatClampNeg) σ _ hf) vw_L_46 rfl rfl (Nat.le_of_ble_eq_true rfl) (by decide) ⟨by decide, by decide⟩ dL_law_461 (fun H locs hw => ?_)
  refine lv_aload_n (pc := 464) hx hb dL_law_464 rfl (lv_at hl 2 rfl) ?_
  refine lv_aload_n (pc := 465) hx hb dL_law_465 rfl (lv_at hl 0 rfl) ?_
  refine lv_iload_n (pc := 466) hx hb dL_law_466 rfl (lv_at hl 3 rfl) ?_
  refine lv_iconst (pc := 467) (v := 1) hx hb dL_law_467 (by decide) ?_
  refine lv_iadd (pc := 468) hx hb dL_law_468 ?_
  refine ls_ld (pc := 469) hC hw h1 dL_law_469 ?_
  refine lv_i2l (pc := 470) hx hb dL_law_470 rfl ?_
  refine lv_bipush (pc := 471) (v := 32) hx hb dL_law_471 (by decide) ?_
  refine lv_lshl (pc := 473) hx hb dL_law_473 rfl ?_
  refine lv_aload_n (pc := 474) hx hb dL_law_474 rfl (lv_at hl 0 rfl) ?_
  refine lv_iload_n (pc := 475) hx hb dL_law_475 rfl (lv_at hl 3 rfl) ?_
  refine lv_iconst (pc := 476) (v := 2) hx hb dL_law_476 (by decide) ?_
  refine lv_iadd (pc := 477) hx hb dL_law_477 ?_
  refine ls_ld (pc := 478) hC hw h2 dL_law_478 ?_
  refine lv_i2l (pc := 479) hx hb dL_law_479 rfl ?_
  refine lv_ldc2 (pc := 480) (v := 4294967295) hx hb hown (hts0 _ wd_1141) dL_law_480 ?_
  refine lv_land (pc := 483) hx hb dL_law_483 ?_
  refine lv_lor (pc := 484) hx hb dL_law_484 ?_
  refine lv_aload_n (pc := 485) hx hb dL_law_485 rfl (lv_at hl 0 rfl) ?_
  refine lv_iload_n (pc := 486) hx hb dL_law_486 rfl (lv_at hl 3 rfl) ?_
  refine lv_iconst (pc := 487) (v := 3) hx hb dL_law_487 (by decide) ?_
  refine lv_iadd (pc := 488) hx hb dL_law_488 ?_
  refine ls_ld (pc := 489) hC hw h3 dL_law_489 ?_
  refine lm_call (pc := 490) (rest := [.int r]) hC hw hl.1 (mX7_feed (l := l) (((((xs ((x3 + 1) : Int32).toNatClampNeg) : Int32).toInt64) <<< ((32 : Int32).toInt64 &&& 63)) ||| ((((xs ((x3 + 2) : Int32).toNatClampNeg) : Int32).toInt64) &&& (4294967295 : Int64))) (xs ((x3 + 3) : Int32).toNatClampNeg) τ _ hg) vw_L_50 rfl rfl (Nat.le_of_ble_eq_true rfl) (by decide) ⟨by decide, by decide⟩ dL_law_490 (fun H locs hw => ?_)
  refine lv_icmp_eq (pc := 493) (tgt := 1421) hx hb dL_law_493 (by decide) (fun _ => ?_) (fun hc => absurd rfl hc)
  exact hk σ' τ' H locs hR' hw
set_option maxRecDepth 100000 in
set_option maxHeartbeats 4000000 in
theorem law_c8 {p : Program} {l : Launch} {e : Env} {s : State} {m : MethodId} {below : List Frame} {meth : Method} {c : Code} {D : va_G} {cI cB cS cT : ClassId} {ax am ad av : Nat → Nat} {b L : Nat} {xs : Nat → Int32} {RR : rp_St → rp_St → Prop} (hop : ∀ (v1 : Int32) (σ τ : rp_St), RR σ τ → ∃ (r : Int32) (σ' τ' : rp_St), fX6_text v1 σ = some (r, σ') ∧ fX7_text v1 τ = some (r, τ') ∧ RR σ' τ') (hC : lC p s m meth c b L xs D cI cB cS cT ax am ad av) (x3 : Int32) (h0 : vp_in x3 L) (h1 : vp_in (x3 + 1) L) (h2 : vp_in (x3 + 2) L) (h3 : vp_in (x3 + 3) L) (h4 : vp_in (x3 + 4) L) (h5 : vp_in (x3 + 5) L) (ls : Array Slot) (hl : lv_has ls 4 [(0, .ref b), (1, .ref (ax 54)), (2, .ref (am 0)), (3, .int x3)]) (hk : ∀ (σ τ : rp_St) (H : Heap) (locs : List Loc), RR σ τ → lS D cI cB cS cT ax am ad s σ τ H locs → W p l e room_1 s m #[Value.ref b] below meth c H locs 77 2186 (lw_Z below #[Value.ref b] s) (F0 m 1421 ls [])) (σ τ : rp_St) (H : Heap) (locs : List Loc) (hR : RR σ τ) (hw : lS D cI cB cS cT ax am ad s σ τ H locs) : W p l e room_1 s m #[Value.ref b] below meth c H locs 77 2186 (lw_Z below #[Value.ref b] s) (F0 m 498 ls []) := by
  have hx := hC.1.1
  have hb := hC.1.2.1
  have hown : s.vm.findClass "RegretPegsLaw" = some m.cls := hC.1.2.2.2.2.1
  have hts0 : ∀ w ∈ rp_W0, w.before #[Value.ref b] s = true := fun w hw => hC.1.2.2.2.2.2.1 w (rp_W0_in w hw)
  refine lv_aload_n (pc := 498) hx hb dL_law_498 rfl (lv_at hl 1 rfl) ?_
  refine lv_aload_n (pc := 499) hx hb dL_law_499 rfl (lv_at hl 0 rfl) ?_
  refine lv_iload_n (pc := 500) hx hb dL_law_500 rfl (lv_at hl 3 rfl) ?_
  refine lv_iconst (pc := 501) (v := 1) hx hb dL_law_501 (by decide) ?_
  refine lv_iadd (pc := 502) hx hb dL_law_502 ?_
  refine ls_ld (pc := 503) hC hw h1 dL_law_503 ?_
  obtain ⟨r, σ', τ', hf, hg, hR'⟩ := hop (xs ((x3 + 1) : Int32).toNatClampNeg) σ τ hR
  refine lx_call (pc := 504) (rest := []) hC hw hl.1 (mX6_text (l := l) (xs ((x3 + 1) : Int32).toNatClampNeg) σ _ hf) vw_L_51 rfl rfl (Nat.le_of_ble_eq_true rfl) (by decide) ⟨by decide, by decide⟩ dL_law_504 (fun H locs hw => ?_)
  refine lv_aload_n (pc := 507) hx hb dL_law_507 rfl (lv_at hl 2 rfl) ?_
  refine lv_aload_n (pc := 508) hx hb dL_law_508 rfl (lv_at hl 0 rfl) ?_
  refine lv_iload_n (pc := 509) hx hb dL_law_509 rfl (lv_at hl 3 rfl) ?_
  refine lv_iconst (pc := 510) (v := 1) hx hb dL_law_510 (by decide) ?_
  refine lv_iadd (pc := 511) hx hb dL_law_511 ?_
  refine ls_ld (pc := 512) hC hw h1 dL_law_512 ?_
  refine lm_call (pc := 513) (rest := [.int r]) hC hw hl.1 (mX7_text (l := l) (xs ((x3 + 1) : Int32).toNatClampNeg) τ _ hg) vw_L_54 rfl rfl (Nat.le_of_ble_eq_true rfl) (by decide) ⟨by decide, by decide⟩ dL_law_513 (fun H locs hw => ?_)
  refine lv_icmp_eq (pc := 516) (tgt := 1421) hx hb dL_law_516 (by decide) (fun _ => ?_) (fun hc => absurd rfl hc)
  exact hk σ' τ' H locs hR' hw
set_option maxRecDepth 100000 in
set_option maxHeartbeats 4000000 in
theorem law_c9 {p : Program} {l : Launch} {e : Env} {s : State} {m : MethodId} {below : List Frame} {meth : Method} {c : Code} {D : va_G} {cI cB cS cT : ClassId} {ax am ad av : Nat → Nat} {b L : Nat} {xs : Nat → Int32} {RR : rp_St → rp_St → Prop} (hop : ∀ (v1 : Int32) (v2 : Int32) (v3 : Int32) (v4 : Int32) (σ τ : rp_St), RR σ τ → ∃ (r : Int32) (σ' τ' : rp_St), fX6_law v1 v2 v3 v4 σ = some (r, σ') ∧ fX7_law v1 v2 v3 v4 τ = some (r, τ') ∧ RR σ' τ') (hC : lC p s m meth c b L xs D cI cB cS cT ax am ad av) (x3 : Int32) (h0 : vp_in x3 L) (h1 : vp_in (x3 + 1) L) (h2 : vp_in (x3 + 2) L) (h3 : vp_in (x3 + 3) L) (h4 : vp_in (x3 + 4) L) (h5 : vp_in (x3 + 5) L) (ls : Array Slot) (hl : lv_has ls 4 [(0, .ref b), (1, .ref (ax 54)), (2, .ref (am 0)), (3, .int x3)]) (hk : ∀ (σ τ : rp_St) (H : Heap) (locs : List Loc), RR σ τ → lS D cI cB cS cT ax am ad s σ τ H locs → W p l e room_1 s m #[Value.ref b] below meth c H locs 77 2186 (lw_Z below #[Value.ref b] s) (F0 m 1421 ls [])) (σ τ : rp_St) (H : Heap) (locs : List Loc) (hR : RR σ τ) (hw : lS D cI cB cS cT ax am ad s σ τ H locs) : W p l e room_1 s m #[Value.ref b] below meth c H locs 77 2186 (lw_Z below #[Value.ref b] s) (F0 m 521 ls []) := by
  have hx := hC.1.1
  have hb := hC.1.2.1
  have hown : s.vm.findClass "RegretPegsLaw" = some m.cls := hC.1.2.2.2.2.1
  have hts0 : ∀ w ∈ rp_W0, w.before #[Value.ref b] s = true := fun w hw => hC.1.2.2.2.2.2.1 w (rp_W0_in w hw)
  refine lv_aload_n (pc := 521) hx hb dL_law_521 rfl (lv_at hl 1 rfl) ?_
  refine lv_aload_n (pc := 522) hx hb dL_law_522 rfl (lv_at hl 0 rfl) ?_
  refine lv_iload_n (pc := 523) hx hb dL_law_523 rfl (lv_at hl 3 rfl) ?_
  refine lv_iconst (pc := 524) (v := 1) hx hb dL_law_524 (by decide) ?_
  refine lv_iadd (pc := 525) hx hb dL_law_525 ?_
  refine ls_ld (pc := 526) hC hw h1 dL_law_526 ?_
  refine lv_aload_n (pc := 527) hx hb dL_law_527 rfl (lv_at hl 0 rfl) ?_
  refine lv_iload_n (pc := 528) hx hb dL_law_528 rfl (lv_at hl 3 rfl) ?_
  refine lv_iconst (pc := 529) (v := 2) hx hb dL_law_529 (by decide) ?_
  refine lv_iadd (pc := 530) hx hb dL_law_530 ?_
  refine ls_ld (pc := 531) hC hw h2 dL_law_531 ?_
  refine lv_aload_n (pc := 532) hx hb dL_law_532 rfl (lv_at hl 0 rfl) ?_
  refine lv_iload_n (pc := 533) hx hb dL_law_533 rfl (lv_at hl 3 rfl) ?_
  refine lv_iconst (pc := 534) (v := 3) hx hb dL_law_534 (by decide) ?_
  refine lv_iadd (pc := 535) hx hb dL_law_535 ?_
  refine ls_ld (pc := 536) hC hw h3 dL_law_536 ?_
  refine lv_aload_n (pc := 537) hx hb dL_law_537 rfl (lv_at hl 0 rfl) ?_
  refine lv_iload_n (pc := 538) hx hb dL_law_538 rfl (lv_at hl 3 rfl) ?_
  refine lv_iconst (pc := 539) (v := 4) hx hb dL_law_539 (by decide) ?_
  refine lv_iadd (pc := 540) hx hb dL_law_540 ?_
  refine ls_ld (pc := 541) hC hw h4 dL_law_541 ?_
  obtain ⟨r, σ', τ', hf, hg, hR'⟩ := hop (xs ((x3 + 1) : Int32).toNatClampNeg) (xs ((x3 + 2) : Int32).toNatClampNeg) (xs ((x3 + 3) : Int32).toNatClampNeg) (xs ((x3 + 4) : Int32).toNatClampNeg) σ τ hR
  refine lx_call (pc := 542) (rest := []) hC hw hl.1 (mX6_law (l := l) (xs ((x3 + 1) : Int32).toNatClampNeg) (xs ((x3 + 2) : Int32).toNatClampNeg) (xs ((x3 + 3) : Int32).toNatClampNeg) (xs ((x3 + 4) : Int32).toNatClampNeg) σ _ hf) vw_L_55 rfl rfl (Nat.le_of_ble_eq_true rfl) (by decide) ⟨by decide, by decide⟩ dL_law_542 (fun H locs hw => ?_)
  refine lv_aload_n (pc := 545) hx hb dL_law_545 rfl (lv_at hl 2 rfl) ?_
  refine lv_aload_n (pc := 546) hx hb dL_law_546 rfl (lv_at hl 0 rfl) ?_
  refine lv_iload_n (pc := 547) hx hb dL_law_547 rfl (lv_at hl 3 rfl) ?_
  refine lv_iconst (pc := 548) (v := 1) hx hb dL_law_548 (by decide) ?_
  refine lv_iadd (pc := 549) hx hb dL_law_549 ?_
  refine ls_ld (pc := 550) hC hw h1 dL_law_550 ?_
  refine lv_aload_n (pc := 551) hx hb dL_law_551 rfl (lv_at hl 0 rfl) ?_
  refine lv_iload_n (pc := 552) hx hb dL_law_552 rfl (lv_at hl 3 rfl) ?_
  refine lv_iconst (pc := 553) (v := 2) hx hb dL_law_553 (by decide) ?_
  refine lv_iadd (pc := 554) hx hb dL_law_554 ?_
  refine ls_ld (pc := 555) hC hw h2 dL_law_555 ?_
  refine lv_aload_n (pc := 556) hx hb dL_law_556 rfl (lv_at hl 0 rfl) ?_
  refine lv_iload_n (pc := 557) hx hb dL_law_557 rfl (lv_at hl 3 rfl) ?_
  refine lv_iconst (pc := 558) (v := 3) hx hb dL_law_558 (by decide) ?_
  refine lv_iadd (pc := 559) hx hb dL_law_559 ?_
  refine ls_ld (pc := 560) hC hw h3 dL_law_560 ?_
  refine lv_aload_n (pc := 561) hx hb dL_law_561 rfl (lv_at hl 0 rfl) ?_
  refine lv_iload_n (pc := 562) hx hb dL_law_562 rfl (lv_at hl 3 rfl) ?_
  refine lv_iconst (pc := 563) (v := 4) hx hb dL_law_563 (by decide) ?_
  refine lv_iadd (pc := 564) hx hb dL_law_564 ?_
  refine ls_ld (pc := 565) hC hw h4 dL_law_565 ?_
  refine lm_call (pc := 566) (rest := [.int r]) hC hw hl.1 (mX7_law (l := l) (xs ((x3 + 1) : Int32).toNatClampNeg) (xs ((x3 + 2) : Int32).toNatClampNeg) (xs ((x3 + 3) : Int32).toNatClampNeg) (xs ((x3 + 4) : Int32).toNatClampNeg) τ _ hg) vw_L_59 rfl rfl (Nat.le_of_ble_eq_true rfl) (by decide) ⟨by decide, by decide⟩ dL_law_566 (fun H locs hw => ?_)
  refine lv_icmp_eq (pc := 569) (tgt := 1421) hx hb dL_law_569 (by decide) (fun _ => ?_) (fun hc => absurd rfl hc)
  exact hk σ' τ' H locs hR' hw
set_option maxRecDepth 100000 in
set_option maxHeartbeats 4000000 in
theorem law_c10 {p : Program} {l : Launch} {e : Env} {s : State} {m : MethodId} {below : List Frame} {meth : Method} {c : Code} {D : va_G} {cI cB cS cT : ClassId} {ax am ad av : Nat → Nat} {b L : Nat} {xs : Nat → Int32} {RR : rp_St → rp_St → Prop} (hop : ∀ (v1 : Int32) (v2 : Int32) (σ τ : rp_St), RR σ τ → ∃ (r : Int32) (σ' τ' : rp_St), fX6_dance v1 v2 σ = some (r, σ') ∧ fX7_dance v1 v2 τ = some (r, τ') ∧ RR σ' τ') (hC : lC p s m meth c b L xs D cI cB cS cT ax am ad av) (x3 : Int32) (h0 : vp_in x3 L) (h1 : vp_in (x3 + 1) L) (h2 : vp_in (x3 + 2) L) (h3 : vp_in (x3 + 3) L) (h4 : vp_in (x3 + 4) L) (h5 : vp_in (x3 + 5) L) (ls : Array Slot) (hl : lv_has ls 4 [(0, .ref b), (1, .ref (ax 54)), (2, .ref (am 0)), (3, .int x3)]) (hk : ∀ (σ τ : rp_St) (H : Heap) (locs : List Loc), RR σ τ → lS D cI cB cS cT ax am ad s σ τ H locs → W p l e room_1 s m #[Value.ref b] below meth c H locs 77 2186 (lw_Z below #[Value.ref b] s) (F0 m 1421 ls [])) (σ τ : rp_St) (H : Heap) (locs : List Loc) (hR : RR σ τ) (hw : lS D cI cB cS cT ax am ad s σ τ H locs) : W p l e room_1 s m #[Value.ref b] below meth c H locs 77 2186 (lw_Z below #[Value.ref b] s) (F0 m 574 ls []) := by
  have hx := hC.1.1
  have hb := hC.1.2.1
  have hown : s.vm.findClass "RegretPegsLaw" = some m.cls := hC.1.2.2.2.2.1
  have hts0 : ∀ w ∈ rp_W0, w.before #[Value.ref b] s = true := fun w hw => hC.1.2.2.2.2.2.1 w (rp_W0_in w hw)
  refine lv_aload_n (pc := 574) hx hb dL_law_574 rfl (lv_at hl 1 rfl) ?_
  refine lv_aload_n (pc := 575) hx hb dL_law_575 rfl (lv_at hl 0 rfl) ?_
  refine lv_iload_n (pc := 576) hx hb dL_law_576 rfl (lv_at hl 3 rfl) ?_
  refine lv_iconst (pc := 577) (v := 1) hx hb dL_law_577 (by decide) ?_
  refine lv_iadd (pc := 578) hx hb dL_law_578 ?_
  refine ls_ld (pc := 579) hC hw h1 dL_law_579 ?_
  refine lv_aload_n (pc := 580) hx hb dL_law_580 rfl (lv_at hl 0 rfl) ?_
  refine lv_iload_n (pc := 581) hx hb dL_law_581 rfl (lv_at hl 3 rfl) ?_
  refine lv_iconst (pc := 582) (v := 2) hx hb dL_law_582 (by decide) ?_
  refine lv_iadd (pc := 583) hx hb dL_law_583 ?_
  refine ls_ld (pc := 584) hC hw h2 dL_law_584 ?_
  obtain ⟨r, σ', τ', hf, hg, hR'⟩ := hop (xs ((x3 + 1) : Int32).toNatClampNeg) (xs ((x3 + 2) : Int32).toNatClampNeg) σ τ hR
  refine lx_call (pc := 585) (rest := []) hC hw hl.1 (mX6_dance (l := l) (xs ((x3 + 1) : Int32).toNatClampNeg) (xs ((x3 + 2) : Int32).toNatClampNeg) σ _ hf) vw_L_60 rfl rfl (Nat.le_of_ble_eq_true rfl) (by decide) ⟨by decide, by decide⟩ dL_law_585 (fun H locs hw => ?_)
  refine lv_aload_n (pc := 588) hx hb dL_law_588 rfl (lv_at hl 2 rfl) ?_
  refine lv_aload_n (pc := 589) hx hb dL_law_589 rfl (lv_at hl 0 rfl) ?_
  refine lv_iload_n (pc := 590) hx hb dL_law_590 rfl (lv_at hl 3 rfl) ?_
  refine lv_iconst (pc := 591) (v := 1) hx hb dL_law_591 (by decide) ?_
  refine lv_iadd (pc := 592) hx hb dL_law_592 ?_
  refine ls_ld (pc := 593) hC hw h1 dL_law_593 ?_
  refine lv_aload_n (pc := 594) hx hb dL_law_594 rfl (lv_at hl 0 rfl) ?_
  refine lv_iload_n (pc := 595) hx hb dL_law_595 rfl (lv_at hl 3 rfl) ?_
  refine lv_iconst (pc := 596) (v := 2) hx hb dL_law_596 (by decide) ?_
  refine lv_iadd (pc := 597) hx hb dL_law_597 ?_
  refine ls_ld (pc := 598) hC hw h2 dL_law_598 ?_
  refine lm_call (pc := 599) (rest := [.int r]) hC hw hl.1 (mX7_dance (l := l) (xs ((x3 + 1) : Int32).toNatClampNeg) (xs ((x3 + 2) : Int32).toNatClampNeg) τ _ hg) vw_L_63 rfl rfl (Nat.le_of_ble_eq_true rfl) (by decide) ⟨by decide, by decide⟩ dL_law_599 (fun H locs hw => ?_)
  refine lv_icmp_eq (pc := 602) (tgt := 1421) hx hb dL_law_602 (by decide) (fun _ => ?_) (fun hc => absurd rfl hc)
  exact hk σ' τ' H locs hR' hw
set_option maxRecDepth 100000 in
set_option maxHeartbeats 4000000 in
theorem law_c11 {p : Program} {l : Launch} {e : Env} {s : State} {m : MethodId} {below : List Frame} {meth : Method} {c : Code} {D : va_G} {cI cB cS cT : ClassId} {ax am ad av : Nat → Nat} {b L : Nat} {xs : Nat → Int32} {RR : rp_St → rp_St → Prop} (hop : ∀ (v1 : Int32) (σ τ : rp_St), RR σ τ → ∃ (r : Int32) (σ' τ' : rp_St), fX6_hours v1 σ = some (r, σ') ∧ fX7_hours v1 τ = some (r, τ') ∧ RR σ' τ') (hC : lC p s m meth c b L xs D cI cB cS cT ax am ad av) (x3 : Int32) (h0 : vp_in x3 L) (h1 : vp_in (x3 + 1) L) (h2 : vp_in (x3 + 2) L) (h3 : vp_in (x3 + 3) L) (h4 : vp_in (x3 + 4) L) (h5 : vp_in (x3 + 5) L) (ls : Array Slot) (hl : lv_has ls 4 [(0, .ref b), (1, .ref (ax 54)), (2, .ref (am 0)), (3, .int x3)]) (hk : ∀ (σ τ : rp_St) (H : Heap) (locs : List Loc), RR σ τ → lS D cI cB cS cT ax am ad s σ τ H locs → W p l e room_1 s m #[Value.ref b] below meth c H locs 77 2186 (lw_Z below #[Value.ref b] s) (F0 m 1421 ls [])) (σ τ : rp_St) (H : Heap) (locs : List Loc) (hR : RR σ τ) (hw : lS D cI cB cS cT ax am ad s σ τ H locs) : W p l e room_1 s m #[Value.ref b] below meth c H locs 77 2186 (lw_Z below #[Value.ref b] s) (F0 m 607 ls []) := by
  have hx := hC.1.1
  have hb := hC.1.2.1
  have hown : s.vm.findClass "RegretPegsLaw" = some m.cls := hC.1.2.2.2.2.1
  have hts0 : ∀ w ∈ rp_W0, w.before #[Value.ref b] s = true := fun w hw => hC.1.2.2.2.2.2.1 w (rp_W0_in w hw)
  refine lv_aload_n (pc := 607) hx hb dL_law_607 rfl (lv_at hl 1 rfl) ?_
  refine lv_aload_n (pc := 608) hx hb dL_law_608 rfl (lv_at hl 0 rfl) ?_
  refine lv_iload_n (pc := 609) hx hb dL_law_609 rfl (lv_at hl 3 rfl) ?_
  refine lv_iconst (pc := 610) (v := 1) hx hb dL_law_610 (by decide) ?_
  refine lv_iadd (pc := 611) hx hb dL_law_611 ?_
  refine ls_ld (pc := 612) hC hw h1 dL_law_612 ?_
  obtain ⟨r, σ', τ', hf, hg, hR'⟩ := hop (xs ((x3 + 1) : Int32).toNatClampNeg) σ τ hR
  refine lx_call (pc := 613) (rest := []) hC hw hl.1 (mX6_hours (l := l) (xs ((x3 + 1) : Int32).toNatClampNeg) σ _ hf) vw_L_64 rfl rfl (Nat.le_of_ble_eq_true rfl) (by decide) ⟨by decide, by decide⟩ dL_law_613 (fun H locs hw => ?_)
  refine lv_aload_n (pc := 616) hx hb dL_law_616 rfl (lv_at hl 2 rfl) ?_
  refine lv_aload_n (pc := 617) hx hb dL_law_617 rfl (lv_at hl 0 rfl) ?_
  refine lv_iload_n (pc := 618) hx hb dL_law_618 rfl (lv_at hl 3 rfl) ?_
  refine lv_iconst (pc := 619) (v := 1) hx hb dL_law_619 (by decide) ?_
  refine lv_iadd (pc := 620) hx hb dL_law_620 ?_
  refine ls_ld (pc := 621) hC hw h1 dL_law_621 ?_
  refine lm_call (pc := 622) (rest := [.int r]) hC hw hl.1 (mX7_hours (l := l) (xs ((x3 + 1) : Int32).toNatClampNeg) τ _ hg) vw_L_67 rfl rfl (Nat.le_of_ble_eq_true rfl) (by decide) ⟨by decide, by decide⟩ dL_law_622 (fun H locs hw => ?_)
  refine lv_icmp_eq (pc := 625) (tgt := 1421) hx hb dL_law_625 (by decide) (fun _ => ?_) (fun hc => absurd rfl hc)
  exact hk σ' τ' H locs hR' hw
set_option maxRecDepth 100000 in
set_option maxHeartbeats 4000000 in
theorem law_c12 {p : Program} {l : Launch} {e : Env} {s : State} {m : MethodId} {below : List Frame} {meth : Method} {c : Code} {D : va_G} {cI cB cS cT : ClassId} {ax am ad av : Nat → Nat} {b L : Nat} {xs : Nat → Int32} {RR : rp_St → rp_St → Prop} (hop : ∀ (v1 : Int32) (σ τ : rp_St), RR σ τ → ∃ (r : Int32) (σ' τ' : rp_St), fX6_loose v1 σ = some (r, σ') ∧ fX7_loose v1 τ = some (r, τ') ∧ RR σ' τ') (hC : lC p s m meth c b L xs D cI cB cS cT ax am ad av) (x3 : Int32) (h0 : vp_in x3 L) (h1 : vp_in (x3 + 1) L) (h2 : vp_in (x3 + 2) L) (h3 : vp_in (x3 + 3) L) (h4 : vp_in (x3 + 4) L) (h5 : vp_in (x3 + 5) L) (ls : Array Slot) (hl : lv_has ls 4 [(0, .ref b), (1, .ref (ax 54)), (2, .ref (am 0)), (3, .int x3)]) (hk : ∀ (σ τ : rp_St) (H : Heap) (locs : List Loc), RR σ τ → lS D cI cB cS cT ax am ad s σ τ H locs → W p l e room_1 s m #[Value.ref b] below meth c H locs 77 2186 (lw_Z below #[Value.ref b] s) (F0 m 1421 ls [])) (σ τ : rp_St) (H : Heap) (locs : List Loc) (hR : RR σ τ) (hw : lS D cI cB cS cT ax am ad s σ τ H locs) : W p l e room_1 s m #[Value.ref b] below meth c H locs 77 2186 (lw_Z below #[Value.ref b] s) (F0 m 630 ls []) := by
  have hx := hC.1.1
  have hb := hC.1.2.1
  have hown : s.vm.findClass "RegretPegsLaw" = some m.cls := hC.1.2.2.2.2.1
  have hts0 : ∀ w ∈ rp_W0, w.before #[Value.ref b] s = true := fun w hw => hC.1.2.2.2.2.2.1 w (rp_W0_in w hw)
  refine lv_aload_n (pc := 630) hx hb dL_law_630 rfl (lv_at hl 1 rfl) ?_
  refine lv_aload_n (pc := 631) hx hb dL_law_631 rfl (lv_at hl 0 rfl) ?_
  refine lv_iload_n (pc := 632) hx hb dL_law_632 rfl (lv_at hl 3 rfl) ?_
  refine lv_iconst (pc := 633) (v := 1) hx hb dL_law_633 (by decide) ?_
  refine lv_iadd (pc := 634) hx hb dL_law_634 ?_
  refine ls_ld (pc := 635) hC hw h1 dL_law_635 ?_
  obtain ⟨r, σ', τ', hf, hg, hR'⟩ := hop (xs ((x3 + 1) : Int32).toNatClampNeg) σ τ hR
  refine lx_call (pc := 636) (rest := []) hC hw hl.1 (mX6_loose (l := l) (xs ((x3 + 1) : Int32).toNatClampNeg) σ _ hf) vw_L_68 rfl rfl (Nat.le_of_ble_eq_true rfl) (by decide) ⟨by decide, by decide⟩ dL_law_636 (fun H locs hw => ?_)
  refine lv_aload_n (pc := 639) hx hb dL_law_639 rfl (lv_at hl 2 rfl) ?_
  refine lv_aload_n (pc := 640) hx hb dL_law_640 rfl (lv_at hl 0 rfl) ?_
  refine lv_iload_n (pc := 641) hx hb dL_law_641 rfl (lv_at hl 3 rfl) ?_
  refine lv_iconst (pc := 642) (v := 1) hx hb dL_law_642 (by decide) ?_
  refine lv_iadd (pc := 643) hx hb dL_law_643 ?_
  refine ls_ld (pc := 644) hC hw h1 dL_law_644 ?_
  refine lm_call (pc := 645) (rest := [.int r]) hC hw hl.1 (mX7_loose (l := l) (xs ((x3 + 1) : Int32).toNatClampNeg) τ _ hg) vw_L_71 rfl rfl (Nat.le_of_ble_eq_true rfl) (by decide) ⟨by decide, by decide⟩ dL_law_645 (fun H locs hw => ?_)
  refine lv_icmp_eq (pc := 648) (tgt := 1421) hx hb dL_law_648 (by decide) (fun _ => ?_) (fun hc => absurd rfl hc)
  exact hk σ' τ' H locs hR' hw
set_option maxRecDepth 100000 in
set_option maxHeartbeats 4000000 in
theorem law_c13 {p : Program} {l : Launch} {e : Env} {s : State} {m : MethodId} {below : List Frame} {meth : Method} {c : Code} {D : va_G} {cI cB cS cT : ClassId} {ax am ad av : Nat → Nat} {b L : Nat} {xs : Nat → Int32} {RR : rp_St → rp_St → Prop} (hop : ∀ (v1 : Int32) (v2 : Int32) (v3 : Int32) (σ τ : rp_St), RR σ τ → ∃ (r : Int32) (σ' τ' : rp_St), fX6_then v1 v2 v3 σ = some (r, σ') ∧ fX7_then v1 v2 v3 τ = some (r, τ') ∧ RR σ' τ') (hC : lC p s m meth c b L xs D cI cB cS cT ax am ad av) (x3 : Int32) (h0 : vp_in x3 L) (h1 : vp_in (x3 + 1) L) (h2 : vp_in (x3 + 2) L) (h3 : vp_in (x3 + 3) L) (h4 : vp_in (x3 + 4) L) (h5 : vp_in (x3 + 5) L) (ls : Array Slot) (hl : lv_has ls 4 [(0, .ref b), (1, .ref (ax 54)), (2, .ref (am 0)), (3, .int x3)]) (hk : ∀ (σ τ : rp_St) (H : Heap) (locs : List Loc), RR σ τ → lS D cI cB cS cT ax am ad s σ τ H locs → W p l e room_1 s m #[Value.ref b] below meth c H locs 77 2186 (lw_Z below #[Value.ref b] s) (F0 m 1421 ls [])) (σ τ : rp_St) (H : Heap) (locs : List Loc) (hR : RR σ τ) (hw : lS D cI cB cS cT ax am ad s σ τ H locs) : W p l e room_1 s m #[Value.ref b] below meth c H locs 77 2186 (lw_Z below #[Value.ref b] s) (F0 m 653 ls []) := by
  have hx := hC.1.1
  have hb := hC.1.2.1
  have hown : s.vm.findClass "RegretPegsLaw" = some m.cls := hC.1.2.2.2.2.1
  have hts0 : ∀ w ∈ rp_W0, w.before #[Value.ref b] s = true := fun w hw => hC.1.2.2.2.2.2.1 w (rp_W0_in w hw)
  refine lv_aload_n (pc := 653) hx hb dL_law_653 rfl (lv_at hl 1 rfl) ?_
  refine lv_aload_n (pc := 654) hx hb dL_law_654 rfl (lv_at hl 0 rfl) ?_
  refine lv_iload_n (pc := 655) hx hb dL_law_655 rfl (lv_at hl 3 rfl) ?_
  refine lv_iconst (pc := 656) (v := 1) hx hb dL_law_656 (by decide) ?_
  refine lv_iadd (pc := 657) hx hb dL_law_657 ?_
  refine ls_ld (pc := 658) hC hw h1 dL_law_658 ?_
  refine lv_aload_n (pc := 659) hx hb dL_law_659 rfl (lv_at hl 0 rfl) ?_
  refine lv_iload_n (pc := 660) hx hb dL_law_660 rfl (lv_at hl 3 rfl) ?_
  refine lv_iconst (pc := 661) (v := 2) hx hb dL_law_661 (by decide) ?_
  refine lv_iadd (pc := 662) hx hb dL_law_662 ?_
  refine ls_ld (pc := 663) hC hw h2 dL_law_663 ?_
  refine lv_aload_n (pc := 664) hx hb dL_law_664 rfl (lv_at hl 0 rfl) ?_
  refine lv_iload_n (pc := 665) hx hb dL_law_665 rfl (lv_at hl 3 rfl) ?_
  refine lv_iconst (pc := 666) (v := 3) hx hb dL_law_666 (by decide) ?_
  refine lv_iadd (pc := 667) hx hb dL_law_667 ?_
  refine ls_ld (pc := 668) hC hw h3 dL_law_668 ?_
  obtain ⟨r, σ', τ', hf, hg, hR'⟩ := hop (xs ((x3 + 1) : Int32).toNatClampNeg) (xs ((x3 + 2) : Int32).toNatClampNeg) (xs ((x3 + 3) : Int32).toNatClampNeg) σ τ hR
  refine lx_call (pc := 669) (rest := []) hC hw hl.1 (mX6_then (l := l) (xs ((x3 + 1) : Int32).toNatClampNeg) (xs ((x3 + 2) : Int32).toNatClampNeg) (xs ((x3 + 3) : Int32).toNatClampNeg) σ _ hf) vw_L_72 rfl rfl (Nat.le_of_ble_eq_true rfl) (by decide) ⟨by decide, by decide⟩ dL_law_669 (fun H locs hw => ?_)
  refine lv_aload_n (pc := 672) hx hb dL_law_672 rfl (lv_at hl 2 rfl) ?_
  refine lv_aload_n (pc := 673) hx hb dL_law_673 rfl (lv_at hl 0 rfl) ?_
  refine lv_iload_n (pc := 674) hx hb dL_law_674 rfl (lv_at hl 3 rfl) ?_
  refine lv_iconst (pc := 675) (v := 1) hx hb dL_law_675 (by decide) ?_
  refine lv_iadd (pc := 676) hx hb dL_law_676 ?_
  refine ls_ld (pc := 677) hC hw h1 dL_law_677 ?_
  refine lv_aload_n (pc := 678) hx hb dL_law_678 rfl (lv_at hl 0 rfl) ?_
  refine lv_iload_n (pc := 679) hx hb dL_law_679 rfl (lv_at hl 3 rfl) ?_
  refine lv_iconst (pc := 680) (v := 2) hx hb dL_law_680 (by decide) ?_
  refine lv_iadd (pc := 681) hx hb dL_law_681 ?_
  refine ls_ld (pc := 682) hC hw h2 dL_law_682 ?_
  refine lv_aload_n (pc := 683) hx hb dL_law_683 rfl (lv_at hl 0 rfl) ?_
  refine lv_iload_n (pc := 684) hx hb dL_law_684 rfl (lv_at hl 3 rfl) ?_
  refine lv_iconst (pc := 685) (v := 3) hx hb dL_law_685 (by decide) ?_
  refine lv_iadd (pc := 686) hx hb dL_law_686 ?_
  refine ls_ld (pc := 687) hC hw h3 dL_law_687 ?_
  refine lm_call (pc := 688) (rest := [.int r]) hC hw hl.1 (mX7_then (l := l) (xs ((x3 + 1) : Int32).toNatClampNeg) (xs ((x3 + 2) : Int32).toNatClampNeg) (xs ((x3 + 3) : Int32).toNatClampNeg) τ _ hg) vw_L_75 rfl rfl (Nat.le_of_ble_eq_true rfl) (by decide) ⟨by decide, by decide⟩ dL_law_688 (fun H locs hw => ?_)
  refine lv_icmp_eq (pc := 691) (tgt := 1421) hx hb dL_law_691 (by decide) (fun _ => ?_) (fun hc => absurd rfl hc)
  exact hk σ' τ' H locs hR' hw
set_option maxRecDepth 100000 in
set_option maxHeartbeats 4000000 in
theorem law_c14 {p : Program} {l : Launch} {e : Env} {s : State} {m : MethodId} {below : List Frame} {meth : Method} {c : Code} {D : va_G} {cI cB cS cT : ClassId} {ax am ad av : Nat → Nat} {b L : Nat} {xs : Nat → Int32} {RR : rp_St → rp_St → Prop} (hop : ∀ (v1 : Int32) (σ τ : rp_St), RR σ τ → ∃ (r : Int32) (σ' τ' : rp_St), fX6_last v1 σ = some (r, σ') ∧ fX7_last v1 τ = some (r, τ') ∧ RR σ' τ') (hC : lC p s m meth c b L xs D cI cB cS cT ax am ad av) (x3 : Int32) (h0 : vp_in x3 L) (h1 : vp_in (x3 + 1) L) (h2 : vp_in (x3 + 2) L) (h3 : vp_in (x3 + 3) L) (h4 : vp_in (x3 + 4) L) (h5 : vp_in (x3 + 5) L) (ls : Array Slot) (hl : lv_has ls 4 [(0, .ref b), (1, .ref (ax 54)), (2, .ref (am 0)), (3, .int x3)]) (hk : ∀ (σ τ : rp_St) (H : Heap) (locs : List Loc), RR σ τ → lS D cI cB cS cT ax am ad s σ τ H locs → W p l e room_1 s m #[Value.ref b] below meth c H locs 77 2186 (lw_Z below #[Value.ref b] s) (F0 m 1421 ls [])) (σ τ : rp_St) (H : Heap) (locs : List Loc) (hR : RR σ τ) (hw : lS D cI cB cS cT ax am ad s σ τ H locs) : W p l e room_1 s m #[Value.ref b] below meth c H locs 77 2186 (lw_Z below #[Value.ref b] s) (F0 m 696 ls []) := by
  have hx := hC.1.1
  have hb := hC.1.2.1
  have hown : s.vm.findClass "RegretPegsLaw" = some m.cls := hC.1.2.2.2.2.1
  have hts0 : ∀ w ∈ rp_W0, w.before #[Value.ref b] s = true := fun w hw => hC.1.2.2.2.2.2.1 w (rp_W0_in w hw)
  refine lv_aload_n (pc := 696) hx hb dL_law_696 rfl (lv_at hl 1 rfl) ?_
  refine lv_aload_n (pc := 697) hx hb dL_law_697 rfl (lv_at hl 0 rfl) ?_
  refine lv_iload_n (pc := 698) hx hb dL_law_698 rfl (lv_at hl 3 rfl) ?_
  refine lv_iconst (pc := 699) (v := 1) hx hb dL_law_699 (by decide) ?_
  refine lv_iadd (pc := 700) hx hb dL_law_700 ?_
  refine ls_ld (pc := 701) hC hw h1 dL_law_701 ?_
  obtain ⟨r, σ', τ', hf, hg, hR'⟩ := hop (xs ((x3 + 1) : Int32).toNatClampNeg) σ τ hR
  refine lx_call (pc := 702) (rest := []) hC hw hl.1 (mX6_last (l := l) (xs ((x3 + 1) : Int32).toNatClampNeg) σ _ hf) vw_L_76 rfl rfl (Nat.le_of_ble_eq_true rfl) (by decide) ⟨by decide, by decide⟩ dL_law_702 (fun H locs hw => ?_)
  refine lv_aload_n (pc := 705) hx hb dL_law_705 rfl (lv_at hl 2 rfl) ?_
  refine lv_aload_n (pc := 706) hx hb dL_law_706 rfl (lv_at hl 0 rfl) ?_
  refine lv_iload_n (pc := 707) hx hb dL_law_707 rfl (lv_at hl 3 rfl) ?_
  refine lv_iconst (pc := 708) (v := 1) hx hb dL_law_708 (by decide) ?_
  refine lv_iadd (pc := 709) hx hb dL_law_709 ?_
  refine ls_ld (pc := 710) hC hw h1 dL_law_710 ?_
  refine lm_call (pc := 711) (rest := [.int r]) hC hw hl.1 (mX7_last (l := l) (xs ((x3 + 1) : Int32).toNatClampNeg) τ _ hg) vw_L_79 rfl rfl (Nat.le_of_ble_eq_true rfl) (by decide) ⟨by decide, by decide⟩ dL_law_711 (fun H locs hw => ?_)
  refine lv_icmp_eq (pc := 714) (tgt := 1421) hx hb dL_law_714 (by decide) (fun _ => ?_) (fun hc => absurd rfl hc)
  exact hk σ' τ' H locs hR' hw
set_option maxRecDepth 100000 in
set_option maxHeartbeats 4000000 in
theorem law_c15 {p : Program} {l : Launch} {e : Env} {s : State} {m : MethodId} {below : List Frame} {meth : Method} {c : Code} {D : va_G} {cI cB cS cT : ClassId} {ax am ad av : Nat → Nat} {b L : Nat} {xs : Nat → Int32} {RR : rp_St → rp_St → Prop} (hop : ∀ (v1 : Int32) (v2 : Int32) (v3 : Int32) (σ τ : rp_St), RR σ τ → ∃ (r : Int32) (σ' τ' : rp_St), fX6_partner v1 v2 v3 σ = some (r, σ') ∧ fX7_partner v1 v2 v3 τ = some (r, τ') ∧ RR σ' τ') (hC : lC p s m meth c b L xs D cI cB cS cT ax am ad av) (x3 : Int32) (h0 : vp_in x3 L) (h1 : vp_in (x3 + 1) L) (h2 : vp_in (x3 + 2) L) (h3 : vp_in (x3 + 3) L) (h4 : vp_in (x3 + 4) L) (h5 : vp_in (x3 + 5) L) (ls : Array Slot) (hl : lv_has ls 4 [(0, .ref b), (1, .ref (ax 54)), (2, .ref (am 0)), (3, .int x3)]) (hk : ∀ (σ τ : rp_St) (H : Heap) (locs : List Loc), RR σ τ → lS D cI cB cS cT ax am ad s σ τ H locs → W p l e room_1 s m #[Value.ref b] below meth c H locs 77 2186 (lw_Z below #[Value.ref b] s) (F0 m 1421 ls [])) (σ τ : rp_St) (H : Heap) (locs : List Loc) (hR : RR σ τ) (hw : lS D cI cB cS cT ax am ad s σ τ H locs) : W p l e room_1 s m #[Value.ref b] below meth c H locs 77 2186 (lw_Z below #[Value.ref b] s) (F0 m 719 ls []) := by
  have hx := hC.1.1
  have hb := hC.1.2.1
  have hown : s.vm.findClass "RegretPegsLaw" = some m.cls := hC.1.2.2.2.2.1
  have hts0 : ∀ w ∈ rp_W0, w.before #[Value.ref b] s = true := fun w hw => hC.1.2.2.2.2.2.1 w (rp_W0_in w hw)
  refine lv_aload_n (pc := 719) hx hb dL_law_719 rfl (lv_at hl 1 rfl) ?_
  refine lv_aload_n (pc := 720) hx hb dL_law_720 rfl (lv_at hl 0 rfl) ?_
  refine lv_iload_n (pc := 721) hx hb dL_law_721 rfl (lv_at hl 3 rfl) ?_
  refine lv_iconst (pc := 722) (v := 1) hx hb dL_law_722 (by decide) ?_
  refine lv_iadd (pc := 723) hx hb dL_law_723 ?_
  refine ls_ld (pc := 724) hC hw h1 dL_law_724 ?_
  refine lv_aload_n (pc := 725) hx hb dL_law_725 rfl (lv_at hl 0 rfl) ?_
  refine lv_iload_n (pc := 726) hx hb dL_law_726 rfl (lv_at hl 3 rfl) ?_
  refine lv_iconst (pc := 727) (v := 2) hx hb dL_law_727 (by decide) ?_
  refine lv_iadd (pc := 728) hx hb dL_law_728 ?_
  refine ls_ld (pc := 729) hC hw h2 dL_law_729 ?_
  refine lv_aload_n (pc := 730) hx hb dL_law_730 rfl (lv_at hl 0 rfl) ?_
  refine lv_iload_n (pc := 731) hx hb dL_law_731 rfl (lv_at hl 3 rfl) ?_
  refine lv_iconst (pc := 732) (v := 3) hx hb dL_law_732 (by decide) ?_
  refine lv_iadd (pc := 733) hx hb dL_law_733 ?_
  refine ls_ld (pc := 734) hC hw h3 dL_law_734 ?_
  obtain ⟨r, σ', τ', hf, hg, hR'⟩ := hop (xs ((x3 + 1) : Int32).toNatClampNeg) (xs ((x3 + 2) : Int32).toNatClampNeg) (xs ((x3 + 3) : Int32).toNatClampNeg) σ τ hR
  refine lx_call (pc := 735) (rest := []) hC hw hl.1 (mX6_partner (l := l) (xs ((x3 + 1) : Int32).toNatClampNeg) (xs ((x3 + 2) : Int32).toNatClampNeg) (xs ((x3 + 3) : Int32).toNatClampNeg) σ _ hf) vw_L_80 rfl rfl (Nat.le_of_ble_eq_true rfl) (by decide) ⟨by decide, by decide⟩ dL_law_735 (fun H locs hw => ?_)
  refine lv_aload_n (pc := 738) hx hb dL_law_738 rfl (lv_at hl 2 rfl) ?_
  refine lv_aload_n (pc := 739) hx hb dL_law_739 rfl (lv_at hl 0 rfl) ?_
  refine lv_iload_n (pc := 740) hx hb dL_law_740 rfl (lv_at hl 3 rfl) ?_
  refine lv_iconst (pc := 741) (v := 1) hx hb dL_law_741 (by decide) ?_
  refine lv_iadd (pc := 742) hx hb dL_law_742 ?_
  refine ls_ld (pc := 743) hC hw h1 dL_law_743 ?_
  refine lv_aload_n (pc := 744) hx hb dL_law_744 rfl (lv_at hl 0 rfl) ?_
  refine lv_iload_n (pc := 745) hx hb dL_law_745 rfl (lv_at hl 3 rfl) ?_
  refine lv_iconst (pc := 746) (v := 2) hx hb dL_law_746 (by decide) ?_
  refine lv_iadd (pc := 747) hx hb dL_law_747 ?_
  refine ls_ld (pc := 748) hC hw h2 dL_law_748 ?_
  refine lv_aload_n (pc := 749) hx hb dL_law_749 rfl (lv_at hl 0 rfl) ?_
  refine lv_iload_n (pc := 750) hx hb dL_law_750 rfl (lv_at hl 3 rfl) ?_
  refine lv_iconst (pc := 751) (v := 3) hx hb dL_law_751 (by decide) ?_
  refine lv_iadd (pc := 752) hx hb dL_law_752 ?_
  refine ls_ld (pc := 753) hC hw h3 dL_law_753 ?_
  refine lm_call (pc := 754) (rest := [.int r]) hC hw hl.1 (mX7_partner (l := l) (xs ((x3 + 1) : Int32).toNatClampNeg) (xs ((x3 + 2) : Int32).toNatClampNeg) (xs ((x3 + 3) : Int32).toNatClampNeg) τ _ hg) vw_L_83 rfl rfl (Nat.le_of_ble_eq_true rfl) (by decide) ⟨by decide, by decide⟩ dL_law_754 (fun H locs hw => ?_)
  refine lv_icmp_eq (pc := 757) (tgt := 1421) hx hb dL_law_757 (by decide) (fun _ => ?_) (fun hc => absurd rfl hc)
  exact hk σ' τ' H locs hR' hw
set_option maxRecDepth 100000 in
set_option maxHeartbeats 4000000 in
theorem law_c16 {p : Program} {l : Launch} {e : Env} {s : State} {m : MethodId} {below : List Frame} {meth : Method} {c : Code} {D : va_G} {cI cB cS cT : ClassId} {ax am ad av : Nat → Nat} {b L : Nat} {xs : Nat → Int32} {RR : rp_St → rp_St → Prop} (hop : ∀ (v1 : Int32) (v2 : Int32) (v3 : Int32) (v4 : Int32) (σ τ : rp_St), RR σ τ → ∃ (r : Int32) (σ' τ' : rp_St), fX6_dances v1 v2 v3 v4 σ = some (r, σ') ∧ fX7_dances v1 v2 v3 v4 τ = some (r, τ') ∧ RR σ' τ') (hC : lC p s m meth c b L xs D cI cB cS cT ax am ad av) (x3 : Int32) (h0 : vp_in x3 L) (h1 : vp_in (x3 + 1) L) (h2 : vp_in (x3 + 2) L) (h3 : vp_in (x3 + 3) L) (h4 : vp_in (x3 + 4) L) (h5 : vp_in (x3 + 5) L) (ls : Array Slot) (hl : lv_has ls 4 [(0, .ref b), (1, .ref (ax 54)), (2, .ref (am 0)), (3, .int x3)]) (hk : ∀ (σ τ : rp_St) (H : Heap) (locs : List Loc), RR σ τ → lS D cI cB cS cT ax am ad s σ τ H locs → W p l e room_1 s m #[Value.ref b] below meth c H locs 77 2186 (lw_Z below #[Value.ref b] s) (F0 m 1421 ls [])) (σ τ : rp_St) (H : Heap) (locs : List Loc) (hR : RR σ τ) (hw : lS D cI cB cS cT ax am ad s σ τ H locs) : W p l e room_1 s m #[Value.ref b] below meth c H locs 77 2186 (lw_Z below #[Value.ref b] s) (F0 m 762 ls []) := by
  have hx := hC.1.1
  have hb := hC.1.2.1
  have hown : s.vm.findClass "RegretPegsLaw" = some m.cls := hC.1.2.2.2.2.1
  have hts0 : ∀ w ∈ rp_W0, w.before #[Value.ref b] s = true := fun w hw => hC.1.2.2.2.2.2.1 w (rp_W0_in w hw)
  refine lv_aload_n (pc := 762) hx hb dL_law_762 rfl (lv_at hl 1 rfl) ?_
  refine lv_aload_n (pc := 763) hx hb dL_law_763 rfl (lv_at hl 0 rfl) ?_
  refine lv_iload_n (pc := 764) hx hb dL_law_764 rfl (lv_at hl 3 rfl) ?_
  refine lv_iconst (pc := 765) (v := 1) hx hb dL_law_765 (by decide) ?_
  refine lv_iadd (pc := 766) hx hb dL_law_766 ?_
  refine ls_ld (pc := 767) hC hw h1 dL_law_767 ?_
  refine lv_aload_n (pc := 768) hx hb dL_law_768 rfl (lv_at hl 0 rfl) ?_
  refine lv_iload_n (pc := 769) hx hb dL_law_769 rfl (lv_at hl 3 rfl) ?_
  refine lv_iconst (pc := 770) (v := 2) hx hb dL_law_770 (by decide) ?_
  refine lv_iadd (pc := 771) hx hb dL_law_771 ?_
  refine ls_ld (pc := 772) hC hw h2 dL_law_772 ?_
  refine lv_aload_n (pc := 773) hx hb dL_law_773 rfl (lv_at hl 0 rfl) ?_
  refine lv_iload_n (pc := 774) hx hb dL_law_774 rfl (lv_at hl 3 rfl) ?_
  refine lv_iconst (pc := 775) (v := 3) hx hb dL_law_775 (by decide) ?_
  refine lv_iadd (pc := 776) hx hb dL_law_776 ?_
  refine ls_ld (pc := 777) hC hw h3 dL_law_777 ?_
  refine lv_aload_n (pc := 778) hx hb dL_law_778 rfl (lv_at hl 0 rfl) ?_
  refine lv_iload_n (pc := 779) hx hb dL_law_779 rfl (lv_at hl 3 rfl) ?_
  refine lv_iconst (pc := 780) (v := 4) hx hb dL_law_780 (by decide) ?_
  refine lv_iadd (pc := 781) hx hb dL_law_781 ?_
  refine ls_ld (pc := 782) hC hw h4 dL_law_782 ?_
  obtain ⟨r, σ', τ', hf, hg, hR'⟩ := hop (xs ((x3 + 1) : Int32).toNatClampNeg) (xs ((x3 + 2) : Int32).toNatClampNeg) (xs ((x3 + 3) : Int32).toNatClampNeg) (xs ((x3 + 4) : Int32).toNatClampNeg) σ τ hR
  refine lx_call (pc := 783) (rest := []) hC hw hl.1 (mX6_dances (l := l) (xs ((x3 + 1) : Int32).toNatClampNeg) (xs ((x3 + 2) : Int32).toNatClampNeg) (xs ((x3 + 3) : Int32).toNatClampNeg) (xs ((x3 + 4) : Int32).toNatClampNeg) σ _ hf) vw_L_84 rfl rfl (Nat.le_of_ble_eq_true rfl) (by decide) ⟨by decide, by decide⟩ dL_law_783 (fun H locs hw => ?_)
  refine lv_aload_n (pc := 786) hx hb dL_law_786 rfl (lv_at hl 2 rfl) ?_
  refine lv_aload_n (pc := 787) hx hb dL_law_787 rfl (lv_at hl 0 rfl) ?_
  refine lv_iload_n (pc := 788) hx hb dL_law_788 rfl (lv_at hl 3 rfl) ?_
  refine lv_iconst (pc := 789) (v := 1) hx hb dL_law_789 (by decide) ?_
  refine lv_iadd (pc := 790) hx hb dL_law_790 ?_
  refine ls_ld (pc := 791) hC hw h1 dL_law_791 ?_
  refine lv_aload_n (pc := 792) hx hb dL_law_792 rfl (lv_at hl 0 rfl) ?_
  refine lv_iload_n (pc := 793) hx hb dL_law_793 rfl (lv_at hl 3 rfl) ?_
  refine lv_iconst (pc := 794) (v := 2) hx hb dL_law_794 (by decide) ?_
  refine lv_iadd (pc := 795) hx hb dL_law_795 ?_
  refine ls_ld (pc := 796) hC hw h2 dL_law_796 ?_
  refine lv_aload_n (pc := 797) hx hb dL_law_797 rfl (lv_at hl 0 rfl) ?_
  refine lv_iload_n (pc := 798) hx hb dL_law_798 rfl (lv_at hl 3 rfl) ?_
  refine lv_iconst (pc := 799) (v := 3) hx hb dL_law_799 (by decide) ?_
  refine lv_iadd (pc := 800) hx hb dL_law_800 ?_
  refine ls_ld (pc := 801) hC hw h3 dL_law_801 ?_
  refine lv_aload_n (pc := 802) hx hb dL_law_802 rfl (lv_at hl 0 rfl) ?_
  refine lv_iload_n (pc := 803) hx hb dL_law_803 rfl (lv_at hl 3 rfl) ?_
  refine lv_iconst (pc := 804) (v := 4) hx hb dL_law_804 (by decide) ?_
  refine lv_iadd (pc := 805) hx hb dL_law_805 ?_
  refine ls_ld (pc := 806) hC hw h4 dL_law_806 ?_
  refine lm_call (pc := 807) (rest := [.int r]) hC hw hl.1 (mX7_dances (l := l) (xs ((x3 + 1) : Int32).toNatClampNeg) (xs ((x3 + 2) : Int32).toNatClampNeg) (xs ((x3 + 3) : Int32).toNatClampNeg) (xs ((x3 + 4) : Int32).toNatClampNeg) τ _ hg) vw_L_87 rfl rfl (Nat.le_of_ble_eq_true rfl) (by decide) ⟨by decide, by decide⟩ dL_law_807 (fun H locs hw => ?_)
  refine lv_icmp_eq (pc := 810) (tgt := 1421) hx hb dL_law_810 (by decide) (fun _ => ?_) (fun hc => absurd rfl hc)
  exact hk σ' τ' H locs hR' hw
set_option maxRecDepth 100000 in
set_option maxHeartbeats 4000000 in
theorem law_c17 {p : Program} {l : Launch} {e : Env} {s : State} {m : MethodId} {below : List Frame} {meth : Method} {c : Code} {D : va_G} {cI cB cS cT : ClassId} {ax am ad av : Nat → Nat} {b L : Nat} {xs : Nat → Int32} {RR : rp_St → rp_St → Prop} (hop : ∀ (v1 : Int32) (v2 : Int32) (σ τ : rp_St), RR σ τ → ∃ (r : Int32) (σ' τ' : rp_St), fX6_whoDanced v1 v2 σ = some (r, σ') ∧ fX7_whoDanced v1 v2 τ = some (r, τ') ∧ RR σ' τ') (hC : lC p s m meth c b L xs D cI cB cS cT ax am ad av) (x3 : Int32) (h0 : vp_in x3 L) (h1 : vp_in (x3 + 1) L) (h2 : vp_in (x3 + 2) L) (h3 : vp_in (x3 + 3) L) (h4 : vp_in (x3 + 4) L) (h5 : vp_in (x3 + 5) L) (ls : Array Slot) (hl : lv_has ls 4 [(0, .ref b), (1, .ref (ax 54)), (2, .ref (am 0)), (3, .int x3)]) (hk : ∀ (σ τ : rp_St) (H : Heap) (locs : List Loc), RR σ τ → lS D cI cB cS cT ax am ad s σ τ H locs → W p l e room_1 s m #[Value.ref b] below meth c H locs 77 2186 (lw_Z below #[Value.ref b] s) (F0 m 1421 ls [])) (σ τ : rp_St) (H : Heap) (locs : List Loc) (hR : RR σ τ) (hw : lS D cI cB cS cT ax am ad s σ τ H locs) : W p l e room_1 s m #[Value.ref b] below meth c H locs 77 2186 (lw_Z below #[Value.ref b] s) (F0 m 815 ls []) := by
  have hx := hC.1.1
  have hb := hC.1.2.1
  have hown : s.vm.findClass "RegretPegsLaw" = some m.cls := hC.1.2.2.2.2.1
  have hts0 : ∀ w ∈ rp_W0, w.before #[Value.ref b] s = true := fun w hw => hC.1.2.2.2.2.2.1 w (rp_W0_in w hw)
  refine lv_aload_n (pc := 815) hx hb dL_law_815 rfl (lv_at hl 1 rfl) ?_
  refine lv_aload_n (pc := 816) hx hb dL_law_816 rfl (lv_at hl 0 rfl) ?_
  refine lv_iload_n (pc := 817) hx hb dL_law_817 rfl (lv_at hl 3 rfl) ?_
  refine lv_iconst (pc := 818) (v := 1) hx hb dL_law_818 (by decide) ?_
  refine lv_iadd (pc := 819) hx hb dL_law_819 ?_
  refine ls_ld (pc := 820) hC hw h1 dL_law_820 ?_
  refine lv_aload_n (pc := 821) hx hb dL_law_821 rfl (lv_at hl 0 rfl) ?_
  refine lv_iload_n (pc := 822) hx hb dL_law_822 rfl (lv_at hl 3 rfl) ?_
  refine lv_iconst (pc := 823) (v := 2) hx hb dL_law_823 (by decide) ?_
  refine lv_iadd (pc := 824) hx hb dL_law_824 ?_
  refine ls_ld (pc := 825) hC hw h2 dL_law_825 ?_
  obtain ⟨r, σ', τ', hf, hg, hR'⟩ := hop (xs ((x3 + 1) : Int32).toNatClampNeg) (xs ((x3 + 2) : Int32).toNatClampNeg) σ τ hR
  refine lx_call (pc := 826) (rest := []) hC hw hl.1 (mX6_whoDanced (l := l) (xs ((x3 + 1) : Int32).toNatClampNeg) (xs ((x3 + 2) : Int32).toNatClampNeg) σ _ hf) vw_L_88 rfl rfl (Nat.le_of_ble_eq_true rfl) (by decide) ⟨by decide, by decide⟩ dL_law_826 (fun H locs hw => ?_)
  refine lv_aload_n (pc := 829) hx hb dL_law_829 rfl (lv_at hl 2 rfl) ?_
  refine lv_aload_n (pc := 830) hx hb dL_law_830 rfl (lv_at hl 0 rfl) ?_
  refine lv_iload_n (pc := 831) hx hb dL_law_831 rfl (lv_at hl 3 rfl) ?_
  refine lv_iconst (pc := 832) (v := 1) hx hb dL_law_832 (by decide) ?_
  refine lv_iadd (pc := 833) hx hb dL_law_833 ?_
  refine ls_ld (pc := 834) hC hw h1 dL_law_834 ?_
  refine lv_aload_n (pc := 835) hx hb dL_law_835 rfl (lv_at hl 0 rfl) ?_
  refine lv_iload_n (pc := 836) hx hb dL_law_836 rfl (lv_at hl 3 rfl) ?_
  refine lv_iconst (pc := 837) (v := 2) hx hb dL_law_837 (by decide) ?_
  refine lv_iadd (pc := 838) hx hb dL_law_838 ?_
  refine ls_ld (pc := 839) hC hw h2 dL_law_839 ?_
  refine lm_call (pc := 840) (rest := [.int r]) hC hw hl.1 (mX7_whoDanced (l := l) (xs ((x3 + 1) : Int32).toNatClampNeg) (xs ((x3 + 2) : Int32).toNatClampNeg) τ _ hg) vw_L_91 rfl rfl (Nat.le_of_ble_eq_true rfl) (by decide) ⟨by decide, by decide⟩ dL_law_840 (fun H locs hw => ?_)
  refine lv_icmp_eq (pc := 843) (tgt := 1421) hx hb dL_law_843 (by decide) (fun _ => ?_) (fun hc => absurd rfl hc)
  exact hk σ' τ' H locs hR' hw
set_option maxRecDepth 100000 in
set_option maxHeartbeats 4000000 in
theorem law_c18 {p : Program} {l : Launch} {e : Env} {s : State} {m : MethodId} {below : List Frame} {meth : Method} {c : Code} {D : va_G} {cI cB cS cT : ClassId} {ax am ad av : Nat → Nat} {b L : Nat} {xs : Nat → Int32} {RR : rp_St → rp_St → Prop} (hop : ∀ (σ τ : rp_St), RR σ τ → ∃ (r : Int32) (σ' τ' : rp_St), fX6_inOrder σ = some (r, σ') ∧ fX7_inOrder τ = some (r, τ') ∧ RR σ' τ') (hC : lC p s m meth c b L xs D cI cB cS cT ax am ad av) (x3 : Int32) (h0 : vp_in x3 L) (h1 : vp_in (x3 + 1) L) (h2 : vp_in (x3 + 2) L) (h3 : vp_in (x3 + 3) L) (h4 : vp_in (x3 + 4) L) (h5 : vp_in (x3 + 5) L) (ls : Array Slot) (hl : lv_has ls 4 [(0, .ref b), (1, .ref (ax 54)), (2, .ref (am 0)), (3, .int x3)]) (hk : ∀ (σ τ : rp_St) (H : Heap) (locs : List Loc), RR σ τ → lS D cI cB cS cT ax am ad s σ τ H locs → W p l e room_1 s m #[Value.ref b] below meth c H locs 77 2186 (lw_Z below #[Value.ref b] s) (F0 m 1421 ls [])) (σ τ : rp_St) (H : Heap) (locs : List Loc) (hR : RR σ τ) (hw : lS D cI cB cS cT ax am ad s σ τ H locs) : W p l e room_1 s m #[Value.ref b] below meth c H locs 77 2186 (lw_Z below #[Value.ref b] s) (F0 m 848 ls []) := by
  have hx := hC.1.1
  have hb := hC.1.2.1
  have hown : s.vm.findClass "RegretPegsLaw" = some m.cls := hC.1.2.2.2.2.1
  have hts0 : ∀ w ∈ rp_W0, w.before #[Value.ref b] s = true := fun w hw => hC.1.2.2.2.2.2.1 w (rp_W0_in w hw)
  refine lv_aload_n (pc := 848) hx hb dL_law_848 rfl (lv_at hl 1 rfl) ?_
  obtain ⟨r, σ', τ', hf, hg, hR'⟩ := hop σ τ hR
  refine lx_call (pc := 849) (rest := []) hC hw hl.1 (mX6_inOrder (l := l) σ _ hf) vw_L_92 rfl rfl (Nat.le_of_ble_eq_true rfl) (by decide) ⟨by decide, by decide⟩ dL_law_849 (fun H locs hw => ?_)
  refine lv_aload_n (pc := 852) hx hb dL_law_852 rfl (lv_at hl 2 rfl) ?_
  refine lm_call (pc := 853) (rest := [.int r]) hC hw hl.1 (mX7_inOrder (l := l) τ _ hg) vw_L_96 rfl rfl (Nat.le_of_ble_eq_true rfl) (by decide) ⟨by decide, by decide⟩ dL_law_853 (fun H locs hw => ?_)
  refine lv_icmp_eq (pc := 856) (tgt := 1421) hx hb dL_law_856 (by decide) (fun _ => ?_) (fun hc => absurd rfl hc)
  exact hk σ' τ' H locs hR' hw
set_option maxRecDepth 100000 in
set_option maxHeartbeats 4000000 in
theorem law_c19 {p : Program} {l : Launch} {e : Env} {s : State} {m : MethodId} {below : List Frame} {meth : Method} {c : Code} {D : va_G} {cI cB cS cT : ClassId} {ax am ad av : Nat → Nat} {b L : Nat} {xs : Nat → Int32} {RR : rp_St → rp_St → Prop} (hop : ∀ (σ τ : rp_St), RR σ τ → ∃ (r : Int32) (σ' τ' : rp_St), fX6_wrongs σ = some (r, σ') ∧ fX7_wrongs τ = some (r, τ') ∧ RR σ' τ') (hC : lC p s m meth c b L xs D cI cB cS cT ax am ad av) (x3 : Int32) (h0 : vp_in x3 L) (h1 : vp_in (x3 + 1) L) (h2 : vp_in (x3 + 2) L) (h3 : vp_in (x3 + 3) L) (h4 : vp_in (x3 + 4) L) (h5 : vp_in (x3 + 5) L) (ls : Array Slot) (hl : lv_has ls 4 [(0, .ref b), (1, .ref (ax 54)), (2, .ref (am 0)), (3, .int x3)]) (hk : ∀ (σ τ : rp_St) (H : Heap) (locs : List Loc), RR σ τ → lS D cI cB cS cT ax am ad s σ τ H locs → W p l e room_1 s m #[Value.ref b] below meth c H locs 77 2186 (lw_Z below #[Value.ref b] s) (F0 m 1421 ls [])) (σ τ : rp_St) (H : Heap) (locs : List Loc) (hR : RR σ τ) (hw : lS D cI cB cS cT ax am ad s σ τ H locs) : W p l e room_1 s m #[Value.ref b] below meth c H locs 77 2186 (lw_Z below #[Value.ref b] s) (F0 m 861 ls []) := by
  have hx := hC.1.1
  have hb := hC.1.2.1
  have hown : s.vm.findClass "RegretPegsLaw" = some m.cls := hC.1.2.2.2.2.1
  have hts0 : ∀ w ∈ rp_W0, w.before #[Value.ref b] s = true := fun w hw => hC.1.2.2.2.2.2.1 w (rp_W0_in w hw)
  refine lv_aload_n (pc := 861) hx hb dL_law_861 rfl (lv_at hl 1 rfl) ?_
  obtain ⟨r, σ', τ', hf, hg, hR'⟩ := hop σ τ hR
  refine lx_call (pc := 862) (rest := []) hC hw hl.1 (mX6_wrongs (l := l) σ _ hf) vw_L_97 rfl rfl (Nat.le_of_ble_eq_true rfl) (by decide) ⟨by decide, by decide⟩ dL_law_862 (fun H locs hw => ?_)
  refine lv_aload_n (pc := 865) hx hb dL_law_865 rfl (lv_at hl 2 rfl) ?_
  refine lm_call (pc := 866) (rest := [.int r]) hC hw hl.1 (mX7_wrongs (l := l) τ _ hg) vw_L_100 rfl rfl (Nat.le_of_ble_eq_true rfl) (by decide) ⟨by decide, by decide⟩ dL_law_866 (fun H locs hw => ?_)
  refine lv_icmp_eq (pc := 869) (tgt := 1421) hx hb dL_law_869 (by decide) (fun _ => ?_) (fun hc => absurd rfl hc)
  exact hk σ' τ' H locs hR' hw
set_option maxRecDepth 100000 in
set_option maxHeartbeats 4000000 in
theorem law_c20 {p : Program} {l : Launch} {e : Env} {s : State} {m : MethodId} {below : List Frame} {meth : Method} {c : Code} {D : va_G} {cI cB cS cT : ClassId} {ax am ad av : Nat → Nat} {b L : Nat} {xs : Nat → Int32} {RR : rp_St → rp_St → Prop} (hop : ∀ (σ τ : rp_St), RR σ τ → ∃ (r : Int32) (σ' τ' : rp_St), fX6_swap σ = some (r, σ') ∧ fX7_swap τ = some (r, τ') ∧ RR σ' τ') (hC : lC p s m meth c b L xs D cI cB cS cT ax am ad av) (x3 : Int32) (h0 : vp_in x3 L) (h1 : vp_in (x3 + 1) L) (h2 : vp_in (x3 + 2) L) (h3 : vp_in (x3 + 3) L) (h4 : vp_in (x3 + 4) L) (h5 : vp_in (x3 + 5) L) (ls : Array Slot) (hl : lv_has ls 4 [(0, .ref b), (1, .ref (ax 54)), (2, .ref (am 0)), (3, .int x3)]) (hk : ∀ (σ τ : rp_St) (H : Heap) (locs : List Loc), RR σ τ → lS D cI cB cS cT ax am ad s σ τ H locs → W p l e room_1 s m #[Value.ref b] below meth c H locs 77 2186 (lw_Z below #[Value.ref b] s) (F0 m 1421 ls [])) (σ τ : rp_St) (H : Heap) (locs : List Loc) (hR : RR σ τ) (hw : lS D cI cB cS cT ax am ad s σ τ H locs) : W p l e room_1 s m #[Value.ref b] below meth c H locs 77 2186 (lw_Z below #[Value.ref b] s) (F0 m 874 ls []) := by
  have hx := hC.1.1
  have hb := hC.1.2.1
  have hown : s.vm.findClass "RegretPegsLaw" = some m.cls := hC.1.2.2.2.2.1
  have hts0 : ∀ w ∈ rp_W0, w.before #[Value.ref b] s = true := fun w hw => hC.1.2.2.2.2.2.1 w (rp_W0_in w hw)
  refine lv_aload_n (pc := 874) hx hb dL_law_874 rfl (lv_at hl 1 rfl) ?_
  obtain ⟨r, σ', τ', hf, hg, hR'⟩ := hop σ τ hR
  refine lx_call (pc := 875) (rest := []) hC hw hl.1 (mX6_swap (l := l) σ _ hf) vw_L_101 rfl rfl (Nat.le_of_ble_eq_true rfl) (by decide) ⟨by decide, by decide⟩ dL_law_875 (fun H locs hw => ?_)
  refine lv_aload_n (pc := 878) hx hb dL_law_878 rfl (lv_at hl 2 rfl) ?_
  refine lm_call (pc := 879) (rest := [.int r]) hC hw hl.1 (mX7_swap (l := l) τ _ hg) vw_L_104 rfl rfl (Nat.le_of_ble_eq_true rfl) (by decide) ⟨by decide, by decide⟩ dL_law_879 (fun H locs hw => ?_)
  refine lv_icmp_eq (pc := 882) (tgt := 1421) hx hb dL_law_882 (by decide) (fun _ => ?_) (fun hc => absurd rfl hc)
  exact hk σ' τ' H locs hR' hw
set_option maxRecDepth 100000 in
set_option maxHeartbeats 4000000 in
theorem law_c21 {p : Program} {l : Launch} {e : Env} {s : State} {m : MethodId} {below : List Frame} {meth : Method} {c : Code} {D : va_G} {cI cB cS cT : ClassId} {ax am ad av : Nat → Nat} {b L : Nat} {xs : Nat → Int32} {RR : rp_St → rp_St → Prop} (hop : ∀ (v1 : Int32) (v2 : Int32) (σ τ : rp_St), RR σ τ → ∃ (r : Int32) (σ' τ' : rp_St), fX6_go v1 v2 σ = some (r, σ') ∧ fX7_go v1 v2 τ = some (r, τ') ∧ RR σ' τ') (hC : lC p s m meth c b L xs D cI cB cS cT ax am ad av) (x3 : Int32) (h0 : vp_in x3 L) (h1 : vp_in (x3 + 1) L) (h2 : vp_in (x3 + 2) L) (h3 : vp_in (x3 + 3) L) (h4 : vp_in (x3 + 4) L) (h5 : vp_in (x3 + 5) L) (ls : Array Slot) (hl : lv_has ls 4 [(0, .ref b), (1, .ref (ax 54)), (2, .ref (am 0)), (3, .int x3)]) (hk : ∀ (σ τ : rp_St) (H : Heap) (locs : List Loc), RR σ τ → lS D cI cB cS cT ax am ad s σ τ H locs → W p l e room_1 s m #[Value.ref b] below meth c H locs 77 2186 (lw_Z below #[Value.ref b] s) (F0 m 1421 ls [])) (σ τ : rp_St) (H : Heap) (locs : List Loc) (hR : RR σ τ) (hw : lS D cI cB cS cT ax am ad s σ τ H locs) : W p l e room_1 s m #[Value.ref b] below meth c H locs 77 2186 (lw_Z below #[Value.ref b] s) (F0 m 887 ls []) := by
  have hx := hC.1.1
  have hb := hC.1.2.1
  have hown : s.vm.findClass "RegretPegsLaw" = some m.cls := hC.1.2.2.2.2.1
  have hts0 : ∀ w ∈ rp_W0, w.before #[Value.ref b] s = true := fun w hw => hC.1.2.2.2.2.2.1 w (rp_W0_in w hw)
  refine lv_aload_n (pc := 887) hx hb dL_law_887 rfl (lv_at hl 1 rfl) ?_
  refine lv_aload_n (pc := 888) hx hb dL_law_888 rfl (lv_at hl 0 rfl) ?_
  refine lv_iload_n (pc := 889) hx hb dL_law_889 rfl (lv_at hl 3 rfl) ?_
  refine lv_iconst (pc := 890) (v := 1) hx hb dL_law_890 (by decide) ?_
  refine lv_iadd (pc := 891) hx hb dL_law_891 ?_
  refine ls_ld (pc := 892) hC hw h1 dL_law_892 ?_
  refine lv_aload_n (pc := 893) hx hb dL_law_893 rfl (lv_at hl 0 rfl) ?_
  refine lv_iload_n (pc := 894) hx hb dL_law_894 rfl (lv_at hl 3 rfl) ?_
  refine lv_iconst (pc := 895) (v := 2) hx hb dL_law_895 (by decide) ?_
  refine lv_iadd (pc := 896) hx hb dL_law_896 ?_
  refine ls_ld (pc := 897) hC hw h2 dL_law_897 ?_
  obtain ⟨r, σ', τ', hf, hg, hR'⟩ := hop (xs ((x3 + 1) : Int32).toNatClampNeg) (xs ((x3 + 2) : Int32).toNatClampNeg) σ τ hR
  refine lx_call (pc := 898) (rest := []) hC hw hl.1 (mX6_go (l := l) (xs ((x3 + 1) : Int32).toNatClampNeg) (xs ((x3 + 2) : Int32).toNatClampNeg) σ _ hf) vw_L_105 rfl rfl (Nat.le_of_ble_eq_true rfl) (by decide) ⟨by decide, by decide⟩ dL_law_898 (fun H locs hw => ?_)
  refine lv_aload_n (pc := 901) hx hb dL_law_901 rfl (lv_at hl 2 rfl) ?_
  refine lv_aload_n (pc := 902) hx hb dL_law_902 rfl (lv_at hl 0 rfl) ?_
  refine lv_iload_n (pc := 903) hx hb dL_law_903 rfl (lv_at hl 3 rfl) ?_
  refine lv_iconst (pc := 904) (v := 1) hx hb dL_law_904 (by decide) ?_
  refine lv_iadd (pc := 905) hx hb dL_law_905 ?_
  refine ls_ld (pc := 906) hC hw h1 dL_law_906 ?_
  refine lv_aload_n (pc := 907) hx hb dL_law_907 rfl (lv_at hl 0 rfl) ?_
  refine lv_iload_n (pc := 908) hx hb dL_law_908 rfl (lv_at hl 3 rfl) ?_
  refine lv_iconst (pc := 909) (v := 2) hx hb dL_law_909 (by decide) ?_
  refine lv_iadd (pc := 910) hx hb dL_law_910 ?_
  refine ls_ld (pc := 911) hC hw h2 dL_law_911 ?_
  refine lm_call (pc := 912) (rest := [.int r]) hC hw hl.1 (mX7_go (l := l) (xs ((x3 + 1) : Int32).toNatClampNeg) (xs ((x3 + 2) : Int32).toNatClampNeg) τ _ hg) vw_L_108 rfl rfl (Nat.le_of_ble_eq_true rfl) (by decide) ⟨by decide, by decide⟩ dL_law_912 (fun H locs hw => ?_)
  refine lv_icmp_eq (pc := 915) (tgt := 1421) hx hb dL_law_915 (by decide) (fun _ => ?_) (fun hc => absurd rfl hc)
  exact hk σ' τ' H locs hR' hw
set_option maxRecDepth 100000 in
set_option maxHeartbeats 4000000 in
theorem law_c22 {p : Program} {l : Launch} {e : Env} {s : State} {m : MethodId} {below : List Frame} {meth : Method} {c : Code} {D : va_G} {cI cB cS cT : ClassId} {ax am ad av : Nat → Nat} {b L : Nat} {xs : Nat → Int32} {RR : rp_St → rp_St → Prop} (hop : ∀ (v1 : Int32) (σ τ : rp_St), RR σ τ → ∃ (r : Int32) (σ' τ' : rp_St), fX6_allRue v1 σ = some (r, σ') ∧ fX7_allRue v1 τ = some (r, τ') ∧ RR σ' τ') (hC : lC p s m meth c b L xs D cI cB cS cT ax am ad av) (x3 : Int32) (h0 : vp_in x3 L) (h1 : vp_in (x3 + 1) L) (h2 : vp_in (x3 + 2) L) (h3 : vp_in (x3 + 3) L) (h4 : vp_in (x3 + 4) L) (h5 : vp_in (x3 + 5) L) (ls : Array Slot) (hl : lv_has ls 4 [(0, .ref b), (1, .ref (ax 54)), (2, .ref (am 0)), (3, .int x3)]) (hk : ∀ (σ τ : rp_St) (H : Heap) (locs : List Loc), RR σ τ → lS D cI cB cS cT ax am ad s σ τ H locs → W p l e room_1 s m #[Value.ref b] below meth c H locs 77 2186 (lw_Z below #[Value.ref b] s) (F0 m 1421 ls [])) (σ τ : rp_St) (H : Heap) (locs : List Loc) (hR : RR σ τ) (hw : lS D cI cB cS cT ax am ad s σ τ H locs) : W p l e room_1 s m #[Value.ref b] below meth c H locs 77 2186 (lw_Z below #[Value.ref b] s) (F0 m 920 ls []) := by
  have hx := hC.1.1
  have hb := hC.1.2.1
  have hown : s.vm.findClass "RegretPegsLaw" = some m.cls := hC.1.2.2.2.2.1
  have hts0 : ∀ w ∈ rp_W0, w.before #[Value.ref b] s = true := fun w hw => hC.1.2.2.2.2.2.1 w (rp_W0_in w hw)
  refine lv_aload_n (pc := 920) hx hb dL_law_920 rfl (lv_at hl 1 rfl) ?_
  refine lv_aload_n (pc := 921) hx hb dL_law_921 rfl (lv_at hl 0 rfl) ?_
  refine lv_iload_n (pc := 922) hx hb dL_law_922 rfl (lv_at hl 3 rfl) ?_
  refine lv_iconst (pc := 923) (v := 1) hx hb dL_law_923 (by decide) ?_
  refine lv_iadd (pc := 924) hx hb dL_law_924 ?_
  refine ls_ld (pc := 925) hC hw h1 dL_law_925 ?_
  obtain ⟨r, σ', τ', hf, hg, hR'⟩ := hop (xs ((x3 + 1) : Int32).toNatClampNeg) σ τ hR
  refine lx_call (pc := 926) (rest := []) hC hw hl.1 (mX6_allRue (l := l) (xs ((x3 + 1) : Int32).toNatClampNeg) σ _ hf) vw_L_109 rfl rfl (Nat.le_of_ble_eq_true rfl) (by decide) ⟨by decide, by decide⟩ dL_law_926 (fun H locs hw => ?_)
  refine lv_aload_n (pc := 929) hx hb dL_law_929 rfl (lv_at hl 2 rfl) ?_
  refine lv_aload_n (pc := 930) hx hb dL_law_930 rfl (lv_at hl 0 rfl) ?_
  refine lv_iload_n (pc := 931) hx hb dL_law_931 rfl (lv_at hl 3 rfl) ?_
  refine lv_iconst (pc := 932) (v := 1) hx hb dL_law_932 (by decide) ?_
  refine lv_iadd (pc := 933) hx hb dL_law_933 ?_
  refine ls_ld (pc := 934) hC hw h1 dL_law_934 ?_
  refine lm_call (pc := 935) (rest := [.int r]) hC hw hl.1 (mX7_allRue (l := l) (xs ((x3 + 1) : Int32).toNatClampNeg) τ _ hg) vw_L_112 rfl rfl (Nat.le_of_ble_eq_true rfl) (by decide) ⟨by decide, by decide⟩ dL_law_935 (fun H locs hw => ?_)
  refine lv_icmp_eq (pc := 938) (tgt := 1421) hx hb dL_law_938 (by decide) (fun _ => ?_) (fun hc => absurd rfl hc)
  exact hk σ' τ' H locs hR' hw
set_option maxRecDepth 100000 in
set_option maxHeartbeats 4000000 in
theorem law_c23 {p : Program} {l : Launch} {e : Env} {s : State} {m : MethodId} {below : List Frame} {meth : Method} {c : Code} {D : va_G} {cI cB cS cT : ClassId} {ax am ad av : Nat → Nat} {b L : Nat} {xs : Nat → Int32} {RR : rp_St → rp_St → Prop} (hop : ∀ (v1 : Int32) (v2 : Int32) (σ τ : rp_St), RR σ τ → ∃ (r : Int32) (σ' τ' : rp_St), fX6_sorriest v1 v2 σ = some (r, σ') ∧ fX7_sorriest v1 v2 τ = some (r, τ') ∧ RR σ' τ') (hC : lC p s m meth c b L xs D cI cB cS cT ax am ad av) (x3 : Int32) (h0 : vp_in x3 L) (h1 : vp_in (x3 + 1) L) (h2 : vp_in (x3 + 2) L) (h3 : vp_in (x3 + 3) L) (h4 : vp_in (x3 + 4) L) (h5 : vp_in (x3 + 5) L) (ls : Array Slot) (hl : lv_has ls 4 [(0, .ref b), (1, .ref (ax 54)), (2, .ref (am 0)), (3, .int x3)]) (hk : ∀ (σ τ : rp_St) (H : Heap) (locs : List Loc), RR σ τ → lS D cI cB cS cT ax am ad s σ τ H locs → W p l e room_1 s m #[Value.ref b] below meth c H locs 77 2186 (lw_Z below #[Value.ref b] s) (F0 m 1421 ls [])) (σ τ : rp_St) (H : Heap) (locs : List Loc) (hR : RR σ τ) (hw : lS D cI cB cS cT ax am ad s σ τ H locs) : W p l e room_1 s m #[Value.ref b] below meth c H locs 77 2186 (lw_Z below #[Value.ref b] s) (F0 m 943 ls []) := by
  have hx := hC.1.1
  have hb := hC.1.2.1
  have hown : s.vm.findClass "RegretPegsLaw" = some m.cls := hC.1.2.2.2.2.1
  have hts0 : ∀ w ∈ rp_W0, w.before #[Value.ref b] s = true := fun w hw => hC.1.2.2.2.2.2.1 w (rp_W0_in w hw)
  refine lv_aload_n (pc := 943) hx hb dL_law_943 rfl (lv_at hl 1 rfl) ?_
  refine lv_aload_n (pc := 944) hx hb dL_law_944 rfl (lv_at hl 0 rfl) ?_
  refine lv_iload_n (pc := 945) hx hb dL_law_945 rfl (lv_at hl 3 rfl) ?_
  refine lv_iconst (pc := 946) (v := 1) hx hb dL_law_946 (by decide) ?_
  refine lv_iadd (pc := 947) hx hb dL_law_947 ?_
  refine ls_ld (pc := 948) hC hw h1 dL_law_948 ?_
  refine lv_aload_n (pc := 949) hx hb dL_law_949 rfl (lv_at hl 0 rfl) ?_
  refine lv_iload_n (pc := 950) hx hb dL_law_950 rfl (lv_at hl 3 rfl) ?_
  refine lv_iconst (pc := 951) (v := 2) hx hb dL_law_951 (by decide) ?_
  refine lv_iadd (pc := 952) hx hb dL_law_952 ?_
  refine ls_ld (pc := 953) hC hw h2 dL_law_953 ?_
  obtain ⟨r, σ', τ', hf, hg, hR'⟩ := hop (xs ((x3 + 1) : Int32).toNatClampNeg) (xs ((x3 + 2) : Int32).toNatClampNeg) σ τ hR
  refine lx_call (pc := 954) (rest := []) hC hw hl.1 (mX6_sorriest (l := l) (xs ((x3 + 1) : Int32).toNatClampNeg) (xs ((x3 + 2) : Int32).toNatClampNeg) σ _ hf) vw_L_113 rfl rfl (Nat.le_of_ble_eq_true rfl) (by decide) ⟨by decide, by decide⟩ dL_law_954 (fun H locs hw => ?_)
  refine lv_aload_n (pc := 957) hx hb dL_law_957 rfl (lv_at hl 2 rfl) ?_
  refine lv_aload_n (pc := 958) hx hb dL_law_958 rfl (lv_at hl 0 rfl) ?_
  refine lv_iload_n (pc := 959) hx hb dL_law_959 rfl (lv_at hl 3 rfl) ?_
  refine lv_iconst (pc := 960) (v := 1) hx hb dL_law_960 (by decide) ?_
  refine lv_iadd (pc := 961) hx hb dL_law_961 ?_
  refine ls_ld (pc := 962) hC hw h1 dL_law_962 ?_
  refine lv_aload_n (pc := 963) hx hb dL_law_963 rfl (lv_at hl 0 rfl) ?_
  refine lv_iload_n (pc := 964) hx hb dL_law_964 rfl (lv_at hl 3 rfl) ?_
  refine lv_iconst (pc := 965) (v := 2) hx hb dL_law_965 (by decide) ?_
  refine lv_iadd (pc := 966) hx hb dL_law_966 ?_
  refine ls_ld (pc := 967) hC hw h2 dL_law_967 ?_
  refine lm_call (pc := 968) (rest := [.int r]) hC hw hl.1 (mX7_sorriest (l := l) (xs ((x3 + 1) : Int32).toNatClampNeg) (xs ((x3 + 2) : Int32).toNatClampNeg) τ _ hg) vw_L_116 rfl rfl (Nat.le_of_ble_eq_true rfl) (by decide) ⟨by decide, by decide⟩ dL_law_968 (fun H locs hw => ?_)
  refine lv_icmp_eq (pc := 971) (tgt := 1421) hx hb dL_law_971 (by decide) (fun _ => ?_) (fun hc => absurd rfl hc)
  exact hk σ' τ' H locs hR' hw
set_option maxRecDepth 100000 in
set_option maxHeartbeats 4000000 in
theorem law_c24 {p : Program} {l : Launch} {e : Env} {s : State} {m : MethodId} {below : List Frame} {meth : Method} {c : Code} {D : va_G} {cI cB cS cT : ClassId} {ax am ad av : Nat → Nat} {b L : Nat} {xs : Nat → Int32} {RR : rp_St → rp_St → Prop} (hop : ∀ (v1 : Int32) (v2 : Int32) (v3 : Int32) (v4 : Int32) (σ τ : rp_St), RR σ τ → ∃ (r : Int32) (σ' τ' : rp_St), fX6_odds v1 v2 v3 v4 σ = some (r, σ') ∧ fX7_odds v1 v2 v3 v4 τ = some (r, τ') ∧ RR σ' τ') (hC : lC p s m meth c b L xs D cI cB cS cT ax am ad av) (x3 : Int32) (h0 : vp_in x3 L) (h1 : vp_in (x3 + 1) L) (h2 : vp_in (x3 + 2) L) (h3 : vp_in (x3 + 3) L) (h4 : vp_in (x3 + 4) L) (h5 : vp_in (x3 + 5) L) (ls : Array Slot) (hl : lv_has ls 4 [(0, .ref b), (1, .ref (ax 54)), (2, .ref (am 0)), (3, .int x3)]) (hk : ∀ (σ τ : rp_St) (H : Heap) (locs : List Loc), RR σ τ → lS D cI cB cS cT ax am ad s σ τ H locs → W p l e room_1 s m #[Value.ref b] below meth c H locs 77 2186 (lw_Z below #[Value.ref b] s) (F0 m 1421 ls [])) (σ τ : rp_St) (H : Heap) (locs : List Loc) (hR : RR σ τ) (hw : lS D cI cB cS cT ax am ad s σ τ H locs) : W p l e room_1 s m #[Value.ref b] below meth c H locs 77 2186 (lw_Z below #[Value.ref b] s) (F0 m 976 ls []) := by
  have hx := hC.1.1
  have hb := hC.1.2.1
  have hown : s.vm.findClass "RegretPegsLaw" = some m.cls := hC.1.2.2.2.2.1
  have hts0 : ∀ w ∈ rp_W0, w.before #[Value.ref b] s = true := fun w hw => hC.1.2.2.2.2.2.1 w (rp_W0_in w hw)
  refine lv_aload_n (pc := 976) hx hb dL_law_976 rfl (lv_at hl 1 rfl) ?_
  refine lv_aload_n (pc := 977) hx hb dL_law_977 rfl (lv_at hl 0 rfl) ?_
  refine lv_iload_n (pc := 978) hx hb dL_law_978 rfl (lv_at hl 3 rfl) ?_
  refine lv_iconst (pc := 979) (v := 1) hx hb dL_law_979 (by decide) ?_
  refine lv_iadd (pc := 980) hx hb dL_law_980 ?_
  refine ls_ld (pc := 981) hC hw h1 dL_law_981 ?_
  refine lv_aload_n (pc := 982) hx hb dL_law_982 rfl (lv_at hl 0 rfl) ?_
  refine lv_iload_n (pc := 983) hx hb dL_law_983 rfl (lv_at hl 3 rfl) ?_
  refine lv_iconst (pc := 984) (v := 2) hx hb dL_law_984 (by decide) ?_
  refine lv_iadd (pc := 985) hx hb dL_law_985 ?_
  refine ls_ld (pc := 986) hC hw h2 dL_law_986 ?_
  refine lv_aload_n (pc := 987) hx hb dL_law_987 rfl (lv_at hl 0 rfl) ?_
  refine lv_iload_n (pc := 988) hx hb dL_law_988 rfl (lv_at hl 3 rfl) ?_
  refine lv_iconst (pc := 989) (v := 3) hx hb dL_law_989 (by decide) ?_
  refine lv_iadd (pc := 990) hx hb dL_law_990 ?_
  refine ls_ld (pc := 991) hC hw h3 dL_law_991 ?_
  refine lv_aload_n (pc := 992) hx hb dL_law_992 rfl (lv_at hl 0 rfl) ?_
  refine lv_iload_n (pc := 993) hx hb dL_law_993 rfl (lv_at hl 3 rfl) ?_
  refine lv_iconst (pc := 994) (v := 4) hx hb dL_law_994 (by decide) ?_
  refine lv_iadd (pc := 995) hx hb dL_law_995 ?_
  refine ls_ld (pc := 996) hC hw h4 dL_law_996 ?_
  obtain ⟨r, σ', τ', hf, hg, hR'⟩ := hop (xs ((x3 + 1) : Int32).toNatClampNeg) (xs ((x3 + 2) : Int32).toNatClampNeg) (xs ((x3 + 3) : Int32).toNatClampNeg) (xs ((x3 + 4) : Int32).toNatClampNeg) σ τ hR
  refine lx_call (pc := 997) (rest := []) hC hw hl.1 (mX6_odds (l := l) (xs ((x3 + 1) : Int32).toNatClampNeg) (xs ((x3 + 2) : Int32).toNatClampNeg) (xs ((x3 + 3) : Int32).toNatClampNeg) (xs ((x3 + 4) : Int32).toNatClampNeg) σ _ hf) vw_L_117 rfl rfl (Nat.le_of_ble_eq_true rfl) (by decide) ⟨by decide, by decide⟩ dL_law_997 (fun H locs hw => ?_)
  refine lv_aload_n (pc := 1000) hx hb dL_law_1000 rfl (lv_at hl 2 rfl) ?_
  refine lv_aload_n (pc := 1001) hx hb dL_law_1001 rfl (lv_at hl 0 rfl) ?_
  refine lv_iload_n (pc := 1002) hx hb dL_law_1002 rfl (lv_at hl 3 rfl) ?_
  refine lv_iconst (pc := 1003) (v := 1) hx hb dL_law_1003 (by decide) ?_
  refine lv_iadd (pc := 1004) hx hb dL_law_1004 ?_
  refine ls_ld (pc := 1005) hC hw h1 dL_law_1005 ?_
  refine lv_aload_n (pc := 1006) hx hb dL_law_1006 rfl (lv_at hl 0 rfl) ?_
  refine lv_iload_n (pc := 1007) hx hb dL_law_1007 rfl (lv_at hl 3 rfl) ?_
  refine lv_iconst (pc := 1008) (v := 2) hx hb dL_law_1008 (by decide) ?_
  refine lv_iadd (pc := 1009) hx hb dL_law_1009 ?_
  refine ls_ld (pc := 1010) hC hw h2 dL_law_1010 ?_
  refine lv_aload_n (pc := 1011) hx hb dL_law_1011 rfl (lv_at hl 0 rfl) ?_
  refine lv_iload_n (pc := 1012) hx hb dL_law_1012 rfl (lv_at hl 3 rfl) ?_
  refine lv_iconst (pc := 1013) (v := 3) hx hb dL_law_1013 (by decide) ?_
  refine lv_iadd (pc := 1014) hx hb dL_law_1014 ?_
  refine ls_ld (pc := 1015) hC hw h3 dL_law_1015 ?_
  refine lv_aload_n (pc := 1016) hx hb dL_law_1016 rfl (lv_at hl 0 rfl) ?_
  refine lv_iload_n (pc := 1017) hx hb dL_law_1017 rfl (lv_at hl 3 rfl) ?_
  refine lv_iconst (pc := 1018) (v := 4) hx hb dL_law_1018 (by decide) ?_
  refine lv_iadd (pc := 1019) hx hb dL_law_1019 ?_
  refine ls_ld (pc := 1020) hC hw h4 dL_law_1020 ?_
  refine lm_call (pc := 1021) (rest := [.int r]) hC hw hl.1 (mX7_odds (l := l) (xs ((x3 + 1) : Int32).toNatClampNeg) (xs ((x3 + 2) : Int32).toNatClampNeg) (xs ((x3 + 3) : Int32).toNatClampNeg) (xs ((x3 + 4) : Int32).toNatClampNeg) τ _ hg) vw_L_120 rfl rfl (Nat.le_of_ble_eq_true rfl) (by decide) ⟨by decide, by decide⟩ dL_law_1021 (fun H locs hw => ?_)
  refine lv_icmp_eq (pc := 1024) (tgt := 1421) hx hb dL_law_1024 (by decide) (fun _ => ?_) (fun hc => absurd rfl hc)
  exact hk σ' τ' H locs hR' hw
set_option maxRecDepth 100000 in
set_option maxHeartbeats 4000000 in
theorem law_c25 {p : Program} {l : Launch} {e : Env} {s : State} {m : MethodId} {below : List Frame} {meth : Method} {c : Code} {D : va_G} {cI cB cS cT : ClassId} {ax am ad av : Nat → Nat} {b L : Nat} {xs : Nat → Int32} {RR : rp_St → rp_St → Prop} (hop : ∀ (v1 : Int32) (σ τ : rp_St), RR σ τ → ∃ (r : Int32) (σ' τ' : rp_St), fX6_seed v1 σ = some (r, σ') ∧ fX7_seed v1 τ = some (r, τ') ∧ RR σ' τ') (hC : lC p s m meth c b L xs D cI cB cS cT ax am ad av) (x3 : Int32) (h0 : vp_in x3 L) (h1 : vp_in (x3 + 1) L) (h2 : vp_in (x3 + 2) L) (h3 : vp_in (x3 + 3) L) (h4 : vp_in (x3 + 4) L) (h5 : vp_in (x3 + 5) L) (ls : Array Slot) (hl : lv_has ls 4 [(0, .ref b), (1, .ref (ax 54)), (2, .ref (am 0)), (3, .int x3)]) (hk : ∀ (σ τ : rp_St) (H : Heap) (locs : List Loc), RR σ τ → lS D cI cB cS cT ax am ad s σ τ H locs → W p l e room_1 s m #[Value.ref b] below meth c H locs 77 2186 (lw_Z below #[Value.ref b] s) (F0 m 1421 ls [])) (σ τ : rp_St) (H : Heap) (locs : List Loc) (hR : RR σ τ) (hw : lS D cI cB cS cT ax am ad s σ τ H locs) : W p l e room_1 s m #[Value.ref b] below meth c H locs 77 2186 (lw_Z below #[Value.ref b] s) (F0 m 1029 ls []) := by
  have hx := hC.1.1
  have hb := hC.1.2.1
  have hown : s.vm.findClass "RegretPegsLaw" = some m.cls := hC.1.2.2.2.2.1
  have hts0 : ∀ w ∈ rp_W0, w.before #[Value.ref b] s = true := fun w hw => hC.1.2.2.2.2.2.1 w (rp_W0_in w hw)
  refine lv_aload_n (pc := 1029) hx hb dL_law_1029 rfl (lv_at hl 1 rfl) ?_
  refine lv_aload_n (pc := 1030) hx hb dL_law_1030 rfl (lv_at hl 0 rfl) ?_
  refine lv_iload_n (pc := 1031) hx hb dL_law_1031 rfl (lv_at hl 3 rfl) ?_
  refine lv_iconst (pc := 1032) (v := 1) hx hb dL_law_1032 (by decide) ?_
  refine lv_iadd (pc := 1033) hx hb dL_law_1033 ?_
  refine ls_ld (pc := 1034) hC hw h1 dL_law_1034 ?_
  obtain ⟨r, σ', τ', hf, hg, hR'⟩ := hop (xs ((x3 + 1) : Int32).toNatClampNeg) σ τ hR
  refine lx_call (pc := 1035) (rest := []) hC hw hl.1 (mX6_seed (l := l) (xs ((x3 + 1) : Int32).toNatClampNeg) σ _ hf) vw_L_121 rfl rfl (Nat.le_of_ble_eq_true rfl) (by decide) ⟨by decide, by decide⟩ dL_law_1035 (fun H locs hw => ?_)
  refine lv_aload_n (pc := 1038) hx hb dL_law_1038 rfl (lv_at hl 2 rfl) ?_
  refine lv_aload_n (pc := 1039) hx hb dL_law_1039 rfl (lv_at hl 0 rfl) ?_
  refine lv_iload_n (pc := 1040) hx hb dL_law_1040 rfl (lv_at hl 3 rfl) ?_
  refine lv_iconst (pc := 1041) (v := 1) hx hb dL_law_1041 (by decide) ?_
  refine lv_iadd (pc := 1042) hx hb dL_law_1042 ?_
  refine ls_ld (pc := 1043) hC hw h1 dL_law_1043 ?_
  refine lm_call (pc := 1044) (rest := [.int r]) hC hw hl.1 (mX7_seed (l := l) (xs ((x3 + 1) : Int32).toNatClampNeg) τ _ hg) vw_L_124 rfl rfl (Nat.le_of_ble_eq_true rfl) (by decide) ⟨by decide, by decide⟩ dL_law_1044 (fun H locs hw => ?_)
  refine lv_icmp_eq (pc := 1047) (tgt := 1421) hx hb dL_law_1047 (by decide) (fun _ => ?_) (fun hc => absurd rfl hc)
  exact hk σ' τ' H locs hR' hw
set_option maxRecDepth 100000 in
set_option maxHeartbeats 4000000 in
theorem law_c26 {p : Program} {l : Launch} {e : Env} {s : State} {m : MethodId} {below : List Frame} {meth : Method} {c : Code} {D : va_G} {cI cB cS cT : ClassId} {ax am ad av : Nat → Nat} {b L : Nat} {xs : Nat → Int32} {RR : rp_St → rp_St → Prop} (hop : ∀ (v1 : Int32) (v2 : Int32) (v3 : Int32) (σ τ : rp_St), RR σ τ → ∃ (r : Int32) (σ' τ' : rp_St), fX6_voice v1 v2 v3 σ = some (r, σ') ∧ fX7_voice v1 v2 v3 τ = some (r, τ') ∧ RR σ' τ') (hC : lC p s m meth c b L xs D cI cB cS cT ax am ad av) (x3 : Int32) (h0 : vp_in x3 L) (h1 : vp_in (x3 + 1) L) (h2 : vp_in (x3 + 2) L) (h3 : vp_in (x3 + 3) L) (h4 : vp_in (x3 + 4) L) (h5 : vp_in (x3 + 5) L) (ls : Array Slot) (hl : lv_has ls 4 [(0, .ref b), (1, .ref (ax 54)), (2, .ref (am 0)), (3, .int x3)]) (hk : ∀ (σ τ : rp_St) (H : Heap) (locs : List Loc), RR σ τ → lS D cI cB cS cT ax am ad s σ τ H locs → W p l e room_1 s m #[Value.ref b] below meth c H locs 77 2186 (lw_Z below #[Value.ref b] s) (F0 m 1421 ls [])) (σ τ : rp_St) (H : Heap) (locs : List Loc) (hR : RR σ τ) (hw : lS D cI cB cS cT ax am ad s σ τ H locs) : W p l e room_1 s m #[Value.ref b] below meth c H locs 77 2186 (lw_Z below #[Value.ref b] s) (F0 m 1052 ls []) := by
  have hx := hC.1.1
  have hb := hC.1.2.1
  have hown : s.vm.findClass "RegretPegsLaw" = some m.cls := hC.1.2.2.2.2.1
  have hts0 : ∀ w ∈ rp_W0, w.before #[Value.ref b] s = true := fun w hw => hC.1.2.2.2.2.2.1 w (rp_W0_in w hw)
  refine lv_aload_n (pc := 1052) hx hb dL_law_1052 rfl (lv_at hl 1 rfl) ?_
  refine lv_aload_n (pc := 1053) hx hb dL_law_1053 rfl (lv_at hl 0 rfl) ?_
  refine lv_iload_n (pc := 1054) hx hb dL_law_1054 rfl (lv_at hl 3 rfl) ?_
  refine lv_iconst (pc := 1055) (v := 1) hx hb dL_law_1055 (by decide) ?_
  refine lv_iadd (pc := 1056) hx hb dL_law_1056 ?_
  refine ls_ld (pc := 1057) hC hw h1 dL_law_1057 ?_
  refine lv_aload_n (pc := 1058) hx hb dL_law_1058 rfl (lv_at hl 0 rfl) ?_
  refine lv_iload_n (pc := 1059) hx hb dL_law_1059 rfl (lv_at hl 3 rfl) ?_
  refine lv_iconst (pc := 1060) (v := 2) hx hb dL_law_1060 (by decide) ?_
  refine lv_iadd (pc := 1061) hx hb dL_law_1061 ?_
  refine ls_ld (pc := 1062) hC hw h2 dL_law_1062 ?_
  refine lv_aload_n (pc := 1063) hx hb dL_law_1063 rfl (lv_at hl 0 rfl) ?_
  refine lv_iload_n (pc := 1064) hx hb dL_law_1064 rfl (lv_at hl 3 rfl) ?_
  refine lv_iconst (pc := 1065) (v := 3) hx hb dL_law_1065 (by decide) ?_
  refine lv_iadd (pc := 1066) hx hb dL_law_1066 ?_
  refine ls_ld (pc := 1067) hC hw h3 dL_law_1067 ?_
  obtain ⟨r, σ', τ', hf, hg, hR'⟩ := hop (xs ((x3 + 1) : Int32).toNatClampNeg) (xs ((x3 + 2) : Int32).toNatClampNeg) (xs ((x3 + 3) : Int32).toNatClampNeg) σ τ hR
  refine lx_call (pc := 1068) (rest := []) hC hw hl.1 (mX6_voice (l := l) (xs ((x3 + 1) : Int32).toNatClampNeg) (xs ((x3 + 2) : Int32).toNatClampNeg) (xs ((x3 + 3) : Int32).toNatClampNeg) σ _ hf) vw_L_125 rfl rfl (Nat.le_of_ble_eq_true rfl) (by decide) ⟨by decide, by decide⟩ dL_law_1068 (fun H locs hw => ?_)
  refine lv_aload_n (pc := 1071) hx hb dL_law_1071 rfl (lv_at hl 2 rfl) ?_
  refine lv_aload_n (pc := 1072) hx hb dL_law_1072 rfl (lv_at hl 0 rfl) ?_
  refine lv_iload_n (pc := 1073) hx hb dL_law_1073 rfl (lv_at hl 3 rfl) ?_
  refine lv_iconst (pc := 1074) (v := 1) hx hb dL_law_1074 (by decide) ?_
  refine lv_iadd (pc := 1075) hx hb dL_law_1075 ?_
  refine ls_ld (pc := 1076) hC hw h1 dL_law_1076 ?_
  refine lv_aload_n (pc := 1077) hx hb dL_law_1077 rfl (lv_at hl 0 rfl) ?_
  refine lv_iload_n (pc := 1078) hx hb dL_law_1078 rfl (lv_at hl 3 rfl) ?_
  refine lv_iconst (pc := 1079) (v := 2) hx hb dL_law_1079 (by decide) ?_
  refine lv_iadd (pc := 1080) hx hb dL_law_1080 ?_
  refine ls_ld (pc := 1081) hC hw h2 dL_law_1081 ?_
  refine lv_aload_n (pc := 1082) hx hb dL_law_1082 rfl (lv_at hl 0 rfl) ?_
  refine lv_iload_n (pc := 1083) hx hb dL_law_1083 rfl (lv_at hl 3 rfl) ?_
  refine lv_iconst (pc := 1084) (v := 3) hx hb dL_law_1084 (by decide) ?_
  refine lv_iadd (pc := 1085) hx hb dL_law_1085 ?_
  refine ls_ld (pc := 1086) hC hw h3 dL_law_1086 ?_
  refine lm_call (pc := 1087) (rest := [.int r]) hC hw hl.1 (mX7_voice (l := l) (xs ((x3 + 1) : Int32).toNatClampNeg) (xs ((x3 + 2) : Int32).toNatClampNeg) (xs ((x3 + 3) : Int32).toNatClampNeg) τ _ hg) vw_L_128 rfl rfl (Nat.le_of_ble_eq_true rfl) (by decide) ⟨by decide, by decide⟩ dL_law_1087 (fun H locs hw => ?_)
  refine lv_icmp_eq (pc := 1090) (tgt := 1421) hx hb dL_law_1090 (by decide) (fun _ => ?_) (fun hc => absurd rfl hc)
  exact hk σ' τ' H locs hR' hw
set_option maxRecDepth 100000 in
set_option maxHeartbeats 4000000 in
theorem law_c27 {p : Program} {l : Launch} {e : Env} {s : State} {m : MethodId} {below : List Frame} {meth : Method} {c : Code} {D : va_G} {cI cB cS cT : ClassId} {ax am ad av : Nat → Nat} {b L : Nat} {xs : Nat → Int32} {RR : rp_St → rp_St → Prop} (hop : ∀ (v1 : Int32) (σ τ : rp_St), RR σ τ → ∃ (r : Int32) (σ' τ' : rp_St), fX6_trace v1 σ = some (r, σ') ∧ fX7_trace v1 τ = some (r, τ') ∧ RR σ' τ') (hC : lC p s m meth c b L xs D cI cB cS cT ax am ad av) (x3 : Int32) (h0 : vp_in x3 L) (h1 : vp_in (x3 + 1) L) (h2 : vp_in (x3 + 2) L) (h3 : vp_in (x3 + 3) L) (h4 : vp_in (x3 + 4) L) (h5 : vp_in (x3 + 5) L) (ls : Array Slot) (hl : lv_has ls 4 [(0, .ref b), (1, .ref (ax 54)), (2, .ref (am 0)), (3, .int x3)]) (hk : ∀ (σ τ : rp_St) (H : Heap) (locs : List Loc), RR σ τ → lS D cI cB cS cT ax am ad s σ τ H locs → W p l e room_1 s m #[Value.ref b] below meth c H locs 77 2186 (lw_Z below #[Value.ref b] s) (F0 m 1421 ls [])) (σ τ : rp_St) (H : Heap) (locs : List Loc) (hR : RR σ τ) (hw : lS D cI cB cS cT ax am ad s σ τ H locs) : W p l e room_1 s m #[Value.ref b] below meth c H locs 77 2186 (lw_Z below #[Value.ref b] s) (F0 m 1095 ls []) := by
  have hx := hC.1.1
  have hb := hC.1.2.1
  have hown : s.vm.findClass "RegretPegsLaw" = some m.cls := hC.1.2.2.2.2.1
  have hts0 : ∀ w ∈ rp_W0, w.before #[Value.ref b] s = true := fun w hw => hC.1.2.2.2.2.2.1 w (rp_W0_in w hw)
  refine lv_aload_n (pc := 1095) hx hb dL_law_1095 rfl (lv_at hl 1 rfl) ?_
  refine lv_aload_n (pc := 1096) hx hb dL_law_1096 rfl (lv_at hl 0 rfl) ?_
  refine lv_iload_n (pc := 1097) hx hb dL_law_1097 rfl (lv_at hl 3 rfl) ?_
  refine lv_iconst (pc := 1098) (v := 1) hx hb dL_law_1098 (by decide) ?_
  refine lv_iadd (pc := 1099) hx hb dL_law_1099 ?_
  refine ls_ld (pc := 1100) hC hw h1 dL_law_1100 ?_
  obtain ⟨r, σ', τ', hf, hg, hR'⟩ := hop (xs ((x3 + 1) : Int32).toNatClampNeg) σ τ hR
  refine lx_call (pc := 1101) (rest := []) hC hw hl.1 (mX6_trace (l := l) (xs ((x3 + 1) : Int32).toNatClampNeg) σ _ hf) vw_L_129 rfl rfl (Nat.le_of_ble_eq_true rfl) (by decide) ⟨by decide, by decide⟩ dL_law_1101 (fun H locs hw => ?_)
  refine lv_aload_n (pc := 1104) hx hb dL_law_1104 rfl (lv_at hl 2 rfl) ?_
  refine lv_aload_n (pc := 1105) hx hb dL_law_1105 rfl (lv_at hl 0 rfl) ?_
  refine lv_iload_n (pc := 1106) hx hb dL_law_1106 rfl (lv_at hl 3 rfl) ?_
  refine lv_iconst (pc := 1107) (v := 1) hx hb dL_law_1107 (by decide) ?_
  refine lv_iadd (pc := 1108) hx hb dL_law_1108 ?_
  refine ls_ld (pc := 1109) hC hw h1 dL_law_1109 ?_
  refine lm_call (pc := 1110) (rest := [.int r]) hC hw hl.1 (mX7_trace (l := l) (xs ((x3 + 1) : Int32).toNatClampNeg) τ _ hg) vw_L_132 rfl rfl (Nat.le_of_ble_eq_true rfl) (by decide) ⟨by decide, by decide⟩ dL_law_1110 (fun H locs hw => ?_)
  refine lv_icmp_eq (pc := 1113) (tgt := 1421) hx hb dL_law_1113 (by decide) (fun _ => ?_) (fun hc => absurd rfl hc)
  exact hk σ' τ' H locs hR' hw
set_option maxRecDepth 100000 in
set_option maxHeartbeats 4000000 in
theorem law_c28 {p : Program} {l : Launch} {e : Env} {s : State} {m : MethodId} {below : List Frame} {meth : Method} {c : Code} {D : va_G} {cI cB cS cT : ClassId} {ax am ad av : Nat → Nat} {b L : Nat} {xs : Nat → Int32} {RR : rp_St → rp_St → Prop} (hop : ∀ (v1 : Int32) (v2 : Int32) (v3 : Int32) (σ τ : rp_St), RR σ τ → ∃ (r : Int32) (σ' τ' : rp_St), fX6_sheet v1 v2 v3 σ = some (r, σ') ∧ fX7_sheet v1 v2 v3 τ = some (r, τ') ∧ RR σ' τ') (hC : lC p s m meth c b L xs D cI cB cS cT ax am ad av) (x3 : Int32) (h0 : vp_in x3 L) (h1 : vp_in (x3 + 1) L) (h2 : vp_in (x3 + 2) L) (h3 : vp_in (x3 + 3) L) (h4 : vp_in (x3 + 4) L) (h5 : vp_in (x3 + 5) L) (ls : Array Slot) (hl : lv_has ls 4 [(0, .ref b), (1, .ref (ax 54)), (2, .ref (am 0)), (3, .int x3)]) (hk : ∀ (σ τ : rp_St) (H : Heap) (locs : List Loc), RR σ τ → lS D cI cB cS cT ax am ad s σ τ H locs → W p l e room_1 s m #[Value.ref b] below meth c H locs 77 2186 (lw_Z below #[Value.ref b] s) (F0 m 1421 ls [])) (σ τ : rp_St) (H : Heap) (locs : List Loc) (hR : RR σ τ) (hw : lS D cI cB cS cT ax am ad s σ τ H locs) : W p l e room_1 s m #[Value.ref b] below meth c H locs 77 2186 (lw_Z below #[Value.ref b] s) (F0 m 1118 ls []) := by
  have hx := hC.1.1
  have hb := hC.1.2.1
  have hown : s.vm.findClass "RegretPegsLaw" = some m.cls := hC.1.2.2.2.2.1
  have hts0 : ∀ w ∈ rp_W0, w.before #[Value.ref b] s = true := fun w hw => hC.1.2.2.2.2.2.1 w (rp_W0_in w hw)
  refine lv_aload_n (pc := 1118) hx hb dL_law_1118 rfl (lv_at hl 1 rfl) ?_
  refine lv_aload_n (pc := 1119) hx hb dL_law_1119 rfl (lv_at hl 0 rfl) ?_
  refine lv_iload_n (pc := 1120) hx hb dL_law_1120 rfl (lv_at hl 3 rfl) ?_
  refine lv_iconst (pc := 1121) (v := 1) hx hb dL_law_1121 (by decide) ?_
  refine lv_iadd (pc := 1122) hx hb dL_law_1122 ?_
  refine ls_ld (pc := 1123) hC hw h1 dL_law_1123 ?_
  refine lv_aload_n (pc := 1124) hx hb dL_law_1124 rfl (lv_at hl 0 rfl) ?_
  refine lv_iload_n (pc := 1125) hx hb dL_law_1125 rfl (lv_at hl 3 rfl) ?_
  refine lv_iconst (pc := 1126) (v := 2) hx hb dL_law_1126 (by decide) ?_
  refine lv_iadd (pc := 1127) hx hb dL_law_1127 ?_
  refine ls_ld (pc := 1128) hC hw h2 dL_law_1128 ?_
  refine lv_aload_n (pc := 1129) hx hb dL_law_1129 rfl (lv_at hl 0 rfl) ?_
  refine lv_iload_n (pc := 1130) hx hb dL_law_1130 rfl (lv_at hl 3 rfl) ?_
  refine lv_iconst (pc := 1131) (v := 3) hx hb dL_law_1131 (by decide) ?_
  refine lv_iadd (pc := 1132) hx hb dL_law_1132 ?_
  refine ls_ld (pc := 1133) hC hw h3 dL_law_1133 ?_
  obtain ⟨r, σ', τ', hf, hg, hR'⟩ := hop (xs ((x3 + 1) : Int32).toNatClampNeg) (xs ((x3 + 2) : Int32).toNatClampNeg) (xs ((x3 + 3) : Int32).toNatClampNeg) σ τ hR
  refine lx_call (pc := 1134) (rest := []) hC hw hl.1 (mX6_sheet (l := l) (xs ((x3 + 1) : Int32).toNatClampNeg) (xs ((x3 + 2) : Int32).toNatClampNeg) (xs ((x3 + 3) : Int32).toNatClampNeg) σ _ hf) vw_L_133 rfl rfl (Nat.le_of_ble_eq_true rfl) (by decide) ⟨by decide, by decide⟩ dL_law_1134 (fun H locs hw => ?_)
  refine lv_aload_n (pc := 1137) hx hb dL_law_1137 rfl (lv_at hl 2 rfl) ?_
  refine lv_aload_n (pc := 1138) hx hb dL_law_1138 rfl (lv_at hl 0 rfl) ?_
  refine lv_iload_n (pc := 1139) hx hb dL_law_1139 rfl (lv_at hl 3 rfl) ?_
  refine lv_iconst (pc := 1140) (v := 1) hx hb dL_law_1140 (by decide) ?_
  refine lv_iadd (pc := 1141) hx hb dL_law_1141 ?_
  refine ls_ld (pc := 1142) hC hw h1 dL_law_1142 ?_
  refine lv_aload_n (pc := 1143) hx hb dL_law_1143 rfl (lv_at hl 0 rfl) ?_
  refine lv_iload_n (pc := 1144) hx hb dL_law_1144 rfl (lv_at hl 3 rfl) ?_
  refine lv_iconst (pc := 1145) (v := 2) hx hb dL_law_1145 (by decide) ?_
  refine lv_iadd (pc := 1146) hx hb dL_law_1146 ?_
  refine ls_ld (pc := 1147) hC hw h2 dL_law_1147 ?_
  refine lv_aload_n (pc := 1148) hx hb dL_law_1148 rfl (lv_at hl 0 rfl) ?_
  refine lv_iload_n (pc := 1149) hx hb dL_law_1149 rfl (lv_at hl 3 rfl) ?_
  refine lv_iconst (pc := 1150) (v := 3) hx hb dL_law_1150 (by decide) ?_
  refine lv_iadd (pc := 1151) hx hb dL_law_1151 ?_
  refine ls_ld (pc := 1152) hC hw h3 dL_law_1152 ?_
  refine lm_call (pc := 1153) (rest := [.int r]) hC hw hl.1 (mX7_sheet (l := l) (xs ((x3 + 1) : Int32).toNatClampNeg) (xs ((x3 + 2) : Int32).toNatClampNeg) (xs ((x3 + 3) : Int32).toNatClampNeg) τ _ hg) vw_L_136 rfl rfl (Nat.le_of_ble_eq_true rfl) (by decide) ⟨by decide, by decide⟩ dL_law_1153 (fun H locs hw => ?_)
  refine lv_icmp_eq (pc := 1156) (tgt := 1421) hx hb dL_law_1156 (by decide) (fun _ => ?_) (fun hc => absurd rfl hc)
  exact hk σ' τ' H locs hR' hw
set_option maxRecDepth 100000 in
set_option maxHeartbeats 4000000 in
theorem law_c29 {p : Program} {l : Launch} {e : Env} {s : State} {m : MethodId} {below : List Frame} {meth : Method} {c : Code} {D : va_G} {cI cB cS cT : ClassId} {ax am ad av : Nat → Nat} {b L : Nat} {xs : Nat → Int32} {RR : rp_St → rp_St → Prop} (hop : ∀ (v1 : Int32) (v2 : Int32) (v3 : Int32) (σ τ : rp_St), RR σ τ → ∃ (r : Int32) (σ' τ' : rp_St), fX6_put v1 v2 v3 σ = some (r, σ') ∧ fX7_put v1 v2 v3 τ = some (r, τ') ∧ RR σ' τ') (hC : lC p s m meth c b L xs D cI cB cS cT ax am ad av) (x3 : Int32) (h0 : vp_in x3 L) (h1 : vp_in (x3 + 1) L) (h2 : vp_in (x3 + 2) L) (h3 : vp_in (x3 + 3) L) (h4 : vp_in (x3 + 4) L) (h5 : vp_in (x3 + 5) L) (ls : Array Slot) (hl : lv_has ls 4 [(0, .ref b), (1, .ref (ax 54)), (2, .ref (am 0)), (3, .int x3)]) (hk : ∀ (σ τ : rp_St) (H : Heap) (locs : List Loc), RR σ τ → lS D cI cB cS cT ax am ad s σ τ H locs → W p l e room_1 s m #[Value.ref b] below meth c H locs 77 2186 (lw_Z below #[Value.ref b] s) (F0 m 1421 ls [])) (σ τ : rp_St) (H : Heap) (locs : List Loc) (hR : RR σ τ) (hw : lS D cI cB cS cT ax am ad s σ τ H locs) : W p l e room_1 s m #[Value.ref b] below meth c H locs 77 2186 (lw_Z below #[Value.ref b] s) (F0 m 1161 ls []) := by
  have hx := hC.1.1
  have hb := hC.1.2.1
  have hown : s.vm.findClass "RegretPegsLaw" = some m.cls := hC.1.2.2.2.2.1
  have hts0 : ∀ w ∈ rp_W0, w.before #[Value.ref b] s = true := fun w hw => hC.1.2.2.2.2.2.1 w (rp_W0_in w hw)
  refine lv_aload_n (pc := 1161) hx hb dL_law_1161 rfl (lv_at hl 1 rfl) ?_
  refine lv_aload_n (pc := 1162) hx hb dL_law_1162 rfl (lv_at hl 0 rfl) ?_
  refine lv_iload_n (pc := 1163) hx hb dL_law_1163 rfl (lv_at hl 3 rfl) ?_
  refine lv_iconst (pc := 1164) (v := 1) hx hb dL_law_1164 (by decide) ?_
  refine lv_iadd (pc := 1165) hx hb dL_law_1165 ?_
  refine ls_ld (pc := 1166) hC hw h1 dL_law_1166 ?_
  refine lv_aload_n (pc := 1167) hx hb dL_law_1167 rfl (lv_at hl 0 rfl) ?_
  refine lv_iload_n (pc := 1168) hx hb dL_law_1168 rfl (lv_at hl 3 rfl) ?_
  refine lv_iconst (pc := 1169) (v := 2) hx hb dL_law_1169 (by decide) ?_
  refine lv_iadd (pc := 1170) hx hb dL_law_1170 ?_
  refine ls_ld (pc := 1171) hC hw h2 dL_law_1171 ?_
  refine lv_aload_n (pc := 1172) hx hb dL_law_1172 rfl (lv_at hl 0 rfl) ?_
  refine lv_iload_n (pc := 1173) hx hb dL_law_1173 rfl (lv_at hl 3 rfl) ?_
  refine lv_iconst (pc := 1174) (v := 3) hx hb dL_law_1174 (by decide) ?_
  refine lv_iadd (pc := 1175) hx hb dL_law_1175 ?_
  refine ls_ld (pc := 1176) hC hw h3 dL_law_1176 ?_
  obtain ⟨r, σ', τ', hf, hg, hR'⟩ := hop (xs ((x3 + 1) : Int32).toNatClampNeg) (xs ((x3 + 2) : Int32).toNatClampNeg) (xs ((x3 + 3) : Int32).toNatClampNeg) σ τ hR
  refine lx_call (pc := 1177) (rest := []) hC hw hl.1 (mX6_put (l := l) (xs ((x3 + 1) : Int32).toNatClampNeg) (xs ((x3 + 2) : Int32).toNatClampNeg) (xs ((x3 + 3) : Int32).toNatClampNeg) σ _ hf) vw_L_137 rfl rfl (Nat.le_of_ble_eq_true rfl) (by decide) ⟨by decide, by decide⟩ dL_law_1177 (fun H locs hw => ?_)
  refine lv_aload_n (pc := 1180) hx hb dL_law_1180 rfl (lv_at hl 2 rfl) ?_
  refine lv_aload_n (pc := 1181) hx hb dL_law_1181 rfl (lv_at hl 0 rfl) ?_
  refine lv_iload_n (pc := 1182) hx hb dL_law_1182 rfl (lv_at hl 3 rfl) ?_
  refine lv_iconst (pc := 1183) (v := 1) hx hb dL_law_1183 (by decide) ?_
  refine lv_iadd (pc := 1184) hx hb dL_law_1184 ?_
  refine ls_ld (pc := 1185) hC hw h1 dL_law_1185 ?_
  refine lv_aload_n (pc := 1186) hx hb dL_law_1186 rfl (lv_at hl 0 rfl) ?_
  refine lv_iload_n (pc := 1187) hx hb dL_law_1187 rfl (lv_at hl 3 rfl) ?_
  refine lv_iconst (pc := 1188) (v := 2) hx hb dL_law_1188 (by decide) ?_
  refine lv_iadd (pc := 1189) hx hb dL_law_1189 ?_
  refine ls_ld (pc := 1190) hC hw h2 dL_law_1190 ?_
  refine lv_aload_n (pc := 1191) hx hb dL_law_1191 rfl (lv_at hl 0 rfl) ?_
  refine lv_iload_n (pc := 1192) hx hb dL_law_1192 rfl (lv_at hl 3 rfl) ?_
  refine lv_iconst (pc := 1193) (v := 3) hx hb dL_law_1193 (by decide) ?_
  refine lv_iadd (pc := 1194) hx hb dL_law_1194 ?_
  refine ls_ld (pc := 1195) hC hw h3 dL_law_1195 ?_
  refine lm_call (pc := 1196) (rest := [.int r]) hC hw hl.1 (mX7_put (l := l) (xs ((x3 + 1) : Int32).toNatClampNeg) (xs ((x3 + 2) : Int32).toNatClampNeg) (xs ((x3 + 3) : Int32).toNatClampNeg) τ _ hg) vw_L_140 rfl rfl (Nat.le_of_ble_eq_true rfl) (by decide) ⟨by decide, by decide⟩ dL_law_1196 (fun H locs hw => ?_)
  refine lv_icmp_eq (pc := 1199) (tgt := 1421) hx hb dL_law_1199 (by decide) (fun _ => ?_) (fun hc => absurd rfl hc)
  exact hk σ' τ' H locs hR' hw
set_option maxRecDepth 100000 in
set_option maxHeartbeats 4000000 in
theorem law_c30 {p : Program} {l : Launch} {e : Env} {s : State} {m : MethodId} {below : List Frame} {meth : Method} {c : Code} {D : va_G} {cI cB cS cT : ClassId} {ax am ad av : Nat → Nat} {b L : Nat} {xs : Nat → Int32} {RR : rp_St → rp_St → Prop} (hop : ∀ (v1 : Int32) (v2 : Int32) (v3 : Int32) (v4 : Int32) (v5 : Int32) (σ τ : rp_St), RR σ τ → ∃ (r : Int32) (σ' τ' : rp_St), fX6_move v1 v2 v3 v4 v5 σ = some (r, σ') ∧ fX7_move v1 v2 v3 v4 v5 τ = some (r, τ') ∧ RR σ' τ') (hC : lC p s m meth c b L xs D cI cB cS cT ax am ad av) (x3 : Int32) (h0 : vp_in x3 L) (h1 : vp_in (x3 + 1) L) (h2 : vp_in (x3 + 2) L) (h3 : vp_in (x3 + 3) L) (h4 : vp_in (x3 + 4) L) (h5 : vp_in (x3 + 5) L) (ls : Array Slot) (hl : lv_has ls 4 [(0, .ref b), (1, .ref (ax 54)), (2, .ref (am 0)), (3, .int x3)]) (hk : ∀ (σ τ : rp_St) (H : Heap) (locs : List Loc), RR σ τ → lS D cI cB cS cT ax am ad s σ τ H locs → W p l e room_1 s m #[Value.ref b] below meth c H locs 77 2186 (lw_Z below #[Value.ref b] s) (F0 m 1421 ls [])) (σ τ : rp_St) (H : Heap) (locs : List Loc) (hR : RR σ τ) (hw : lS D cI cB cS cT ax am ad s σ τ H locs) : W p l e room_1 s m #[Value.ref b] below meth c H locs 77 2186 (lw_Z below #[Value.ref b] s) (F0 m 1204 ls []) := by
  have hx := hC.1.1
  have hb := hC.1.2.1
  have hown : s.vm.findClass "RegretPegsLaw" = some m.cls := hC.1.2.2.2.2.1
  have hts0 : ∀ w ∈ rp_W0, w.before #[Value.ref b] s = true := fun w hw => hC.1.2.2.2.2.2.1 w (rp_W0_in w hw)
  refine lv_aload_n (pc := 1204) hx hb dL_law_1204 rfl (lv_at hl 1 rfl) ?_
  refine lv_aload_n (pc := 1205) hx hb dL_law_1205 rfl (lv_at hl 0 rfl) ?_
  refine lv_iload_n (pc := 1206) hx hb dL_law_1206 rfl (lv_at hl 3 rfl) ?_
  refine lv_iconst (pc := 1207) (v := 1) hx hb dL_law_1207 (by decide) ?_
  refine lv_iadd (pc := 1208) hx hb dL_law_1208 ?_
  refine ls_ld (pc := 1209) hC hw h1 dL_law_1209 ?_
  refine lv_aload_n (pc := 1210) hx hb dL_law_1210 rfl (lv_at hl 0 rfl) ?_
  refine lv_iload_n (pc := 1211) hx hb dL_law_1211 rfl (lv_at hl 3 rfl) ?_
  refine lv_iconst (pc := 1212) (v := 2) hx hb dL_law_1212 (by decide) ?_
  refine lv_iadd (pc := 1213) hx hb dL_law_1213 ?_
  refine ls_ld (pc := 1214) hC hw h2 dL_law_1214 ?_
  refine lv_aload_n (pc := 1215) hx hb dL_law_1215 rfl (lv_at hl 0 rfl) ?_
  refine lv_iload_n (pc := 1216) hx hb dL_law_1216 rfl (lv_at hl 3 rfl) ?_
  refine lv_iconst (pc := 1217) (v := 3) hx hb dL_law_1217 (by decide) ?_
  refine lv_iadd (pc := 1218) hx hb dL_law_1218 ?_
  refine ls_ld (pc := 1219) hC hw h3 dL_law_1219 ?_
  refine lv_aload_n (pc := 1220) hx hb dL_law_1220 rfl (lv_at hl 0 rfl) ?_
  refine lv_iload_n (pc := 1221) hx hb dL_law_1221 rfl (lv_at hl 3 rfl) ?_
  refine lv_iconst (pc := 1222) (v := 4) hx hb dL_law_1222 (by decide) ?_
  refine lv_iadd (pc := 1223) hx hb dL_law_1223 ?_
  refine ls_ld (pc := 1224) hC hw h4 dL_law_1224 ?_
  refine lv_aload_n (pc := 1225) hx hb dL_law_1225 rfl (lv_at hl 0 rfl) ?_
  refine lv_iload_n (pc := 1226) hx hb dL_law_1226 rfl (lv_at hl 3 rfl) ?_
  refine lv_iconst (pc := 1227) (v := 5) hx hb dL_law_1227 (by decide) ?_
  refine lv_iadd (pc := 1228) hx hb dL_law_1228 ?_
  refine ls_ld (pc := 1229) hC hw h5 dL_law_1229 ?_
  obtain ⟨r, σ', τ', hf, hg, hR'⟩ := hop (xs ((x3 + 1) : Int32).toNatClampNeg) (xs ((x3 + 2) : Int32).toNatClampNeg) (xs ((x3 + 3) : Int32).toNatClampNeg) (xs ((x3 + 4) : Int32).toNatClampNeg) (xs ((x3 + 5) : Int32).toNatClampNeg) σ τ hR
  refine lx_call (pc := 1230) (rest := []) hC hw hl.1 (mX6_move (l := l) (xs ((x3 + 1) : Int32).toNatClampNeg) (xs ((x3 + 2) : Int32).toNatClampNeg) (xs ((x3 + 3) : Int32).toNatClampNeg) (xs ((x3 + 4) : Int32).toNatClampNeg) (xs ((x3 + 5) : Int32).toNatClampNeg) σ _ hf) vw_L_141 rfl rfl (Nat.le_of_ble_eq_true rfl) (by decide) ⟨by decide, by decide⟩ dL_law_1230 (fun H locs hw => ?_)
  refine lv_aload_n (pc := 1233) hx hb dL_law_1233 rfl (lv_at hl 2 rfl) ?_
  refine lv_aload_n (pc := 1234) hx hb dL_law_1234 rfl (lv_at hl 0 rfl) ?_
  refine lv_iload_n (pc := 1235) hx hb dL_law_1235 rfl (lv_at hl 3 rfl) ?_
  refine lv_iconst (pc := 1236) (v := 1) hx hb dL_law_1236 (by decide) ?_
  refine lv_iadd (pc := 1237) hx hb dL_law_1237 ?_
  refine ls_ld (pc := 1238) hC hw h1 dL_law_1238 ?_
  refine lv_aload_n (pc := 1239) hx hb dL_law_1239 rfl (lv_at hl 0 rfl) ?_
  refine lv_iload_n (pc := 1240) hx hb dL_law_1240 rfl (lv_at hl 3 rfl) ?_
  refine lv_iconst (pc := 1241) (v := 2) hx hb dL_law_1241 (by decide) ?_
  refine lv_iadd (pc := 1242) hx hb dL_law_1242 ?_
  refine ls_ld (pc := 1243) hC hw h2 dL_law_1243 ?_
  refine lv_aload_n (pc := 1244) hx hb dL_law_1244 rfl (lv_at hl 0 rfl) ?_
  refine lv_iload_n (pc := 1245) hx hb dL_law_1245 rfl (lv_at hl 3 rfl) ?_
  refine lv_iconst (pc := 1246) (v := 3) hx hb dL_law_1246 (by decide) ?_
  refine lv_iadd (pc := 1247) hx hb dL_law_1247 ?_
  refine ls_ld (pc := 1248) hC hw h3 dL_law_1248 ?_
  refine lv_aload_n (pc := 1249) hx hb dL_law_1249 rfl (lv_at hl 0 rfl) ?_
  refine lv_iload_n (pc := 1250) hx hb dL_law_1250 rfl (lv_at hl 3 rfl) ?_
  refine lv_iconst (pc := 1251) (v := 4) hx hb dL_law_1251 (by decide) ?_
  refine lv_iadd (pc := 1252) hx hb dL_law_1252 ?_
  refine ls_ld (pc := 1253) hC hw h4 dL_law_1253 ?_
  refine lv_aload_n (pc := 1254) hx hb dL_law_1254 rfl (lv_at hl 0 rfl) ?_
  refine lv_iload_n (pc := 1255) hx hb dL_law_1255 rfl (lv_at hl 3 rfl) ?_
  refine lv_iconst (pc := 1256) (v := 5) hx hb dL_law_1256 (by decide) ?_
  refine lv_iadd (pc := 1257) hx hb dL_law_1257 ?_
  refine ls_ld (pc := 1258) hC hw h5 dL_law_1258 ?_
  refine lm_call (pc := 1259) (rest := [.int r]) hC hw hl.1 (mX7_move (l := l) (xs ((x3 + 1) : Int32).toNatClampNeg) (xs ((x3 + 2) : Int32).toNatClampNeg) (xs ((x3 + 3) : Int32).toNatClampNeg) (xs ((x3 + 4) : Int32).toNatClampNeg) (xs ((x3 + 5) : Int32).toNatClampNeg) τ _ hg) vw_L_145 rfl rfl (Nat.le_of_ble_eq_true rfl) (by decide) ⟨by decide, by decide⟩ dL_law_1259 (fun H locs hw => ?_)
  refine lv_icmp_eq (pc := 1262) (tgt := 1421) hx hb dL_law_1262 (by decide) (fun _ => ?_) (fun hc => absurd rfl hc)
  exact hk σ' τ' H locs hR' hw
set_option maxRecDepth 100000 in
set_option maxHeartbeats 4000000 in
theorem law_c31 {p : Program} {l : Launch} {e : Env} {s : State} {m : MethodId} {below : List Frame} {meth : Method} {c : Code} {D : va_G} {cI cB cS cT : ClassId} {ax am ad av : Nat → Nat} {b L : Nat} {xs : Nat → Int32} {RR : rp_St → rp_St → Prop} (hop : ∀ (v1 : Int32) (σ τ : rp_St), RR σ τ → ∃ (r : Int32) (σ' τ' : rp_St), fX6_rues v1 σ = some (r, σ') ∧ fX7_rues v1 τ = some (r, τ') ∧ RR σ' τ') (hC : lC p s m meth c b L xs D cI cB cS cT ax am ad av) (x3 : Int32) (h0 : vp_in x3 L) (h1 : vp_in (x3 + 1) L) (h2 : vp_in (x3 + 2) L) (h3 : vp_in (x3 + 3) L) (h4 : vp_in (x3 + 4) L) (h5 : vp_in (x3 + 5) L) (ls : Array Slot) (hl : lv_has ls 4 [(0, .ref b), (1, .ref (ax 54)), (2, .ref (am 0)), (3, .int x3)]) (hk : ∀ (σ τ : rp_St) (H : Heap) (locs : List Loc), RR σ τ → lS D cI cB cS cT ax am ad s σ τ H locs → W p l e room_1 s m #[Value.ref b] below meth c H locs 77 2186 (lw_Z below #[Value.ref b] s) (F0 m 1421 ls [])) (σ τ : rp_St) (H : Heap) (locs : List Loc) (hR : RR σ τ) (hw : lS D cI cB cS cT ax am ad s σ τ H locs) : W p l e room_1 s m #[Value.ref b] below meth c H locs 77 2186 (lw_Z below #[Value.ref b] s) (F0 m 1267 ls []) := by
  have hx := hC.1.1
  have hb := hC.1.2.1
  have hown : s.vm.findClass "RegretPegsLaw" = some m.cls := hC.1.2.2.2.2.1
  have hts0 : ∀ w ∈ rp_W0, w.before #[Value.ref b] s = true := fun w hw => hC.1.2.2.2.2.2.1 w (rp_W0_in w hw)
  refine lv_aload_n (pc := 1267) hx hb dL_law_1267 rfl (lv_at hl 1 rfl) ?_
  refine lv_aload_n (pc := 1268) hx hb dL_law_1268 rfl (lv_at hl 0 rfl) ?_
  refine lv_iload_n (pc := 1269) hx hb dL_law_1269 rfl (lv_at hl 3 rfl) ?_
  refine lv_iconst (pc := 1270) (v := 1) hx hb dL_law_1270 (by decide) ?_
  refine lv_iadd (pc := 1271) hx hb dL_law_1271 ?_
  refine ls_ld (pc := 1272) hC hw h1 dL_law_1272 ?_
  obtain ⟨r, σ', τ', hf, hg, hR'⟩ := hop (xs ((x3 + 1) : Int32).toNatClampNeg) σ τ hR
  refine lx_call (pc := 1273) (rest := []) hC hw hl.1 (mX6_rues (l := l) (xs ((x3 + 1) : Int32).toNatClampNeg) σ _ hf) vw_L_146 rfl rfl (Nat.le_of_ble_eq_true rfl) (by decide) ⟨by decide, by decide⟩ dL_law_1273 (fun H locs hw => ?_)
  refine lv_aload_n (pc := 1276) hx hb dL_law_1276 rfl (lv_at hl 2 rfl) ?_
  refine lv_aload_n (pc := 1277) hx hb dL_law_1277 rfl (lv_at hl 0 rfl) ?_
  refine lv_iload_n (pc := 1278) hx hb dL_law_1278 rfl (lv_at hl 3 rfl) ?_
  refine lv_iconst (pc := 1279) (v := 1) hx hb dL_law_1279 (by decide) ?_
  refine lv_iadd (pc := 1280) hx hb dL_law_1280 ?_
  refine ls_ld (pc := 1281) hC hw h1 dL_law_1281 ?_
  refine lm_call (pc := 1282) (rest := [.int r]) hC hw hl.1 (mX7_rues (l := l) (xs ((x3 + 1) : Int32).toNatClampNeg) τ _ hg) vw_L_149 rfl rfl (Nat.le_of_ble_eq_true rfl) (by decide) ⟨by decide, by decide⟩ dL_law_1282 (fun H locs hw => ?_)
  refine lv_icmp_eq (pc := 1285) (tgt := 1421) hx hb dL_law_1285 (by decide) (fun _ => ?_) (fun hc => absurd rfl hc)
  exact hk σ' τ' H locs hR' hw
set_option maxRecDepth 100000 in
set_option maxHeartbeats 4000000 in
theorem law_c32 {p : Program} {l : Launch} {e : Env} {s : State} {m : MethodId} {below : List Frame} {meth : Method} {c : Code} {D : va_G} {cI cB cS cT : ClassId} {ax am ad av : Nat → Nat} {b L : Nat} {xs : Nat → Int32} {RR : rp_St → rp_St → Prop} (hop : ∀ (v1 : Int32) (σ τ : rp_St), RR σ τ → ∃ (r : Int32) (σ' τ' : rp_St), fX6_judge v1 σ = some (r, σ') ∧ fX7_judge v1 τ = some (r, τ') ∧ RR σ' τ') (hC : lC p s m meth c b L xs D cI cB cS cT ax am ad av) (x3 : Int32) (h0 : vp_in x3 L) (h1 : vp_in (x3 + 1) L) (h2 : vp_in (x3 + 2) L) (h3 : vp_in (x3 + 3) L) (h4 : vp_in (x3 + 4) L) (h5 : vp_in (x3 + 5) L) (ls : Array Slot) (hl : lv_has ls 4 [(0, .ref b), (1, .ref (ax 54)), (2, .ref (am 0)), (3, .int x3)]) (hk : ∀ (σ τ : rp_St) (H : Heap) (locs : List Loc), RR σ τ → lS D cI cB cS cT ax am ad s σ τ H locs → W p l e room_1 s m #[Value.ref b] below meth c H locs 77 2186 (lw_Z below #[Value.ref b] s) (F0 m 1421 ls [])) (σ τ : rp_St) (H : Heap) (locs : List Loc) (hR : RR σ τ) (hw : lS D cI cB cS cT ax am ad s σ τ H locs) : W p l e room_1 s m #[Value.ref b] below meth c H locs 77 2186 (lw_Z below #[Value.ref b] s) (F0 m 1290 ls []) := by
  have hx := hC.1.1
  have hb := hC.1.2.1
  have hown : s.vm.findClass "RegretPegsLaw" = some m.cls := hC.1.2.2.2.2.1
  have hts0 : ∀ w ∈ rp_W0, w.before #[Value.ref b] s = true := fun w hw => hC.1.2.2.2.2.2.1 w (rp_W0_in w hw)
  refine lv_aload_n (pc := 1290) hx hb dL_law_1290 rfl (lv_at hl 1 rfl) ?_
  refine lv_aload_n (pc := 1291) hx hb dL_law_1291 rfl (lv_at hl 0 rfl) ?_
  refine lv_iload_n (pc := 1292) hx hb dL_law_1292 rfl (lv_at hl 3 rfl) ?_
  refine lv_iconst (pc := 1293) (v := 1) hx hb dL_law_1293 (by decide) ?_
  refine lv_iadd (pc := 1294) hx hb dL_law_1294 ?_
  refine ls_ld (pc := 1295) hC hw h1 dL_law_1295 ?_
  obtain ⟨r, σ', τ', hf, hg, hR'⟩ := hop (xs ((x3 + 1) : Int32).toNatClampNeg) σ τ hR
  refine lx_call (pc := 1296) (rest := []) hC hw hl.1 (mX6_judge (l := l) (xs ((x3 + 1) : Int32).toNatClampNeg) σ _ hf) vw_L_150 rfl rfl (Nat.le_of_ble_eq_true rfl) (by decide) ⟨by decide, by decide⟩ dL_law_1296 (fun H locs hw => ?_)
  refine lv_aload_n (pc := 1299) hx hb dL_law_1299 rfl (lv_at hl 2 rfl) ?_
  refine lv_aload_n (pc := 1300) hx hb dL_law_1300 rfl (lv_at hl 0 rfl) ?_
  refine lv_iload_n (pc := 1301) hx hb dL_law_1301 rfl (lv_at hl 3 rfl) ?_
  refine lv_iconst (pc := 1302) (v := 1) hx hb dL_law_1302 (by decide) ?_
  refine lv_iadd (pc := 1303) hx hb dL_law_1303 ?_
  refine ls_ld (pc := 1304) hC hw h1 dL_law_1304 ?_
  refine lm_call (pc := 1305) (rest := [.int r]) hC hw hl.1 (mX7_judge (l := l) (xs ((x3 + 1) : Int32).toNatClampNeg) τ _ hg) vw_L_153 rfl rfl (Nat.le_of_ble_eq_true rfl) (by decide) ⟨by decide, by decide⟩ dL_law_1305 (fun H locs hw => ?_)
  refine lv_icmp_eq (pc := 1308) (tgt := 1421) hx hb dL_law_1308 (by decide) (fun _ => ?_) (fun hc => absurd rfl hc)
  exact hk σ' τ' H locs hR' hw
set_option maxRecDepth 100000 in
set_option maxHeartbeats 4000000 in
theorem law_c33 {p : Program} {l : Launch} {e : Env} {s : State} {m : MethodId} {below : List Frame} {meth : Method} {c : Code} {D : va_G} {cI cB cS cT : ClassId} {ax am ad av : Nat → Nat} {b L : Nat} {xs : Nat → Int32} {RR : rp_St → rp_St → Prop} (hop : ∀ (σ τ : rp_St), RR σ τ → ∃ (r : Int32) (σ' τ' : rp_St), fX6_image σ = some (r, σ') ∧ fX7_image τ = some (r, τ') ∧ RR σ' τ') (hC : lC p s m meth c b L xs D cI cB cS cT ax am ad av) (x3 : Int32) (h0 : vp_in x3 L) (h1 : vp_in (x3 + 1) L) (h2 : vp_in (x3 + 2) L) (h3 : vp_in (x3 + 3) L) (h4 : vp_in (x3 + 4) L) (h5 : vp_in (x3 + 5) L) (ls : Array Slot) (hl : lv_has ls 4 [(0, .ref b), (1, .ref (ax 54)), (2, .ref (am 0)), (3, .int x3)]) (hk : ∀ (σ τ : rp_St) (H : Heap) (locs : List Loc), RR σ τ → lS D cI cB cS cT ax am ad s σ τ H locs → W p l e room_1 s m #[Value.ref b] below meth c H locs 77 2186 (lw_Z below #[Value.ref b] s) (F0 m 1421 ls [])) (σ τ : rp_St) (H : Heap) (locs : List Loc) (hR : RR σ τ) (hw : lS D cI cB cS cT ax am ad s σ τ H locs) : W p l e room_1 s m #[Value.ref b] below meth c H locs 77 2186 (lw_Z below #[Value.ref b] s) (F0 m 1313 ls []) := by
  have hx := hC.1.1
  have hb := hC.1.2.1
  have hown : s.vm.findClass "RegretPegsLaw" = some m.cls := hC.1.2.2.2.2.1
  have hts0 : ∀ w ∈ rp_W0, w.before #[Value.ref b] s = true := fun w hw => hC.1.2.2.2.2.2.1 w (rp_W0_in w hw)
  refine lv_aload_n (pc := 1313) hx hb dL_law_1313 rfl (lv_at hl 1 rfl) ?_
  obtain ⟨r, σ', τ', hf, hg, hR'⟩ := hop σ τ hR
  refine lx_call (pc := 1314) (rest := []) hC hw hl.1 (mX6_image (l := l) σ _ hf) vw_L_154 rfl rfl (Nat.le_of_ble_eq_true rfl) (by decide) ⟨by decide, by decide⟩ dL_law_1314 (fun H locs hw => ?_)
  refine lv_aload_n (pc := 1317) hx hb dL_law_1317 rfl (lv_at hl 2 rfl) ?_
  refine lm_call (pc := 1318) (rest := [.int r]) hC hw hl.1 (mX7_image (l := l) τ _ hg) vw_L_157 rfl rfl (Nat.le_of_ble_eq_true rfl) (by decide) ⟨by decide, by decide⟩ dL_law_1318 (fun H locs hw => ?_)
  refine lv_icmp_eq (pc := 1321) (tgt := 1421) hx hb dL_law_1321 (by decide) (fun _ => ?_) (fun hc => absurd rfl hc)
  exact hk σ' τ' H locs hR' hw
set_option maxRecDepth 100000 in
set_option maxHeartbeats 4000000 in
theorem law_c34 {p : Program} {l : Launch} {e : Env} {s : State} {m : MethodId} {below : List Frame} {meth : Method} {c : Code} {D : va_G} {cI cB cS cT : ClassId} {ax am ad av : Nat → Nat} {b L : Nat} {xs : Nat → Int32} {RR : rp_St → rp_St → Prop} (hop : ∀ (σ τ : rp_St), RR σ τ → ∃ (r : Int32) (σ' τ' : rp_St), fX6_restore σ = some (r, σ') ∧ fX7_restore τ = some (r, τ') ∧ RR σ' τ') (hC : lC p s m meth c b L xs D cI cB cS cT ax am ad av) (x3 : Int32) (h0 : vp_in x3 L) (h1 : vp_in (x3 + 1) L) (h2 : vp_in (x3 + 2) L) (h3 : vp_in (x3 + 3) L) (h4 : vp_in (x3 + 4) L) (h5 : vp_in (x3 + 5) L) (ls : Array Slot) (hl : lv_has ls 4 [(0, .ref b), (1, .ref (ax 54)), (2, .ref (am 0)), (3, .int x3)]) (hk : ∀ (σ τ : rp_St) (H : Heap) (locs : List Loc), RR σ τ → lS D cI cB cS cT ax am ad s σ τ H locs → W p l e room_1 s m #[Value.ref b] below meth c H locs 77 2186 (lw_Z below #[Value.ref b] s) (F0 m 1421 ls [])) (σ τ : rp_St) (H : Heap) (locs : List Loc) (hR : RR σ τ) (hw : lS D cI cB cS cT ax am ad s σ τ H locs) : W p l e room_1 s m #[Value.ref b] below meth c H locs 77 2186 (lw_Z below #[Value.ref b] s) (F0 m 1326 ls []) := by
  have hx := hC.1.1
  have hb := hC.1.2.1
  have hown : s.vm.findClass "RegretPegsLaw" = some m.cls := hC.1.2.2.2.2.1
  have hts0 : ∀ w ∈ rp_W0, w.before #[Value.ref b] s = true := fun w hw => hC.1.2.2.2.2.2.1 w (rp_W0_in w hw)
  refine lv_aload_n (pc := 1326) hx hb dL_law_1326 rfl (lv_at hl 1 rfl) ?_
  obtain ⟨r, σ', τ', hf, hg, hR'⟩ := hop σ τ hR
  refine lx_call (pc := 1327) (rest := []) hC hw hl.1 (mX6_restore (l := l) σ _ hf) vw_L_158 rfl rfl (Nat.le_of_ble_eq_true rfl) (by decide) ⟨by decide, by decide⟩ dL_law_1327 (fun H locs hw => ?_)
  refine lv_aload_n (pc := 1330) hx hb dL_law_1330 rfl (lv_at hl 2 rfl) ?_
  refine lm_call (pc := 1331) (rest := [.int r]) hC hw hl.1 (mX7_restore (l := l) τ _ hg) vw_L_161 rfl rfl (Nat.le_of_ble_eq_true rfl) (by decide) ⟨by decide, by decide⟩ dL_law_1331 (fun H locs hw => ?_)
  refine lv_icmp_eq (pc := 1334) (tgt := 1421) hx hb dL_law_1334 (by decide) (fun _ => ?_) (fun hc => absurd rfl hc)
  exact hk σ' τ' H locs hR' hw
set_option maxRecDepth 100000 in
set_option maxHeartbeats 4000000 in
theorem law_c35 {p : Program} {l : Launch} {e : Env} {s : State} {m : MethodId} {below : List Frame} {meth : Method} {c : Code} {D : va_G} {cI cB cS cT : ClassId} {ax am ad av : Nat → Nat} {b L : Nat} {xs : Nat → Int32} {RR : rp_St → rp_St → Prop} (hop : ∀ (v1 : Int32) (σ τ : rp_St), RR σ τ → ∃ (r : Int32) (σ' τ' : rp_St), fX6_tell v1 σ = some (r, σ') ∧ fX7_tell v1 τ = some (r, τ') ∧ RR σ' τ') (hC : lC p s m meth c b L xs D cI cB cS cT ax am ad av) (x3 : Int32) (h0 : vp_in x3 L) (h1 : vp_in (x3 + 1) L) (h2 : vp_in (x3 + 2) L) (h3 : vp_in (x3 + 3) L) (h4 : vp_in (x3 + 4) L) (h5 : vp_in (x3 + 5) L) (ls : Array Slot) (hl : lv_has ls 4 [(0, .ref b), (1, .ref (ax 54)), (2, .ref (am 0)), (3, .int x3)]) (hk : ∀ (σ τ : rp_St) (H : Heap) (locs : List Loc), RR σ τ → lS D cI cB cS cT ax am ad s σ τ H locs → W p l e room_1 s m #[Value.ref b] below meth c H locs 77 2186 (lw_Z below #[Value.ref b] s) (F0 m 1421 ls [])) (σ τ : rp_St) (H : Heap) (locs : List Loc) (hR : RR σ τ) (hw : lS D cI cB cS cT ax am ad s σ τ H locs) : W p l e room_1 s m #[Value.ref b] below meth c H locs 77 2186 (lw_Z below #[Value.ref b] s) (F0 m 1339 ls []) := by
  have hx := hC.1.1
  have hb := hC.1.2.1
  have hown : s.vm.findClass "RegretPegsLaw" = some m.cls := hC.1.2.2.2.2.1
  have hts0 : ∀ w ∈ rp_W0, w.before #[Value.ref b] s = true := fun w hw => hC.1.2.2.2.2.2.1 w (rp_W0_in w hw)
  refine lv_aload_n (pc := 1339) hx hb dL_law_1339 rfl (lv_at hl 1 rfl) ?_
  refine lv_aload_n (pc := 1340) hx hb dL_law_1340 rfl (lv_at hl 0 rfl) ?_
  refine lv_iload_n (pc := 1341) hx hb dL_law_1341 rfl (lv_at hl 3 rfl) ?_
  refine lv_iconst (pc := 1342) (v := 1) hx hb dL_law_1342 (by decide) ?_
  refine lv_iadd (pc := 1343) hx hb dL_law_1343 ?_
  refine ls_ld (pc := 1344) hC hw h1 dL_law_1344 ?_
  obtain ⟨r, σ', τ', hf, hg, hR'⟩ := hop (xs ((x3 + 1) : Int32).toNatClampNeg) σ τ hR
  refine lx_call (pc := 1345) (rest := []) hC hw hl.1 (mX6_tell (l := l) (xs ((x3 + 1) : Int32).toNatClampNeg) σ _ hf) vw_L_162 rfl rfl (Nat.le_of_ble_eq_true rfl) (by decide) ⟨by decide, by decide⟩ dL_law_1345 (fun H locs hw => ?_)
  refine lv_aload_n (pc := 1348) hx hb dL_law_1348 rfl (lv_at hl 2 rfl) ?_
  refine lv_aload_n (pc := 1349) hx hb dL_law_1349 rfl (lv_at hl 0 rfl) ?_
  refine lv_iload_n (pc := 1350) hx hb dL_law_1350 rfl (lv_at hl 3 rfl) ?_
  refine lv_iconst (pc := 1351) (v := 1) hx hb dL_law_1351 (by decide) ?_
  refine lv_iadd (pc := 1352) hx hb dL_law_1352 ?_
  refine ls_ld (pc := 1353) hC hw h1 dL_law_1353 ?_
  refine lm_call (pc := 1354) (rest := [.int r]) hC hw hl.1 (mX7_tell (l := l) (xs ((x3 + 1) : Int32).toNatClampNeg) τ _ hg) vw_L_165 rfl rfl (Nat.le_of_ble_eq_true rfl) (by decide) ⟨by decide, by decide⟩ dL_law_1354 (fun H locs hw => ?_)
  refine lv_icmp_eq (pc := 1357) (tgt := 1421) hx hb dL_law_1357 (by decide) (fun _ => ?_) (fun hc => absurd rfl hc)
  exact hk σ' τ' H locs hR' hw
set_option maxRecDepth 100000 in
set_option maxHeartbeats 4000000 in
theorem law_c36 {p : Program} {l : Launch} {e : Env} {s : State} {m : MethodId} {below : List Frame} {meth : Method} {c : Code} {D : va_G} {cI cB cS cT : ClassId} {ax am ad av : Nat → Nat} {b L : Nat} {xs : Nat → Int32} {RR : rp_St → rp_St → Prop} (hop : ∀ (σ τ : rp_St), RR σ τ → ∃ (r : Int32) (σ' τ' : rp_St), fX6_check σ = some (r, σ') ∧ fX7_check τ = some (r, τ') ∧ RR σ' τ') (hC : lC p s m meth c b L xs D cI cB cS cT ax am ad av) (x3 : Int32) (h0 : vp_in x3 L) (h1 : vp_in (x3 + 1) L) (h2 : vp_in (x3 + 2) L) (h3 : vp_in (x3 + 3) L) (h4 : vp_in (x3 + 4) L) (h5 : vp_in (x3 + 5) L) (ls : Array Slot) (hl : lv_has ls 4 [(0, .ref b), (1, .ref (ax 54)), (2, .ref (am 0)), (3, .int x3)]) (hk : ∀ (σ τ : rp_St) (H : Heap) (locs : List Loc), RR σ τ → lS D cI cB cS cT ax am ad s σ τ H locs → W p l e room_1 s m #[Value.ref b] below meth c H locs 77 2186 (lw_Z below #[Value.ref b] s) (F0 m 1421 ls [])) (σ τ : rp_St) (H : Heap) (locs : List Loc) (hR : RR σ τ) (hw : lS D cI cB cS cT ax am ad s σ τ H locs) : W p l e room_1 s m #[Value.ref b] below meth c H locs 77 2186 (lw_Z below #[Value.ref b] s) (F0 m 1362 ls []) := by
  have hx := hC.1.1
  have hb := hC.1.2.1
  have hown : s.vm.findClass "RegretPegsLaw" = some m.cls := hC.1.2.2.2.2.1
  have hts0 : ∀ w ∈ rp_W0, w.before #[Value.ref b] s = true := fun w hw => hC.1.2.2.2.2.2.1 w (rp_W0_in w hw)
  refine lv_aload_n (pc := 1362) hx hb dL_law_1362 rfl (lv_at hl 1 rfl) ?_
  obtain ⟨r, σ', τ', hf, hg, hR'⟩ := hop σ τ hR
  refine lx_call (pc := 1363) (rest := []) hC hw hl.1 (mX6_check (l := l) σ _ hf) vw_L_166 rfl rfl (Nat.le_of_ble_eq_true rfl) (by decide) ⟨by decide, by decide⟩ dL_law_1363 (fun H locs hw => ?_)
  refine lv_aload_n (pc := 1366) hx hb dL_law_1366 rfl (lv_at hl 2 rfl) ?_
  refine lm_call (pc := 1367) (rest := [.int r]) hC hw hl.1 (mX7_check (l := l) τ _ hg) vw_L_169 rfl rfl (Nat.le_of_ble_eq_true rfl) (by decide) ⟨by decide, by decide⟩ dL_law_1367 (fun H locs hw => ?_)
  refine lv_icmp_eq (pc := 1370) (tgt := 1421) hx hb dL_law_1370 (by decide) (fun _ => ?_) (fun hc => absurd rfl hc)
  exact hk σ' τ' H locs hR' hw
set_option maxRecDepth 100000 in
set_option maxHeartbeats 4000000 in
theorem law_c37 {p : Program} {l : Launch} {e : Env} {s : State} {m : MethodId} {below : List Frame} {meth : Method} {c : Code} {D : va_G} {cI cB cS cT : ClassId} {ax am ad av : Nat → Nat} {b L : Nat} {xs : Nat → Int32} {RR : rp_St → rp_St → Prop} (hop : ∀ (v1 : Int32) (σ τ : rp_St), RR σ τ → ∃ (r : Int32) (σ' τ' : rp_St), fX6_count v1 σ = some (r, σ') ∧ fX7_count v1 τ = some (r, τ') ∧ RR σ' τ') (hC : lC p s m meth c b L xs D cI cB cS cT ax am ad av) (x3 : Int32) (h0 : vp_in x3 L) (h1 : vp_in (x3 + 1) L) (h2 : vp_in (x3 + 2) L) (h3 : vp_in (x3 + 3) L) (h4 : vp_in (x3 + 4) L) (h5 : vp_in (x3 + 5) L) (ls : Array Slot) (hl : lv_has ls 4 [(0, .ref b), (1, .ref (ax 54)), (2, .ref (am 0)), (3, .int x3)]) (hk : ∀ (σ τ : rp_St) (H : Heap) (locs : List Loc), RR σ τ → lS D cI cB cS cT ax am ad s σ τ H locs → W p l e room_1 s m #[Value.ref b] below meth c H locs 77 2186 (lw_Z below #[Value.ref b] s) (F0 m 1421 ls [])) (σ τ : rp_St) (H : Heap) (locs : List Loc) (hR : RR σ τ) (hw : lS D cI cB cS cT ax am ad s σ τ H locs) : W p l e room_1 s m #[Value.ref b] below meth c H locs 77 2186 (lw_Z below #[Value.ref b] s) (F0 m 1375 ls []) := by
  have hx := hC.1.1
  have hb := hC.1.2.1
  have hown : s.vm.findClass "RegretPegsLaw" = some m.cls := hC.1.2.2.2.2.1
  have hts0 : ∀ w ∈ rp_W0, w.before #[Value.ref b] s = true := fun w hw => hC.1.2.2.2.2.2.1 w (rp_W0_in w hw)
  refine lv_aload_n (pc := 1375) hx hb dL_law_1375 rfl (lv_at hl 1 rfl) ?_
  refine lv_aload_n (pc := 1376) hx hb dL_law_1376 rfl (lv_at hl 0 rfl) ?_
  refine lv_iload_n (pc := 1377) hx hb dL_law_1377 rfl (lv_at hl 3 rfl) ?_
  refine lv_iconst (pc := 1378) (v := 1) hx hb dL_law_1378 (by decide) ?_
  refine lv_iadd (pc := 1379) hx hb dL_law_1379 ?_
  refine ls_ld (pc := 1380) hC hw h1 dL_law_1380 ?_
  obtain ⟨r, σ', τ', hf, hg, hR'⟩ := hop (xs ((x3 + 1) : Int32).toNatClampNeg) σ τ hR
  refine lx_call (pc := 1381) (rest := []) hC hw hl.1 (mX6_count (l := l) (xs ((x3 + 1) : Int32).toNatClampNeg) σ _ hf) vw_L_170 rfl rfl (Nat.le_of_ble_eq_true rfl) (by decide) ⟨by decide, by decide⟩ dL_law_1381 (fun H locs hw => ?_)
  refine lv_aload_n (pc := 1384) hx hb dL_law_1384 rfl (lv_at hl 2 rfl) ?_
  refine lv_aload_n (pc := 1385) hx hb dL_law_1385 rfl (lv_at hl 0 rfl) ?_
  refine lv_iload_n (pc := 1386) hx hb dL_law_1386 rfl (lv_at hl 3 rfl) ?_
  refine lv_iconst (pc := 1387) (v := 1) hx hb dL_law_1387 (by decide) ?_
  refine lv_iadd (pc := 1388) hx hb dL_law_1388 ?_
  refine ls_ld (pc := 1389) hC hw h1 dL_law_1389 ?_
  refine lm_call (pc := 1390) (rest := [.int r]) hC hw hl.1 (mX7_count (l := l) (xs ((x3 + 1) : Int32).toNatClampNeg) τ _ hg) vw_L_173 rfl rfl (Nat.le_of_ble_eq_true rfl) (by decide) ⟨by decide, by decide⟩ dL_law_1390 (fun H locs hw => ?_)
  refine lv_icmp_eq (pc := 1393) (tgt := 1421) hx hb dL_law_1393 (by decide) (fun _ => ?_) (fun hc => absurd rfl hc)
  exact hk σ' τ' H locs hR' hw
set_option maxRecDepth 100000 in
set_option maxHeartbeats 4000000 in
theorem law_c38 {p : Program} {l : Launch} {e : Env} {s : State} {m : MethodId} {below : List Frame} {meth : Method} {c : Code} {D : va_G} {cI cB cS cT : ClassId} {ax am ad av : Nat → Nat} {b L : Nat} {xs : Nat → Int32} {RR : rp_St → rp_St → Prop} (hop : ∀ (v1 : Int32) (σ τ : rp_St), RR σ τ → ∃ (r : Int32) (σ' τ' : rp_St), fX6_told v1 σ = some (r, σ') ∧ fX7_told v1 τ = some (r, τ') ∧ RR σ' τ') (hC : lC p s m meth c b L xs D cI cB cS cT ax am ad av) (x3 : Int32) (h0 : vp_in x3 L) (h1 : vp_in (x3 + 1) L) (h2 : vp_in (x3 + 2) L) (h3 : vp_in (x3 + 3) L) (h4 : vp_in (x3 + 4) L) (h5 : vp_in (x3 + 5) L) (ls : Array Slot) (hl : lv_has ls 4 [(0, .ref b), (1, .ref (ax 54)), (2, .ref (am 0)), (3, .int x3)]) (hk : ∀ (σ τ : rp_St) (H : Heap) (locs : List Loc), RR σ τ → lS D cI cB cS cT ax am ad s σ τ H locs → W p l e room_1 s m #[Value.ref b] below meth c H locs 77 2186 (lw_Z below #[Value.ref b] s) (F0 m 1421 ls [])) (σ τ : rp_St) (H : Heap) (locs : List Loc) (hR : RR σ τ) (hw : lS D cI cB cS cT ax am ad s σ τ H locs) : W p l e room_1 s m #[Value.ref b] below meth c H locs 77 2186 (lw_Z below #[Value.ref b] s) (F0 m 1398 ls []) := by
  have hx := hC.1.1
  have hb := hC.1.2.1
  have hown : s.vm.findClass "RegretPegsLaw" = some m.cls := hC.1.2.2.2.2.1
  have hts0 : ∀ w ∈ rp_W0, w.before #[Value.ref b] s = true := fun w hw => hC.1.2.2.2.2.2.1 w (rp_W0_in w hw)
  refine lv_aload_n (pc := 1398) hx hb dL_law_1398 rfl (lv_at hl 1 rfl) ?_
  refine lv_aload_n (pc := 1399) hx hb dL_law_1399 rfl (lv_at hl 0 rfl) ?_
  refine lv_iload_n (pc := 1400) hx hb dL_law_1400 rfl (lv_at hl 3 rfl) ?_
  refine lv_iconst (pc := 1401) (v := 1) hx hb dL_law_1401 (by decide) ?_
  refine lv_iadd (pc := 1402) hx hb dL_law_1402 ?_
  refine ls_ld (pc := 1403) hC hw h1 dL_law_1403 ?_
  obtain ⟨r, σ', τ', hf, hg, hR'⟩ := hop (xs ((x3 + 1) : Int32).toNatClampNeg) σ τ hR
  refine lx_call (pc := 1404) (rest := []) hC hw hl.1 (mX6_told (l := l) (xs ((x3 + 1) : Int32).toNatClampNeg) σ _ hf) vw_L_174 rfl rfl (Nat.le_of_ble_eq_true rfl) (by decide) ⟨by decide, by decide⟩ dL_law_1404 (fun H locs hw => ?_)
  refine lv_aload_n (pc := 1407) hx hb dL_law_1407 rfl (lv_at hl 2 rfl) ?_
  refine lv_aload_n (pc := 1408) hx hb dL_law_1408 rfl (lv_at hl 0 rfl) ?_
  refine lv_iload_n (pc := 1409) hx hb dL_law_1409 rfl (lv_at hl 3 rfl) ?_
  refine lv_iconst (pc := 1410) (v := 1) hx hb dL_law_1410 (by decide) ?_
  refine lv_iadd (pc := 1411) hx hb dL_law_1411 ?_
  refine ls_ld (pc := 1412) hC hw h1 dL_law_1412 ?_
  refine lm_call (pc := 1413) (rest := [.int r]) hC hw hl.1 (mX7_told (l := l) (xs ((x3 + 1) : Int32).toNatClampNeg) τ _ hg) vw_L_177 rfl rfl (Nat.le_of_ble_eq_true rfl) (by decide) ⟨by decide, by decide⟩ dL_law_1413 (fun H locs hw => ?_)
  refine lv_icmp_eq (pc := 1416) (tgt := 1421) hx hb dL_law_1416 (by decide) (fun _ => ?_) (fun hc => absurd rfl hc)
  exact hk σ' τ' H locs hR' hw
