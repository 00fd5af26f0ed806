theorem tw_142 : Cond.classLink RL 7 RX11 ∈ wT := List.mem_filter.mpr ⟨List.mem_of_getElem? (i := 142) (by decide +kernel), by decide +kernel⟩
theorem tw_143 : Cond.instantiable RX11 17 ∈ wT := List.mem_filter.mpr ⟨List.mem_of_getElem? (i := 143) (by decide +kernel), by decide +kernel⟩
theorem tw_144 : Cond.methodLink RL 9 yX11_init ∈ wT := List.mem_filter.mpr ⟨List.mem_of_getElem? (i := 144) (by decide +kernel), by decide +kernel⟩
theorem tw_145 : Cond.instanceMethod yX11_init ∈ wT := List.mem_filter.mpr ⟨List.mem_of_getElem? (i := 145) (by decide +kernel), by decide +kernel⟩
set_option maxRecDepth 100000 in
theorem tw_146 : Cond.code yX11_init cX11_init 1 none ∈ wT := List.mem_filter.mpr ⟨List.mem_of_getElem? (i := 146) rfl, by decide +kernel⟩
theorem tw_546 : Cond.methodLink RL 13 yX11_feed ∈ wT := List.mem_filter.mpr ⟨List.mem_of_getElem? (i := 546) (by decide +kernel), by decide +kernel⟩
theorem tw_547 : Cond.instanceMethod yX11_feed ∈ wT := List.mem_filter.mpr ⟨List.mem_of_getElem? (i := 547) (by decide +kernel), by decide +kernel⟩
theorem tw_548 : Cond.selects (yX11_feed).cls yX11_feed yX11_feed ∈ wT := List.mem_filter.mpr ⟨List.mem_of_getElem? (i := 548) (by decide +kernel), by decide +kernel⟩
set_option maxRecDepth 100000 in
theorem tw_549 : Cond.code yX11_feed cX11_feed 6 (some .int) ∈ wT := List.mem_filter.mpr ⟨List.mem_of_getElem? (i := 549) rfl, by decide +kernel⟩
theorem tw_558 : Cond.methodLink RL 18 yX11_end ∈ wT := List.mem_filter.mpr ⟨List.mem_of_getElem? (i := 558) (by decide +kernel), by decide +kernel⟩
theorem tw_559 : Cond.instanceMethod yX11_end ∈ wT := List.mem_filter.mpr ⟨List.mem_of_getElem? (i := 559) (by decide +kernel), by decide +kernel⟩
theorem tw_560 : Cond.selects (yX11_end).cls yX11_end yX11_end ∈ wT := List.mem_filter.mpr ⟨List.mem_of_getElem? (i := 560) (by decide +kernel), by decide +kernel⟩
set_option maxRecDepth 100000 in
theorem tw_561 : Cond.code yX11_end cX11_end 2 (some .boolean) ∈ wT := List.mem_filter.mpr ⟨List.mem_of_getElem? (i := 561) rfl, by decide +kernel⟩
theorem tw_566 : Cond.methodLink RL 23 yX11_land ∈ wT := List.mem_filter.mpr ⟨List.mem_of_getElem? (i := 566) (by decide +kernel), by decide +kernel⟩
theorem tw_567 : Cond.instanceMethod yX11_land ∈ wT := List.mem_filter.mpr ⟨List.mem_of_getElem? (i := 567) (by decide +kernel), by decide +kernel⟩
theorem tw_568 : Cond.selects (yX11_land).cls yX11_land yX11_land ∈ wT := List.mem_filter.mpr ⟨List.mem_of_getElem? (i := 568) (by decide +kernel), by decide +kernel⟩
set_option maxRecDepth 100000 in
theorem tw_569 : Cond.code yX11_land cX11_land 3 (some .int) ∈ wT := List.mem_filter.mpr ⟨List.mem_of_getElem? (i := 569) rfl, by decide +kernel⟩
theorem tw_872 : Cond.methodLink RL 28 yX11_fault ∈ wT := List.mem_filter.mpr ⟨List.mem_of_getElem? (i := 872) (by decide +kernel), by decide +kernel⟩
theorem tw_873 : Cond.instanceMethod yX11_fault ∈ wT := List.mem_filter.mpr ⟨List.mem_of_getElem? (i := 873) (by decide +kernel), by decide +kernel⟩
theorem tw_874 : Cond.selects (yX11_fault).cls yX11_fault yX11_fault ∈ wT := List.mem_filter.mpr ⟨List.mem_of_getElem? (i := 874) (by decide +kernel), by decide +kernel⟩
set_option maxRecDepth 100000 in
theorem tw_875 : Cond.code yX11_fault cX11_fault 2 (some .int) ∈ wT := List.mem_filter.mpr ⟨List.mem_of_getElem? (i := 875) rfl, by decide +kernel⟩
theorem tw_876 : Cond.methodLink RL 33 yX11_has ∈ wT := List.mem_filter.mpr ⟨List.mem_of_getElem? (i := 876) (by decide +kernel), by decide +kernel⟩
theorem tw_877 : Cond.instanceMethod yX11_has ∈ wT := List.mem_filter.mpr ⟨List.mem_of_getElem? (i := 877) (by decide +kernel), by decide +kernel⟩
theorem tw_878 : Cond.selects (yX11_has).cls yX11_has yX11_has ∈ wT := List.mem_filter.mpr ⟨List.mem_of_getElem? (i := 878) (by decide +kernel), by decide +kernel⟩
set_option maxRecDepth 100000 in
theorem tw_879 : Cond.code yX11_has cX11_has 2 (some .int) ∈ wT := List.mem_filter.mpr ⟨List.mem_of_getElem? (i := 879) rfl, by decide +kernel⟩
theorem tw_892 : Cond.methodLink RL 37 yX11_letter ∈ wT := List.mem_filter.mpr ⟨List.mem_of_getElem? (i := 892) (by decide +kernel), by decide +kernel⟩
theorem tw_893 : Cond.instanceMethod yX11_letter ∈ wT := List.mem_filter.mpr ⟨List.mem_of_getElem? (i := 893) (by decide +kernel), by decide +kernel⟩
theorem tw_894 : Cond.selects (yX11_letter).cls yX11_letter yX11_letter ∈ wT := List.mem_filter.mpr ⟨List.mem_of_getElem? (i := 894) (by decide +kernel), by decide +kernel⟩
set_option maxRecDepth 100000 in
theorem tw_895 : Cond.code yX11_letter cX11_letter 4 (some .int) ∈ wT := List.mem_filter.mpr ⟨List.mem_of_getElem? (i := 895) rfl, by decide +kernel⟩
theorem tw_905 : Cond.methodLink RL 42 yX11_blind ∈ wT := List.mem_filter.mpr ⟨List.mem_of_getElem? (i := 905) (by decide +kernel), by decide +kernel⟩
theorem tw_906 : Cond.instanceMethod yX11_blind ∈ wT := List.mem_filter.mpr ⟨List.mem_of_getElem? (i := 906) (by decide +kernel), by decide +kernel⟩
theorem tw_907 : Cond.selects (yX11_blind).cls yX11_blind yX11_blind ∈ wT := List.mem_filter.mpr ⟨List.mem_of_getElem? (i := 907) (by decide +kernel), by decide +kernel⟩
set_option maxRecDepth 100000 in
theorem tw_908 : Cond.code yX11_blind cX11_blind 3 (some .int) ∈ wT := List.mem_filter.mpr ⟨List.mem_of_getElem? (i := 908) rfl, by decide +kernel⟩
theorem tw_951 : Cond.methodLink RL 47 yX11_colour ∈ wT := List.mem_filter.mpr ⟨List.mem_of_getElem? (i := 951) (by decide +kernel), by decide +kernel⟩
theorem tw_952 : Cond.instanceMethod yX11_colour ∈ wT := List.mem_filter.mpr ⟨List.mem_of_getElem? (i := 952) (by decide +kernel), by decide +kernel⟩
theorem tw_953 : Cond.selects (yX11_colour).cls yX11_colour yX11_colour ∈ wT := List.mem_filter.mpr ⟨List.mem_of_getElem? (i := 953) (by decide +kernel), by decide +kernel⟩
set_option maxRecDepth 100000 in
theorem tw_954 : Cond.code yX11_colour cX11_colour 3 (some .int) ∈ wT := List.mem_filter.mpr ⟨List.mem_of_getElem? (i := 954) rfl, by decide +kernel⟩
theorem tw_955 : Cond.methodLink RL 51 yX11_thing ∈ wT := List.mem_filter.mpr ⟨List.mem_of_getElem? (i := 955) (by decide +kernel), by decide +kernel⟩
theorem tw_956 : Cond.instanceMethod yX11_thing ∈ wT := List.mem_filter.mpr ⟨List.mem_of_getElem? (i := 956) (by decide +kernel), by decide +kernel⟩
theorem tw_957 : Cond.selects (yX11_thing).cls yX11_thing yX11_thing ∈ wT := List.mem_filter.mpr ⟨List.mem_of_getElem? (i := 957) (by decide +kernel), by decide +kernel⟩
set_option maxRecDepth 100000 in
theorem tw_958 : Cond.code yX11_thing cX11_thing 3 (some .int) ∈ wT := List.mem_filter.mpr ⟨List.mem_of_getElem? (i := 958) rfl, by decide +kernel⟩
theorem tw_965 : Cond.methodLink RL 55 yX11_score ∈ wT := List.mem_filter.mpr ⟨List.mem_of_getElem? (i := 965) (by decide +kernel), by decide +kernel⟩
theorem tw_966 : Cond.instanceMethod yX11_score ∈ wT := List.mem_filter.mpr ⟨List.mem_of_getElem? (i := 966) (by decide +kernel), by decide +kernel⟩
theorem tw_967 : Cond.selects (yX11_score).cls yX11_score yX11_score ∈ wT := List.mem_filter.mpr ⟨List.mem_of_getElem? (i := 967) (by decide +kernel), by decide +kernel⟩
set_option maxRecDepth 100000 in
theorem tw_968 : Cond.code yX11_score cX11_score 4 (some .long) ∈ wT := List.mem_filter.mpr ⟨List.mem_of_getElem? (i := 968) rfl, by decide +kernel⟩
theorem tw_985 : Cond.methodLink RL 60 yX11_word ∈ wT := List.mem_filter.mpr ⟨List.mem_of_getElem? (i := 985) (by decide +kernel), by decide +kernel⟩
theorem tw_986 : Cond.instanceMethod yX11_word ∈ wT := List.mem_filter.mpr ⟨List.mem_of_getElem? (i := 986) (by decide +kernel), by decide +kernel⟩
theorem tw_987 : Cond.selects (yX11_word).cls yX11_word yX11_word ∈ wT := List.mem_filter.mpr ⟨List.mem_of_getElem? (i := 987) (by decide +kernel), by decide +kernel⟩
set_option maxRecDepth 100000 in
theorem tw_988 : Cond.code yX11_word cX11_word 3 (some .int) ∈ wT := List.mem_filter.mpr ⟨List.mem_of_getElem? (i := 988) rfl, by decide +kernel⟩
theorem tw_994 : Cond.methodLink RL 64 yX11_choice ∈ wT := List.mem_filter.mpr ⟨List.mem_of_getElem? (i := 994) (by decide +kernel), by decide +kernel⟩
theorem tw_995 : Cond.instanceMethod yX11_choice ∈ wT := List.mem_filter.mpr ⟨List.mem_of_getElem? (i := 995) (by decide +kernel), by decide +kernel⟩
theorem tw_996 : Cond.selects (yX11_choice).cls yX11_choice yX11_choice ∈ wT := List.mem_filter.mpr ⟨List.mem_of_getElem? (i := 996) (by decide +kernel), by decide +kernel⟩
set_option maxRecDepth 100000 in
theorem tw_997 : Cond.code yX11_choice cX11_choice 4 (some .int) ∈ wT := List.mem_filter.mpr ⟨List.mem_of_getElem? (i := 997) rfl, by decide +kernel⟩
theorem tw_1012 : Cond.methodLink RL 68 yX11_later ∈ wT := List.mem_filter.mpr ⟨List.mem_of_getElem? (i := 1012) (by decide +kernel), by decide +kernel⟩
theorem tw_1013 : Cond.instanceMethod yX11_later ∈ wT := List.mem_filter.mpr ⟨List.mem_of_getElem? (i := 1013) (by decide +kernel), by decide +kernel⟩
theorem tw_1014 : Cond.selects (yX11_later).cls yX11_later yX11_later ∈ wT := List.mem_filter.mpr ⟨List.mem_of_getElem? (i := 1014) (by decide +kernel), by decide +kernel⟩
set_option maxRecDepth 100000 in
theorem tw_1015 : Cond.code yX11_later cX11_later 3 (some .int) ∈ wT := List.mem_filter.mpr ⟨List.mem_of_getElem? (i := 1015) rfl, by decide +kernel⟩
theorem tw_1062 : Cond.methodLink RL 72 yX11_mood ∈ wT := List.mem_filter.mpr ⟨List.mem_of_getElem? (i := 1062) (by decide +kernel), by decide +kernel⟩
theorem tw_1063 : Cond.instanceMethod yX11_mood ∈ wT := List.mem_filter.mpr ⟨List.mem_of_getElem? (i := 1063) (by decide +kernel), by decide +kernel⟩
theorem tw_1064 : Cond.selects (yX11_mood).cls yX11_mood yX11_mood ∈ wT := List.mem_filter.mpr ⟨List.mem_of_getElem? (i := 1064) (by decide +kernel), by decide +kernel⟩
set_option maxRecDepth 100000 in
theorem tw_1065 : Cond.code yX11_mood cX11_mood 3 (some .int) ∈ wT := List.mem_filter.mpr ⟨List.mem_of_getElem? (i := 1065) rfl, by decide +kernel⟩
theorem tw_1066 : Cond.methodLink RL 76 yX11_purse ∈ wT := List.mem_filter.mpr ⟨List.mem_of_getElem? (i := 1066) (by decide +kernel), by decide +kernel⟩
theorem tw_1067 : Cond.instanceMethod yX11_purse ∈ wT := List.mem_filter.mpr ⟨List.mem_of_getElem? (i := 1067) (by decide +kernel), by decide +kernel⟩
theorem tw_1068 : Cond.selects (yX11_purse).cls yX11_purse yX11_purse ∈ wT := List.mem_filter.mpr ⟨List.mem_of_getElem? (i := 1068) (by decide +kernel), by decide +kernel⟩
set_option maxRecDepth 100000 in
theorem tw_1069 : Cond.code yX11_purse cX11_purse 2 (some .int) ∈ wT := List.mem_filter.mpr ⟨List.mem_of_getElem? (i := 1069) rfl, by decide +kernel⟩
theorem tw_1070 : Cond.methodLink RL 80 yX11_order ∈ wT := List.mem_filter.mpr ⟨List.mem_of_getElem? (i := 1070) (by decide +kernel), by decide +kernel⟩
theorem tw_1071 : Cond.instanceMethod yX11_order ∈ wT := List.mem_filter.mpr ⟨List.mem_of_getElem? (i := 1071) (by decide +kernel), by decide +kernel⟩
theorem tw_1072 : Cond.selects (yX11_order).cls yX11_order yX11_order ∈ wT := List.mem_filter.mpr ⟨List.mem_of_getElem? (i := 1072) (by decide +kernel), by decide +kernel⟩
set_option maxRecDepth 100000 in
theorem tw_1073 : Cond.code yX11_order cX11_order 4 (some .int) ∈ wT := List.mem_filter.mpr ⟨List.mem_of_getElem? (i := 1073) rfl, by decide +kernel⟩
theorem tw_1091 : Cond.methodLink RL 84 yX11_orders ∈ wT := List.mem_filter.mpr ⟨List.mem_of_getElem? (i := 1091) (by decide +kernel), by decide +kernel⟩
theorem tw_1092 : Cond.instanceMethod yX11_orders ∈ wT := List.mem_filter.mpr ⟨List.mem_of_getElem? (i := 1092) (by decide +kernel), by decide +kernel⟩
theorem tw_1093 : Cond.selects (yX11_orders).cls yX11_orders yX11_orders ∈ wT := List.mem_filter.mpr ⟨List.mem_of_getElem? (i := 1093) (by decide +kernel), by decide +kernel⟩
set_option maxRecDepth 100000 in
theorem tw_1094 : Cond.code yX11_orders cX11_orders 3 (some .int) ∈ wT := List.mem_filter.mpr ⟨List.mem_of_getElem? (i := 1094) rfl, by decide +kernel⟩
theorem tw_1099 : Cond.methodLink RL 88 yX11_power ∈ wT := List.mem_filter.mpr ⟨List.mem_of_getElem? (i := 1099) (by decide +kernel), by decide +kernel⟩
theorem tw_1100 : Cond.instanceMethod yX11_power ∈ wT := List.mem_filter.mpr ⟨List.mem_of_getElem? (i := 1100) (by decide +kernel), by decide +kernel⟩
theorem tw_1101 : Cond.selects (yX11_power).cls yX11_power yX11_power ∈ wT := List.mem_filter.mpr ⟨List.mem_of_getElem? (i := 1101) (by decide +kernel), by decide +kernel⟩
set_option maxRecDepth 100000 in
theorem tw_1102 : Cond.code yX11_power cX11_power 3 (some .int) ∈ wT := List.mem_filter.mpr ⟨List.mem_of_getElem? (i := 1102) rfl, by decide +kernel⟩
theorem tw_1107 : Cond.methodLink RL 92 yX11_clear ∈ wT := List.mem_filter.mpr ⟨List.mem_of_getElem? (i := 1107) (by decide +kernel), by decide +kernel⟩
theorem tw_1108 : Cond.instanceMethod yX11_clear ∈ wT := List.mem_filter.mpr ⟨List.mem_of_getElem? (i := 1108) (by decide +kernel), by decide +kernel⟩
theorem tw_1109 : Cond.selects (yX11_clear).cls yX11_clear yX11_clear ∈ wT := List.mem_filter.mpr ⟨List.mem_of_getElem? (i := 1109) (by decide +kernel), by decide +kernel⟩
set_option maxRecDepth 100000 in
theorem tw_1110 : Cond.code yX11_clear cX11_clear 1 (some .int) ∈ wT := List.mem_filter.mpr ⟨List.mem_of_getElem? (i := 1110) rfl, by decide +kernel⟩
theorem tw_1120 : Cond.methodLink RL 96 yX11_odds ∈ wT := List.mem_filter.mpr ⟨List.mem_of_getElem? (i := 1120) (by decide +kernel), by decide +kernel⟩
theorem tw_1121 : Cond.instanceMethod yX11_odds ∈ wT := List.mem_filter.mpr ⟨List.mem_of_getElem? (i := 1121) (by decide +kernel), by decide +kernel⟩
theorem tw_1122 : Cond.selects (yX11_odds).cls yX11_odds yX11_odds ∈ wT := List.mem_filter.mpr ⟨List.mem_of_getElem? (i := 1122) (by decide +kernel), by decide +kernel⟩
set_option maxRecDepth 100000 in
theorem tw_1123 : Cond.code yX11_odds cX11_odds 4 (some .int) ∈ wT := List.mem_filter.mpr ⟨List.mem_of_getElem? (i := 1123) rfl, by decide +kernel⟩
theorem tw_1128 : Cond.methodLink RL 100 yX11_meet ∈ wT := List.mem_filter.mpr ⟨List.mem_of_getElem? (i := 1128) (by decide +kernel), by decide +kernel⟩
theorem tw_1129 : Cond.instanceMethod yX11_meet ∈ wT := List.mem_filter.mpr ⟨List.mem_of_getElem? (i := 1129) (by decide +kernel), by decide +kernel⟩
theorem tw_1130 : Cond.selects (yX11_meet).cls yX11_meet yX11_meet ∈ wT := List.mem_filter.mpr ⟨List.mem_of_getElem? (i := 1130) (by decide +kernel), by decide +kernel⟩
set_option maxRecDepth 100000 in
theorem tw_1131 : Cond.code yX11_meet cX11_meet 2 (some .int) ∈ wT := List.mem_filter.mpr ⟨List.mem_of_getElem? (i := 1131) rfl, by decide +kernel⟩
theorem tw_1138 : Cond.methodLink RL 104 yX11_tastes ∈ wT := List.mem_filter.mpr ⟨List.mem_of_getElem? (i := 1138) (by decide +kernel), by decide +kernel⟩
theorem tw_1139 : Cond.instanceMethod yX11_tastes ∈ wT := List.mem_filter.mpr ⟨List.mem_of_getElem? (i := 1139) (by decide +kernel), by decide +kernel⟩
theorem tw_1140 : Cond.selects (yX11_tastes).cls yX11_tastes yX11_tastes ∈ wT := List.mem_filter.mpr ⟨List.mem_of_getElem? (i := 1140) (by decide +kernel), by decide +kernel⟩
set_option maxRecDepth 100000 in
theorem tw_1141 : Cond.code yX11_tastes cX11_tastes 2 (some .int) ∈ wT := List.mem_filter.mpr ⟨List.mem_of_getElem? (i := 1141) rfl, by decide +kernel⟩
theorem tw_1156 : Cond.methodLink RL 108 yX11_tells ∈ wT := List.mem_filter.mpr ⟨List.mem_of_getElem? (i := 1156) (by decide +kernel), by decide +kernel⟩
theorem tw_1157 : Cond.instanceMethod yX11_tells ∈ wT := List.mem_filter.mpr ⟨List.mem_of_getElem? (i := 1157) (by decide +kernel), by decide +kernel⟩
theorem tw_1158 : Cond.selects (yX11_tells).cls yX11_tells yX11_tells ∈ wT := List.mem_filter.mpr ⟨List.mem_of_getElem? (i := 1158) (by decide +kernel), by decide +kernel⟩
set_option maxRecDepth 100000 in
theorem tw_1159 : Cond.code yX11_tells cX11_tells 4 (some .int) ∈ wT := List.mem_filter.mpr ⟨List.mem_of_getElem? (i := 1159) rfl, by decide +kernel⟩
theorem tw_1172 : Cond.methodLink RL 112 yX11_years ∈ wT := List.mem_filter.mpr ⟨List.mem_of_getElem? (i := 1172) (by decide +kernel), by decide +kernel⟩
theorem tw_1173 : Cond.instanceMethod yX11_years ∈ wT := List.mem_filter.mpr ⟨List.mem_of_getElem? (i := 1173) (by decide +kernel), by decide +kernel⟩
theorem tw_1174 : Cond.selects (yX11_years).cls yX11_years yX11_years ∈ wT := List.mem_filter.mpr ⟨List.mem_of_getElem? (i := 1174) (by decide +kernel), by decide +kernel⟩
set_option maxRecDepth 100000 in
theorem tw_1175 : Cond.code yX11_years cX11_years 4 (some .int) ∈ wT := List.mem_filter.mpr ⟨List.mem_of_getElem? (i := 1175) rfl, by decide +kernel⟩
theorem tw_1181 : Cond.methodLink RL 116 yX11_chance ∈ wT := List.mem_filter.mpr ⟨List.mem_of_getElem? (i := 1181) (by decide +kernel), by decide +kernel⟩
theorem tw_1182 : Cond.instanceMethod yX11_chance ∈ wT := List.mem_filter.mpr ⟨List.mem_of_getElem? (i := 1182) (by decide +kernel), by decide +kernel⟩
theorem tw_1183 : Cond.selects (yX11_chance).cls yX11_chance yX11_chance ∈ wT := List.mem_filter.mpr ⟨List.mem_of_getElem? (i := 1183) (by decide +kernel), by decide +kernel⟩
set_option maxRecDepth 100000 in
theorem tw_1184 : Cond.code yX11_chance cX11_chance 5 (some .int) ∈ wT := List.mem_filter.mpr ⟨List.mem_of_getElem? (i := 1184) rfl, by decide +kernel⟩
theorem tw_1192 : Cond.methodLink RL 120 yX11_paint ∈ wT := List.mem_filter.mpr ⟨List.mem_of_getElem? (i := 1192) (by decide +kernel), by decide +kernel⟩
theorem tw_1193 : Cond.instanceMethod yX11_paint ∈ wT := List.mem_filter.mpr ⟨List.mem_of_getElem? (i := 1193) (by decide +kernel), by decide +kernel⟩
theorem tw_1194 : Cond.selects (yX11_paint).cls yX11_paint yX11_paint ∈ wT := List.mem_filter.mpr ⟨List.mem_of_getElem? (i := 1194) (by decide +kernel), by decide +kernel⟩
set_option maxRecDepth 100000 in
theorem tw_1195 : Cond.code yX11_paint cX11_paint 3 (some .boolean) ∈ wT := List.mem_filter.mpr ⟨List.mem_of_getElem? (i := 1195) rfl, by decide +kernel⟩
theorem tw_1196 : Cond.methodLink RL 125 yX11_swap ∈ wT := List.mem_filter.mpr ⟨List.mem_of_getElem? (i := 1196) (by decide +kernel), by decide +kernel⟩
theorem tw_1197 : Cond.instanceMethod yX11_swap ∈ wT := List.mem_filter.mpr ⟨List.mem_of_getElem? (i := 1197) (by decide +kernel), by decide +kernel⟩
theorem tw_1198 : Cond.selects (yX11_swap).cls yX11_swap yX11_swap ∈ wT := List.mem_filter.mpr ⟨List.mem_of_getElem? (i := 1198) (by decide +kernel), by decide +kernel⟩
set_option maxRecDepth 100000 in
theorem tw_1199 : Cond.code yX11_swap cX11_swap 4 (some .boolean) ∈ wT := List.mem_filter.mpr ⟨List.mem_of_getElem? (i := 1199) rfl, by decide +kernel⟩
theorem tw_1200 : Cond.methodLink RL 129 yX11_fill ∈ wT := List.mem_filter.mpr ⟨List.mem_of_getElem? (i := 1200) (by decide +kernel), by decide +kernel⟩
theorem tw_1201 : Cond.instanceMethod yX11_fill ∈ wT := List.mem_filter.mpr ⟨List.mem_of_getElem? (i := 1201) (by decide +kernel), by decide +kernel⟩
theorem tw_1202 : Cond.selects (yX11_fill).cls yX11_fill yX11_fill ∈ wT := List.mem_filter.mpr ⟨List.mem_of_getElem? (i := 1202) (by decide +kernel), by decide +kernel⟩
set_option maxRecDepth 100000 in
theorem tw_1203 : Cond.code yX11_fill cX11_fill 2 (some .boolean) ∈ wT := List.mem_filter.mpr ⟨List.mem_of_getElem? (i := 1203) rfl, by decide +kernel⟩
theorem tw_1204 : Cond.methodLink RL 133 yX11_undo ∈ wT := List.mem_filter.mpr ⟨List.mem_of_getElem? (i := 1204) (by decide +kernel), by decide +kernel⟩
theorem tw_1205 : Cond.instanceMethod yX11_undo ∈ wT := List.mem_filter.mpr ⟨List.mem_of_getElem? (i := 1205) (by decide +kernel), by decide +kernel⟩
theorem tw_1206 : Cond.selects (yX11_undo).cls yX11_undo yX11_undo ∈ wT := List.mem_filter.mpr ⟨List.mem_of_getElem? (i := 1206) (by decide +kernel), by decide +kernel⟩
set_option maxRecDepth 100000 in
theorem tw_1207 : Cond.code yX11_undo cX11_undo 1 (some .boolean) ∈ wT := List.mem_filter.mpr ⟨List.mem_of_getElem? (i := 1207) rfl, by decide +kernel⟩
theorem tw_1212 : Cond.methodLink RL 138 yX11_seed ∈ wT := List.mem_filter.mpr ⟨List.mem_of_getElem? (i := 1212) (by decide +kernel), by decide +kernel⟩
theorem tw_1213 : Cond.instanceMethod yX11_seed ∈ wT := List.mem_filter.mpr ⟨List.mem_of_getElem? (i := 1213) (by decide +kernel), by decide +kernel⟩
theorem tw_1214 : Cond.selects (yX11_seed).cls yX11_seed yX11_seed ∈ wT := List.mem_filter.mpr ⟨List.mem_of_getElem? (i := 1214) (by decide +kernel), by decide +kernel⟩
set_option maxRecDepth 100000 in
theorem tw_1215 : Cond.code yX11_seed cX11_seed 2 (some .boolean) ∈ wT := List.mem_filter.mpr ⟨List.mem_of_getElem? (i := 1215) rfl, by decide +kernel⟩
theorem tw_1216 : Cond.methodLink RL 142 yX11_kept ∈ wT := List.mem_filter.mpr ⟨List.mem_of_getElem? (i := 1216) (by decide +kernel), by decide +kernel⟩
theorem tw_1217 : Cond.instanceMethod yX11_kept ∈ wT := List.mem_filter.mpr ⟨List.mem_of_getElem? (i := 1217) (by decide +kernel), by decide +kernel⟩
theorem tw_1218 : Cond.selects (yX11_kept).cls yX11_kept yX11_kept ∈ wT := List.mem_filter.mpr ⟨List.mem_of_getElem? (i := 1218) (by decide +kernel), by decide +kernel⟩
set_option maxRecDepth 100000 in
theorem tw_1219 : Cond.code yX11_kept cX11_kept 3 (some .int) ∈ wT := List.mem_filter.mpr ⟨List.mem_of_getElem? (i := 1219) rfl, by decide +kernel⟩
theorem tw_1224 : Cond.methodLink RL 146 yX11_image ∈ wT := List.mem_filter.mpr ⟨List.mem_of_getElem? (i := 1224) (by decide +kernel), by decide +kernel⟩
theorem tw_1225 : Cond.instanceMethod yX11_image ∈ wT := List.mem_filter.mpr ⟨List.mem_of_getElem? (i := 1225) (by decide +kernel), by decide +kernel⟩
theorem tw_1226 : Cond.selects (yX11_image).cls yX11_image yX11_image ∈ wT := List.mem_filter.mpr ⟨List.mem_of_getElem? (i := 1226) (by decide +kernel), by decide +kernel⟩
set_option maxRecDepth 100000 in
theorem tw_1227 : Cond.code yX11_image cX11_image 1 (some .int) ∈ wT := List.mem_filter.mpr ⟨List.mem_of_getElem? (i := 1227) rfl, by decide +kernel⟩
theorem tw_1236 : Cond.methodLink RL 150 yX11_octet ∈ wT := List.mem_filter.mpr ⟨List.mem_of_getElem? (i := 1236) (by decide +kernel), by decide +kernel⟩
theorem tw_1237 : Cond.instanceMethod yX11_octet ∈ wT := List.mem_filter.mpr ⟨List.mem_of_getElem? (i := 1237) (by decide +kernel), by decide +kernel⟩
theorem tw_1238 : Cond.selects (yX11_octet).cls yX11_octet yX11_octet ∈ wT := List.mem_filter.mpr ⟨List.mem_of_getElem? (i := 1238) (by decide +kernel), by decide +kernel⟩
set_option maxRecDepth 100000 in
theorem tw_1239 : Cond.code yX11_octet cX11_octet 2 (some .int) ∈ wT := List.mem_filter.mpr ⟨List.mem_of_getElem? (i := 1239) rfl, by decide +kernel⟩
theorem tw_1244 : Cond.methodLink RL 154 yX11_on ∈ wT := List.mem_filter.mpr ⟨List.mem_of_getElem? (i := 1244) (by decide +kernel), by decide +kernel⟩
theorem tw_1245 : Cond.instanceMethod yX11_on ∈ wT := List.mem_filter.mpr ⟨List.mem_of_getElem? (i := 1245) (by decide +kernel), by decide +kernel⟩
theorem tw_1246 : Cond.selects (yX11_on).cls yX11_on yX11_on ∈ wT := List.mem_filter.mpr ⟨List.mem_of_getElem? (i := 1246) (by decide +kernel), by decide +kernel⟩
set_option maxRecDepth 100000 in
theorem tw_1247 : Cond.code yX11_on cX11_on 2 (some .boolean) ∈ wT := List.mem_filter.mpr ⟨List.mem_of_getElem? (i := 1247) rfl, by decide +kernel⟩
theorem tw_1263 : Cond.methodLink RL 158 yX11_status ∈ wT := List.mem_filter.mpr ⟨List.mem_of_getElem? (i := 1263) (by decide +kernel), by decide +kernel⟩
theorem tw_1264 : Cond.instanceMethod yX11_status ∈ wT := List.mem_filter.mpr ⟨List.mem_of_getElem? (i := 1264) (by decide +kernel), by decide +kernel⟩
theorem tw_1265 : Cond.selects (yX11_status).cls yX11_status yX11_status ∈ wT := List.mem_filter.mpr ⟨List.mem_of_getElem? (i := 1265) (by decide +kernel), by decide +kernel⟩
set_option maxRecDepth 100000 in
theorem tw_1266 : Cond.code yX11_status cX11_status 2 (some .int) ∈ wT := List.mem_filter.mpr ⟨List.mem_of_getElem? (i := 1266) rfl, by decide +kernel⟩
theorem tw_1267 : Cond.classLink RL 10 RX12 ∈ wT := List.mem_filter.mpr ⟨List.mem_of_getElem? (i := 1267) (by decide +kernel), by decide +kernel⟩
theorem tw_1268 : Cond.instantiable RX12 69 ∈ wT := List.mem_filter.mpr ⟨List.mem_of_getElem? (i := 1268) (by decide +kernel), by decide +kernel⟩
theorem tw_1269 : Cond.methodLink RL 12 yX12_init ∈ wT := List.mem_filter.mpr ⟨List.mem_of_getElem? (i := 1269) (by decide +kernel), by decide +kernel⟩
theorem tw_1270 : Cond.instanceMethod yX12_init ∈ wT := List.mem_filter.mpr ⟨List.mem_of_getElem? (i := 1270) (by decide +kernel), by decide +kernel⟩
set_option maxRecDepth 100000 in
theorem tw_1271 : Cond.code yX12_init cX12_init 2 none ∈ wT := List.mem_filter.mpr ⟨List.mem_of_getElem? (i := 1271) rfl, by decide +kernel⟩
theorem tw_1482 : Cond.methodLink RL 17 yX12_feed ∈ wT := List.mem_filter.mpr ⟨List.mem_of_getElem? (i := 1482) (by decide +kernel), by decide +kernel⟩
theorem tw_1483 : Cond.instanceMethod yX12_feed ∈ wT := List.mem_filter.mpr ⟨List.mem_of_getElem? (i := 1483) (by decide +kernel), by decide +kernel⟩
theorem tw_1484 : Cond.selects (yX12_feed).cls yX12_feed yX12_feed ∈ wT := List.mem_filter.mpr ⟨List.mem_of_getElem? (i := 1484) (by decide +kernel), by decide +kernel⟩
set_option maxRecDepth 100000 in
theorem tw_1485 : Cond.code yX12_feed cX12_feed 6 (some .int) ∈ wT := List.mem_filter.mpr ⟨List.mem_of_getElem? (i := 1485) rfl, by decide +kernel⟩
theorem tw_1494 : Cond.methodLink RL 22 yX12_end ∈ wT := List.mem_filter.mpr ⟨List.mem_of_getElem? (i := 1494) (by decide +kernel), by decide +kernel⟩
theorem tw_1495 : Cond.instanceMethod yX12_end ∈ wT := List.mem_filter.mpr ⟨List.mem_of_getElem? (i := 1495) (by decide +kernel), by decide +kernel⟩
theorem tw_1496 : Cond.selects (yX12_end).cls yX12_end yX12_end ∈ wT := List.mem_filter.mpr ⟨List.mem_of_getElem? (i := 1496) (by decide +kernel), by decide +kernel⟩
set_option maxRecDepth 100000 in
theorem tw_1497 : Cond.code yX12_end cX12_end 2 (some .boolean) ∈ wT := List.mem_filter.mpr ⟨List.mem_of_getElem? (i := 1497) rfl, by decide +kernel⟩
theorem tw_1498 : Cond.methodLink RL 27 yX12_land ∈ wT := List.mem_filter.mpr ⟨List.mem_of_getElem? (i := 1498) (by decide +kernel), by decide +kernel⟩
theorem tw_1499 : Cond.instanceMethod yX12_land ∈ wT := List.mem_filter.mpr ⟨List.mem_of_getElem? (i := 1499) (by decide +kernel), by decide +kernel⟩
theorem tw_1500 : Cond.selects (yX12_land).cls yX12_land yX12_land ∈ wT := List.mem_filter.mpr ⟨List.mem_of_getElem? (i := 1500) (by decide +kernel), by decide +kernel⟩
set_option maxRecDepth 100000 in
theorem tw_1501 : Cond.code yX12_land cX12_land 2 (some .int) ∈ wT := List.mem_filter.mpr ⟨List.mem_of_getElem? (i := 1501) rfl, by decide +kernel⟩
theorem tw_1687 : Cond.methodLink RL 32 yX12_fault ∈ wT := List.mem_filter.mpr ⟨List.mem_of_getElem? (i := 1687) (by decide +kernel), by decide +kernel⟩
theorem tw_1688 : Cond.instanceMethod yX12_fault ∈ wT := List.mem_filter.mpr ⟨List.mem_of_getElem? (i := 1688) (by decide +kernel), by decide +kernel⟩
theorem tw_1689 : Cond.selects (yX12_fault).cls yX12_fault yX12_fault ∈ wT := List.mem_filter.mpr ⟨List.mem_of_getElem? (i := 1689) (by decide +kernel), by decide +kernel⟩
set_option maxRecDepth 100000 in
theorem tw_1690 : Cond.code yX12_fault cX12_fault 2 (some .int) ∈ wT := List.mem_filter.mpr ⟨List.mem_of_getElem? (i := 1690) rfl, by decide +kernel⟩
theorem tw_1691 : Cond.methodLink RL 161 yX12_status ∈ wT := List.mem_filter.mpr ⟨List.mem_of_getElem? (i := 1691) (by decide +kernel), by decide +kernel⟩
theorem tw_1692 : Cond.instanceMethod yX12_status ∈ wT := List.mem_filter.mpr ⟨List.mem_of_getElem? (i := 1692) (by decide +kernel), by decide +kernel⟩
theorem tw_1693 : Cond.selects (yX12_status).cls yX12_status yX12_status ∈ wT := List.mem_filter.mpr ⟨List.mem_of_getElem? (i := 1693) (by decide +kernel), by decide +kernel⟩
set_option maxRecDepth 100000 in
theorem tw_1694 : Cond.code yX12_status cX12_status 2 (some .int) ∈ wT := List.mem_filter.mpr ⟨List.mem_of_getElem? (i := 1694) rfl, by decide +kernel⟩
theorem tw_1695 : Cond.methodLink RL 137 yX12_undo ∈ wT := List.mem_filter.mpr ⟨List.mem_of_getElem? (i := 1695) (by decide +kernel), by decide +kernel⟩
theorem tw_1696 : Cond.instanceMethod yX12_undo ∈ wT := List.mem_filter.mpr ⟨List.mem_of_getElem? (i := 1696) (by decide +kernel), by decide +kernel⟩
theorem tw_1697 : Cond.selects (yX12_undo).cls yX12_undo yX12_undo ∈ wT := List.mem_filter.mpr ⟨List.mem_of_getElem? (i := 1697) (by decide +kernel), by decide +kernel⟩
set_option maxRecDepth 100000 in
theorem tw_1698 : Cond.code yX12_undo cX12_undo 1 (some .boolean) ∈ wT := List.mem_filter.mpr ⟨List.mem_of_getElem? (i := 1698) rfl, by decide +kernel⟩
theorem tw_1707 : Cond.methodLink RL 36 yX12_has ∈ wT := List.mem_filter.mpr ⟨List.mem_of_getElem? (i := 1707) (by decide +kernel), by decide +kernel⟩
theorem tw_1708 : Cond.instanceMethod yX12_has ∈ wT := List.mem_filter.mpr ⟨List.mem_of_getElem? (i := 1708) (by decide +kernel), by decide +kernel⟩
theorem tw_1709 : Cond.selects (yX12_has).cls yX12_has yX12_has ∈ wT := List.mem_filter.mpr ⟨List.mem_of_getElem? (i := 1709) (by decide +kernel), by decide +kernel⟩
set_option maxRecDepth 100000 in
theorem tw_1710 : Cond.code yX12_has cX12_has 2 (some .int) ∈ wT := List.mem_filter.mpr ⟨List.mem_of_getElem? (i := 1710) rfl, by decide +kernel⟩
theorem tw_1723 : Cond.methodLink RL 41 yX12_letter ∈ wT := List.mem_filter.mpr ⟨List.mem_of_getElem? (i := 1723) (by decide +kernel), by decide +kernel⟩
theorem tw_1724 : Cond.instanceMethod yX12_letter ∈ wT := List.mem_filter.mpr ⟨List.mem_of_getElem? (i := 1724) (by decide +kernel), by decide +kernel⟩
theorem tw_1725 : Cond.selects (yX12_letter).cls yX12_letter yX12_letter ∈ wT := List.mem_filter.mpr ⟨List.mem_of_getElem? (i := 1725) (by decide +kernel), by decide +kernel⟩
set_option maxRecDepth 100000 in
theorem tw_1726 : Cond.code yX12_letter cX12_letter 10 (some .int) ∈ wT := List.mem_filter.mpr ⟨List.mem_of_getElem? (i := 1726) rfl, by decide +kernel⟩
theorem tw_1740 : Cond.methodLink RL 46 yX12_blind ∈ wT := List.mem_filter.mpr ⟨List.mem_of_getElem? (i := 1740) (by decide +kernel), by decide +kernel⟩
theorem tw_1741 : Cond.instanceMethod yX12_blind ∈ wT := List.mem_filter.mpr ⟨List.mem_of_getElem? (i := 1741) (by decide +kernel), by decide +kernel⟩
theorem tw_1742 : Cond.selects (yX12_blind).cls yX12_blind yX12_blind ∈ wT := List.mem_filter.mpr ⟨List.mem_of_getElem? (i := 1742) (by decide +kernel), by decide +kernel⟩
set_option maxRecDepth 100000 in
theorem tw_1743 : Cond.code yX12_blind cX12_blind 3 (some .int) ∈ wT := List.mem_filter.mpr ⟨List.mem_of_getElem? (i := 1743) rfl, by decide +kernel⟩
theorem tw_1775 : Cond.methodLink RL 50 yX12_colour ∈ wT := List.mem_filter.mpr ⟨List.mem_of_getElem? (i := 1775) (by decide +kernel), by decide +kernel⟩
theorem tw_1776 : Cond.instanceMethod yX12_colour ∈ wT := List.mem_filter.mpr ⟨List.mem_of_getElem? (i := 1776) (by decide +kernel), by decide +kernel⟩
theorem tw_1777 : Cond.selects (yX12_colour).cls yX12_colour yX12_colour ∈ wT := List.mem_filter.mpr ⟨List.mem_of_getElem? (i := 1777) (by decide +kernel), by decide +kernel⟩
set_option maxRecDepth 100000 in
theorem tw_1778 : Cond.code yX12_colour cX12_colour 3 (some .int) ∈ wT := List.mem_filter.mpr ⟨List.mem_of_getElem? (i := 1778) rfl, by decide +kernel⟩
theorem tw_1779 : Cond.methodLink RL 54 yX12_thing ∈ wT := List.mem_filter.mpr ⟨List.mem_of_getElem? (i := 1779) (by decide +kernel), by decide +kernel⟩
theorem tw_1780 : Cond.instanceMethod yX12_thing ∈ wT := List.mem_filter.mpr ⟨List.mem_of_getElem? (i := 1780) (by decide +kernel), by decide +kernel⟩
theorem tw_1781 : Cond.selects (yX12_thing).cls yX12_thing yX12_thing ∈ wT := List.mem_filter.mpr ⟨List.mem_of_getElem? (i := 1781) (by decide +kernel), by decide +kernel⟩
set_option maxRecDepth 100000 in
theorem tw_1782 : Cond.code yX12_thing cX12_thing 3 (some .int) ∈ wT := List.mem_filter.mpr ⟨List.mem_of_getElem? (i := 1782) rfl, by decide +kernel⟩
theorem tw_1786 : Cond.methodLink RL 59 yX12_score ∈ wT := List.mem_filter.mpr ⟨List.mem_of_getElem? (i := 1786) (by decide +kernel), by decide +kernel⟩
theorem tw_1787 : Cond.instanceMethod yX12_score ∈ wT := List.mem_filter.mpr ⟨List.mem_of_getElem? (i := 1787) (by decide +kernel), by decide +kernel⟩
theorem tw_1788 : Cond.selects (yX12_score).cls yX12_score yX12_score ∈ wT := List.mem_filter.mpr ⟨List.mem_of_getElem? (i := 1788) (by decide +kernel), by decide +kernel⟩
set_option maxRecDepth 100000 in
theorem tw_1789 : Cond.code yX12_score cX12_score 4 (some .long) ∈ wT := List.mem_filter.mpr ⟨List.mem_of_getElem? (i := 1789) rfl, by decide +kernel⟩
theorem tw_1802 : Cond.methodLink RL 63 yX12_word ∈ wT := List.mem_filter.mpr ⟨List.mem_of_getElem? (i := 1802) (by decide +kernel), by decide +kernel⟩
theorem tw_1803 : Cond.instanceMethod yX12_word ∈ wT := List.mem_filter.mpr ⟨List.mem_of_getElem? (i := 1803) (by decide +kernel), by decide +kernel⟩
theorem tw_1804 : Cond.selects (yX12_word).cls yX12_word yX12_word ∈ wT := List.mem_filter.mpr ⟨List.mem_of_getElem? (i := 1804) (by decide +kernel), by decide +kernel⟩
set_option maxRecDepth 100000 in
theorem tw_1805 : Cond.code yX12_word cX12_word 3 (some .int) ∈ wT := List.mem_filter.mpr ⟨List.mem_of_getElem? (i := 1805) rfl, by decide +kernel⟩
theorem tw_1814 : Cond.methodLink RL 67 yX12_choice ∈ wT := List.mem_filter.mpr ⟨List.mem_of_getElem? (i := 1814) (by decide +kernel), by decide +kernel⟩
theorem tw_1815 : Cond.instanceMethod yX12_choice ∈ wT := List.mem_filter.mpr ⟨List.mem_of_getElem? (i := 1815) (by decide +kernel), by decide +kernel⟩
theorem tw_1816 : Cond.selects (yX12_choice).cls yX12_choice yX12_choice ∈ wT := List.mem_filter.mpr ⟨List.mem_of_getElem? (i := 1816) (by decide +kernel), by decide +kernel⟩
set_option maxRecDepth 100000 in
theorem tw_1817 : Cond.code yX12_choice cX12_choice 4 (some .int) ∈ wT := List.mem_filter.mpr ⟨List.mem_of_getElem? (i := 1817) rfl, by decide +kernel⟩
theorem tw_1834 : Cond.methodLink RL 71 yX12_later ∈ wT := List.mem_filter.mpr ⟨List.mem_of_getElem? (i := 1834) (by decide +kernel), by decide +kernel⟩
theorem tw_1835 : Cond.instanceMethod yX12_later ∈ wT := List.mem_filter.mpr ⟨List.mem_of_getElem? (i := 1835) (by decide +kernel), by decide +kernel⟩
theorem tw_1836 : Cond.selects (yX12_later).cls yX12_later yX12_later ∈ wT := List.mem_filter.mpr ⟨List.mem_of_getElem? (i := 1836) (by decide +kernel), by decide +kernel⟩
set_option maxRecDepth 100000 in
theorem tw_1837 : Cond.code yX12_later cX12_later 3 (some .int) ∈ wT := List.mem_filter.mpr ⟨List.mem_of_getElem? (i := 1837) rfl, by decide +kernel⟩
theorem tw_1863 : Cond.methodLink RL 75 yX12_mood ∈ wT := List.mem_filter.mpr ⟨List.mem_of_getElem? (i := 1863) (by decide +kernel), by decide +kernel⟩
theorem tw_1864 : Cond.instanceMethod yX12_mood ∈ wT := List.mem_filter.mpr ⟨List.mem_of_getElem? (i := 1864) (by decide +kernel), by decide +kernel⟩
theorem tw_1865 : Cond.selects (yX12_mood).cls yX12_mood yX12_mood ∈ wT := List.mem_filter.mpr ⟨List.mem_of_getElem? (i := 1865) (by decide +kernel), by decide +kernel⟩
set_option maxRecDepth 100000 in
theorem tw_1866 : Cond.code yX12_mood cX12_mood 3 (some .int) ∈ wT := List.mem_filter.mpr ⟨List.mem_of_getElem? (i := 1866) rfl, by decide +kernel⟩
theorem tw_1867 : Cond.methodLink RL 79 yX12_purse ∈ wT := List.mem_filter.mpr ⟨List.mem_of_getElem? (i := 1867) (by decide +kernel), by decide +kernel⟩
theorem tw_1868 : Cond.instanceMethod yX12_purse ∈ wT := List.mem_filter.mpr ⟨List.mem_of_getElem? (i := 1868) (by decide +kernel), by decide +kernel⟩
theorem tw_1869 : Cond.selects (yX12_purse).cls yX12_purse yX12_purse ∈ wT := List.mem_filter.mpr ⟨List.mem_of_getElem? (i := 1869) (by decide +kernel), by decide +kernel⟩
set_option maxRecDepth 100000 in
theorem tw_1870 : Cond.code yX12_purse cX12_purse 2 (some .int) ∈ wT := List.mem_filter.mpr ⟨List.mem_of_getElem? (i := 1870) rfl, by decide +kernel⟩
theorem tw_1871 : Cond.methodLink RL 83 yX12_order ∈ wT := List.mem_filter.mpr ⟨List.mem_of_getElem? (i := 1871) (by decide +kernel), by decide +kernel⟩
theorem tw_1872 : Cond.instanceMethod yX12_order ∈ wT := List.mem_filter.mpr ⟨List.mem_of_getElem? (i := 1872) (by decide +kernel), by decide +kernel⟩
theorem tw_1873 : Cond.selects (yX12_order).cls yX12_order yX12_order ∈ wT := List.mem_filter.mpr ⟨List.mem_of_getElem? (i := 1873) (by decide +kernel), by decide +kernel⟩
set_option maxRecDepth 100000 in
theorem tw_1874 : Cond.code yX12_order cX12_order 5 (some .int) ∈ wT := List.mem_filter.mpr ⟨List.mem_of_getElem? (i := 1874) rfl, by decide +kernel⟩
theorem tw_1883 : Cond.methodLink RL 87 yX12_orders ∈ wT := List.mem_filter.mpr ⟨List.mem_of_getElem? (i := 1883) (by decide +kernel), by decide +kernel⟩
theorem tw_1884 : Cond.instanceMethod yX12_orders ∈ wT := List.mem_filter.mpr ⟨List.mem_of_getElem? (i := 1884) (by decide +kernel), by decide +kernel⟩
theorem tw_1885 : Cond.selects (yX12_orders).cls yX12_orders yX12_orders ∈ wT := List.mem_filter.mpr ⟨List.mem_of_getElem? (i := 1885) (by decide +kernel), by decide +kernel⟩
set_option maxRecDepth 100000 in
theorem tw_1886 : Cond.code yX12_orders cX12_orders 5 (some .int) ∈ wT := List.mem_filter.mpr ⟨List.mem_of_getElem? (i := 1886) rfl, by decide +kernel⟩
theorem tw_1887 : Cond.methodLink RL 91 yX12_power ∈ wT := List.mem_filter.mpr ⟨List.mem_of_getElem? (i := 1887) (by decide +kernel), by decide +kernel⟩
theorem tw_1888 : Cond.instanceMethod yX12_power ∈ wT := List.mem_filter.mpr ⟨List.mem_of_getElem? (i := 1888) (by decide +kernel), by decide +kernel⟩
theorem tw_1889 : Cond.selects (yX12_power).cls yX12_power yX12_power ∈ wT := List.mem_filter.mpr ⟨List.mem_of_getElem? (i := 1889) (by decide +kernel), by decide +kernel⟩
set_option maxRecDepth 100000 in
theorem tw_1890 : Cond.code yX12_power cX12_power 6 (some .int) ∈ wT := List.mem_filter.mpr ⟨List.mem_of_getElem? (i := 1890) rfl, by decide +kernel⟩
theorem tw_1891 : Cond.methodLink RL 95 yX12_clear ∈ wT := List.mem_filter.mpr ⟨List.mem_of_getElem? (i := 1891) (by decide +kernel), by decide +kernel⟩
theorem tw_1892 : Cond.instanceMethod yX12_clear ∈ wT := List.mem_filter.mpr ⟨List.mem_of_getElem? (i := 1892) (by decide +kernel), by decide +kernel⟩
theorem tw_1893 : Cond.selects (yX12_clear).cls yX12_clear yX12_clear ∈ wT := List.mem_filter.mpr ⟨List.mem_of_getElem? (i := 1893) (by decide +kernel), by decide +kernel⟩
set_option maxRecDepth 100000 in
theorem tw_1894 : Cond.code yX12_clear cX12_clear 5 (some .int) ∈ wT := List.mem_filter.mpr ⟨List.mem_of_getElem? (i := 1894) rfl, by decide +kernel⟩
theorem tw_1903 : Cond.methodLink RL 99 yX12_odds ∈ wT := List.mem_filter.mpr ⟨List.mem_of_getElem? (i := 1903) (by decide +kernel), by decide +kernel⟩
theorem tw_1904 : Cond.instanceMethod yX12_odds ∈ wT := List.mem_filter.mpr ⟨List.mem_of_getElem? (i := 1904) (by decide +kernel), by decide +kernel⟩
theorem tw_1905 : Cond.selects (yX12_odds).cls yX12_odds yX12_odds ∈ wT := List.mem_filter.mpr ⟨List.mem_of_getElem? (i := 1905) (by decide +kernel), by decide +kernel⟩
set_option maxRecDepth 100000 in
theorem tw_1906 : Cond.code yX12_odds cX12_odds 5 (some .int) ∈ wT := List.mem_filter.mpr ⟨List.mem_of_getElem? (i := 1906) rfl, by decide +kernel⟩
theorem tw_1907 : Cond.methodLink RL 103 yX12_meet ∈ wT := List.mem_filter.mpr ⟨List.mem_of_getElem? (i := 1907) (by decide +kernel), by decide +kernel⟩
theorem tw_1908 : Cond.instanceMethod yX12_meet ∈ wT := List.mem_filter.mpr ⟨List.mem_of_getElem? (i := 1908) (by decide +kernel), by decide +kernel⟩
theorem tw_1909 : Cond.selects (yX12_meet).cls yX12_meet yX12_meet ∈ wT := List.mem_filter.mpr ⟨List.mem_of_getElem? (i := 1909) (by decide +kernel), by decide +kernel⟩
set_option maxRecDepth 100000 in
theorem tw_1910 : Cond.code yX12_meet cX12_meet 4 (some .int) ∈ wT := List.mem_filter.mpr ⟨List.mem_of_getElem? (i := 1910) rfl, by decide +kernel⟩
theorem tw_1911 : Cond.methodLink RL 107 yX12_tastes ∈ wT := List.mem_filter.mpr ⟨List.mem_of_getElem? (i := 1911) (by decide +kernel), by decide +kernel⟩
theorem tw_1912 : Cond.instanceMethod yX12_tastes ∈ wT := List.mem_filter.mpr ⟨List.mem_of_getElem? (i := 1912) (by decide +kernel), by decide +kernel⟩
theorem tw_1913 : Cond.selects (yX12_tastes).cls yX12_tastes yX12_tastes ∈ wT := List.mem_filter.mpr ⟨List.mem_of_getElem? (i := 1913) (by decide +kernel), by decide +kernel⟩
set_option maxRecDepth 100000 in
theorem tw_1914 : Cond.code yX12_tastes cX12_tastes 2 (some .int) ∈ wT := List.mem_filter.mpr ⟨List.mem_of_getElem? (i := 1914) rfl, by decide +kernel⟩
theorem tw_1919 : Cond.methodLink RL 111 yX12_tells ∈ wT := List.mem_filter.mpr ⟨List.mem_of_getElem? (i := 1919) (by decide +kernel), by decide +kernel⟩
theorem tw_1920 : Cond.instanceMethod yX12_tells ∈ wT := List.mem_filter.mpr ⟨List.mem_of_getElem? (i := 1920) (by decide +kernel), by decide +kernel⟩
theorem tw_1921 : Cond.selects (yX12_tells).cls yX12_tells yX12_tells ∈ wT := List.mem_filter.mpr ⟨List.mem_of_getElem? (i := 1921) (by decide +kernel), by decide +kernel⟩
set_option maxRecDepth 100000 in
theorem tw_1922 : Cond.code yX12_tells cX12_tells 9 (some .int) ∈ wT := List.mem_filter.mpr ⟨List.mem_of_getElem? (i := 1922) rfl, by decide +kernel⟩
theorem tw_1928 : Cond.methodLink RL 115 yX12_years ∈ wT := List.mem_filter.mpr ⟨List.mem_of_getElem? (i := 1928) (by decide +kernel), by decide +kernel⟩
theorem tw_1929 : Cond.instanceMethod yX12_years ∈ wT := List.mem_filter.mpr ⟨List.mem_of_getElem? (i := 1929) (by decide +kernel), by decide +kernel⟩
theorem tw_1930 : Cond.selects (yX12_years).cls yX12_years yX12_years ∈ wT := List.mem_filter.mpr ⟨List.mem_of_getElem? (i := 1930) (by decide +kernel), by decide +kernel⟩
set_option maxRecDepth 100000 in
theorem tw_1931 : Cond.code yX12_years cX12_years 4 (some .int) ∈ wT := List.mem_filter.mpr ⟨List.mem_of_getElem? (i := 1931) rfl, by decide +kernel⟩
theorem tw_1936 : Cond.methodLink RL 119 yX12_chance ∈ wT := List.mem_filter.mpr ⟨List.mem_of_getElem? (i := 1936) (by decide +kernel), by decide +kernel⟩
theorem tw_1937 : Cond.instanceMethod yX12_chance ∈ wT := List.mem_filter.mpr ⟨List.mem_of_getElem? (i := 1937) (by decide +kernel), by decide +kernel⟩
theorem tw_1938 : Cond.selects (yX12_chance).cls yX12_chance yX12_chance ∈ wT := List.mem_filter.mpr ⟨List.mem_of_getElem? (i := 1938) (by decide +kernel), by decide +kernel⟩
set_option maxRecDepth 100000 in
theorem tw_1939 : Cond.code yX12_chance cX12_chance 5 (some .int) ∈ wT := List.mem_filter.mpr ⟨List.mem_of_getElem? (i := 1939) rfl, by decide +kernel⟩
theorem tw_1948 : Cond.methodLink RL 124 yX12_paint ∈ wT := List.mem_filter.mpr ⟨List.mem_of_getElem? (i := 1948) (by decide +kernel), by decide +kernel⟩
theorem tw_1949 : Cond.instanceMethod yX12_paint ∈ wT := List.mem_filter.mpr ⟨List.mem_of_getElem? (i := 1949) (by decide +kernel), by decide +kernel⟩
theorem tw_1950 : Cond.selects (yX12_paint).cls yX12_paint yX12_paint ∈ wT := List.mem_filter.mpr ⟨List.mem_of_getElem? (i := 1950) (by decide +kernel), by decide +kernel⟩
set_option maxRecDepth 100000 in
theorem tw_1951 : Cond.code yX12_paint cX12_paint 3 (some .boolean) ∈ wT := List.mem_filter.mpr ⟨List.mem_of_getElem? (i := 1951) rfl, by decide +kernel⟩
theorem tw_1952 : Cond.methodLink RL 128 yX12_swap ∈ wT := List.mem_filter.mpr ⟨List.mem_of_getElem? (i := 1952) (by decide +kernel), by decide +kernel⟩
theorem tw_1953 : Cond.instanceMethod yX12_swap ∈ wT := List.mem_filter.mpr ⟨List.mem_of_getElem? (i := 1953) (by decide +kernel), by decide +kernel⟩
theorem tw_1954 : Cond.selects (yX12_swap).cls yX12_swap yX12_swap ∈ wT := List.mem_filter.mpr ⟨List.mem_of_getElem? (i := 1954) (by decide +kernel), by decide +kernel⟩
set_option maxRecDepth 100000 in
theorem tw_1955 : Cond.code yX12_swap cX12_swap 4 (some .boolean) ∈ wT := List.mem_filter.mpr ⟨List.mem_of_getElem? (i := 1955) rfl, by decide +kernel⟩
theorem tw_1956 : Cond.methodLink RL 132 yX12_fill ∈ wT := List.mem_filter.mpr ⟨List.mem_of_getElem? (i := 1956) (by decide +kernel), by decide +kernel⟩
theorem tw_1957 : Cond.instanceMethod yX12_fill ∈ wT := List.mem_filter.mpr ⟨List.mem_of_getElem? (i := 1957) (by decide +kernel), by decide +kernel⟩
theorem tw_1958 : Cond.selects (yX12_fill).cls yX12_fill yX12_fill ∈ wT := List.mem_filter.mpr ⟨List.mem_of_getElem? (i := 1958) (by decide +kernel), by decide +kernel⟩
set_option maxRecDepth 100000 in
theorem tw_1959 : Cond.code yX12_fill cX12_fill 2 (some .boolean) ∈ wT := List.mem_filter.mpr ⟨List.mem_of_getElem? (i := 1959) rfl, by decide +kernel⟩
theorem tw_1960 : Cond.methodLink RL 141 yX12_seed ∈ wT := List.mem_filter.mpr ⟨List.mem_of_getElem? (i := 1960) (by decide +kernel), by decide +kernel⟩
theorem tw_1961 : Cond.instanceMethod yX12_seed ∈ wT := List.mem_filter.mpr ⟨List.mem_of_getElem? (i := 1961) (by decide +kernel), by decide +kernel⟩
theorem tw_1962 : Cond.selects (yX12_seed).cls yX12_seed yX12_seed ∈ wT := List.mem_filter.mpr ⟨List.mem_of_getElem? (i := 1962) (by decide +kernel), by decide +kernel⟩
set_option maxRecDepth 100000 in
theorem tw_1963 : Cond.code yX12_seed cX12_seed 2 (some .boolean) ∈ wT := List.mem_filter.mpr ⟨List.mem_of_getElem? (i := 1963) rfl, by decide +kernel⟩
theorem tw_1964 : Cond.methodLink RL 145 yX12_kept ∈ wT := List.mem_filter.mpr ⟨List.mem_of_getElem? (i := 1964) (by decide +kernel), by decide +kernel⟩
theorem tw_1965 : Cond.instanceMethod yX12_kept ∈ wT := List.mem_filter.mpr ⟨List.mem_of_getElem? (i := 1965) (by decide +kernel), by decide +kernel⟩
theorem tw_1966 : Cond.selects (yX12_kept).cls yX12_kept yX12_kept ∈ wT := List.mem_filter.mpr ⟨List.mem_of_getElem? (i := 1966) (by decide +kernel), by decide +kernel⟩
set_option maxRecDepth 100000 in
theorem tw_1967 : Cond.code yX12_kept cX12_kept 3 (some .int) ∈ wT := List.mem_filter.mpr ⟨List.mem_of_getElem? (i := 1967) rfl, by decide +kernel⟩
theorem tw_1968 : Cond.methodLink RL 149 yX12_image ∈ wT := List.mem_filter.mpr ⟨List.mem_of_getElem? (i := 1968) (by decide +kernel), by decide +kernel⟩
theorem tw_1969 : Cond.instanceMethod yX12_image ∈ wT := List.mem_filter.mpr ⟨List.mem_of_getElem? (i := 1969) (by decide +kernel), by decide +kernel⟩
theorem tw_1970 : Cond.selects (yX12_image).cls yX12_image yX12_image ∈ wT := List.mem_filter.mpr ⟨List.mem_of_getElem? (i := 1970) (by decide +kernel), by decide +kernel⟩
set_option maxRecDepth 100000 in
theorem tw_1971 : Cond.code yX12_image cX12_image 3 (some .int) ∈ wT := List.mem_filter.mpr ⟨List.mem_of_getElem? (i := 1971) rfl, by decide +kernel⟩
theorem tw_1976 : Cond.methodLink RL 153 yX12_octet ∈ wT := List.mem_filter.mpr ⟨List.mem_of_getElem? (i := 1976) (by decide +kernel), by decide +kernel⟩
theorem tw_1977 : Cond.instanceMethod yX12_octet ∈ wT := List.mem_filter.mpr ⟨List.mem_of_getElem? (i := 1977) (by decide +kernel), by decide +kernel⟩
theorem tw_1978 : Cond.selects (yX12_octet).cls yX12_octet yX12_octet ∈ wT := List.mem_filter.mpr ⟨List.mem_of_getElem? (i := 1978) (by decide +kernel), by decide +kernel⟩
set_option maxRecDepth 100000 in
theorem tw_1979 : Cond.code yX12_octet cX12_octet 2 (some .int) ∈ wT := List.mem_filter.mpr ⟨List.mem_of_getElem? (i := 1979) rfl, by decide +kernel⟩
theorem tw_1980 : Cond.methodLink RL 157 yX12_on ∈ wT := List.mem_filter.mpr ⟨List.mem_of_getElem? (i := 1980) (by decide +kernel), by decide +kernel⟩
theorem tw_1981 : Cond.instanceMethod yX12_on ∈ wT := List.mem_filter.mpr ⟨List.mem_of_getElem? (i := 1981) (by decide +kernel), by decide +kernel⟩
theorem tw_1982 : Cond.selects (yX12_on).cls yX12_on yX12_on ∈ wT := List.mem_filter.mpr ⟨List.mem_of_getElem? (i := 1982) (by decide +kernel), by decide +kernel⟩
set_option maxRecDepth 100000 in
theorem tw_1983 : Cond.code yX12_on cX12_on 2 (some .boolean) ∈ wT := List.mem_filter.mpr ⟨List.mem_of_getElem? (i := 1983) rfl, by decide +kernel⟩
theorem ml_L_100 : wCV RL 100 yX11_meet cX11_meet 2 (some .int) 0 11 := ⟨⟨tw_1128, tw_120, tw_1131, by decide, by decide, by decide +kernel⟩, tw_1129, tw_1130, _, rfl, rfl, by decide⟩
theorem ml_L_103 : wCV RL 103 yX12_meet cX12_meet 4 (some .int) 0 12 := ⟨⟨tw_1907, tw_133, tw_1910, by decide, by decide, by decide +kernel⟩, tw_1908, tw_1909, _, rfl, rfl, by decide⟩
theorem ml_L_104 : wCV RL 104 yX11_tastes cX11_tastes 2 (some .int) 1 11 := ⟨⟨tw_1138, tw_120, tw_1141, by decide, by decide, by decide +kernel⟩, tw_1139, tw_1140, _, rfl, rfl, by decide⟩
theorem ml_L_107 : wCV RL 107 yX12_tastes cX12_tastes 2 (some .int) 1 12 := ⟨⟨tw_1911, tw_133, tw_1914, by decide, by decide, by decide +kernel⟩, tw_1912, tw_1913, _, rfl, rfl, by decide⟩
theorem ml_L_108 : wCV RL 108 yX11_tells cX11_tells 4 (some .int) 2 11 := ⟨⟨tw_1156, tw_120, tw_1159, by decide, by decide, by decide +kernel⟩, tw_1157, tw_1158, _, rfl, rfl, by decide⟩
theorem ml_L_111 : wCV RL 111 yX12_tells cX12_tells 9 (some .int) 2 12 := ⟨⟨tw_1919, tw_133, tw_1922, by decide, by decide, by decide +kernel⟩, tw_1920, tw_1921, _, rfl, rfl, by decide⟩
theorem ml_L_112 : wCV RL 112 yX11_years cX11_years 4 (some .int) 1 11 := ⟨⟨tw_1172, tw_120, tw_1175, by decide, by decide, by decide +kernel⟩, tw_1173, tw_1174, _, rfl, rfl, by decide⟩
theorem ml_L_115 : wCV RL 115 yX12_years cX12_years 4 (some .int) 1 12 := ⟨⟨tw_1928, tw_133, tw_1931, by decide, by decide, by decide +kernel⟩, tw_1929, tw_1930, _, rfl, rfl, by decide⟩
theorem ml_L_116 : wCV RL 116 yX11_chance cX11_chance 5 (some .int) 1 11 := ⟨⟨tw_1181, tw_120, tw_1184, by decide, by decide, by decide +kernel⟩, tw_1182, tw_1183, _, rfl, rfl, by decide⟩
theorem ml_L_119 : wCV RL 119 yX12_chance cX12_chance 5 (some .int) 1 12 := ⟨⟨tw_1936, tw_133, tw_1939, by decide, by decide, by decide +kernel⟩, tw_1937, tw_1938, _, rfl, rfl, by decide⟩
theorem ml_L_120 : wCV RL 120 yX11_paint cX11_paint 3 (some .boolean) 2 11 := ⟨⟨tw_1192, tw_120, tw_1195, by decide, by decide, by decide +kernel⟩, tw_1193, tw_1194, _, rfl, rfl, by decide⟩
theorem ml_L_124 : wCV RL 124 yX12_paint cX12_paint 3 (some .boolean) 2 12 := ⟨⟨tw_1948, tw_133, tw_1951, by decide, by decide, by decide +kernel⟩, tw_1949, tw_1950, _, rfl, rfl, by decide⟩
theorem ml_L_125 : wCV RL 125 yX11_swap cX11_swap 4 (some .boolean) 2 11 := ⟨⟨tw_1196, tw_120, tw_1199, by decide, by decide, by decide +kernel⟩, tw_1197, tw_1198, _, rfl, rfl, by decide⟩
theorem ml_L_128 : wCV RL 128 yX12_swap cX12_swap 4 (some .boolean) 2 12 := ⟨⟨tw_1952, tw_133, tw_1955, by decide, by decide, by decide +kernel⟩, tw_1953, tw_1954, _, rfl, rfl, by decide⟩
theorem ml_L_129 : wCV RL 129 yX11_fill cX11_fill 2 (some .boolean) 1 11 := ⟨⟨tw_1200, tw_120, tw_1203, by decide, by decide, by decide +kernel⟩, tw_1201, tw_1202, _, rfl, rfl, by decide⟩
theorem ml_L_13 : wCV RL 13 yX11_feed cX11_feed 6 (some .int) 5 11 := ⟨⟨tw_546, tw_120, tw_549, by decide, by decide, by decide +kernel⟩, tw_547, tw_548, _, rfl, rfl, by decide⟩
theorem ml_L_132 : wCV RL 132 yX12_fill cX12_fill 2 (some .boolean) 1 12 := ⟨⟨tw_1956, tw_133, tw_1959, by decide, by decide, by decide +kernel⟩, tw_1957, tw_1958, _, rfl, rfl, by decide⟩
theorem ml_L_133 : wCV RL 133 yX11_undo cX11_undo 1 (some .boolean) 0 11 := ⟨⟨tw_1204, tw_120, tw_1207, by decide, by decide, by decide +kernel⟩, tw_1205, tw_1206, _, rfl, rfl, by decide⟩
theorem ml_L_137 : wCV RL 137 yX12_undo cX12_undo 1 (some .boolean) 0 12 := ⟨⟨tw_1695, tw_133, tw_1698, by decide, by decide, by decide +kernel⟩, tw_1696, tw_1697, _, rfl, rfl, by decide⟩
theorem ml_L_138 : wCV RL 138 yX11_seed cX11_seed 2 (some .boolean) 1 11 := ⟨⟨tw_1212, tw_120, tw_1215, by decide, by decide, by decide +kernel⟩, tw_1213, tw_1214, _, rfl, rfl, by decide⟩
theorem ml_L_141 : wCV RL 141 yX12_seed cX12_seed 2 (some .boolean) 1 12 := ⟨⟨tw_1960, tw_133, tw_1963, by decide, by decide, by decide +kernel⟩, tw_1961, tw_1962, _, rfl, rfl, by decide⟩
theorem ml_L_142 : wCV RL 142 yX11_kept cX11_kept 3 (some .int) 2 11 := ⟨⟨tw_1216, tw_120, tw_1219, by decide, by decide, by decide +kernel⟩, tw_1217, tw_1218, _, rfl, rfl, by decide⟩
theorem ml_L_145 : wCV RL 145 yX12_kept cX12_kept 3 (some .int) 2 12 := ⟨⟨tw_1964, tw_133, tw_1967, by decide, by decide, by decide +kernel⟩, tw_1965, tw_1966, _, rfl, rfl, by decide⟩
theorem ml_L_146 : wCV RL 146 yX11_image cX11_image 1 (some .int) 0 11 := ⟨⟨tw_1224, tw_120, tw_1227, by decide, by decide, by decide +kernel⟩, tw_1225, tw_1226, _, rfl, rfl, by decide⟩
theorem ml_L_149 : wCV RL 149 yX12_image cX12_image 3 (some .int) 0 12 := ⟨⟨tw_1968, tw_133, tw_1971, by decide, by decide, by decide +kernel⟩, tw_1969, tw_1970, _, rfl, rfl, by decide⟩
theorem ml_L_150 : wCV RL 150 yX11_octet cX11_octet 2 (some .int) 1 11 := ⟨⟨tw_1236, tw_120, tw_1239, by decide, by decide, by decide +kernel⟩, tw_1237, tw_1238, _, rfl, rfl, by decide⟩
theorem ml_L_153 : wCV RL 153 yX12_octet cX12_octet 2 (some .int) 1 12 := ⟨⟨tw_1976, tw_133, tw_1979, by decide, by decide, by decide +kernel⟩, tw_1977, tw_1978, _, rfl, rfl, by decide⟩
theorem ml_L_154 : wCV RL 154 yX11_on cX11_on 2 (some .boolean) 0 11 := ⟨⟨tw_1244, tw_120, tw_1247, by decide, by decide, by decide +kernel⟩, tw_1245, tw_1246, _, rfl, rfl, by decide⟩
theorem ml_L_157 : wCV RL 157 yX12_on cX12_on 2 (some .boolean) 0 12 := ⟨⟨tw_1980, tw_133, tw_1983, by decide, by decide, by decide +kernel⟩, tw_1981, tw_1982, _, rfl, rfl, by decide⟩
theorem ml_L_158 : wCV RL 158 yX11_status cX11_status 2 (some .int) 1 11 := ⟨⟨tw_1263, tw_120, tw_1266, by decide, by decide, by decide +kernel⟩, tw_1264, tw_1265, _, rfl, rfl, by decide⟩
theorem ml_L_161 : wCV RL 161 yX12_status cX12_status 2 (some .int) 1 12 := ⟨⟨tw_1691, tw_133, tw_1694, by decide, by decide, by decide +kernel⟩, tw_1692, tw_1693, _, rfl, rfl, by decide⟩
theorem ml_L_17 : wCV RL 17 yX12_feed cX12_feed 6 (some .int) 5 12 := ⟨⟨tw_1482, tw_133, tw_1485, by decide, by decide, by decide +kernel⟩, tw_1483, tw_1484, _, rfl, rfl, by decide⟩
theorem ml_L_18 : wCV RL 18 yX11_end cX11_end 2 (some .boolean) 1 11 := ⟨⟨tw_558, tw_120, tw_561, by decide, by decide, by decide +kernel⟩, tw_559, tw_560, _, rfl, rfl, by decide⟩
theorem ml_L_22 : wCV RL 22 yX12_end cX12_end 2 (some .boolean) 1 12 := ⟨⟨tw_1494, tw_133, tw_1497, by decide, by decide, by decide +kernel⟩, tw_1495, tw_1496, _, rfl, rfl, by decide⟩
theorem ml_L_23 : wCV RL 23 yX11_land cX11_land 3 (some .int) 0 11 := ⟨⟨tw_566, tw_120, tw_569, by decide, by decide, by decide +kernel⟩, tw_567, tw_568, _, rfl, rfl, by decide⟩
theorem ml_L_27 : wCV RL 27 yX12_land cX12_land 2 (some .int) 0 12 := ⟨⟨tw_1498, tw_133, tw_1501, by decide, by decide, by decide +kernel⟩, tw_1499, tw_1500, _, rfl, rfl, by decide⟩
theorem ml_L_28 : wCV RL 28 yX11_fault cX11_fault 2 (some .int) 1 11 := ⟨⟨tw_872, tw_120, tw_875, by decide, by decide, by decide +kernel⟩, tw_873, tw_874, _, rfl, rfl, by decide⟩
theorem ml_L_32 : wCV RL 32 yX12_fault cX12_fault 2 (some .int) 1 12 := ⟨⟨tw_1687, tw_133, tw_1690, by decide, by decide, by decide +kernel⟩, tw_1688, tw_1689, _, rfl, rfl, by decide⟩
theorem ml_L_33 : wCV RL 33 yX11_has cX11_has 2 (some .int) 1 11 := ⟨⟨tw_876, tw_120, tw_879, by decide, by decide, by decide +kernel⟩, tw_877, tw_878, _, rfl, rfl, by decide⟩
theorem ml_L_36 : wCV RL 36 yX12_has cX12_has 2 (some .int) 1 12 := ⟨⟨tw_1707, tw_133, tw_1710, by decide, by decide, by decide +kernel⟩, tw_1708, tw_1709, _, rfl, rfl, by decide⟩
theorem ml_L_37 : wCV RL 37 yX11_letter cX11_letter 4 (some .int) 3 11 := ⟨⟨tw_892, tw_120, tw_895, by decide, by decide, by decide +kernel⟩, tw_893, tw_894, _, rfl, rfl, by decide⟩
theorem ml_L_41 : wCV RL 41 yX12_letter cX12_letter 10 (some .int) 3 12 := ⟨⟨tw_1723, tw_133, tw_1726, by decide, by decide, by decide +kernel⟩, tw_1724, tw_1725, _, rfl, rfl, by decide⟩
theorem ml_L_42 : wCV RL 42 yX11_blind cX11_blind 3 (some .int) 2 11 := ⟨⟨tw_905, tw_120, tw_908, by decide, by decide, by decide +kernel⟩, tw_906, tw_907, _, rfl, rfl, by decide⟩
theorem ml_L_46 : wCV RL 46 yX12_blind cX12_blind 3 (some .int) 2 12 := ⟨⟨tw_1740, tw_133, tw_1743, by decide, by decide, by decide +kernel⟩, tw_1741, tw_1742, _, rfl, rfl, by decide⟩
theorem ml_L_47 : wCV RL 47 yX11_colour cX11_colour 3 (some .int) 2 11 := ⟨⟨tw_951, tw_120, tw_954, by decide, by decide, by decide +kernel⟩, tw_952, tw_953, _, rfl, rfl, by decide⟩
theorem ml_L_50 : wCV RL 50 yX12_colour cX12_colour 3 (some .int) 2 12 := ⟨⟨tw_1775, tw_133, tw_1778, by decide, by decide, by decide +kernel⟩, tw_1776, tw_1777, _, rfl, rfl, by decide⟩
theorem ml_L_51 : wCV RL 51 yX11_thing cX11_thing 3 (some .int) 2 11 := ⟨⟨tw_955, tw_120, tw_958, by decide, by decide, by decide +kernel⟩, tw_956, tw_957, _, rfl, rfl, by decide⟩
theorem ml_L_54 : wCV RL 54 yX12_thing cX12_thing 3 (some .int) 2 12 := ⟨⟨tw_1779, tw_133, tw_1782, by decide, by decide, by decide +kernel⟩, tw_1780, tw_1781, _, rfl, rfl, by decide⟩
theorem ml_L_55 : wCV RL 55 yX11_score cX11_score 4 (some .long) 3 11 := ⟨⟨tw_965, tw_120, tw_968, by decide, by decide, by decide +kernel⟩, tw_966, tw_967, _, rfl, rfl, by decide⟩
theorem ml_L_59 : wCV RL 59 yX12_score cX12_score 4 (some .long) 3 12 := ⟨⟨tw_1786, tw_133, tw_1789, by decide, by decide, by decide +kernel⟩, tw_1787, tw_1788, _, rfl, rfl, by decide⟩
theorem ml_L_60 : wCV RL 60 yX11_word cX11_word 3 (some .int) 2 11 := ⟨⟨tw_985, tw_120, tw_988, by decide, by decide, by decide +kernel⟩, tw_986, tw_987, _, rfl, rfl, by decide⟩
theorem ml_L_63 : wCV RL 63 yX12_word cX12_word 3 (some .int) 2 12 := ⟨⟨tw_1802, tw_133, tw_1805, by decide, by decide, by decide +kernel⟩, tw_1803, tw_1804, _, rfl, rfl, by decide⟩
theorem ml_L_64 : wCV RL 64 yX11_choice cX11_choice 4 (some .int) 2 11 := ⟨⟨tw_994, tw_120, tw_997, by decide, by decide, by decide +kernel⟩, tw_995, tw_996, _, rfl, rfl, by decide⟩
theorem ml_L_67 : wCV RL 67 yX12_choice cX12_choice 4 (some .int) 2 12 := ⟨⟨tw_1814, tw_133, tw_1817, by decide, by decide, by decide +kernel⟩, tw_1815, tw_1816, _, rfl, rfl, by decide⟩
theorem ml_L_68 : wCV RL 68 yX11_later cX11_later 3 (some .int) 2 11 := ⟨⟨tw_1012, tw_120, tw_1015, by decide, by decide, by decide +kernel⟩, tw_1013, tw_1014, _, rfl, rfl, by decide⟩
theorem ml_L_71 : wCV RL 71 yX12_later cX12_later 3 (some .int) 2 12 := ⟨⟨tw_1834, tw_133, tw_1837, by decide, by decide, by decide +kernel⟩, tw_1835, tw_1836, _, rfl, rfl, by decide⟩
theorem ml_L_72 : wCV RL 72 yX11_mood cX11_mood 3 (some .int) 2 11 := ⟨⟨tw_1062, tw_120, tw_1065, by decide, by decide, by decide +kernel⟩, tw_1063, tw_1064, _, rfl, rfl, by decide⟩
theorem ml_L_75 : wCV RL 75 yX12_mood cX12_mood 3 (some .int) 2 12 := ⟨⟨tw_1863, tw_133, tw_1866, by decide, by decide, by decide +kernel⟩, tw_1864, tw_1865, _, rfl, rfl, by decide⟩
theorem ml_L_76 : wCV RL 76 yX11_purse cX11_purse 2 (some .int) 1 11 := ⟨⟨tw_1066, tw_120, tw_1069, by decide, by decide, by decide +kernel⟩, tw_1067, tw_1068, _, rfl, rfl, by decide⟩
theorem ml_L_79 : wCV RL 79 yX12_purse cX12_purse 2 (some .int) 1 12 := ⟨⟨tw_1867, tw_133, tw_1870, by decide, by decide, by decide +kernel⟩, tw_1868, tw_1869, _, rfl, rfl, by decide⟩
theorem ml_L_80 : wCV RL 80 yX11_order cX11_order 4 (some .int) 3 11 := ⟨⟨tw_1070, tw_120, tw_1073, by decide, by decide, by decide +kernel⟩, tw_1071, tw_1072, _, rfl, rfl, by decide⟩
theorem ml_L_83 : wCV RL 83 yX12_order cX12_order 5 (some .int) 3 12 := ⟨⟨tw_1871, tw_133, tw_1874, by decide, by decide, by decide +kernel⟩, tw_1872, tw_1873, _, rfl, rfl, by decide⟩
theorem ml_L_84 : wCV RL 84 yX11_orders cX11_orders 3 (some .int) 2 11 := ⟨⟨tw_1091, tw_120, tw_1094, by decide, by decide, by decide +kernel⟩, tw_1092, tw_1093, _, rfl, rfl, by decide⟩
theorem ml_L_87 : wCV RL 87 yX12_orders cX12_orders 5 (some .int) 2 12 := ⟨⟨tw_1883, tw_133, tw_1886, by decide, by decide, by decide +kernel⟩, tw_1884, tw_1885, _, rfl, rfl, by decide⟩
theorem ml_L_88 : wCV RL 88 yX11_power cX11_power 3 (some .int) 2 11 := ⟨⟨tw_1099, tw_120, tw_1102, by decide, by decide, by decide +kernel⟩, tw_1100, tw_1101, _, rfl, rfl, by decide⟩
theorem ml_L_91 : wCV RL 91 yX12_power cX12_power 6 (some .int) 2 12 := ⟨⟨tw_1887, tw_133, tw_1890, by decide, by decide, by decide +kernel⟩, tw_1888, tw_1889, _, rfl, rfl, by decide⟩
theorem ml_L_92 : wCV RL 92 yX11_clear cX11_clear 1 (some .int) 0 11 := ⟨⟨tw_1107, tw_120, tw_1110, by decide, by decide, by decide +kernel⟩, tw_1108, tw_1109, _, rfl, rfl, by decide⟩
theorem ml_L_95 : wCV RL 95 yX12_clear cX12_clear 5 (some .int) 0 12 := ⟨⟨tw_1891, tw_133, tw_1894, by decide, by decide, by decide +kernel⟩, tw_1892, tw_1893, _, rfl, rfl, by decide⟩
theorem ml_L_96 : wCV RL 96 yX11_odds cX11_odds 4 (some .int) 1 11 := ⟨⟨tw_1120, tw_120, tw_1123, by decide, by decide, by decide +kernel⟩, tw_1121, tw_1122, _, rfl, rfl, by decide⟩
theorem ml_L_99 : wCV RL 99 yX12_odds cX12_odds 5 (some .int) 1 12 := ⟨⟨tw_1903, tw_133, tw_1906, by decide, by decide, by decide +kernel⟩, tw_1904, tw_1905, _, rfl, rfl, by decide⟩
theorem nl_L_10 : wNL RL 10 12 := ⟨RX12, TX12, 69, tyX12, iwX12, rfl, tyX12_ok, tw_1267, tw_1268, tw_133, rfl, by decide, by decide +kernel⟩
theorem nl_L_7 : wNL RL 7 11 := ⟨RX11, TX11, 17, tyX11, iwX11, rfl, tyX11_ok, tw_142, tw_143, tw_120, rfl, by decide, by decide +kernel⟩
theorem ci_L_12 : wCI RL 12 yX12_init cX12_init 2 0 := ⟨⟨tw_1269, tw_133, tw_1271, by decide, by decide, by decide +kernel⟩, rfl, tw_1270⟩
theorem ci_L_9 : wCI RL 9 yX11_init cX11_init 1 0 := ⟨⟨tw_144, tw_120, tw_146, by decide, by decide, by decide +kernel⟩, rfl, tw_145⟩
