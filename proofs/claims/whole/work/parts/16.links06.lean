theorem tw_1025 : Cond.instanceMethod yX7_take ∈ wT := List.mem_filter.mpr ⟨List.mem_of_getElem? (i := 1025) (by decide +kernel), by decide +kernel⟩
theorem tw_1026 : Cond.selects (yX7_take).cls yX7_take yX7_take ∈ wT := List.mem_filter.mpr ⟨List.mem_of_getElem? (i := 1026) (by decide +kernel), by decide +kernel⟩
theorem tw_1027 : Cond.code yX7_take cX7_take 2 none ∈ wT := List.mem_filter.mpr ⟨List.mem_of_getElem? (i := 1027) (by decide +kernel), by decide +kernel⟩
theorem tw_1028 : Cond.methodLink RX7 42 arraycopyName ∈ wT := List.mem_filter.mpr ⟨List.mem_of_getElem? (i := 1028) (by decide +kernel), by decide +kernel⟩
theorem tw_1029 : Cond.static arraycopyName ∈ wT := List.mem_filter.mpr ⟨List.mem_of_getElem? (i := 1029) (by decide +kernel), by decide +kernel⟩
theorem tw_1030 : Cond.native arraycopyName ∈ wT := List.mem_filter.mpr ⟨List.mem_of_getElem? (i := 1030) (by decide +kernel), by decide +kernel⟩
theorem tw_1031 : Cond.methodLink RX11 278 yX0_pass ∈ wT := List.mem_filter.mpr ⟨List.mem_of_getElem? (i := 1031) (by decide +kernel), by decide +kernel⟩
theorem tw_1032 : Cond.instanceMethod yX0_pass ∈ wT := List.mem_filter.mpr ⟨List.mem_of_getElem? (i := 1032) (by decide +kernel), by decide +kernel⟩
theorem tw_1033 : Cond.selects (yX0_pass).cls yX0_pass yX0_pass ∈ wT := List.mem_filter.mpr ⟨List.mem_of_getElem? (i := 1033) (by decide +kernel), by decide +kernel⟩
theorem tw_1034 : Cond.code yX0_pass cX0_pass 10 (some .boolean) ∈ wT := List.mem_filter.mpr ⟨List.mem_of_getElem? (i := 1034) (by decide +kernel), by decide +kernel⟩
theorem tw_1035 : Cond.methodLink RX0 19 yX0_gift ∈ wT := List.mem_filter.mpr ⟨List.mem_of_getElem? (i := 1035) (by decide +kernel), by decide +kernel⟩
theorem tw_1037 : Cond.instanceMethod yX0_gift ∈ wT := List.mem_filter.mpr ⟨List.mem_of_getElem? (i := 1037) (by decide +kernel), by decide +kernel⟩
theorem tw_1038 : Cond.code yX0_gift cX0_gift 4 (some .int) ∈ wT := List.mem_filter.mpr ⟨List.mem_of_getElem? (i := 1038) (by decide +kernel), by decide +kernel⟩
theorem tw_1039 : Cond.methodLink RX0 62 yX3_hasCode ∈ wT := List.mem_filter.mpr ⟨List.mem_of_getElem? (i := 1039) (by decide +kernel), by decide +kernel⟩
theorem tw_1040 : Cond.methodLink RX0 68 yX8_put ∈ wT := List.mem_filter.mpr ⟨List.mem_of_getElem? (i := 1040) (by decide +kernel), by decide +kernel⟩
theorem tw_1041 : Cond.methodLink RX0 72 yX7_wornBy ∈ wT := List.mem_filter.mpr ⟨List.mem_of_getElem? (i := 1041) (by decide +kernel), by decide +kernel⟩
theorem tw_1042 : Cond.methodLink RX0 76 yX8_workOut ∈ wT := List.mem_filter.mpr ⟨List.mem_of_getElem? (i := 1042) (by decide +kernel), by decide +kernel⟩
theorem tw_1043 : Cond.methodLink RX0 38 yX3_everybody ∈ wT := List.mem_filter.mpr ⟨List.mem_of_getElem? (i := 1043) (by decide +kernel), by decide +kernel⟩
theorem tw_1044 : Cond.methodLink RX0 42 yX1_sit ∈ wT := List.mem_filter.mpr ⟨List.mem_of_getElem? (i := 1044) (by decide +kernel), by decide +kernel⟩
theorem tw_1045 : Cond.methodLink RX0 51 yX1_ask ∈ wT := List.mem_filter.mpr ⟨List.mem_of_getElem? (i := 1045) (by decide +kernel), by decide +kernel⟩
theorem tw_1046 : Cond.methodLink RX0 55 yX0_paintIfPaid ∈ wT := List.mem_filter.mpr ⟨List.mem_of_getElem? (i := 1046) (by decide +kernel), by decide +kernel⟩
theorem tw_1047 : Cond.static yX0_paintIfPaid ∈ wT := List.mem_filter.mpr ⟨List.mem_of_getElem? (i := 1047) (by decide +kernel), by decide +kernel⟩
theorem tw_1048 : Cond.code yX0_paintIfPaid cX0_paintIfPaid 5 (some .boolean) ∈ wT := List.mem_filter.mpr ⟨List.mem_of_getElem? (i := 1048) (by decide +kernel), by decide +kernel⟩
theorem tw_1049 : Cond.methodLink RX0 80 yX3_traitOf ∈ wT := List.mem_filter.mpr ⟨List.mem_of_getElem? (i := 1049) (by decide +kernel), by decide +kernel⟩
theorem tw_1050 : Cond.methodLink RX0 87 yX7_keep ∈ wT := List.mem_filter.mpr ⟨List.mem_of_getElem? (i := 1050) (by decide +kernel), by decide +kernel⟩
theorem tw_1051 : Cond.instanceMethod yX7_keep ∈ wT := List.mem_filter.mpr ⟨List.mem_of_getElem? (i := 1051) (by decide +kernel), by decide +kernel⟩
theorem tw_1052 : Cond.selects (yX7_keep).cls yX7_keep yX7_keep ∈ wT := List.mem_filter.mpr ⟨List.mem_of_getElem? (i := 1052) (by decide +kernel), by decide +kernel⟩
theorem tw_1053 : Cond.code yX7_keep cX7_keep 3 none ∈ wT := List.mem_filter.mpr ⟨List.mem_of_getElem? (i := 1053) (by decide +kernel), by decide +kernel⟩
theorem tw_1054 : Cond.methodLink RX0 59 yX0_changeMoods ∈ wT := List.mem_filter.mpr ⟨List.mem_of_getElem? (i := 1054) (by decide +kernel), by decide +kernel⟩
theorem tw_1056 : Cond.instanceMethod yX0_changeMoods ∈ wT := List.mem_filter.mpr ⟨List.mem_of_getElem? (i := 1056) (by decide +kernel), by decide +kernel⟩
theorem tw_1057 : Cond.code yX0_changeMoods cX0_changeMoods 6 none ∈ wT := List.mem_filter.mpr ⟨List.mem_of_getElem? (i := 1057) (by decide +kernel), by decide +kernel⟩
theorem tw_1058 : Cond.methodLink RX0 93 yX1_saidBy ∈ wT := List.mem_filter.mpr ⟨List.mem_of_getElem? (i := 1058) (by decide +kernel), by decide +kernel⟩
theorem tw_1059 : Cond.instanceMethod yX1_saidBy ∈ wT := List.mem_filter.mpr ⟨List.mem_of_getElem? (i := 1059) (by decide +kernel), by decide +kernel⟩
theorem tw_1060 : Cond.selects (yX1_saidBy).cls yX1_saidBy yX1_saidBy ∈ wT := List.mem_filter.mpr ⟨List.mem_of_getElem? (i := 1060) (by decide +kernel), by decide +kernel⟩
theorem tw_1061 : Cond.code yX1_saidBy cX1_saidBy 2 (some .int) ∈ wT := List.mem_filter.mpr ⟨List.mem_of_getElem? (i := 1061) (by decide +kernel), by decide +kernel⟩
theorem tw_1074 : Cond.methodLink RX11 233 yX1_firstOrder ∈ wT := List.mem_filter.mpr ⟨List.mem_of_getElem? (i := 1074) (by decide +kernel), by decide +kernel⟩
theorem tw_1075 : Cond.instanceMethod yX1_firstOrder ∈ wT := List.mem_filter.mpr ⟨List.mem_of_getElem? (i := 1075) (by decide +kernel), by decide +kernel⟩
theorem tw_1076 : Cond.selects (yX1_firstOrder).cls yX1_firstOrder yX1_firstOrder ∈ wT := List.mem_filter.mpr ⟨List.mem_of_getElem? (i := 1076) (by decide +kernel), by decide +kernel⟩
theorem tw_1077 : Cond.code yX1_firstOrder cX1_firstOrder 5 (some .boolean) ∈ wT := List.mem_filter.mpr ⟨List.mem_of_getElem? (i := 1077) (by decide +kernel), by decide +kernel⟩
theorem tw_1078 : Cond.methodLink RX1 109 yX1_beginOrders ∈ wT := List.mem_filter.mpr ⟨List.mem_of_getElem? (i := 1078) (by decide +kernel), by decide +kernel⟩
theorem tw_1080 : Cond.instanceMethod yX1_beginOrders ∈ wT := List.mem_filter.mpr ⟨List.mem_of_getElem? (i := 1080) (by decide +kernel), by decide +kernel⟩
theorem tw_1081 : Cond.code yX1_beginOrders cX1_beginOrders 4 (some .int) ∈ wT := List.mem_filter.mpr ⟨List.mem_of_getElem? (i := 1081) (by decide +kernel), by decide +kernel⟩
theorem tw_1082 : Cond.methodLink RX1 113 yX3_everybody ∈ wT := List.mem_filter.mpr ⟨List.mem_of_getElem? (i := 1082) (by decide +kernel), by decide +kernel⟩
theorem tw_1083 : Cond.methodLink RX1 117 yX1_ask ∈ wT := List.mem_filter.mpr ⟨List.mem_of_getElem? (i := 1083) (by decide +kernel), by decide +kernel⟩
theorem tw_1084 : Cond.methodLink RX1 121 yX1_nextOrder ∈ wT := List.mem_filter.mpr ⟨List.mem_of_getElem? (i := 1084) (by decide +kernel), by decide +kernel⟩
theorem tw_1086 : Cond.instanceMethod yX1_nextOrder ∈ wT := List.mem_filter.mpr ⟨List.mem_of_getElem? (i := 1086) (by decide +kernel), by decide +kernel⟩
theorem tw_1087 : Cond.code yX1_nextOrder cX1_nextOrder 7 none ∈ wT := List.mem_filter.mpr ⟨List.mem_of_getElem? (i := 1087) (by decide +kernel), by decide +kernel⟩
theorem tw_1088 : Cond.methodLink RX1 125 yX1_exchange ∈ wT := List.mem_filter.mpr ⟨List.mem_of_getElem? (i := 1088) (by decide +kernel), by decide +kernel⟩
theorem tw_1089 : Cond.static yX1_exchange ∈ wT := List.mem_filter.mpr ⟨List.mem_of_getElem? (i := 1089) (by decide +kernel), by decide +kernel⟩
theorem tw_1090 : Cond.code yX1_exchange cX1_exchange 4 none ∈ wT := List.mem_filter.mpr ⟨List.mem_of_getElem? (i := 1090) (by decide +kernel), by decide +kernel⟩
theorem tw_1095 : Cond.methodLink RX11 237 yX1_countOrders ∈ wT := List.mem_filter.mpr ⟨List.mem_of_getElem? (i := 1095) (by decide +kernel), by decide +kernel⟩
theorem tw_1096 : Cond.instanceMethod yX1_countOrders ∈ wT := List.mem_filter.mpr ⟨List.mem_of_getElem? (i := 1096) (by decide +kernel), by decide +kernel⟩
theorem tw_1097 : Cond.selects (yX1_countOrders).cls yX1_countOrders yX1_countOrders ∈ wT := List.mem_filter.mpr ⟨List.mem_of_getElem? (i := 1097) (by decide +kernel), by decide +kernel⟩
theorem tw_1098 : Cond.code yX1_countOrders cX1_countOrders 6 (some .int) ∈ wT := List.mem_filter.mpr ⟨List.mem_of_getElem? (i := 1098) (by decide +kernel), by decide +kernel⟩
theorem tw_1103 : Cond.methodLink RX11 240 yX1_powerOf ∈ wT := List.mem_filter.mpr ⟨List.mem_of_getElem? (i := 1103) (by decide +kernel), by decide +kernel⟩
theorem tw_1104 : Cond.instanceMethod yX1_powerOf ∈ wT := List.mem_filter.mpr ⟨List.mem_of_getElem? (i := 1104) (by decide +kernel), by decide +kernel⟩
theorem tw_1105 : Cond.selects (yX1_powerOf).cls yX1_powerOf yX1_powerOf ∈ wT := List.mem_filter.mpr ⟨List.mem_of_getElem? (i := 1105) (by decide +kernel), by decide +kernel⟩
theorem tw_1106 : Cond.code yX1_powerOf cX1_powerOf 4 (some .int) ∈ wT := List.mem_filter.mpr ⟨List.mem_of_getElem? (i := 1106) (by decide +kernel), by decide +kernel⟩
theorem tw_1111 : Cond.methodLink RX11 243 yX3_fewestToClear ∈ wT := List.mem_filter.mpr ⟨List.mem_of_getElem? (i := 1111) (by decide +kernel), by decide +kernel⟩
theorem tw_1112 : Cond.instanceMethod yX3_fewestToClear ∈ wT := List.mem_filter.mpr ⟨List.mem_of_getElem? (i := 1112) (by decide +kernel), by decide +kernel⟩
theorem tw_1113 : Cond.selects (yX3_fewestToClear).cls yX3_fewestToClear yX3_fewestToClear ∈ wT := List.mem_filter.mpr ⟨List.mem_of_getElem? (i := 1113) (by decide +kernel), by decide +kernel⟩
theorem tw_1114 : Cond.code yX3_fewestToClear cX3_fewestToClear 7 (some .int) ∈ wT := List.mem_filter.mpr ⟨List.mem_of_getElem? (i := 1114) (by decide +kernel), by decide +kernel⟩
theorem tw_1115 : Cond.methodLink RX3 70 yJ6_bitCount_0f7a4 ∈ wT := List.mem_filter.mpr ⟨List.mem_of_getElem? (i := 1115) (by decide +kernel), by decide +kernel⟩
theorem tw_1116 : Cond.methodLink RX3 76 arraycopyName ∈ wT := List.mem_filter.mpr ⟨List.mem_of_getElem? (i := 1116) (by decide +kernel), by decide +kernel⟩
theorem tw_1117 : Cond.methodLink RX3 82 yX3_canClear ∈ wT := List.mem_filter.mpr ⟨List.mem_of_getElem? (i := 1117) (by decide +kernel), by decide +kernel⟩
theorem tw_1118 : Cond.static yX3_canClear ∈ wT := List.mem_filter.mpr ⟨List.mem_of_getElem? (i := 1118) (by decide +kernel), by decide +kernel⟩
theorem tw_1119 : Cond.code yX3_canClear cX3_canClear 5 (some .boolean) ∈ wT := List.mem_filter.mpr ⟨List.mem_of_getElem? (i := 1119) (by decide +kernel), by decide +kernel⟩
theorem tw_1124 : Cond.methodLink RX11 247 yX1_oddsOf ∈ wT := List.mem_filter.mpr ⟨List.mem_of_getElem? (i := 1124) (by decide +kernel), by decide +kernel⟩
theorem tw_1125 : Cond.instanceMethod yX1_oddsOf ∈ wT := List.mem_filter.mpr ⟨List.mem_of_getElem? (i := 1125) (by decide +kernel), by decide +kernel⟩
theorem tw_1126 : Cond.selects (yX1_oddsOf).cls yX1_oddsOf yX1_oddsOf ∈ wT := List.mem_filter.mpr ⟨List.mem_of_getElem? (i := 1126) (by decide +kernel), by decide +kernel⟩
theorem tw_1127 : Cond.code yX1_oddsOf cX1_oddsOf 6 (some .int) ∈ wT := List.mem_filter.mpr ⟨List.mem_of_getElem? (i := 1127) (by decide +kernel), by decide +kernel⟩
theorem tw_1132 : Cond.methodLink RX11 250 yX2_take ∈ wT := List.mem_filter.mpr ⟨List.mem_of_getElem? (i := 1132) (by decide +kernel), by decide +kernel⟩
theorem tw_1133 : Cond.instanceMethod yX2_take ∈ wT := List.mem_filter.mpr ⟨List.mem_of_getElem? (i := 1133) (by decide +kernel), by decide +kernel⟩
theorem tw_1134 : Cond.selects (yX2_take).cls yX2_take yX2_take ∈ wT := List.mem_filter.mpr ⟨List.mem_of_getElem? (i := 1134) (by decide +kernel), by decide +kernel⟩
theorem tw_1135 : Cond.code yX2_take cX2_take 6 (some .boolean) ∈ wT := List.mem_filter.mpr ⟨List.mem_of_getElem? (i := 1135) (by decide +kernel), by decide +kernel⟩
theorem tw_1136 : Cond.methodLink RX2 51 yX9_byteAt ∈ wT := List.mem_filter.mpr ⟨List.mem_of_getElem? (i := 1136) (by decide +kernel), by decide +kernel⟩
theorem tw_1137 : Cond.methodLink RX2 57 yX3_isThere ∈ wT := List.mem_filter.mpr ⟨List.mem_of_getElem? (i := 1137) (by decide +kernel), by decide +kernel⟩
theorem tw_1142 : Cond.methodLink RX11 254 yX2_left ∈ wT := List.mem_filter.mpr ⟨List.mem_of_getElem? (i := 1142) (by decide +kernel), by decide +kernel⟩
theorem tw_1143 : Cond.instanceMethod yX2_left ∈ wT := List.mem_filter.mpr ⟨List.mem_of_getElem? (i := 1143) (by decide +kernel), by decide +kernel⟩
theorem tw_1144 : Cond.selects (yX2_left).cls yX2_left yX2_left ∈ wT := List.mem_filter.mpr ⟨List.mem_of_getElem? (i := 1144) (by decide +kernel), by decide +kernel⟩
theorem tw_1145 : Cond.code yX2_left cX2_left 9 (some .int) ∈ wT := List.mem_filter.mpr ⟨List.mem_of_getElem? (i := 1145) (by decide +kernel), by decide +kernel⟩
theorem tw_1146 : Cond.methodLink RX2 64 yX1_suppose ∈ wT := List.mem_filter.mpr ⟨List.mem_of_getElem? (i := 1146) (by decide +kernel), by decide +kernel⟩
theorem tw_1147 : Cond.instanceMethod yX1_suppose ∈ wT := List.mem_filter.mpr ⟨List.mem_of_getElem? (i := 1147) (by decide +kernel), by decide +kernel⟩
theorem tw_1148 : Cond.selects (yX1_suppose).cls yX1_suppose yX1_suppose ∈ wT := List.mem_filter.mpr ⟨List.mem_of_getElem? (i := 1148) (by decide +kernel), by decide +kernel⟩
theorem tw_1149 : Cond.code yX1_suppose cX1_suppose 3 none ∈ wT := List.mem_filter.mpr ⟨List.mem_of_getElem? (i := 1149) (by decide +kernel), by decide +kernel⟩
theorem tw_1150 : Cond.methodLink RX2 70 yX7_take ∈ wT := List.mem_filter.mpr ⟨List.mem_of_getElem? (i := 1150) (by decide +kernel), by decide +kernel⟩
theorem tw_1151 : Cond.methodLink RX2 74 yX2_agrees ∈ wT := List.mem_filter.mpr ⟨List.mem_of_getElem? (i := 1151) (by decide +kernel), by decide +kernel⟩
theorem tw_1153 : Cond.instanceMethod yX2_agrees ∈ wT := List.mem_filter.mpr ⟨List.mem_of_getElem? (i := 1153) (by decide +kernel), by decide +kernel⟩
theorem tw_1154 : Cond.code yX2_agrees cX2_agrees 4 (some .boolean) ∈ wT := List.mem_filter.mpr ⟨List.mem_of_getElem? (i := 1154) (by decide +kernel), by decide +kernel⟩
theorem tw_1155 : Cond.methodLink RX2 78 yX0_pass ∈ wT := List.mem_filter.mpr ⟨List.mem_of_getElem? (i := 1155) (by decide +kernel), by decide +kernel⟩
theorem tw_1160 : Cond.methodLink RX11 258 yX2_count ∈ wT := List.mem_filter.mpr ⟨List.mem_of_getElem? (i := 1160) (by decide +kernel), by decide +kernel⟩
theorem tw_1161 : Cond.instanceMethod yX2_count ∈ wT := List.mem_filter.mpr ⟨List.mem_of_getElem? (i := 1161) (by decide +kernel), by decide +kernel⟩
theorem tw_1162 : Cond.selects (yX2_count).cls yX2_count yX2_count ∈ wT := List.mem_filter.mpr ⟨List.mem_of_getElem? (i := 1162) (by decide +kernel), by decide +kernel⟩
theorem tw_1163 : Cond.code yX2_count cX2_count 8 none ∈ wT := List.mem_filter.mpr ⟨List.mem_of_getElem? (i := 1163) (by decide +kernel), by decide +kernel⟩
theorem tw_1164 : Cond.methodLink RX2 87 yJ7_fill_53178 ∈ wT := List.mem_filter.mpr ⟨List.mem_of_getElem? (i := 1164) (by decide +kernel), by decide +kernel⟩
theorem tw_1165 : Cond.methodLink RX2 96 yX2_slotOf ∈ wT := List.mem_filter.mpr ⟨List.mem_of_getElem? (i := 1165) (by decide +kernel), by decide +kernel⟩
theorem tw_1166 : Cond.static yX2_slotOf ∈ wT := List.mem_filter.mpr ⟨List.mem_of_getElem? (i := 1166) (by decide +kernel), by decide +kernel⟩
theorem tw_1167 : Cond.code yX2_slotOf cX2_slotOf 2 (some .int) ∈ wT := List.mem_filter.mpr ⟨List.mem_of_getElem? (i := 1167) (by decide +kernel), by decide +kernel⟩
theorem tw_1168 : Cond.methodLink RX11 261 yX2_findTelling ∈ wT := List.mem_filter.mpr ⟨List.mem_of_getElem? (i := 1168) (by decide +kernel), by decide +kernel⟩
theorem tw_1169 : Cond.instanceMethod yX2_findTelling ∈ wT := List.mem_filter.mpr ⟨List.mem_of_getElem? (i := 1169) (by decide +kernel), by decide +kernel⟩
theorem tw_1170 : Cond.selects (yX2_findTelling).cls yX2_findTelling yX2_findTelling ∈ wT := List.mem_filter.mpr ⟨List.mem_of_getElem? (i := 1170) (by decide +kernel), by decide +kernel⟩
theorem tw_1171 : Cond.code yX2_findTelling cX2_findTelling 8 none ∈ wT := List.mem_filter.mpr ⟨List.mem_of_getElem? (i := 1171) (by decide +kernel), by decide +kernel⟩
theorem tw_1176 : Cond.methodLink RX11 274 yX4_add ∈ wT := List.mem_filter.mpr ⟨List.mem_of_getElem? (i := 1176) (by decide +kernel), by decide +kernel⟩
theorem tw_1177 : Cond.instanceMethod yX4_add ∈ wT := List.mem_filter.mpr ⟨List.mem_of_getElem? (i := 1177) (by decide +kernel), by decide +kernel⟩
theorem tw_1178 : Cond.selects (yX4_add).cls yX4_add yX4_add ∈ wT := List.mem_filter.mpr ⟨List.mem_of_getElem? (i := 1178) (by decide +kernel), by decide +kernel⟩
theorem tw_1179 : Cond.code yX4_add cX4_add 2 none ∈ wT := List.mem_filter.mpr ⟨List.mem_of_getElem? (i := 1179) (by decide +kernel), by decide +kernel⟩
theorem tw_1180 : Cond.methodLink RX4 23 yX7_take ∈ wT := List.mem_filter.mpr ⟨List.mem_of_getElem? (i := 1180) (by decide +kernel), by decide +kernel⟩
theorem tw_1185 : Cond.methodLink RX11 282 yX11_draw ∈ wT := List.mem_filter.mpr ⟨List.mem_of_getElem? (i := 1185) (by decide +kernel), by decide +kernel⟩
theorem tw_1187 : Cond.instanceMethod yX11_draw ∈ wT := List.mem_filter.mpr ⟨List.mem_of_getElem? (i := 1187) (by decide +kernel), by decide +kernel⟩
theorem tw_1188 : Cond.code yX11_draw cX11_draw 2 (some .int) ∈ wT := List.mem_filter.mpr ⟨List.mem_of_getElem? (i := 1188) (by decide +kernel), by decide +kernel⟩
theorem tw_1208 : Cond.methodLink RX11 287 yX4_takeBack ∈ wT := List.mem_filter.mpr ⟨List.mem_of_getElem? (i := 1208) (by decide +kernel), by decide +kernel⟩
theorem tw_1209 : Cond.instanceMethod yX4_takeBack ∈ wT := List.mem_filter.mpr ⟨List.mem_of_getElem? (i := 1209) (by decide +kernel), by decide +kernel⟩
theorem tw_1210 : Cond.selects (yX4_takeBack).cls yX4_takeBack yX4_takeBack ∈ wT := List.mem_filter.mpr ⟨List.mem_of_getElem? (i := 1210) (by decide +kernel), by decide +kernel⟩
theorem tw_1211 : Cond.code yX4_takeBack cX4_takeBack 2 none ∈ wT := List.mem_filter.mpr ⟨List.mem_of_getElem? (i := 1211) (by decide +kernel), by decide +kernel⟩
theorem tw_1220 : Cond.methodLink RX11 290 yX7_keptOf ∈ wT := List.mem_filter.mpr ⟨List.mem_of_getElem? (i := 1220) (by decide +kernel), by decide +kernel⟩
theorem tw_1221 : Cond.instanceMethod yX7_keptOf ∈ wT := List.mem_filter.mpr ⟨List.mem_of_getElem? (i := 1221) (by decide +kernel), by decide +kernel⟩
theorem tw_1222 : Cond.selects (yX7_keptOf).cls yX7_keptOf yX7_keptOf ∈ wT := List.mem_filter.mpr ⟨List.mem_of_getElem? (i := 1222) (by decide +kernel), by decide +kernel⟩
theorem tw_1223 : Cond.code yX7_keptOf cX7_keptOf 3 (some .int) ∈ wT := List.mem_filter.mpr ⟨List.mem_of_getElem? (i := 1223) (by decide +kernel), by decide +kernel⟩
theorem tw_1228 : Cond.methodLink RX11 293 yX5_write ∈ wT := List.mem_filter.mpr ⟨List.mem_of_getElem? (i := 1228) (by decide +kernel), by decide +kernel⟩
theorem tw_1229 : Cond.instanceMethod yX5_write ∈ wT := List.mem_filter.mpr ⟨List.mem_of_getElem? (i := 1229) (by decide +kernel), by decide +kernel⟩
theorem tw_1230 : Cond.selects (yX5_write).cls yX5_write yX5_write ∈ wT := List.mem_filter.mpr ⟨List.mem_of_getElem? (i := 1230) (by decide +kernel), by decide +kernel⟩
theorem tw_1231 : Cond.code yX5_write cX5_write 6 none ∈ wT := List.mem_filter.mpr ⟨List.mem_of_getElem? (i := 1231) (by decide +kernel), by decide +kernel⟩
theorem tw_1232 : Cond.methodLink RX5 24 yX5_add ∈ wT := List.mem_filter.mpr ⟨List.mem_of_getElem? (i := 1232) (by decide +kernel), by decide +kernel⟩
theorem tw_1234 : Cond.instanceMethod yX5_add ∈ wT := List.mem_filter.mpr ⟨List.mem_of_getElem? (i := 1234) (by decide +kernel), by decide +kernel⟩
theorem tw_1235 : Cond.code yX5_add cX5_add 2 none ∈ wT := List.mem_filter.mpr ⟨List.mem_of_getElem? (i := 1235) (by decide +kernel), by decide +kernel⟩
theorem tw_1240 : Cond.methodLink RX11 298 yX5_byteAt ∈ wT := List.mem_filter.mpr ⟨List.mem_of_getElem? (i := 1240) (by decide +kernel), by decide +kernel⟩
theorem tw_1241 : Cond.instanceMethod yX5_byteAt ∈ wT := List.mem_filter.mpr ⟨List.mem_of_getElem? (i := 1241) (by decide +kernel), by decide +kernel⟩
theorem tw_1242 : Cond.selects (yX5_byteAt).cls yX5_byteAt yX5_byteAt ∈ wT := List.mem_filter.mpr ⟨List.mem_of_getElem? (i := 1242) (by decide +kernel), by decide +kernel⟩
theorem tw_1243 : Cond.code yX5_byteAt cX5_byteAt 2 (some .int) ∈ wT := List.mem_filter.mpr ⟨List.mem_of_getElem? (i := 1243) (by decide +kernel), by decide +kernel⟩
theorem tw_1248 : Cond.methodLink RX11 301 yX5_fits ∈ wT := List.mem_filter.mpr ⟨List.mem_of_getElem? (i := 1248) (by decide +kernel), by decide +kernel⟩
theorem tw_1249 : Cond.static yX5_fits ∈ wT := List.mem_filter.mpr ⟨List.mem_of_getElem? (i := 1249) (by decide +kernel), by decide +kernel⟩
theorem tw_1250 : Cond.code yX5_fits cX5_fits 7 (some .boolean) ∈ wT := List.mem_filter.mpr ⟨List.mem_of_getElem? (i := 1250) (by decide +kernel), by decide +kernel⟩
theorem tw_1251 : Cond.methodLink RX5 48 yX5_isChecked ∈ wT := List.mem_filter.mpr ⟨List.mem_of_getElem? (i := 1251) (by decide +kernel), by decide +kernel⟩
theorem tw_1252 : Cond.static yX5_isChecked ∈ wT := List.mem_filter.mpr ⟨List.mem_of_getElem? (i := 1252) (by decide +kernel), by decide +kernel⟩
theorem tw_1253 : Cond.code yX5_isChecked cX5_isChecked 3 (some .boolean) ∈ wT := List.mem_filter.mpr ⟨List.mem_of_getElem? (i := 1253) (by decide +kernel), by decide +kernel⟩
theorem tw_1254 : Cond.methodLink RX5 56 yX9_byteAt ∈ wT := List.mem_filter.mpr ⟨List.mem_of_getElem? (i := 1254) (by decide +kernel), by decide +kernel⟩
theorem tw_1255 : Cond.methodLink RX5 52 yX5_pairAt ∈ wT := List.mem_filter.mpr ⟨List.mem_of_getElem? (i := 1255) (by decide +kernel), by decide +kernel⟩
theorem tw_1256 : Cond.static yX5_pairAt ∈ wT := List.mem_filter.mpr ⟨List.mem_of_getElem? (i := 1256) (by decide +kernel), by decide +kernel⟩
theorem tw_1257 : Cond.code yX5_pairAt cX5_pairAt 2 (some .int) ∈ wT := List.mem_filter.mpr ⟨List.mem_of_getElem? (i := 1257) (by decide +kernel), by decide +kernel⟩
theorem tw_1258 : Cond.methodLink RX5 60 yX3_isThere ∈ wT := List.mem_filter.mpr ⟨List.mem_of_getElem? (i := 1258) (by decide +kernel), by decide +kernel⟩
theorem tw_1259 : Cond.methodLink RX5 64 yX3_everybody ∈ wT := List.mem_filter.mpr ⟨List.mem_of_getElem? (i := 1259) (by decide +kernel), by decide +kernel⟩
theorem tw_1260 : Cond.methodLink RX11 304 yX5_show ∈ wT := List.mem_filter.mpr ⟨List.mem_of_getElem? (i := 1260) (by decide +kernel), by decide +kernel⟩
theorem tw_1261 : Cond.static yX5_show ∈ wT := List.mem_filter.mpr ⟨List.mem_of_getElem? (i := 1261) (by decide +kernel), by decide +kernel⟩
theorem tw_1262 : Cond.code yX5_show cX5_show 6 none ∈ wT := List.mem_filter.mpr ⟨List.mem_of_getElem? (i := 1262) (by decide +kernel), by decide +kernel⟩
theorem tw_1272 : Cond.methodLink RX12 1 objectInit ∈ wT := List.mem_filter.mpr ⟨List.mem_of_getElem? (i := 1272) (by decide +kernel), by decide +kernel⟩
theorem tw_1273 : Cond.fieldLink RX12 7 RX12 (TX12 0).2.1 (TX12 0).2.2.1 ∈ wT := List.mem_filter.mpr ⟨List.mem_of_getElem? (i := 1273) (by decide +kernel), by decide +kernel⟩
theorem tw_1274 : Cond.fieldLink RX12 13 RX12 (TX12 1).2.1 (TX12 1).2.2.1 ∈ wT := List.mem_filter.mpr ⟨List.mem_of_getElem? (i := 1274) (by decide +kernel), by decide +kernel⟩
theorem tw_1275 : Cond.fieldLink RX12 17 RX12 (TX12 2).2.1 (TX12 2).2.2.1 ∈ wT := List.mem_filter.mpr ⟨List.mem_of_getElem? (i := 1275) (by decide +kernel), by decide +kernel⟩
theorem tw_1276 : Cond.fieldLink RX12 20 RX12 (TX12 3).2.1 (TX12 3).2.2.1 ∈ wT := List.mem_filter.mpr ⟨List.mem_of_getElem? (i := 1276) (by decide +kernel), by decide +kernel⟩
theorem tw_1277 : Cond.fieldLink RX12 23 RX12 (TX12 4).2.1 (TX12 4).2.2.1 ∈ wT := List.mem_filter.mpr ⟨List.mem_of_getElem? (i := 1277) (by decide +kernel), by decide +kernel⟩
