theorem tw_1230 : Cond.selects (yX5_write).cls yX5_write yX5_write ∈ wT := List.mem_filter.mpr ⟨List.mem_of_getElem? (i := 1230) (by decide +kernel), by decide +kernel⟩
theorem tw_1231 : Cond.code yX5_write cX5_write 6 none ∈ wT := List.mem_filter.mpr ⟨List.mem_of_getElem? (i := 1231) (by decide +kernel), by decide +kernel⟩
theorem tw_1232 : Cond.methodLink RX5 24 yX5_add ∈ wT := List.mem_filter.mpr ⟨List.mem_of_getElem? (i := 1232) (by decide +kernel), by decide +kernel⟩
theorem tw_1234 : Cond.instanceMethod yX5_add ∈ wT := List.mem_filter.mpr ⟨List.mem_of_getElem? (i := 1234) (by decide +kernel), by decide +kernel⟩
theorem tw_1235 : Cond.code yX5_add cX5_add 2 none ∈ wT := List.mem_filter.mpr ⟨List.mem_of_getElem? (i := 1235) (by decide +kernel), by decide +kernel⟩
theorem tw_1240 : Cond.methodLink RX11 298 yX5_byteAt ∈ wT := List.mem_filter.mpr ⟨List.mem_of_getElem? (i := 1240) (by decide +kernel), by decide +kernel⟩
theorem tw_1241 : Cond.instanceMethod yX5_byteAt ∈ wT := List.mem_filter.mpr ⟨List.mem_of_getElem? (i := 1241) (by decide +kernel), by decide +kernel⟩
theorem tw_1242 : Cond.selects (yX5_byteAt).cls yX5_byteAt yX5_byteAt ∈ wT := List.mem_filter.mpr ⟨List.mem_of_getElem? (i := 1242) (by decide +kernel), by decide +kernel⟩
theorem tw_1243 : Cond.code yX5_byteAt cX5_byteAt 2 (some .int) ∈ wT := List.mem_filter.mpr ⟨List.mem_of_getElem? (i := 1243) (by decide +kernel), by decide +kernel⟩
theorem tw_1248 : Cond.methodLink RX11 301 yX5_fits ∈ wT := List.mem_filter.mpr ⟨List.mem_of_getElem? (i := 1248) (by decide +kernel), by decide +kernel⟩
theorem tw_1249 : Cond.static yX5_fits ∈ wT := List.mem_filter.mpr ⟨List.mem_of_getElem? (i := 1249) (by decide +kernel), by decide +kernel⟩
theorem tw_1250 : Cond.code yX5_fits cX5_fits 7 (some .boolean) ∈ wT := List.mem_filter.mpr ⟨List.mem_of_getElem? (i := 1250) (by decide +kernel), by decide +kernel⟩
theorem tw_1251 : Cond.methodLink RX5 48 yX5_isChecked ∈ wT := List.mem_filter.mpr ⟨List.mem_of_getElem? (i := 1251) (by decide +kernel), by decide +kernel⟩
theorem tw_1252 : Cond.static yX5_isChecked ∈ wT := List.mem_filter.mpr ⟨List.mem_of_getElem? (i := 1252) (by decide +kernel), by decide +kernel⟩
theorem tw_1253 : Cond.code yX5_isChecked cX5_isChecked 3 (some .boolean) ∈ wT := List.mem_filter.mpr ⟨List.mem_of_getElem? (i := 1253) (by decide +kernel), by decide +kernel⟩
theorem tw_1254 : Cond.methodLink RX5 56 yX9_byteAt ∈ wT := List.mem_filter.mpr ⟨List.mem_of_getElem? (i := 1254) (by decide +kernel), by decide +kernel⟩
theorem tw_1255 : Cond.methodLink RX5 52 yX5_pairAt ∈ wT := List.mem_filter.mpr ⟨List.mem_of_getElem? (i := 1255) (by decide +kernel), by decide +kernel⟩
theorem tw_1256 : Cond.static yX5_pairAt ∈ wT := List.mem_filter.mpr ⟨List.mem_of_getElem? (i := 1256) (by decide +kernel), by decide +kernel⟩
theorem tw_1257 : Cond.code yX5_pairAt cX5_pairAt 2 (some .int) ∈ wT := List.mem_filter.mpr ⟨List.mem_of_getElem? (i := 1257) (by decide +kernel), by decide +kernel⟩
theorem tw_1258 : Cond.methodLink RX5 60 yX3_isThere ∈ wT := List.mem_filter.mpr ⟨List.mem_of_getElem? (i := 1258) (by decide +kernel), by decide +kernel⟩
theorem tw_1259 : Cond.methodLink RX5 64 yX3_everybody ∈ wT := List.mem_filter.mpr ⟨List.mem_of_getElem? (i := 1259) (by decide +kernel), by decide +kernel⟩
theorem tw_1260 : Cond.methodLink RX11 304 yX5_show ∈ wT := List.mem_filter.mpr ⟨List.mem_of_getElem? (i := 1260) (by decide +kernel), by decide +kernel⟩
theorem tw_1261 : Cond.static yX5_show ∈ wT := List.mem_filter.mpr ⟨List.mem_of_getElem? (i := 1261) (by decide +kernel), by decide +kernel⟩
theorem tw_1262 : Cond.code yX5_show cX5_show 6 none ∈ wT := List.mem_filter.mpr ⟨List.mem_of_getElem? (i := 1262) (by decide +kernel), by decide +kernel⟩
theorem tw_1272 : Cond.methodLink RX12 1 objectInit ∈ wT := List.mem_filter.mpr ⟨List.mem_of_getElem? (i := 1272) (by decide +kernel), by decide +kernel⟩
theorem tw_1273 : Cond.fieldLink RX12 7 RX12 (TX12 0).2.1 (TX12 0).2.2.1 ∈ wT := List.mem_filter.mpr ⟨List.mem_of_getElem? (i := 1273) (by decide +kernel), by decide +kernel⟩
theorem tw_1274 : Cond.fieldLink RX12 13 RX12 (TX12 1).2.1 (TX12 1).2.2.1 ∈ wT := List.mem_filter.mpr ⟨List.mem_of_getElem? (i := 1274) (by decide +kernel), by decide +kernel⟩
theorem tw_1275 : Cond.fieldLink RX12 17 RX12 (TX12 2).2.1 (TX12 2).2.2.1 ∈ wT := List.mem_filter.mpr ⟨List.mem_of_getElem? (i := 1275) (by decide +kernel), by decide +kernel⟩
theorem tw_1276 : Cond.fieldLink RX12 20 RX12 (TX12 3).2.1 (TX12 3).2.2.1 ∈ wT := List.mem_filter.mpr ⟨List.mem_of_getElem? (i := 1276) (by decide +kernel), by decide +kernel⟩
theorem tw_1277 : Cond.fieldLink RX12 23 RX12 (TX12 4).2.1 (TX12 4).2.2.1 ∈ wT := List.mem_filter.mpr ⟨List.mem_of_getElem? (i := 1277) (by decide +kernel), by decide +kernel⟩
theorem tw_1278 : Cond.fieldLink RX12 26 RX12 (TX12 5).2.1 (TX12 5).2.2.1 ∈ wT := List.mem_filter.mpr ⟨List.mem_of_getElem? (i := 1278) (by decide +kernel), by decide +kernel⟩
theorem tw_1279 : Cond.fieldLink RX12 29 RX12 (TX12 6).2.1 (TX12 6).2.2.1 ∈ wT := List.mem_filter.mpr ⟨List.mem_of_getElem? (i := 1279) (by decide +kernel), by decide +kernel⟩
theorem tw_1280 : Cond.fieldLink RX12 32 RX12 (TX12 7).2.1 (TX12 7).2.2.1 ∈ wT := List.mem_filter.mpr ⟨List.mem_of_getElem? (i := 1280) (by decide +kernel), by decide +kernel⟩
theorem tw_1281 : Cond.fieldLink RX12 36 RX12 (TX12 8).2.1 (TX12 8).2.2.1 ∈ wT := List.mem_filter.mpr ⟨List.mem_of_getElem? (i := 1281) (by decide +kernel), by decide +kernel⟩
theorem tw_1282 : Cond.fieldLink RX12 39 RX12 (TX12 9).2.1 (TX12 9).2.2.1 ∈ wT := List.mem_filter.mpr ⟨List.mem_of_getElem? (i := 1282) (by decide +kernel), by decide +kernel⟩
theorem tw_1283 : Cond.fieldLink RX12 42 RX12 (TX12 10).2.1 (TX12 10).2.2.1 ∈ wT := List.mem_filter.mpr ⟨List.mem_of_getElem? (i := 1283) (by decide +kernel), by decide +kernel⟩
theorem tw_1284 : Cond.fieldLink RX12 45 RX12 (TX12 11).2.1 (TX12 11).2.2.1 ∈ wT := List.mem_filter.mpr ⟨List.mem_of_getElem? (i := 1284) (by decide +kernel), by decide +kernel⟩
theorem tw_1285 : Cond.fieldLink RX12 48 RX12 (TX12 12).2.1 (TX12 12).2.2.1 ∈ wT := List.mem_filter.mpr ⟨List.mem_of_getElem? (i := 1285) (by decide +kernel), by decide +kernel⟩
theorem tw_1286 : Cond.fieldLink RX12 51 RX12 (TX12 13).2.1 (TX12 13).2.2.1 ∈ wT := List.mem_filter.mpr ⟨List.mem_of_getElem? (i := 1286) (by decide +kernel), by decide +kernel⟩
theorem tw_1287 : Cond.fieldLink RX12 54 RX12 (TX12 14).2.1 (TX12 14).2.2.1 ∈ wT := List.mem_filter.mpr ⟨List.mem_of_getElem? (i := 1287) (by decide +kernel), by decide +kernel⟩
theorem tw_1288 : Cond.fieldLink RX12 57 RX12 (TX12 15).2.1 (TX12 15).2.2.1 ∈ wT := List.mem_filter.mpr ⟨List.mem_of_getElem? (i := 1288) (by decide +kernel), by decide +kernel⟩
theorem tw_1289 : Cond.fieldLink RX12 60 RX12 (TX12 16).2.1 (TX12 16).2.2.1 ∈ wT := List.mem_filter.mpr ⟨List.mem_of_getElem? (i := 1289) (by decide +kernel), by decide +kernel⟩
theorem tw_1290 : Cond.fieldLink RX12 63 RX12 (TX12 17).2.1 (TX12 17).2.2.1 ∈ wT := List.mem_filter.mpr ⟨List.mem_of_getElem? (i := 1290) (by decide +kernel), by decide +kernel⟩
theorem tw_1291 : Cond.fieldLink RX12 66 RX12 (TX12 18).2.1 (TX12 18).2.2.1 ∈ wT := List.mem_filter.mpr ⟨List.mem_of_getElem? (i := 1291) (by decide +kernel), by decide +kernel⟩
theorem tw_1292 : Cond.fieldLink RX12 69 RX12 (TX12 19).2.1 (TX12 19).2.2.1 ∈ wT := List.mem_filter.mpr ⟨List.mem_of_getElem? (i := 1292) (by decide +kernel), by decide +kernel⟩
theorem tw_1293 : Cond.fieldLink RX12 72 RX12 (TX12 20).2.1 (TX12 20).2.2.1 ∈ wT := List.mem_filter.mpr ⟨List.mem_of_getElem? (i := 1293) (by decide +kernel), by decide +kernel⟩
theorem tw_1294 : Cond.fieldLink RX12 75 RX12 (TX12 21).2.1 (TX12 21).2.2.1 ∈ wT := List.mem_filter.mpr ⟨List.mem_of_getElem? (i := 1294) (by decide +kernel), by decide +kernel⟩
theorem tw_1295 : Cond.fieldLink RX12 78 RX12 (TX12 22).2.1 (TX12 22).2.2.1 ∈ wT := List.mem_filter.mpr ⟨List.mem_of_getElem? (i := 1295) (by decide +kernel), by decide +kernel⟩
theorem tw_1296 : Cond.fieldLink RX12 81 RX12 (TX12 23).2.1 (TX12 23).2.2.1 ∈ wT := List.mem_filter.mpr ⟨List.mem_of_getElem? (i := 1296) (by decide +kernel), by decide +kernel⟩
theorem tw_1297 : Cond.fieldLink RX12 84 RX12 (TX12 24).2.1 (TX12 24).2.2.1 ∈ wT := List.mem_filter.mpr ⟨List.mem_of_getElem? (i := 1297) (by decide +kernel), by decide +kernel⟩
theorem tw_1298 : Cond.fieldLink RX12 87 RX12 (TX12 25).2.1 (TX12 25).2.2.1 ∈ wT := List.mem_filter.mpr ⟨List.mem_of_getElem? (i := 1298) (by decide +kernel), by decide +kernel⟩
theorem tw_1299 : Cond.fieldLink RX12 90 RX12 (TX12 26).2.1 (TX12 26).2.2.1 ∈ wT := List.mem_filter.mpr ⟨List.mem_of_getElem? (i := 1299) (by decide +kernel), by decide +kernel⟩
theorem tw_1300 : Cond.fieldLink RX12 93 RX12 (TX12 27).2.1 (TX12 27).2.2.1 ∈ wT := List.mem_filter.mpr ⟨List.mem_of_getElem? (i := 1300) (by decide +kernel), by decide +kernel⟩
theorem tw_1301 : Cond.fieldLink RX12 96 RX12 (TX12 28).2.1 (TX12 28).2.2.1 ∈ wT := List.mem_filter.mpr ⟨List.mem_of_getElem? (i := 1301) (by decide +kernel), by decide +kernel⟩
theorem tw_1302 : Cond.fieldLink RX12 99 RX12 (TX12 29).2.1 (TX12 29).2.2.1 ∈ wT := List.mem_filter.mpr ⟨List.mem_of_getElem? (i := 1302) (by decide +kernel), by decide +kernel⟩
theorem tw_1303 : Cond.fieldLink RX12 102 RX12 (TX12 30).2.1 (TX12 30).2.2.1 ∈ wT := List.mem_filter.mpr ⟨List.mem_of_getElem? (i := 1303) (by decide +kernel), by decide +kernel⟩
theorem tw_1304 : Cond.fieldLink RX12 106 RX12 (TX12 31).2.1 (TX12 31).2.2.1 ∈ wT := List.mem_filter.mpr ⟨List.mem_of_getElem? (i := 1304) (by decide +kernel), by decide +kernel⟩
theorem tw_1305 : Cond.fieldLink RX12 109 RX12 (TX12 32).2.1 (TX12 32).2.2.1 ∈ wT := List.mem_filter.mpr ⟨List.mem_of_getElem? (i := 1305) (by decide +kernel), by decide +kernel⟩
theorem tw_1306 : Cond.fieldLink RX12 112 RX12 (TX12 33).2.1 (TX12 33).2.2.1 ∈ wT := List.mem_filter.mpr ⟨List.mem_of_getElem? (i := 1306) (by decide +kernel), by decide +kernel⟩
theorem tw_1307 : Cond.fieldLink RX12 115 RX12 (TX12 34).2.1 (TX12 34).2.2.1 ∈ wT := List.mem_filter.mpr ⟨List.mem_of_getElem? (i := 1307) (by decide +kernel), by decide +kernel⟩
theorem tw_1308 : Cond.fieldLink RX12 118 RX12 (TX12 35).2.1 (TX12 35).2.2.1 ∈ wT := List.mem_filter.mpr ⟨List.mem_of_getElem? (i := 1308) (by decide +kernel), by decide +kernel⟩
theorem tw_1309 : Cond.fieldLink RX12 121 RX12 (TX12 36).2.1 (TX12 36).2.2.1 ∈ wT := List.mem_filter.mpr ⟨List.mem_of_getElem? (i := 1309) (by decide +kernel), by decide +kernel⟩
theorem tw_1310 : Cond.fieldLink RX12 125 RX12 (TX12 37).2.1 (TX12 37).2.2.1 ∈ wT := List.mem_filter.mpr ⟨List.mem_of_getElem? (i := 1310) (by decide +kernel), by decide +kernel⟩
theorem tw_1311 : Cond.fieldLink RX12 128 RX12 (TX12 38).2.1 (TX12 38).2.2.1 ∈ wT := List.mem_filter.mpr ⟨List.mem_of_getElem? (i := 1311) (by decide +kernel), by decide +kernel⟩
theorem tw_1312 : Cond.fieldLink RX12 131 RX12 (TX12 39).2.1 (TX12 39).2.2.1 ∈ wT := List.mem_filter.mpr ⟨List.mem_of_getElem? (i := 1312) (by decide +kernel), by decide +kernel⟩
theorem tw_1313 : Cond.fieldLink RX12 134 RX12 (TX12 40).2.1 (TX12 40).2.2.1 ∈ wT := List.mem_filter.mpr ⟨List.mem_of_getElem? (i := 1313) (by decide +kernel), by decide +kernel⟩
theorem tw_1314 : Cond.fieldLink RX12 137 RX12 (TX12 41).2.1 (TX12 41).2.2.1 ∈ wT := List.mem_filter.mpr ⟨List.mem_of_getElem? (i := 1314) (by decide +kernel), by decide +kernel⟩
theorem tw_1315 : Cond.fieldLink RX12 140 RX12 (TX12 42).2.1 (TX12 42).2.2.1 ∈ wT := List.mem_filter.mpr ⟨List.mem_of_getElem? (i := 1315) (by decide +kernel), by decide +kernel⟩
theorem tw_1316 : Cond.fieldLink RX12 143 RX12 (TX12 43).2.1 (TX12 43).2.2.1 ∈ wT := List.mem_filter.mpr ⟨List.mem_of_getElem? (i := 1316) (by decide +kernel), by decide +kernel⟩
theorem tw_1317 : Cond.fieldLink RX12 147 RX12 (TX12 44).2.1 (TX12 44).2.2.1 ∈ wT := List.mem_filter.mpr ⟨List.mem_of_getElem? (i := 1317) (by decide +kernel), by decide +kernel⟩
theorem tw_1318 : Cond.fieldLink RX12 150 RX12 (TX12 45).2.1 (TX12 45).2.2.1 ∈ wT := List.mem_filter.mpr ⟨List.mem_of_getElem? (i := 1318) (by decide +kernel), by decide +kernel⟩
theorem tw_1319 : Cond.fieldLink RX12 153 RX12 (TX12 46).2.1 (TX12 46).2.2.1 ∈ wT := List.mem_filter.mpr ⟨List.mem_of_getElem? (i := 1319) (by decide +kernel), by decide +kernel⟩
theorem tw_1320 : Cond.fieldLink RX12 156 RX12 (TX12 47).2.1 (TX12 47).2.2.1 ∈ wT := List.mem_filter.mpr ⟨List.mem_of_getElem? (i := 1320) (by decide +kernel), by decide +kernel⟩
theorem tw_1321 : Cond.fieldLink RX12 159 RX12 (TX12 48).2.1 (TX12 48).2.2.1 ∈ wT := List.mem_filter.mpr ⟨List.mem_of_getElem? (i := 1321) (by decide +kernel), by decide +kernel⟩
theorem tw_1322 : Cond.fieldLink RX12 162 RX12 (TX12 49).2.1 (TX12 49).2.2.1 ∈ wT := List.mem_filter.mpr ⟨List.mem_of_getElem? (i := 1322) (by decide +kernel), by decide +kernel⟩
theorem tw_1323 : Cond.fieldLink RX12 165 RX12 (TX12 50).2.1 (TX12 50).2.2.1 ∈ wT := List.mem_filter.mpr ⟨List.mem_of_getElem? (i := 1323) (by decide +kernel), by decide +kernel⟩
theorem tw_1324 : Cond.fieldLink RX12 168 RX12 (TX12 51).2.1 (TX12 51).2.2.1 ∈ wT := List.mem_filter.mpr ⟨List.mem_of_getElem? (i := 1324) (by decide +kernel), by decide +kernel⟩
theorem tw_1325 : Cond.fieldLink RX12 171 RX12 (TX12 52).2.1 (TX12 52).2.2.1 ∈ wT := List.mem_filter.mpr ⟨List.mem_of_getElem? (i := 1325) (by decide +kernel), by decide +kernel⟩
theorem tw_1326 : Cond.fieldLink RX12 174 RX12 (TX12 53).2.1 (TX12 53).2.2.1 ∈ wT := List.mem_filter.mpr ⟨List.mem_of_getElem? (i := 1326) (by decide +kernel), by decide +kernel⟩
theorem tw_1327 : Cond.fieldLink RX12 177 RX12 (TX12 54).2.1 (TX12 54).2.2.1 ∈ wT := List.mem_filter.mpr ⟨List.mem_of_getElem? (i := 1327) (by decide +kernel), by decide +kernel⟩
theorem tw_1328 : Cond.fieldLink RX12 180 RX12 (TX12 55).2.1 (TX12 55).2.2.1 ∈ wT := List.mem_filter.mpr ⟨List.mem_of_getElem? (i := 1328) (by decide +kernel), by decide +kernel⟩
theorem tw_1329 : Cond.fieldLink RX12 183 RX12 (TX12 56).2.1 (TX12 56).2.2.1 ∈ wT := List.mem_filter.mpr ⟨List.mem_of_getElem? (i := 1329) (by decide +kernel), by decide +kernel⟩
theorem tw_1330 : Cond.fieldLink RX12 186 RX12 (TX12 57).2.1 (TX12 57).2.2.1 ∈ wT := List.mem_filter.mpr ⟨List.mem_of_getElem? (i := 1330) (by decide +kernel), by decide +kernel⟩
theorem tw_1331 : Cond.fieldLink RX12 189 RX12 (TX12 58).2.1 (TX12 58).2.2.1 ∈ wT := List.mem_filter.mpr ⟨List.mem_of_getElem? (i := 1331) (by decide +kernel), by decide +kernel⟩
theorem tw_1332 : Cond.fieldLink RX12 192 RX12 (TX12 59).2.1 (TX12 59).2.2.1 ∈ wT := List.mem_filter.mpr ⟨List.mem_of_getElem? (i := 1332) (by decide +kernel), by decide +kernel⟩
theorem tw_1333 : Cond.fieldLink RX12 195 RX12 (TX12 60).2.1 (TX12 60).2.2.1 ∈ wT := List.mem_filter.mpr ⟨List.mem_of_getElem? (i := 1333) (by decide +kernel), by decide +kernel⟩
theorem tw_1334 : Cond.fieldLink RX12 198 RX12 (TX12 61).2.1 (TX12 61).2.2.1 ∈ wT := List.mem_filter.mpr ⟨List.mem_of_getElem? (i := 1334) (by decide +kernel), by decide +kernel⟩
theorem tw_1335 : Cond.fieldLink RX12 201 RX12 (TX12 62).2.1 (TX12 62).2.2.1 ∈ wT := List.mem_filter.mpr ⟨List.mem_of_getElem? (i := 1335) (by decide +kernel), by decide +kernel⟩
theorem tw_1336 : Cond.fieldLink RX12 204 RX12 (TX12 63).2.1 (TX12 63).2.2.1 ∈ wT := List.mem_filter.mpr ⟨List.mem_of_getElem? (i := 1336) (by decide +kernel), by decide +kernel⟩
theorem tw_1337 : Cond.fieldLink RX12 207 RX12 (TX12 64).2.1 (TX12 64).2.2.1 ∈ wT := List.mem_filter.mpr ⟨List.mem_of_getElem? (i := 1337) (by decide +kernel), by decide +kernel⟩
theorem tw_1338 : Cond.fieldLink RX12 210 RX12 (TX12 65).2.1 (TX12 65).2.2.1 ∈ wT := List.mem_filter.mpr ⟨List.mem_of_getElem? (i := 1338) (by decide +kernel), by decide +kernel⟩
theorem tw_1339 : Cond.fieldLink RX12 213 RX12 (TX12 66).2.1 (TX12 66).2.2.1 ∈ wT := List.mem_filter.mpr ⟨List.mem_of_getElem? (i := 1339) (by decide +kernel), by decide +kernel⟩
theorem tw_1340 : Cond.fieldLink RX12 216 RX12 (TX12 67).2.1 (TX12 67).2.2.1 ∈ wT := List.mem_filter.mpr ⟨List.mem_of_getElem? (i := 1340) (by decide +kernel), by decide +kernel⟩
theorem tw_1341 : Cond.fieldLink RX12 219 RX12 (TX12 68).2.1 (TX12 68).2.2.1 ∈ wT := List.mem_filter.mpr ⟨List.mem_of_getElem? (i := 1341) (by decide +kernel), by decide +kernel⟩
theorem tw_1481 : Cond.arrayClass .boolean ∈ wT := List.mem_filter.mpr ⟨List.mem_of_getElem? (i := 1481) (by decide +kernel), by decide +kernel⟩
theorem tw_1486 : Cond.methodLink RX12 222 yX12_refuses ∈ wT := List.mem_filter.mpr ⟨List.mem_of_getElem? (i := 1486) (by decide +kernel), by decide +kernel⟩
theorem tw_1488 : Cond.instanceMethod yX12_refuses ∈ wT := List.mem_filter.mpr ⟨List.mem_of_getElem? (i := 1488) (by decide +kernel), by decide +kernel⟩
theorem tw_1489 : Cond.code yX12_refuses cX12_refuses 2 (some .int) ∈ wT := List.mem_filter.mpr ⟨List.mem_of_getElem? (i := 1489) (by decide +kernel), by decide +kernel⟩
theorem tw_1490 : Cond.methodLink RX12 226 yX12_put ∈ wT := List.mem_filter.mpr ⟨List.mem_of_getElem? (i := 1490) (by decide +kernel), by decide +kernel⟩
theorem tw_1492 : Cond.instanceMethod yX12_put ∈ wT := List.mem_filter.mpr ⟨List.mem_of_getElem? (i := 1492) (by decide +kernel), by decide +kernel⟩
theorem tw_1493 : Cond.code yX12_put cX12_put 3 none ∈ wT := List.mem_filter.mpr ⟨List.mem_of_getElem? (i := 1493) (by decide +kernel), by decide +kernel⟩
theorem tw_1502 : Cond.methodLink RX12 247 yX12_ahead ∈ wT := List.mem_filter.mpr ⟨List.mem_of_getElem? (i := 1502) (by decide +kernel), by decide +kernel⟩
theorem tw_1504 : Cond.instanceMethod yX12_ahead ∈ wT := List.mem_filter.mpr ⟨List.mem_of_getElem? (i := 1504) (by decide +kernel), by decide +kernel⟩
theorem tw_1505 : Cond.code yX12_ahead cX12_ahead 6 none ∈ wT := List.mem_filter.mpr ⟨List.mem_of_getElem? (i := 1505) (by decide +kernel), by decide +kernel⟩
theorem tw_1506 : Cond.methodLink RX12 234 yX12_isLetter ∈ wT := List.mem_filter.mpr ⟨List.mem_of_getElem? (i := 1506) (by decide +kernel), by decide +kernel⟩
theorem tw_1507 : Cond.static yX12_isLetter ∈ wT := List.mem_filter.mpr ⟨List.mem_of_getElem? (i := 1507) (by decide +kernel), by decide +kernel⟩
theorem tw_1508 : Cond.code yX12_isLetter cX12_isLetter 1 (some .boolean) ∈ wT := List.mem_filter.mpr ⟨List.mem_of_getElem? (i := 1508) (by decide +kernel), by decide +kernel⟩
theorem tw_1509 : Cond.methodLink RX12 238 yX12_isDigit ∈ wT := List.mem_filter.mpr ⟨List.mem_of_getElem? (i := 1509) (by decide +kernel), by decide +kernel⟩
theorem tw_1510 : Cond.static yX12_isDigit ∈ wT := List.mem_filter.mpr ⟨List.mem_of_getElem? (i := 1510) (by decide +kernel), by decide +kernel⟩
theorem tw_1511 : Cond.code yX12_isDigit cX12_isDigit 1 (some .boolean) ∈ wT := List.mem_filter.mpr ⟨List.mem_of_getElem? (i := 1511) (by decide +kernel), by decide +kernel⟩
theorem tw_1512 : Cond.methodLink RX12 412 yX12_statement ∈ wT := List.mem_filter.mpr ⟨List.mem_of_getElem? (i := 1512) (by decide +kernel), by decide +kernel⟩
theorem tw_1514 : Cond.instanceMethod yX12_statement ∈ wT := List.mem_filter.mpr ⟨List.mem_of_getElem? (i := 1514) (by decide +kernel), by decide +kernel⟩
theorem tw_1515 : Cond.code yX12_statement cX12_statement 1 none ∈ wT := List.mem_filter.mpr ⟨List.mem_of_getElem? (i := 1515) (by decide +kernel), by decide +kernel⟩
theorem tw_1516 : Cond.methodLink RX12 241 yX12_lex ∈ wT := List.mem_filter.mpr ⟨List.mem_of_getElem? (i := 1516) (by decide +kernel), by decide +kernel⟩
theorem tw_1518 : Cond.instanceMethod yX12_lex ∈ wT := List.mem_filter.mpr ⟨List.mem_of_getElem? (i := 1518) (by decide +kernel), by decide +kernel⟩
theorem tw_1519 : Cond.code yX12_lex cX12_lex 1 none ∈ wT := List.mem_filter.mpr ⟨List.mem_of_getElem? (i := 1519) (by decide +kernel), by decide +kernel⟩
theorem tw_1520 : Cond.methodLink RX12 230 yX12_blame ∈ wT := List.mem_filter.mpr ⟨List.mem_of_getElem? (i := 1520) (by decide +kernel), by decide +kernel⟩
theorem tw_1522 : Cond.instanceMethod yX12_blame ∈ wT := List.mem_filter.mpr ⟨List.mem_of_getElem? (i := 1522) (by decide +kernel), by decide +kernel⟩
theorem tw_1523 : Cond.code yX12_blame cX12_blame 3 none ∈ wT := List.mem_filter.mpr ⟨List.mem_of_getElem? (i := 1523) (by decide +kernel), by decide +kernel⟩
theorem tw_1525 : Cond.methodLink RX12 325 yX12_isWord ∈ wT := List.mem_filter.mpr ⟨List.mem_of_getElem? (i := 1525) (by decide +kernel), by decide +kernel⟩
theorem tw_1527 : Cond.instanceMethod yX12_isWord ∈ wT := List.mem_filter.mpr ⟨List.mem_of_getElem? (i := 1527) (by decide +kernel), by decide +kernel⟩
theorem tw_1528 : Cond.code yX12_isWord cX12_isWord 3 (some .boolean) ∈ wT := List.mem_filter.mpr ⟨List.mem_of_getElem? (i := 1528) (by decide +kernel), by decide +kernel⟩
theorem tw_1529 : Cond.methodLink RX12 385 yX12_blinding ∈ wT := List.mem_filter.mpr ⟨List.mem_of_getElem? (i := 1529) (by decide +kernel), by decide +kernel⟩
theorem tw_1531 : Cond.instanceMethod yX12_blinding ∈ wT := List.mem_filter.mpr ⟨List.mem_of_getElem? (i := 1531) (by decide +kernel), by decide +kernel⟩
theorem tw_1532 : Cond.code yX12_blinding cX12_blinding 1 none ∈ wT := List.mem_filter.mpr ⟨List.mem_of_getElem? (i := 1532) (by decide +kernel), by decide +kernel⟩
theorem tw_1533 : Cond.methodLink RX12 375 yX12_isShaped ∈ wT := List.mem_filter.mpr ⟨List.mem_of_getElem? (i := 1533) (by decide +kernel), by decide +kernel⟩
theorem tw_1535 : Cond.instanceMethod yX12_isShaped ∈ wT := List.mem_filter.mpr ⟨List.mem_of_getElem? (i := 1535) (by decide +kernel), by decide +kernel⟩
theorem tw_1536 : Cond.code yX12_isShaped cX12_isShaped 9 (some .boolean) ∈ wT := List.mem_filter.mpr ⟨List.mem_of_getElem? (i := 1536) (by decide +kernel), by decide +kernel⟩
theorem tw_1537 : Cond.methodLink RX12 306 yX12_manyOf ∈ wT := List.mem_filter.mpr ⟨List.mem_of_getElem? (i := 1537) (by decide +kernel), by decide +kernel⟩
theorem tw_1539 : Cond.instanceMethod yX12_manyOf ∈ wT := List.mem_filter.mpr ⟨List.mem_of_getElem? (i := 1539) (by decide +kernel), by decide +kernel⟩
theorem tw_1540 : Cond.code yX12_manyOf cX12_manyOf 2 (some .int) ∈ wT := List.mem_filter.mpr ⟨List.mem_of_getElem? (i := 1540) (by decide +kernel), by decide +kernel⟩
theorem tw_1541 : Cond.methodLink RX12 355 yX12_isCounted ∈ wT := List.mem_filter.mpr ⟨List.mem_of_getElem? (i := 1541) (by decide +kernel), by decide +kernel⟩
theorem tw_1543 : Cond.instanceMethod yX12_isCounted ∈ wT := List.mem_filter.mpr ⟨List.mem_of_getElem? (i := 1543) (by decide +kernel), by decide +kernel⟩
theorem tw_1544 : Cond.code yX12_isCounted cX12_isCounted 2 (some .boolean) ∈ wT := List.mem_filter.mpr ⟨List.mem_of_getElem? (i := 1544) (by decide +kernel), by decide +kernel⟩
theorem tw_1545 : Cond.methodLink RX12 363 yX12_fresh ∈ wT := List.mem_filter.mpr ⟨List.mem_of_getElem? (i := 1545) (by decide +kernel), by decide +kernel⟩
theorem tw_1547 : Cond.instanceMethod yX12_fresh ∈ wT := List.mem_filter.mpr ⟨List.mem_of_getElem? (i := 1547) (by decide +kernel), by decide +kernel⟩
theorem tw_1548 : Cond.code yX12_fresh cX12_fresh 3 (some .long) ∈ wT := List.mem_filter.mpr ⟨List.mem_of_getElem? (i := 1548) (by decide +kernel), by decide +kernel⟩
theorem tw_1549 : Cond.methodLink RX12 344 yX12_isOwn ∈ wT := List.mem_filter.mpr ⟨List.mem_of_getElem? (i := 1549) (by decide +kernel), by decide +kernel⟩
theorem tw_1551 : Cond.instanceMethod yX12_isOwn ∈ wT := List.mem_filter.mpr ⟨List.mem_of_getElem? (i := 1551) (by decide +kernel), by decide +kernel⟩
theorem tw_1552 : Cond.code yX12_isOwn cX12_isOwn 3 (some .boolean) ∈ wT := List.mem_filter.mpr ⟨List.mem_of_getElem? (i := 1552) (by decide +kernel), by decide +kernel⟩
theorem tw_1580 : Cond.methodLink RX12 347 yX12_named ∈ wT := List.mem_filter.mpr ⟨List.mem_of_getElem? (i := 1580) (by decide +kernel), by decide +kernel⟩
theorem tw_1582 : Cond.instanceMethod yX12_named ∈ wT := List.mem_filter.mpr ⟨List.mem_of_getElem? (i := 1582) (by decide +kernel), by decide +kernel⟩
theorem tw_1583 : Cond.code yX12_named cX12_named 5 (some .int) ∈ wT := List.mem_filter.mpr ⟨List.mem_of_getElem? (i := 1583) (by decide +kernel), by decide +kernel⟩
theorem tw_1584 : Cond.methodLink RX12 367 yX12_mustWord ∈ wT := List.mem_filter.mpr ⟨List.mem_of_getElem? (i := 1584) (by decide +kernel), by decide +kernel⟩
theorem tw_1586 : Cond.instanceMethod yX12_mustWord ∈ wT := List.mem_filter.mpr ⟨List.mem_of_getElem? (i := 1586) (by decide +kernel), by decide +kernel⟩
theorem tw_1587 : Cond.code yX12_mustWord cX12_mustWord 3 none ∈ wT := List.mem_filter.mpr ⟨List.mem_of_getElem? (i := 1587) (by decide +kernel), by decide +kernel⟩
theorem tw_1588 : Cond.methodLink RX12 359 yX12_number ∈ wT := List.mem_filter.mpr ⟨List.mem_of_getElem? (i := 1588) (by decide +kernel), by decide +kernel⟩
theorem tw_1590 : Cond.instanceMethod yX12_number ∈ wT := List.mem_filter.mpr ⟨List.mem_of_getElem? (i := 1590) (by decide +kernel), by decide +kernel⟩
theorem tw_1591 : Cond.code yX12_number cX12_number 4 (some .int) ∈ wT := List.mem_filter.mpr ⟨List.mem_of_getElem? (i := 1591) (by decide +kernel), by decide +kernel⟩
theorem tw_1592 : Cond.methodLink RX12 309 yX12_is ∈ wT := List.mem_filter.mpr ⟨List.mem_of_getElem? (i := 1592) (by decide +kernel), by decide +kernel⟩
theorem tw_1593 : Cond.static yX12_is ∈ wT := List.mem_filter.mpr ⟨List.mem_of_getElem? (i := 1593) (by decide +kernel), by decide +kernel⟩
theorem tw_1594 : Cond.code yX12_is cX12_is 3 (some .boolean) ∈ wT := List.mem_filter.mpr ⟨List.mem_of_getElem? (i := 1594) (by decide +kernel), by decide +kernel⟩
theorem tw_1595 : Cond.methodLink RX12 371 yX12_shapes ∈ wT := List.mem_filter.mpr ⟨List.mem_of_getElem? (i := 1595) (by decide +kernel), by decide +kernel⟩
theorem tw_1596 : Cond.static yX12_shapes ∈ wT := List.mem_filter.mpr ⟨List.mem_of_getElem? (i := 1596) (by decide +kernel), by decide +kernel⟩
theorem tw_1597 : Cond.code yX12_shapes cX12_shapes 5 none ∈ wT := List.mem_filter.mpr ⟨List.mem_of_getElem? (i := 1597) (by decide +kernel), by decide +kernel⟩
theorem tw_1598 : Cond.methodLink RX12 388 yX12_colouring ∈ wT := List.mem_filter.mpr ⟨List.mem_of_getElem? (i := 1598) (by decide +kernel), by decide +kernel⟩
theorem tw_1600 : Cond.instanceMethod yX12_colouring ∈ wT := List.mem_filter.mpr ⟨List.mem_of_getElem? (i := 1600) (by decide +kernel), by decide +kernel⟩
theorem tw_1601 : Cond.code yX12_colouring cX12_colouring 1 none ∈ wT := List.mem_filter.mpr ⟨List.mem_of_getElem? (i := 1601) (by decide +kernel), by decide +kernel⟩
theorem tw_1602 : Cond.methodLink RX12 391 yX12_thinging ∈ wT := List.mem_filter.mpr ⟨List.mem_of_getElem? (i := 1602) (by decide +kernel), by decide +kernel⟩
theorem tw_1604 : Cond.instanceMethod yX12_thinging ∈ wT := List.mem_filter.mpr ⟨List.mem_of_getElem? (i := 1604) (by decide +kernel), by decide +kernel⟩
theorem tw_1605 : Cond.code yX12_thinging cX12_thinging 1 none ∈ wT := List.mem_filter.mpr ⟨List.mem_of_getElem? (i := 1605) (by decide +kernel), by decide +kernel⟩
theorem tw_1606 : Cond.methodLink RX12 394 yX12_lateness ∈ wT := List.mem_filter.mpr ⟨List.mem_of_getElem? (i := 1606) (by decide +kernel), by decide +kernel⟩
theorem tw_1608 : Cond.instanceMethod yX12_lateness ∈ wT := List.mem_filter.mpr ⟨List.mem_of_getElem? (i := 1608) (by decide +kernel), by decide +kernel⟩
theorem tw_1609 : Cond.code yX12_lateness cX12_lateness 2 none ∈ wT := List.mem_filter.mpr ⟨List.mem_of_getElem? (i := 1609) (by decide +kernel), by decide +kernel⟩
theorem tw_1610 : Cond.methodLink RX12 378 yX12_known ∈ wT := List.mem_filter.mpr ⟨List.mem_of_getElem? (i := 1610) (by decide +kernel), by decide +kernel⟩
theorem tw_1612 : Cond.instanceMethod yX12_known ∈ wT := List.mem_filter.mpr ⟨List.mem_of_getElem? (i := 1612) (by decide +kernel), by decide +kernel⟩
theorem tw_1613 : Cond.code yX12_known cX12_known 4 (some .int) ∈ wT := List.mem_filter.mpr ⟨List.mem_of_getElem? (i := 1613) (by decide +kernel), by decide +kernel⟩
theorem tw_1614 : Cond.methodLink RX12 351 yX12_has2 ∈ wT := List.mem_filter.mpr ⟨List.mem_of_getElem? (i := 1614) (by decide +kernel), by decide +kernel⟩
theorem tw_1615 : Cond.static yX12_has2 ∈ wT := List.mem_filter.mpr ⟨List.mem_of_getElem? (i := 1615) (by decide +kernel), by decide +kernel⟩
theorem tw_1616 : Cond.code yX12_has2 cX12_has2 2 (some .boolean) ∈ wT := List.mem_filter.mpr ⟨List.mem_of_getElem? (i := 1616) (by decide +kernel), by decide +kernel⟩
theorem tw_1617 : Cond.methodLink RX12 397 yX12_nearing ∈ wT := List.mem_filter.mpr ⟨List.mem_of_getElem? (i := 1617) (by decide +kernel), by decide +kernel⟩
theorem tw_1619 : Cond.instanceMethod yX12_nearing ∈ wT := List.mem_filter.mpr ⟨List.mem_of_getElem? (i := 1619) (by decide +kernel), by decide +kernel⟩
theorem tw_1620 : Cond.code yX12_nearing cX12_nearing 3 none ∈ wT := List.mem_filter.mpr ⟨List.mem_of_getElem? (i := 1620) (by decide +kernel), by decide +kernel⟩
theorem tw_1621 : Cond.methodLink RX12 400 yX12_wearing ∈ wT := List.mem_filter.mpr ⟨List.mem_of_getElem? (i := 1621) (by decide +kernel), by decide +kernel⟩
theorem tw_1623 : Cond.instanceMethod yX12_wearing ∈ wT := List.mem_filter.mpr ⟨List.mem_of_getElem? (i := 1623) (by decide +kernel), by decide +kernel⟩
theorem tw_1624 : Cond.code yX12_wearing cX12_wearing 3 none ∈ wT := List.mem_filter.mpr ⟨List.mem_of_getElem? (i := 1624) (by decide +kernel), by decide +kernel⟩
theorem tw_1625 : Cond.methodLink RX12 403 yX12_telling ∈ wT := List.mem_filter.mpr ⟨List.mem_of_getElem? (i := 1625) (by decide +kernel), by decide +kernel⟩
theorem tw_1627 : Cond.instanceMethod yX12_telling ∈ wT := List.mem_filter.mpr ⟨List.mem_of_getElem? (i := 1627) (by decide +kernel), by decide +kernel⟩
theorem tw_1628 : Cond.code yX12_telling cX12_telling 2 (some .int) ∈ wT := List.mem_filter.mpr ⟨List.mem_of_getElem? (i := 1628) (by decide +kernel), by decide +kernel⟩
theorem tw_1629 : Cond.methodLink RX12 406 yX12_reading ∈ wT := List.mem_filter.mpr ⟨List.mem_of_getElem? (i := 1629) (by decide +kernel), by decide +kernel⟩
theorem tw_1631 : Cond.instanceMethod yX12_reading ∈ wT := List.mem_filter.mpr ⟨List.mem_of_getElem? (i := 1631) (by decide +kernel), by decide +kernel⟩
theorem tw_1632 : Cond.code yX12_reading cX12_reading 3 none ∈ wT := List.mem_filter.mpr ⟨List.mem_of_getElem? (i := 1632) (by decide +kernel), by decide +kernel⟩
theorem tw_1633 : Cond.methodLink RX12 381 yX12_reads ∈ wT := List.mem_filter.mpr ⟨List.mem_of_getElem? (i := 1633) (by decide +kernel), by decide +kernel⟩
theorem tw_1635 : Cond.instanceMethod yX12_reads ∈ wT := List.mem_filter.mpr ⟨List.mem_of_getElem? (i := 1635) (by decide +kernel), by decide +kernel⟩
theorem tw_1636 : Cond.code yX12_reads cX12_reads 3 none ∈ wT := List.mem_filter.mpr ⟨List.mem_of_getElem? (i := 1636) (by decide +kernel), by decide +kernel⟩
theorem tw_1637 : Cond.methodLink RX12 319 yX12_pushes ∈ wT := List.mem_filter.mpr ⟨List.mem_of_getElem? (i := 1637) (by decide +kernel), by decide +kernel⟩
theorem tw_1639 : Cond.instanceMethod yX12_pushes ∈ wT := List.mem_filter.mpr ⟨List.mem_of_getElem? (i := 1639) (by decide +kernel), by decide +kernel⟩
theorem tw_1640 : Cond.code yX12_pushes cX12_pushes 2 none ∈ wT := List.mem_filter.mpr ⟨List.mem_of_getElem? (i := 1640) (by decide +kernel), by decide +kernel⟩
theorem tw_1641 : Cond.methodLink RX12 338 yX12_operand ∈ wT := List.mem_filter.mpr ⟨List.mem_of_getElem? (i := 1641) (by decide +kernel), by decide +kernel⟩
theorem tw_1643 : Cond.instanceMethod yX12_operand ∈ wT := List.mem_filter.mpr ⟨List.mem_of_getElem? (i := 1643) (by decide +kernel), by decide +kernel⟩
theorem tw_1644 : Cond.code yX12_operand cX12_operand 4 (some .boolean) ∈ wT := List.mem_filter.mpr ⟨List.mem_of_getElem? (i := 1644) (by decide +kernel), by decide +kernel⟩
theorem tw_1645 : Cond.methodLink RX12 322 yX12_isTest ∈ wT := List.mem_filter.mpr ⟨List.mem_of_getElem? (i := 1645) (by decide +kernel), by decide +kernel⟩
theorem tw_1646 : Cond.static yX12_isTest ∈ wT := List.mem_filter.mpr ⟨List.mem_of_getElem? (i := 1646) (by decide +kernel), by decide +kernel⟩
theorem tw_1647 : Cond.code yX12_isTest cX12_isTest 1 (some .boolean) ∈ wT := List.mem_filter.mpr ⟨List.mem_of_getElem? (i := 1647) (by decide +kernel), by decide +kernel⟩
theorem tw_1648 : Cond.methodLink RX12 329 yX12_holdsBack ∈ wT := List.mem_filter.mpr ⟨List.mem_of_getElem? (i := 1648) (by decide +kernel), by decide +kernel⟩
theorem tw_1650 : Cond.instanceMethod yX12_holdsBack ∈ wT := List.mem_filter.mpr ⟨List.mem_of_getElem? (i := 1650) (by decide +kernel), by decide +kernel⟩
theorem tw_1651 : Cond.code yX12_holdsBack cX12_holdsBack 2 none ∈ wT := List.mem_filter.mpr ⟨List.mem_of_getElem? (i := 1651) (by decide +kernel), by decide +kernel⟩
theorem tw_1652 : Cond.methodLink RX12 244 yX12_isSign ∈ wT := List.mem_filter.mpr ⟨List.mem_of_getElem? (i := 1652) (by decide +kernel), by decide +kernel⟩
theorem tw_1654 : Cond.instanceMethod yX12_isSign ∈ wT := List.mem_filter.mpr ⟨List.mem_of_getElem? (i := 1654) (by decide +kernel), by decide +kernel⟩
theorem tw_1655 : Cond.code yX12_isSign cX12_isSign 2 (some .boolean) ∈ wT := List.mem_filter.mpr ⟨List.mem_of_getElem? (i := 1655) (by decide +kernel), by decide +kernel⟩
theorem tw_1656 : Cond.methodLink RX12 332 yX12_opens ∈ wT := List.mem_filter.mpr ⟨List.mem_of_getElem? (i := 1656) (by decide +kernel), by decide +kernel⟩
theorem tw_1658 : Cond.instanceMethod yX12_opens ∈ wT := List.mem_filter.mpr ⟨List.mem_of_getElem? (i := 1658) (by decide +kernel), by decide +kernel⟩
theorem tw_1659 : Cond.code yX12_opens cX12_opens 2 none ∈ wT := List.mem_filter.mpr ⟨List.mem_of_getElem? (i := 1659) (by decide +kernel), by decide +kernel⟩
theorem tw_1660 : Cond.methodLink RX12 316 yX12_add ∈ wT := List.mem_filter.mpr ⟨List.mem_of_getElem? (i := 1660) (by decide +kernel), by decide +kernel⟩
theorem tw_1662 : Cond.instanceMethod yX12_add ∈ wT := List.mem_filter.mpr ⟨List.mem_of_getElem? (i := 1662) (by decide +kernel), by decide +kernel⟩
theorem tw_1663 : Cond.code yX12_add cX12_add 3 none ∈ wT := List.mem_filter.mpr ⟨List.mem_of_getElem? (i := 1663) (by decide +kernel), by decide +kernel⟩
theorem tw_1664 : Cond.methodLink RX12 341 yX12_goesOn ∈ wT := List.mem_filter.mpr ⟨List.mem_of_getElem? (i := 1664) (by decide +kernel), by decide +kernel⟩
theorem tw_1666 : Cond.instanceMethod yX12_goesOn ∈ wT := List.mem_filter.mpr ⟨List.mem_of_getElem? (i := 1666) (by decide +kernel), by decide +kernel⟩
theorem tw_1667 : Cond.code yX12_goesOn cX12_goesOn 5 (some .boolean) ∈ wT := List.mem_filter.mpr ⟨List.mem_of_getElem? (i := 1667) (by decide +kernel), by decide +kernel⟩
theorem tw_1668 : Cond.methodLink RX12 335 yX12_joins ∈ wT := List.mem_filter.mpr ⟨List.mem_of_getElem? (i := 1668) (by decide +kernel), by decide +kernel⟩
theorem tw_1670 : Cond.instanceMethod yX12_joins ∈ wT := List.mem_filter.mpr ⟨List.mem_of_getElem? (i := 1670) (by decide +kernel), by decide +kernel⟩
theorem tw_1671 : Cond.code yX12_joins cX12_joins 2 none ∈ wT := List.mem_filter.mpr ⟨List.mem_of_getElem? (i := 1671) (by decide +kernel), by decide +kernel⟩
theorem tw_1672 : Cond.methodLink RX12 313 yX12_rank ∈ wT := List.mem_filter.mpr ⟨List.mem_of_getElem? (i := 1672) (by decide +kernel), by decide +kernel⟩
theorem tw_1673 : Cond.static yX12_rank ∈ wT := List.mem_filter.mpr ⟨List.mem_of_getElem? (i := 1673) (by decide +kernel), by decide +kernel⟩
theorem tw_1674 : Cond.code yX12_rank cX12_rank 1 (some .int) ∈ wT := List.mem_filter.mpr ⟨List.mem_of_getElem? (i := 1674) (by decide +kernel), by decide +kernel⟩
theorem tw_1675 : Cond.methodLink RX12 415 yX12_finishes ∈ wT := List.mem_filter.mpr ⟨List.mem_of_getElem? (i := 1675) (by decide +kernel), by decide +kernel⟩
theorem tw_1677 : Cond.instanceMethod yX12_finishes ∈ wT := List.mem_filter.mpr ⟨List.mem_of_getElem? (i := 1677) (by decide +kernel), by decide +kernel⟩
theorem tw_1678 : Cond.code yX12_finishes cX12_finishes 3 none ∈ wT := List.mem_filter.mpr ⟨List.mem_of_getElem? (i := 1678) (by decide +kernel), by decide +kernel⟩
theorem tw_1679 : Cond.methodLink RX12 409 yX12_must ∈ wT := List.mem_filter.mpr ⟨List.mem_of_getElem? (i := 1679) (by decide +kernel), by decide +kernel⟩
theorem tw_1681 : Cond.instanceMethod yX12_must ∈ wT := List.mem_filter.mpr ⟨List.mem_of_getElem? (i := 1681) (by decide +kernel), by decide +kernel⟩
theorem tw_1682 : Cond.code yX12_must cX12_must 2 none ∈ wT := List.mem_filter.mpr ⟨List.mem_of_getElem? (i := 1682) (by decide +kernel), by decide +kernel⟩
theorem tw_1683 : Cond.methodLink RX12 418 yX12_begin ∈ wT := List.mem_filter.mpr ⟨List.mem_of_getElem? (i := 1683) (by decide +kernel), by decide +kernel⟩
theorem tw_1685 : Cond.instanceMethod yX12_begin ∈ wT := List.mem_filter.mpr ⟨List.mem_of_getElem? (i := 1685) (by decide +kernel), by decide +kernel⟩
theorem tw_1686 : Cond.code yX12_begin cX12_begin 2 none ∈ wT := List.mem_filter.mpr ⟨List.mem_of_getElem? (i := 1686) (by decide +kernel), by decide +kernel⟩
theorem tw_1699 : Cond.methodLink RX12 421 yX12_slot ∈ wT := List.mem_filter.mpr ⟨List.mem_of_getElem? (i := 1699) (by decide +kernel), by decide +kernel⟩
theorem tw_1701 : Cond.instanceMethod yX12_slot ∈ wT := List.mem_filter.mpr ⟨List.mem_of_getElem? (i := 1701) (by decide +kernel), by decide +kernel⟩
theorem tw_1702 : Cond.code yX12_slot cX12_slot 2 (some .int) ∈ wT := List.mem_filter.mpr ⟨List.mem_of_getElem? (i := 1702) (by decide +kernel), by decide +kernel⟩
theorem tw_1703 : Cond.methodLink RX12 424 yX12_copies ∈ wT := List.mem_filter.mpr ⟨List.mem_of_getElem? (i := 1703) (by decide +kernel), by decide +kernel⟩
theorem tw_1705 : Cond.instanceMethod yX12_copies ∈ wT := List.mem_filter.mpr ⟨List.mem_of_getElem? (i := 1705) (by decide +kernel), by decide +kernel⟩
theorem tw_1706 : Cond.code yX12_copies cX12_copies 4 none ∈ wT := List.mem_filter.mpr ⟨List.mem_of_getElem? (i := 1706) (by decide +kernel), by decide +kernel⟩
theorem tw_1711 : Cond.methodLink RX12 456 yX12_wornOf ∈ wT := List.mem_filter.mpr ⟨List.mem_of_getElem? (i := 1711) (by decide +kernel), by decide +kernel⟩
theorem tw_1713 : Cond.instanceMethod yX12_wornOf ∈ wT := List.mem_filter.mpr ⟨List.mem_of_getElem? (i := 1713) (by decide +kernel), by decide +kernel⟩
theorem tw_1714 : Cond.code yX12_wornOf cX12_wornOf 5 (some .int) ∈ wT := List.mem_filter.mpr ⟨List.mem_of_getElem? (i := 1714) (by decide +kernel), by decide +kernel⟩
theorem tw_1715 : Cond.methodLink RX12 504 yX12_clashes ∈ wT := List.mem_filter.mpr ⟨List.mem_of_getElem? (i := 1715) (by decide +kernel), by decide +kernel⟩
theorem tw_1717 : Cond.instanceMethod yX12_clashes ∈ wT := List.mem_filter.mpr ⟨List.mem_of_getElem? (i := 1717) (by decide +kernel), by decide +kernel⟩
theorem tw_1718 : Cond.code yX12_clashes cX12_clashes 4 (some .int) ∈ wT := List.mem_filter.mpr ⟨List.mem_of_getElem? (i := 1718) (by decide +kernel), by decide +kernel⟩
theorem tw_1719 : Cond.methodLink RX12 501 yX12_nearSet ∈ wT := List.mem_filter.mpr ⟨List.mem_of_getElem? (i := 1719) (by decide +kernel), by decide +kernel⟩
theorem tw_1721 : Cond.instanceMethod yX12_nearSet ∈ wT := List.mem_filter.mpr ⟨List.mem_of_getElem? (i := 1721) (by decide +kernel), by decide +kernel⟩
theorem tw_1722 : Cond.code yX12_nearSet cX12_nearSet 2 (some .int) ∈ wT := List.mem_filter.mpr ⟨List.mem_of_getElem? (i := 1722) (by decide +kernel), by decide +kernel⟩
theorem tw_1727 : Cond.methodLink RX12 507 yX12_isBlind ∈ wT := List.mem_filter.mpr ⟨List.mem_of_getElem? (i := 1727) (by decide +kernel), by decide +kernel⟩
theorem tw_1729 : Cond.instanceMethod yX12_isBlind ∈ wT := List.mem_filter.mpr ⟨List.mem_of_getElem? (i := 1729) (by decide +kernel), by decide +kernel⟩
theorem tw_1730 : Cond.code yX12_isBlind cX12_isBlind 2 (some .boolean) ∈ wT := List.mem_filter.mpr ⟨List.mem_of_getElem? (i := 1730) (by decide +kernel), by decide +kernel⟩
theorem tw_1731 : Cond.methodLink RX12 510 yX12_isColour ∈ wT := List.mem_filter.mpr ⟨List.mem_of_getElem? (i := 1731) (by decide +kernel), by decide +kernel⟩
theorem tw_1733 : Cond.instanceMethod yX12_isColour ∈ wT := List.mem_filter.mpr ⟨List.mem_of_getElem? (i := 1733) (by decide +kernel), by decide +kernel⟩
theorem tw_1734 : Cond.code yX12_isColour cX12_isColour 2 (some .boolean) ∈ wT := List.mem_filter.mpr ⟨List.mem_of_getElem? (i := 1734) (by decide +kernel), by decide +kernel⟩
theorem tw_1735 : Cond.methodLink RX12 513 yX12_isThing ∈ wT := List.mem_filter.mpr ⟨List.mem_of_getElem? (i := 1735) (by decide +kernel), by decide +kernel⟩
theorem tw_1737 : Cond.instanceMethod yX12_isThing ∈ wT := List.mem_filter.mpr ⟨List.mem_of_getElem? (i := 1737) (by decide +kernel), by decide +kernel⟩
theorem tw_1738 : Cond.code yX12_isThing cX12_isThing 2 (some .boolean) ∈ wT := List.mem_filter.mpr ⟨List.mem_of_getElem? (i := 1738) (by decide +kernel), by decide +kernel⟩
theorem tw_1744 : Cond.methodLink RX12 518 yX12_placeOf ∈ wT := List.mem_filter.mpr ⟨List.mem_of_getElem? (i := 1744) (by decide +kernel), by decide +kernel⟩
theorem tw_1746 : Cond.instanceMethod yX12_placeOf ∈ wT := List.mem_filter.mpr ⟨List.mem_of_getElem? (i := 1746) (by decide +kernel), by decide +kernel⟩
theorem tw_1747 : Cond.code yX12_placeOf cX12_placeOf 3 (some .int) ∈ wT := List.mem_filter.mpr ⟨List.mem_of_getElem? (i := 1747) (by decide +kernel), by decide +kernel⟩
theorem tw_1748 : Cond.methodLink RX12 473 yX12_isCounting ∈ wT := List.mem_filter.mpr ⟨List.mem_of_getElem? (i := 1748) (by decide +kernel), by decide +kernel⟩
theorem tw_1750 : Cond.instanceMethod yX12_isCounting ∈ wT := List.mem_filter.mpr ⟨List.mem_of_getElem? (i := 1750) (by decide +kernel), by decide +kernel⟩
theorem tw_1751 : Cond.code yX12_isCounting cX12_isCounting 3 (some .boolean) ∈ wT := List.mem_filter.mpr ⟨List.mem_of_getElem? (i := 1751) (by decide +kernel), by decide +kernel⟩
theorem tw_1752 : Cond.methodLink RX12 450 yX12_isTold ∈ wT := List.mem_filter.mpr ⟨List.mem_of_getElem? (i := 1752) (by decide +kernel), by decide +kernel⟩
theorem tw_1754 : Cond.instanceMethod yX12_isTold ∈ wT := List.mem_filter.mpr ⟨List.mem_of_getElem? (i := 1754) (by decide +kernel), by decide +kernel⟩
theorem tw_1755 : Cond.code yX12_isTold cX12_isTold 2 (some .boolean) ∈ wT := List.mem_filter.mpr ⟨List.mem_of_getElem? (i := 1755) (by decide +kernel), by decide +kernel⟩
theorem tw_1756 : Cond.methodLink RX12 453 yX12_lays ∈ wT := List.mem_filter.mpr ⟨List.mem_of_getElem? (i := 1756) (by decide +kernel), by decide +kernel⟩
theorem tw_1758 : Cond.instanceMethod yX12_lays ∈ wT := List.mem_filter.mpr ⟨List.mem_of_getElem? (i := 1758) (by decide +kernel), by decide +kernel⟩
theorem tw_1759 : Cond.code yX12_lays cX12_lays 3 none ∈ wT := List.mem_filter.mpr ⟨List.mem_of_getElem? (i := 1759) (by decide +kernel), by decide +kernel⟩
theorem tw_1760 : Cond.methodLink RX12 459 yX12_reckons ∈ wT := List.mem_filter.mpr ⟨List.mem_of_getElem? (i := 1760) (by decide +kernel), by decide +kernel⟩
theorem tw_1762 : Cond.instanceMethod yX12_reckons ∈ wT := List.mem_filter.mpr ⟨List.mem_of_getElem? (i := 1762) (by decide +kernel), by decide +kernel⟩
theorem tw_1763 : Cond.code yX12_reckons cX12_reckons 5 (some .long) ∈ wT := List.mem_filter.mpr ⟨List.mem_of_getElem? (i := 1763) (by decide +kernel), by decide +kernel⟩
theorem tw_1764 : Cond.methodLink RX12 439 yX12_two ∈ wT := List.mem_filter.mpr ⟨List.mem_of_getElem? (i := 1764) (by decide +kernel), by decide +kernel⟩
theorem tw_1765 : Cond.static yX12_two ∈ wT := List.mem_filter.mpr ⟨List.mem_of_getElem? (i := 1765) (by decide +kernel), by decide +kernel⟩
theorem tw_1766 : Cond.code yX12_two cX12_two 5 (some .long) ∈ wT := List.mem_filter.mpr ⟨List.mem_of_getElem? (i := 1766) (by decide +kernel), by decide +kernel⟩
theorem tw_1767 : Cond.methodLink RX12 431 yX12_within ∈ wT := List.mem_filter.mpr ⟨List.mem_of_getElem? (i := 1767) (by decide +kernel), by decide +kernel⟩
theorem tw_1768 : Cond.static yX12_within ∈ wT := List.mem_filter.mpr ⟨List.mem_of_getElem? (i := 1768) (by decide +kernel), by decide +kernel⟩
theorem tw_1769 : Cond.code yX12_within cX12_within 2 (some .long) ∈ wT := List.mem_filter.mpr ⟨List.mem_of_getElem? (i := 1769) (by decide +kernel), by decide +kernel⟩
theorem tw_1772 : Cond.methodLink RX12 435 yX12_floor ∈ wT := List.mem_filter.mpr ⟨List.mem_of_getElem? (i := 1772) (by decide +kernel), by decide +kernel⟩
theorem tw_1773 : Cond.static yX12_floor ∈ wT := List.mem_filter.mpr ⟨List.mem_of_getElem? (i := 1773) (by decide +kernel), by decide +kernel⟩
theorem tw_1774 : Cond.code yX12_floor cX12_floor 6 (some .long) ∈ wT := List.mem_filter.mpr ⟨List.mem_of_getElem? (i := 1774) (by decide +kernel), by decide +kernel⟩
theorem tw_1783 : Cond.methodLink RX12 521 yX12_bits ∈ wT := List.mem_filter.mpr ⟨List.mem_of_getElem? (i := 1783) (by decide +kernel), by decide +kernel⟩
theorem tw_1784 : Cond.static yX12_bits ∈ wT := List.mem_filter.mpr ⟨List.mem_of_getElem? (i := 1784) (by decide +kernel), by decide +kernel⟩
theorem tw_1785 : Cond.code yX12_bits cX12_bits 3 (some .int) ∈ wT := List.mem_filter.mpr ⟨List.mem_of_getElem? (i := 1785) (by decide +kernel), by decide +kernel⟩
theorem tw_1790 : Cond.methodLink RX12 463 yX12_scoreOf ∈ wT := List.mem_filter.mpr ⟨List.mem_of_getElem? (i := 1790) (by decide +kernel), by decide +kernel⟩
theorem tw_1792 : Cond.instanceMethod yX12_scoreOf ∈ wT := List.mem_filter.mpr ⟨List.mem_of_getElem? (i := 1792) (by decide +kernel), by decide +kernel⟩
theorem tw_1793 : Cond.code yX12_scoreOf cX12_scoreOf 7 (some .long) ∈ wT := List.mem_filter.mpr ⟨List.mem_of_getElem? (i := 1793) (by decide +kernel), by decide +kernel⟩
theorem tw_1794 : Cond.methodLink RX12 446 yX12_matchOf ∈ wT := List.mem_filter.mpr ⟨List.mem_of_getElem? (i := 1794) (by decide +kernel), by decide +kernel⟩
theorem tw_1796 : Cond.instanceMethod yX12_matchOf ∈ wT := List.mem_filter.mpr ⟨List.mem_of_getElem? (i := 1796) (by decide +kernel), by decide +kernel⟩
theorem tw_1797 : Cond.code yX12_matchOf cX12_matchOf 6 (some .int) ∈ wT := List.mem_filter.mpr ⟨List.mem_of_getElem? (i := 1797) (by decide +kernel), by decide +kernel⟩
theorem tw_1798 : Cond.methodLink RX12 443 yX12_gap ∈ wT := List.mem_filter.mpr ⟨List.mem_of_getElem? (i := 1798) (by decide +kernel), by decide +kernel⟩
theorem tw_1799 : Cond.static yX12_gap ∈ wT := List.mem_filter.mpr ⟨List.mem_of_getElem? (i := 1799) (by decide +kernel), by decide +kernel⟩
theorem tw_1800 : Cond.code yX12_gap cX12_gap 2 (some .int) ∈ wT := List.mem_filter.mpr ⟨List.mem_of_getElem? (i := 1800) (by decide +kernel), by decide +kernel⟩
theorem tw_1806 : Cond.methodLink RX12 467 yX12_hushes ∈ wT := List.mem_filter.mpr ⟨List.mem_of_getElem? (i := 1806) (by decide +kernel), by decide +kernel⟩
theorem tw_1808 : Cond.instanceMethod yX12_hushes ∈ wT := List.mem_filter.mpr ⟨List.mem_of_getElem? (i := 1808) (by decide +kernel), by decide +kernel⟩
theorem tw_1809 : Cond.code yX12_hushes cX12_hushes 2 none ∈ wT := List.mem_filter.mpr ⟨List.mem_of_getElem? (i := 1809) (by decide +kernel), by decide +kernel⟩
theorem tw_1810 : Cond.methodLink RX12 470 yX12_wordBy ∈ wT := List.mem_filter.mpr ⟨List.mem_of_getElem? (i := 1810) (by decide +kernel), by decide +kernel⟩
theorem tw_1812 : Cond.instanceMethod yX12_wordBy ∈ wT := List.mem_filter.mpr ⟨List.mem_of_getElem? (i := 1812) (by decide +kernel), by decide +kernel⟩
theorem tw_1813 : Cond.code yX12_wordBy cX12_wordBy 10 (some .int) ∈ wT := List.mem_filter.mpr ⟨List.mem_of_getElem? (i := 1813) (by decide +kernel), by decide +kernel⟩
theorem tw_1818 : Cond.methodLink RX12 487 yX12_everybody ∈ wT := List.mem_filter.mpr ⟨List.mem_of_getElem? (i := 1818) (by decide +kernel), by decide +kernel⟩
theorem tw_1820 : Cond.instanceMethod yX12_everybody ∈ wT := List.mem_filter.mpr ⟨List.mem_of_getElem? (i := 1820) (by decide +kernel), by decide +kernel⟩
theorem tw_1821 : Cond.code yX12_everybody cX12_everybody 1 (some .int) ∈ wT := List.mem_filter.mpr ⟨List.mem_of_getElem? (i := 1821) (by decide +kernel), by decide +kernel⟩
theorem tw_1822 : Cond.methodLink RX12 491 yX12_choiceOf ∈ wT := List.mem_filter.mpr ⟨List.mem_of_getElem? (i := 1822) (by decide +kernel), by decide +kernel⟩
theorem tw_1824 : Cond.instanceMethod yX12_choiceOf ∈ wT := List.mem_filter.mpr ⟨List.mem_of_getElem? (i := 1824) (by decide +kernel), by decide +kernel⟩
theorem tw_1825 : Cond.code yX12_choiceOf cX12_choiceOf 4 (some .int) ∈ wT := List.mem_filter.mpr ⟨List.mem_of_getElem? (i := 1825) (by decide +kernel), by decide +kernel⟩
theorem tw_1826 : Cond.methodLink RX12 476 yX12_laysNow ∈ wT := List.mem_filter.mpr ⟨List.mem_of_getElem? (i := 1826) (by decide +kernel), by decide +kernel⟩
theorem tw_1828 : Cond.instanceMethod yX12_laysNow ∈ wT := List.mem_filter.mpr ⟨List.mem_of_getElem? (i := 1828) (by decide +kernel), by decide +kernel⟩
theorem tw_1829 : Cond.code yX12_laysNow cX12_laysNow 3 none ∈ wT := List.mem_filter.mpr ⟨List.mem_of_getElem? (i := 1829) (by decide +kernel), by decide +kernel⟩
theorem tw_1830 : Cond.methodLink RX12 479 yX12_chosen ∈ wT := List.mem_filter.mpr ⟨List.mem_of_getElem? (i := 1830) (by decide +kernel), by decide +kernel⟩
theorem tw_1832 : Cond.instanceMethod yX12_chosen ∈ wT := List.mem_filter.mpr ⟨List.mem_of_getElem? (i := 1832) (by decide +kernel), by decide +kernel⟩
theorem tw_1833 : Cond.code yX12_chosen cX12_chosen 6 (some .int) ∈ wT := List.mem_filter.mpr ⟨List.mem_of_getElem? (i := 1833) (by decide +kernel), by decide +kernel⟩
theorem tw_1838 : Cond.methodLink RX12 529 yX12_isAhead ∈ wT := List.mem_filter.mpr ⟨List.mem_of_getElem? (i := 1838) (by decide +kernel), by decide +kernel⟩
theorem tw_1840 : Cond.instanceMethod yX12_isAhead ∈ wT := List.mem_filter.mpr ⟨List.mem_of_getElem? (i := 1840) (by decide +kernel), by decide +kernel⟩
theorem tw_1841 : Cond.code yX12_isAhead cX12_isAhead 4 (some .boolean) ∈ wT := List.mem_filter.mpr ⟨List.mem_of_getElem? (i := 1841) (by decide +kernel), by decide +kernel⟩
theorem tw_1842 : Cond.methodLink RX12 532 yX12_runsOn ∈ wT := List.mem_filter.mpr ⟨List.mem_of_getElem? (i := 1842) (by decide +kernel), by decide +kernel⟩
theorem tw_1844 : Cond.instanceMethod yX12_runsOn ∈ wT := List.mem_filter.mpr ⟨List.mem_of_getElem? (i := 1844) (by decide +kernel), by decide +kernel⟩
theorem tw_1845 : Cond.code yX12_runsOn cX12_runsOn 3 none ∈ wT := List.mem_filter.mpr ⟨List.mem_of_getElem? (i := 1845) (by decide +kernel), by decide +kernel⟩
theorem tw_1846 : Cond.methodLink RX12 526 yX12_ticks ∈ wT := List.mem_filter.mpr ⟨List.mem_of_getElem? (i := 1846) (by decide +kernel), by decide +kernel⟩
theorem tw_1848 : Cond.instanceMethod yX12_ticks ∈ wT := List.mem_filter.mpr ⟨List.mem_of_getElem? (i := 1848) (by decide +kernel), by decide +kernel⟩
theorem tw_1849 : Cond.code yX12_ticks cX12_ticks 7 (some .boolean) ∈ wT := List.mem_filter.mpr ⟨List.mem_of_getElem? (i := 1849) (by decide +kernel), by decide +kernel⟩
theorem tw_1850 : Cond.methodLink RX12 484 yX12_gift ∈ wT := List.mem_filter.mpr ⟨List.mem_of_getElem? (i := 1850) (by decide +kernel), by decide +kernel⟩
theorem tw_1852 : Cond.instanceMethod yX12_gift ∈ wT := List.mem_filter.mpr ⟨List.mem_of_getElem? (i := 1852) (by decide +kernel), by decide +kernel⟩
theorem tw_1853 : Cond.code yX12_gift cX12_gift 4 (some .int) ∈ wT := List.mem_filter.mpr ⟨List.mem_of_getElem? (i := 1853) (by decide +kernel), by decide +kernel⟩
theorem tw_1855 : Cond.methodLink RX12 494 yX12_moods ∈ wT := List.mem_filter.mpr ⟨List.mem_of_getElem? (i := 1855) (by decide +kernel), by decide +kernel⟩
theorem tw_1857 : Cond.instanceMethod yX12_moods ∈ wT := List.mem_filter.mpr ⟨List.mem_of_getElem? (i := 1857) (by decide +kernel), by decide +kernel⟩
theorem tw_1858 : Cond.code yX12_moods cX12_moods 5 none ∈ wT := List.mem_filter.mpr ⟨List.mem_of_getElem? (i := 1858) (by decide +kernel), by decide +kernel⟩
theorem tw_1859 : Cond.methodLink RX12 497 yX12_writesDown ∈ wT := List.mem_filter.mpr ⟨List.mem_of_getElem? (i := 1859) (by decide +kernel), by decide +kernel⟩
theorem tw_1861 : Cond.instanceMethod yX12_writesDown ∈ wT := List.mem_filter.mpr ⟨List.mem_of_getElem? (i := 1861) (by decide +kernel), by decide +kernel⟩
theorem tw_1862 : Cond.code yX12_writesDown cX12_writesDown 5 none ∈ wT := List.mem_filter.mpr ⟨List.mem_of_getElem? (i := 1862) (by decide +kernel), by decide +kernel⟩
theorem tw_1875 : Cond.methodLink RX12 535 yX12_rowsOf ∈ wT := List.mem_filter.mpr ⟨List.mem_of_getElem? (i := 1875) (by decide +kernel), by decide +kernel⟩
theorem tw_1877 : Cond.instanceMethod yX12_rowsOf ∈ wT := List.mem_filter.mpr ⟨List.mem_of_getElem? (i := 1877) (by decide +kernel), by decide +kernel⟩
theorem tw_1878 : Cond.code yX12_rowsOf cX12_rowsOf 3 (some .int) ∈ wT := List.mem_filter.mpr ⟨List.mem_of_getElem? (i := 1878) (by decide +kernel), by decide +kernel⟩
theorem tw_1879 : Cond.methodLink RX12 538 yX12_laysOrder ∈ wT := List.mem_filter.mpr ⟨List.mem_of_getElem? (i := 1879) (by decide +kernel), by decide +kernel⟩
theorem tw_1881 : Cond.instanceMethod yX12_laysOrder ∈ wT := List.mem_filter.mpr ⟨List.mem_of_getElem? (i := 1881) (by decide +kernel), by decide +kernel⟩
theorem tw_1882 : Cond.code yX12_laysOrder cX12_laysOrder 9 none ∈ wT := List.mem_filter.mpr ⟨List.mem_of_getElem? (i := 1882) (by decide +kernel), by decide +kernel⟩
theorem tw_1895 : Cond.methodLink RX12 544 yX12_isCleared ∈ wT := List.mem_filter.mpr ⟨List.mem_of_getElem? (i := 1895) (by decide +kernel), by decide +kernel⟩
theorem tw_1897 : Cond.instanceMethod yX12_isCleared ∈ wT := List.mem_filter.mpr ⟨List.mem_of_getElem? (i := 1897) (by decide +kernel), by decide +kernel⟩
theorem tw_1898 : Cond.code yX12_isCleared cX12_isCleared 6 (some .boolean) ∈ wT := List.mem_filter.mpr ⟨List.mem_of_getElem? (i := 1898) (by decide +kernel), by decide +kernel⟩
theorem tw_1899 : Cond.methodLink RX12 541 yX12_isClear ∈ wT := List.mem_filter.mpr ⟨List.mem_of_getElem? (i := 1899) (by decide +kernel), by decide +kernel⟩
theorem tw_1901 : Cond.instanceMethod yX12_isClear ∈ wT := List.mem_filter.mpr ⟨List.mem_of_getElem? (i := 1901) (by decide +kernel), by decide +kernel⟩
theorem tw_1902 : Cond.code yX12_isClear cX12_isClear 3 (some .boolean) ∈ wT := List.mem_filter.mpr ⟨List.mem_of_getElem? (i := 1902) (by decide +kernel), by decide +kernel⟩
theorem tw_1915 : Cond.methodLink RX12 547 yX12_tasteBits ∈ wT := List.mem_filter.mpr ⟨List.mem_of_getElem? (i := 1915) (by decide +kernel), by decide +kernel⟩
theorem tw_1917 : Cond.instanceMethod yX12_tasteBits ∈ wT := List.mem_filter.mpr ⟨List.mem_of_getElem? (i := 1917) (by decide +kernel), by decide +kernel⟩
theorem tw_1918 : Cond.code yX12_tasteBits cX12_tasteBits 7 (some .int) ∈ wT := List.mem_filter.mpr ⟨List.mem_of_getElem? (i := 1918) (by decide +kernel), by decide +kernel⟩
theorem tw_1924 : Cond.methodLink RX12 551 yX12_mostBy ∈ wT := List.mem_filter.mpr ⟨List.mem_of_getElem? (i := 1924) (by decide +kernel), by decide +kernel⟩
theorem tw_1926 : Cond.instanceMethod yX12_mostBy ∈ wT := List.mem_filter.mpr ⟨List.mem_of_getElem? (i := 1926) (by decide +kernel), by decide +kernel⟩
theorem tw_1927 : Cond.code yX12_mostBy cX12_mostBy 8 (some .int) ∈ wT := List.mem_filter.mpr ⟨List.mem_of_getElem? (i := 1927) (by decide +kernel), by decide +kernel⟩
theorem tw_1932 : Cond.methodLink RX12 554 yX12_keeps ∈ wT := List.mem_filter.mpr ⟨List.mem_of_getElem? (i := 1932) (by decide +kernel), by decide +kernel⟩
theorem tw_1934 : Cond.instanceMethod yX12_keeps ∈ wT := List.mem_filter.mpr ⟨List.mem_of_getElem? (i := 1934) (by decide +kernel), by decide +kernel⟩
theorem tw_1935 : Cond.code yX12_keeps cX12_keeps 1 none ∈ wT := List.mem_filter.mpr ⟨List.mem_of_getElem? (i := 1935) (by decide +kernel), by decide +kernel⟩
theorem tw_1940 : Cond.methodLink RX12 565 yX12_draw ∈ wT := List.mem_filter.mpr ⟨List.mem_of_getElem? (i := 1940) (by decide +kernel), by decide +kernel⟩
theorem tw_1942 : Cond.instanceMethod yX12_draw ∈ wT := List.mem_filter.mpr ⟨List.mem_of_getElem? (i := 1942) (by decide +kernel), by decide +kernel⟩
theorem tw_1943 : Cond.code yX12_draw cX12_draw 2 (some .int) ∈ wT := List.mem_filter.mpr ⟨List.mem_of_getElem? (i := 1943) (by decide +kernel), by decide +kernel⟩
theorem tw_1972 : Cond.methodLink RX12 568 yX12_writes ∈ wT := List.mem_filter.mpr ⟨List.mem_of_getElem? (i := 1972) (by decide +kernel), by decide +kernel⟩
theorem tw_1974 : Cond.instanceMethod yX12_writes ∈ wT := List.mem_filter.mpr ⟨List.mem_of_getElem? (i := 1974) (by decide +kernel), by decide +kernel⟩
theorem tw_1975 : Cond.code yX12_writes cX12_writes 2 none ∈ wT := List.mem_filter.mpr ⟨List.mem_of_getElem? (i := 1975) (by decide +kernel), by decide +kernel⟩
theorem tw_1984 : Cond.methodLink RX12 571 yX12_comesOn ∈ wT := List.mem_filter.mpr ⟨List.mem_of_getElem? (i := 1984) (by decide +kernel), by decide +kernel⟩
theorem tw_1986 : Cond.instanceMethod yX12_comesOn ∈ wT := List.mem_filter.mpr ⟨List.mem_of_getElem? (i := 1986) (by decide +kernel), by decide +kernel⟩
theorem tw_1987 : Cond.code yX12_comesOn cX12_comesOn 8 (some .boolean) ∈ wT := List.mem_filter.mpr ⟨List.mem_of_getElem? (i := 1987) (by decide +kernel), by decide +kernel⟩
theorem tw_1988 : Cond.fieldLink RJ0 9 "java/lang/String" "value" "[B" ∈ wT := List.mem_filter.mpr ⟨List.mem_of_getElem? (i := 1988) (by decide +kernel), by decide +kernel⟩
theorem tw_1989 : Cond.fieldLink RJ0 15 "java/lang/String" "coder" "B" ∈ wT := List.mem_filter.mpr ⟨List.mem_of_getElem? (i := 1989) (by decide +kernel), by decide +kernel⟩
theorem fl_X0_15 : wPL RX0 15 0 1 2 (tyX0 1) true := ⟨RX0, TX0, 2, tyX0, iwX0, rfl, by decide, tw_444, rfl, rfl, by decide, by decide, tyX0_ok, nmX0, rfl, rfl⟩
theorem fl_X0_23 : wPL RX0 23 7 1 0 .int false := ⟨RX7, TX7, 7, tyX7, iwX7, rfl, by decide, tw_196, rfl, rfl, by decide, by decide, tyX7_ok, nmX7, rfl, rfl⟩
theorem fl_X0_29 : wPL RX0 29 3 0 2 (tyX3 0) true := ⟨RX3, TX3, 12, tyX3, iwX3, rfl, by decide, tw_281, rfl, rfl, by decide, by decide, tyX3_ok, nmX3, rfl, rfl⟩
theorem fl_X0_35 : wPL RX0 35 7 0 0 .int false := ⟨RX7, TX7, 7, tyX7, iwX7, rfl, by decide, tw_191, rfl, rfl, by decide, by decide, tyX7_ok, nmX7, rfl, rfl⟩
theorem fl_X0_48 : wPL RX0 48 7 3 2 (tyX7 3) true := ⟨RX7, TX7, 7, tyX7, iwX7, rfl, by decide, tw_204, rfl, rfl, by decide, by decide, tyX7_ok, nmX7, rfl, rfl⟩
theorem fl_X0_84 : wPL RX0 84 7 5 2 (tyX7 5) true := ⟨RX7, TX7, 7, tyX7, iwX7, rfl, by decide, tw_214, rfl, rfl, by decide, by decide, tyX7_ok, nmX7, rfl, rfl⟩
theorem fl_X0_9 : wPL RX0 9 0 0 2 (tyX0 0) true := ⟨RX0, TX0, 2, tyX0, iwX0, rfl, by decide, tw_443, rfl, rfl, by decide, by decide, tyX0_ok, nmX0, rfl, rfl⟩
theorem fl_X0_90 : wPL RX0 90 7 4 2 (tyX7 4) true := ⟨RX7, TX7, 7, tyX7, iwX7, rfl, by decide, tw_210, rfl, rfl, by decide, by decide, tyX7_ok, nmX7, rfl, rfl⟩
theorem fl_X10_15 : wPL RX10 15 10 1 2 (tyX10 1) true := ⟨RX10, TX10, 6, tyX10, iwX10, rfl, by decide, tw_355, rfl, rfl, by decide, by decide, tyX10_ok, nmX10, rfl, rfl⟩
theorem fl_X10_18 : wPL RX10 18 10 2 2 (tyX10 2) true := ⟨RX10, TX10, 6, tyX10, iwX10, rfl, by decide, tw_356, rfl, rfl, by decide, by decide, tyX10_ok, nmX10, rfl, rfl⟩
theorem fl_X10_21 : wPL RX10 21 10 3 0 .int false := ⟨RX10, TX10, 6, tyX10, iwX10, rfl, by decide, tw_357, rfl, rfl, by decide, by decide, tyX10_ok, nmX10, rfl, rfl⟩
theorem fl_X10_25 : wPL RX10 25 10 4 0 .int false := ⟨RX10, TX10, 6, tyX10, iwX10, rfl, by decide, tw_358, rfl, rfl, by decide, by decide, tyX10_ok, nmX10, rfl, rfl⟩
theorem fl_X10_28 : wPL RX10 28 10 5 0 .int false := ⟨RX10, TX10, 6, tyX10, iwX10, rfl, by decide, tw_359, rfl, rfl, by decide, by decide, tyX10_ok, nmX10, rfl, rfl⟩
theorem fl_X10_31 : wPL RX10 31 9 1 0 .int false := ⟨RX9, TX9, 2, tyX9, iwX9, rfl, by decide, tw_160, rfl, rfl, by decide, by decide, tyX9_ok, nmX9, rfl, rfl⟩
theorem fl_X10_9 : wPL RX10 9 10 0 2 (tyX10 0) true := ⟨RX10, TX10, 6, tyX10, iwX10, rfl, by decide, tw_354, rfl, rfl, by decide, by decide, tyX10_ok, nmX10, rfl, rfl⟩
theorem fl_X11_10 : wPL RX11 10 11 0 2 (tyX11 0) true := ⟨RX11, TX11, 17, tyX11, iwX11, rfl, by decide, tw_494, rfl, rfl, by decide, by decide, tyX11_ok, nmX11, rfl, rfl⟩
theorem fl_X11_106 : wPL RX11 106 11 11 2 (tyX11 11) true := ⟨RX11, TX11, 17, tyX11, iwX11, rfl, by decide, tw_505, rfl, rfl, by decide, by decide, tyX11_ok, nmX11, rfl, rfl⟩
theorem fl_X11_114 : wPL RX11 114 9 1 0 .int false := ⟨RX9, TX9, 2, tyX9, iwX9, rfl, by decide, tw_159, rfl, rfl, by decide, by decide, tyX9_ok, nmX9, rfl, rfl⟩
theorem fl_X11_133 : wPL RX11 133 6 6 0 .int false := ⟨RX6, TX6, 8, tyX6, iwX6, rfl, by decide, tw_380, rfl, rfl, by decide, by decide, tyX6_ok, nmX6, rfl, rfl⟩
theorem fl_X11_136 : wPL RX11 136 6 7 0 .int false := ⟨RX6, TX6, 8, tyX6, iwX6, rfl, by decide, tw_382, rfl, rfl, by decide, by decide, tyX6_ok, nmX6, rfl, rfl⟩
theorem fl_X11_139 : wPL RX11 139 4 2 0 .int false := ⟨RX4, TX4, 3, tyX4, iwX4, rfl, by decide, tw_245, rfl, rfl, by decide, by decide, tyX4_ok, nmX4, rfl, rfl⟩
theorem fl_X11_142 : wPL RX11 142 2 5 0 .int false := ⟨RX2, TX2, 9, tyX2, iwX2, rfl, by decide, tw_464, rfl, rfl, by decide, by decide, tyX2_ok, nmX2, rfl, rfl⟩
theorem fl_X11_145 : wPL RX11 145 3 0 2 (tyX3 0) true := ⟨RX3, TX3, 12, tyX3, iwX3, rfl, by decide, tw_285, rfl, rfl, by decide, by decide, tyX3_ok, nmX3, rfl, rfl⟩
theorem fl_X11_147 : wPL RX11 147 7 0 0 .int false := ⟨RX7, TX7, 7, tyX7, iwX7, rfl, by decide, tw_194, rfl, rfl, by decide, by decide, tyX7_ok, nmX7, rfl, rfl⟩
theorem fl_X11_150 : wPL RX11 150 7 1 0 .int false := ⟨RX7, TX7, 7, tyX7, iwX7, rfl, by decide, tw_198, rfl, rfl, by decide, by decide, tyX7_ok, nmX7, rfl, rfl⟩
theorem fl_X11_157 : wPL RX11 157 7 5 2 (tyX7 5) true := ⟨RX7, TX7, 7, tyX7, iwX7, rfl, by decide, tw_216, rfl, rfl, by decide, by decide, tyX7_ok, nmX7, rfl, rfl⟩
theorem fl_X11_164 : wPL RX11 164 7 2 0 .int false := ⟨RX7, TX7, 7, tyX7, iwX7, rfl, by decide, tw_200, rfl, rfl, by decide, by decide, tyX7_ok, nmX7, rfl, rfl⟩
theorem fl_X11_181 : wPL RX11 181 7 4 2 (tyX7 4) true := ⟨RX7, TX7, 7, tyX7, iwX7, rfl, by decide, tw_211, rfl, rfl, by decide, by decide, tyX7_ok, nmX7, rfl, rfl⟩
theorem fl_X11_19 : wPL RX11 19 11 1 2 (tyX11 1) true := ⟨RX11, TX11, 17, tyX11, iwX11, rfl, by decide, tw_495, rfl, rfl, by decide, by decide, tyX11_ok, nmX11, rfl, rfl⟩
theorem fl_X11_194 : wPL RX11 194 3 3 2 (tyX3 3) true := ⟨RX3, TX3, 12, tyX3, iwX3, rfl, by decide, tw_292, rfl, rfl, by decide, by decide, tyX3_ok, nmX3, rfl, rfl⟩
theorem fl_X11_213 : wPL RX11 213 7 3 2 (tyX7 3) true := ⟨RX7, TX7, 7, tyX7, iwX7, rfl, by decide, tw_205, rfl, rfl, by decide, by decide, tyX7_ok, nmX7, rfl, rfl⟩
theorem fl_X11_26 : wPL RX11 26 11 2 2 (tyX11 2) true := ⟨RX11, TX11, 17, tyX11, iwX11, rfl, by decide, tw_496, rfl, rfl, by decide, by decide, tyX11_ok, nmX11, rfl, rfl⟩
theorem fl_X11_265 : wPL RX11 265 2 6 0 .int false := ⟨RX2, TX2, 9, tyX2, iwX2, rfl, by decide, tw_466, rfl, rfl, by decide, by decide, tyX2_ok, nmX2, rfl, rfl⟩
theorem fl_X11_268 : wPL RX11 268 2 7 0 .int false := ⟨RX2, TX2, 9, tyX2, iwX2, rfl, by decide, tw_468, rfl, rfl, by decide, by decide, tyX2_ok, nmX2, rfl, rfl⟩
theorem fl_X11_271 : wPL RX11 271 2 8 0 .int false := ⟨RX2, TX2, 9, tyX2, iwX2, rfl, by decide, tw_470, rfl, rfl, by decide, by decide, tyX2_ok, nmX2, rfl, rfl⟩
theorem fl_X11_285 : wPL RX11 285 3 11 0 .int false := ⟨RX3, TX3, 12, tyX3, iwX3, rfl, by decide, tw_316, rfl, rfl, by decide, by decide, tyX3_ok, nmX3, rfl, rfl⟩
theorem fl_X11_297 : wPL RX11 297 5 1 0 .int false := ⟨RX5, TX5, 2, tyX5, iwX5, rfl, by decide, tw_261, rfl, rfl, by decide, by decide, tyX5_ok, nmX5, rfl, rfl⟩
theorem fl_X11_30 : wPL RX11 30 11 3 2 (tyX11 3) true := ⟨RX11, TX11, 17, tyX11, iwX11, rfl, by decide, tw_497, rfl, rfl, by decide, by decide, tyX11_ok, nmX11, rfl, rfl⟩
theorem fl_X11_36 : wPL RX11 36 11 4 2 (tyX11 4) true := ⟨RX11, TX11, 17, tyX11, iwX11, rfl, by decide, tw_498, rfl, rfl, by decide, by decide, tyX11_ok, nmX11, rfl, rfl⟩
theorem fl_X11_43 : wPL RX11 43 11 5 2 (tyX11 5) true := ⟨RX11, TX11, 17, tyX11, iwX11, rfl, by decide, tw_499, rfl, rfl, by decide, by decide, tyX11_ok, nmX11, rfl, rfl⟩
theorem fl_X11_47 : wPL RX11 47 11 6 2 (tyX11 6) true := ⟨RX11, TX11, 17, tyX11, iwX11, rfl, by decide, tw_500, rfl, rfl, by decide, by decide, tyX11_ok, nmX11, rfl, rfl⟩
theorem fl_X11_51 : wPL RX11 51 11 7 2 (tyX11 7) true := ⟨RX11, TX11, 17, tyX11, iwX11, rfl, by decide, tw_501, rfl, rfl, by decide, by decide, tyX11_ok, nmX11, rfl, rfl⟩
theorem fl_X11_57 : wPL RX11 57 11 12 2 (tyX11 12) false := ⟨RX11, TX11, 17, tyX11, iwX11, rfl, by decide, tw_506, rfl, rfl, by decide, by decide, tyX11_ok, nmX11, rfl, rfl⟩
theorem fl_X11_61 : wPL RX11 61 11 13 2 (tyX11 13) false := ⟨RX11, TX11, 17, tyX11, iwX11, rfl, by decide, tw_507, rfl, rfl, by decide, by decide, tyX11_ok, nmX11, rfl, rfl⟩
theorem fl_X11_64 : wPL RX11 64 11 14 0 .int false := ⟨RX11, TX11, 17, tyX11, iwX11, rfl, by decide, tw_508, rfl, rfl, by decide, by decide, tyX11_ok, nmX11, rfl, rfl⟩
theorem fl_X11_68 : wPL RX11 68 11 15 0 .int false := ⟨RX11, TX11, 17, tyX11, iwX11, rfl, by decide, tw_509, rfl, rfl, by decide, by decide, tyX11_ok, nmX11, rfl, rfl⟩
theorem fl_X11_71 : wPL RX11 71 11 16 0 .int false := ⟨RX11, TX11, 17, tyX11, iwX11, rfl, by decide, tw_510, rfl, rfl, by decide, by decide, tyX11_ok, nmX11, rfl, rfl⟩
theorem fl_X11_79 : wPL RX11 79 11 8 2 (tyX11 8) true := ⟨RX11, TX11, 17, tyX11, iwX11, rfl, by decide, tw_502, rfl, rfl, by decide, by decide, tyX11_ok, nmX11, rfl, rfl⟩
theorem fl_X11_88 : wPL RX11 88 11 9 2 (tyX11 9) true := ⟨RX11, TX11, 17, tyX11, iwX11, rfl, by decide, tw_503, rfl, rfl, by decide, by decide, tyX11_ok, nmX11, rfl, rfl⟩
theorem fl_X11_97 : wPL RX11 97 11 10 2 (tyX11 10) true := ⟨RX11, TX11, 17, tyX11, iwX11, rfl, by decide, tw_504, rfl, rfl, by decide, by decide, tyX11_ok, nmX11, rfl, rfl⟩
theorem fl_X12_102 : wPL RX12 102 12 30 2 (tyX12 30) true := ⟨RX12, TX12, 69, tyX12, iwX12, rfl, by decide, tw_1303, rfl, rfl, by decide, by decide, tyX12_ok, nmX12, rfl, rfl⟩
theorem fl_X12_106 : wPL RX12 106 12 31 0 .int false := ⟨RX12, TX12, 69, tyX12, iwX12, rfl, by decide, tw_1304, rfl, rfl, by decide, by decide, tyX12_ok, nmX12, rfl, rfl⟩
theorem fl_X12_109 : wPL RX12 109 12 32 0 .int false := ⟨RX12, TX12, 69, tyX12, iwX12, rfl, by decide, tw_1305, rfl, rfl, by decide, by decide, tyX12_ok, nmX12, rfl, rfl⟩
theorem fl_X12_112 : wPL RX12 112 12 33 0 .int false := ⟨RX12, TX12, 69, tyX12, iwX12, rfl, by decide, tw_1306, rfl, rfl, by decide, by decide, tyX12_ok, nmX12, rfl, rfl⟩
theorem fl_X12_115 : wPL RX12 115 12 34 2 (tyX12 34) true := ⟨RX12, TX12, 69, tyX12, iwX12, rfl, by decide, tw_1307, rfl, rfl, by decide, by decide, tyX12_ok, nmX12, rfl, rfl⟩
theorem fl_X12_118 : wPL RX12 118 12 35 2 (tyX12 35) true := ⟨RX12, TX12, 69, tyX12, iwX12, rfl, by decide, tw_1308, rfl, rfl, by decide, by decide, tyX12_ok, nmX12, rfl, rfl⟩
theorem fl_X12_121 : wPL RX12 121 12 36 2 (tyX12 36) true := ⟨RX12, TX12, 69, tyX12, iwX12, rfl, by decide, tw_1309, rfl, rfl, by decide, by decide, tyX12_ok, nmX12, rfl, rfl⟩
theorem fl_X12_125 : wPL RX12 125 12 37 2 (tyX12 37) true := ⟨RX12, TX12, 69, tyX12, iwX12, rfl, by decide, tw_1310, rfl, rfl, by decide, by decide, tyX12_ok, nmX12, rfl, rfl⟩
theorem fl_X12_128 : wPL RX12 128 12 38 2 (tyX12 38) true := ⟨RX12, TX12, 69, tyX12, iwX12, rfl, by decide, tw_1311, rfl, rfl, by decide, by decide, tyX12_ok, nmX12, rfl, rfl⟩
theorem fl_X12_13 : wPL RX12 13 12 1 0 .int false := ⟨RX12, TX12, 69, tyX12, iwX12, rfl, by decide, tw_1274, rfl, rfl, by decide, by decide, tyX12_ok, nmX12, rfl, rfl⟩
theorem fl_X12_131 : wPL RX12 131 12 39 0 .int false := ⟨RX12, TX12, 69, tyX12, iwX12, rfl, by decide, tw_1312, rfl, rfl, by decide, by decide, tyX12_ok, nmX12, rfl, rfl⟩
theorem fl_X12_134 : wPL RX12 134 12 40 0 .int false := ⟨RX12, TX12, 69, tyX12, iwX12, rfl, by decide, tw_1313, rfl, rfl, by decide, by decide, tyX12_ok, nmX12, rfl, rfl⟩
theorem fl_X12_137 : wPL RX12 137 12 41 2 (tyX12 41) true := ⟨RX12, TX12, 69, tyX12, iwX12, rfl, by decide, tw_1314, rfl, rfl, by decide, by decide, tyX12_ok, nmX12, rfl, rfl⟩
theorem fl_X12_140 : wPL RX12 140 12 42 0 .int false := ⟨RX12, TX12, 69, tyX12, iwX12, rfl, by decide, tw_1315, rfl, rfl, by decide, by decide, tyX12_ok, nmX12, rfl, rfl⟩
theorem fl_X12_143 : wPL RX12 143 12 43 0 .boolean false := ⟨RX12, TX12, 69, tyX12, iwX12, rfl, by decide, tw_1316, rfl, rfl, by decide, by decide, tyX12_ok, nmX12, rfl, rfl⟩
theorem fl_X12_147 : wPL RX12 147 12 44 2 (tyX12 44) true := ⟨RX12, TX12, 69, tyX12, iwX12, rfl, by decide, tw_1317, rfl, rfl, by decide, by decide, tyX12_ok, nmX12, rfl, rfl⟩
theorem fl_X12_150 : wPL RX12 150 12 45 2 (tyX12 45) true := ⟨RX12, TX12, 69, tyX12, iwX12, rfl, by decide, tw_1318, rfl, rfl, by decide, by decide, tyX12_ok, nmX12, rfl, rfl⟩
theorem fl_X12_153 : wPL RX12 153 12 46 2 (tyX12 46) true := ⟨RX12, TX12, 69, tyX12, iwX12, rfl, by decide, tw_1319, rfl, rfl, by decide, by decide, tyX12_ok, nmX12, rfl, rfl⟩
theorem fl_X12_156 : wPL RX12 156 12 47 2 (tyX12 47) true := ⟨RX12, TX12, 69, tyX12, iwX12, rfl, by decide, tw_1320, rfl, rfl, by decide, by decide, tyX12_ok, nmX12, rfl, rfl⟩
theorem fl_X12_159 : wPL RX12 159 12 48 2 (tyX12 48) true := ⟨RX12, TX12, 69, tyX12, iwX12, rfl, by decide, tw_1321, rfl, rfl, by decide, by decide, tyX12_ok, nmX12, rfl, rfl⟩
theorem fl_X12_162 : wPL RX12 162 12 49 2 (tyX12 49) true := ⟨RX12, TX12, 69, tyX12, iwX12, rfl, by decide, tw_1322, rfl, rfl, by decide, by decide, tyX12_ok, nmX12, rfl, rfl⟩
theorem fl_X12_165 : wPL RX12 165 12 50 2 (tyX12 50) true := ⟨RX12, TX12, 69, tyX12, iwX12, rfl, by decide, tw_1323, rfl, rfl, by decide, by decide, tyX12_ok, nmX12, rfl, rfl⟩
theorem fl_X12_168 : wPL RX12 168 12 51 2 (tyX12 51) true := ⟨RX12, TX12, 69, tyX12, iwX12, rfl, by decide, tw_1324, rfl, rfl, by decide, by decide, tyX12_ok, nmX12, rfl, rfl⟩
theorem fl_X12_17 : wPL RX12 17 12 2 0 .int false := ⟨RX12, TX12, 69, tyX12, iwX12, rfl, by decide, tw_1275, rfl, rfl, by decide, by decide, tyX12_ok, nmX12, rfl, rfl⟩
theorem fl_X12_171 : wPL RX12 171 12 52 0 .int false := ⟨RX12, TX12, 69, tyX12, iwX12, rfl, by decide, tw_1325, rfl, rfl, by decide, by decide, tyX12_ok, nmX12, rfl, rfl⟩
theorem fl_X12_174 : wPL RX12 174 12 53 0 .int false := ⟨RX12, TX12, 69, tyX12, iwX12, rfl, by decide, tw_1326, rfl, rfl, by decide, by decide, tyX12_ok, nmX12, rfl, rfl⟩
theorem fl_X12_177 : wPL RX12 177 12 54 1 .long false := ⟨RX12, TX12, 69, tyX12, iwX12, rfl, by decide, tw_1327, rfl, rfl, by decide, by decide, tyX12_ok, nmX12, rfl, rfl⟩
theorem fl_X12_180 : wPL RX12 180 12 55 2 (tyX12 55) true := ⟨RX12, TX12, 69, tyX12, iwX12, rfl, by decide, tw_1328, rfl, rfl, by decide, by decide, tyX12_ok, nmX12, rfl, rfl⟩
