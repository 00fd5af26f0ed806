theorem tw_1278 : Cond.fieldLink RX12 26 RX12 (TX12 5).2.1 (TX12 5).2.2.1 ∈ wT := List.mem_filter.mpr ⟨List.mem_of_getElem? (i := 1278) (by decide +kernel), by decide +kernel⟩
theorem tw_1279 : Cond.fieldLink RX12 29 RX12 (TX12 6).2.1 (TX12 6).2.2.1 ∈ wT := List.mem_filter.mpr ⟨List.mem_of_getElem? (i := 1279) (by decide +kernel), by decide +kernel⟩
theorem tw_1280 : Cond.fieldLink RX12 32 RX12 (TX12 7).2.1 (TX12 7).2.2.1 ∈ wT := List.mem_filter.mpr ⟨List.mem_of_getElem? (i := 1280) (by decide +kernel), by decide +kernel⟩
theorem tw_1281 : Cond.fieldLink RX12 36 RX12 (TX12 8).2.1 (TX12 8).2.2.1 ∈ wT := List.mem_filter.mpr ⟨List.mem_of_getElem? (i := 1281) (by decide +kernel), by decide +kernel⟩
theorem tw_1282 : Cond.fieldLink RX12 39 RX12 (TX12 9).2.1 (TX12 9).2.2.1 ∈ wT := List.mem_filter.mpr ⟨List.mem_of_getElem? (i := 1282) (by decide +kernel), by decide +kernel⟩
theorem tw_1283 : Cond.fieldLink RX12 42 RX12 (TX12 10).2.1 (TX12 10).2.2.1 ∈ wT := List.mem_filter.mpr ⟨List.mem_of_getElem? (i := 1283) (by decide +kernel), by decide +kernel⟩
theorem tw_1284 : Cond.fieldLink RX12 45 RX12 (TX12 11).2.1 (TX12 11).2.2.1 ∈ wT := List.mem_filter.mpr ⟨List.mem_of_getElem? (i := 1284) (by decide +kernel), by decide +kernel⟩
theorem tw_1285 : Cond.fieldLink RX12 48 RX12 (TX12 12).2.1 (TX12 12).2.2.1 ∈ wT := List.mem_filter.mpr ⟨List.mem_of_getElem? (i := 1285) (by decide +kernel), by decide +kernel⟩
theorem tw_1286 : Cond.fieldLink RX12 51 RX12 (TX12 13).2.1 (TX12 13).2.2.1 ∈ wT := List.mem_filter.mpr ⟨List.mem_of_getElem? (i := 1286) (by decide +kernel), by decide +kernel⟩
theorem tw_1287 : Cond.fieldLink RX12 54 RX12 (TX12 14).2.1 (TX12 14).2.2.1 ∈ wT := List.mem_filter.mpr ⟨List.mem_of_getElem? (i := 1287) (by decide +kernel), by decide +kernel⟩
theorem tw_1288 : Cond.fieldLink RX12 57 RX12 (TX12 15).2.1 (TX12 15).2.2.1 ∈ wT := List.mem_filter.mpr ⟨List.mem_of_getElem? (i := 1288) (by decide +kernel), by decide +kernel⟩
theorem tw_1289 : Cond.fieldLink RX12 60 RX12 (TX12 16).2.1 (TX12 16).2.2.1 ∈ wT := List.mem_filter.mpr ⟨List.mem_of_getElem? (i := 1289) (by decide +kernel), by decide +kernel⟩
theorem tw_1290 : Cond.fieldLink RX12 63 RX12 (TX12 17).2.1 (TX12 17).2.2.1 ∈ wT := List.mem_filter.mpr ⟨List.mem_of_getElem? (i := 1290) (by decide +kernel), by decide +kernel⟩
theorem tw_1291 : Cond.fieldLink RX12 66 RX12 (TX12 18).2.1 (TX12 18).2.2.1 ∈ wT := List.mem_filter.mpr ⟨List.mem_of_getElem? (i := 1291) (by decide +kernel), by decide +kernel⟩
theorem tw_1292 : Cond.fieldLink RX12 69 RX12 (TX12 19).2.1 (TX12 19).2.2.1 ∈ wT := List.mem_filter.mpr ⟨List.mem_of_getElem? (i := 1292) (by decide +kernel), by decide +kernel⟩
theorem tw_1293 : Cond.fieldLink RX12 72 RX12 (TX12 20).2.1 (TX12 20).2.2.1 ∈ wT := List.mem_filter.mpr ⟨List.mem_of_getElem? (i := 1293) (by decide +kernel), by decide +kernel⟩
theorem tw_1294 : Cond.fieldLink RX12 75 RX12 (TX12 21).2.1 (TX12 21).2.2.1 ∈ wT := List.mem_filter.mpr ⟨List.mem_of_getElem? (i := 1294) (by decide +kernel), by decide +kernel⟩
theorem tw_1295 : Cond.fieldLink RX12 78 RX12 (TX12 22).2.1 (TX12 22).2.2.1 ∈ wT := List.mem_filter.mpr ⟨List.mem_of_getElem? (i := 1295) (by decide +kernel), by decide +kernel⟩
theorem tw_1296 : Cond.fieldLink RX12 81 RX12 (TX12 23).2.1 (TX12 23).2.2.1 ∈ wT := List.mem_filter.mpr ⟨List.mem_of_getElem? (i := 1296) (by decide +kernel), by decide +kernel⟩
theorem tw_1297 : Cond.fieldLink RX12 84 RX12 (TX12 24).2.1 (TX12 24).2.2.1 ∈ wT := List.mem_filter.mpr ⟨List.mem_of_getElem? (i := 1297) (by decide +kernel), by decide +kernel⟩
theorem tw_1298 : Cond.fieldLink RX12 87 RX12 (TX12 25).2.1 (TX12 25).2.2.1 ∈ wT := List.mem_filter.mpr ⟨List.mem_of_getElem? (i := 1298) (by decide +kernel), by decide +kernel⟩
theorem tw_1299 : Cond.fieldLink RX12 90 RX12 (TX12 26).2.1 (TX12 26).2.2.1 ∈ wT := List.mem_filter.mpr ⟨List.mem_of_getElem? (i := 1299) (by decide +kernel), by decide +kernel⟩
theorem tw_1300 : Cond.fieldLink RX12 93 RX12 (TX12 27).2.1 (TX12 27).2.2.1 ∈ wT := List.mem_filter.mpr ⟨List.mem_of_getElem? (i := 1300) (by decide +kernel), by decide +kernel⟩
theorem tw_1301 : Cond.fieldLink RX12 96 RX12 (TX12 28).2.1 (TX12 28).2.2.1 ∈ wT := List.mem_filter.mpr ⟨List.mem_of_getElem? (i := 1301) (by decide +kernel), by decide +kernel⟩
theorem tw_1302 : Cond.fieldLink RX12 99 RX12 (TX12 29).2.1 (TX12 29).2.2.1 ∈ wT := List.mem_filter.mpr ⟨List.mem_of_getElem? (i := 1302) (by decide +kernel), by decide +kernel⟩
theorem tw_1303 : Cond.fieldLink RX12 102 RX12 (TX12 30).2.1 (TX12 30).2.2.1 ∈ wT := List.mem_filter.mpr ⟨List.mem_of_getElem? (i := 1303) (by decide +kernel), by decide +kernel⟩
theorem tw_1304 : Cond.fieldLink RX12 106 RX12 (TX12 31).2.1 (TX12 31).2.2.1 ∈ wT := List.mem_filter.mpr ⟨List.mem_of_getElem? (i := 1304) (by decide +kernel), by decide +kernel⟩
theorem tw_1305 : Cond.fieldLink RX12 109 RX12 (TX12 32).2.1 (TX12 32).2.2.1 ∈ wT := List.mem_filter.mpr ⟨List.mem_of_getElem? (i := 1305) (by decide +kernel), by decide +kernel⟩
theorem tw_1306 : Cond.fieldLink RX12 112 RX12 (TX12 33).2.1 (TX12 33).2.2.1 ∈ wT := List.mem_filter.mpr ⟨List.mem_of_getElem? (i := 1306) (by decide +kernel), by decide +kernel⟩
theorem tw_1307 : Cond.fieldLink RX12 115 RX12 (TX12 34).2.1 (TX12 34).2.2.1 ∈ wT := List.mem_filter.mpr ⟨List.mem_of_getElem? (i := 1307) (by decide +kernel), by decide +kernel⟩
theorem tw_1308 : Cond.fieldLink RX12 118 RX12 (TX12 35).2.1 (TX12 35).2.2.1 ∈ wT := List.mem_filter.mpr ⟨List.mem_of_getElem? (i := 1308) (by decide +kernel), by decide +kernel⟩
theorem tw_1309 : Cond.fieldLink RX12 121 RX12 (TX12 36).2.1 (TX12 36).2.2.1 ∈ wT := List.mem_filter.mpr ⟨List.mem_of_getElem? (i := 1309) (by decide +kernel), by decide +kernel⟩
theorem tw_1310 : Cond.fieldLink RX12 125 RX12 (TX12 37).2.1 (TX12 37).2.2.1 ∈ wT := List.mem_filter.mpr ⟨List.mem_of_getElem? (i := 1310) (by decide +kernel), by decide +kernel⟩
theorem tw_1311 : Cond.fieldLink RX12 128 RX12 (TX12 38).2.1 (TX12 38).2.2.1 ∈ wT := List.mem_filter.mpr ⟨List.mem_of_getElem? (i := 1311) (by decide +kernel), by decide +kernel⟩
theorem tw_1312 : Cond.fieldLink RX12 131 RX12 (TX12 39).2.1 (TX12 39).2.2.1 ∈ wT := List.mem_filter.mpr ⟨List.mem_of_getElem? (i := 1312) (by decide +kernel), by decide +kernel⟩
theorem tw_1313 : Cond.fieldLink RX12 134 RX12 (TX12 40).2.1 (TX12 40).2.2.1 ∈ wT := List.mem_filter.mpr ⟨List.mem_of_getElem? (i := 1313) (by decide +kernel), by decide +kernel⟩
theorem tw_1314 : Cond.fieldLink RX12 137 RX12 (TX12 41).2.1 (TX12 41).2.2.1 ∈ wT := List.mem_filter.mpr ⟨List.mem_of_getElem? (i := 1314) (by decide +kernel), by decide +kernel⟩
theorem tw_1315 : Cond.fieldLink RX12 140 RX12 (TX12 42).2.1 (TX12 42).2.2.1 ∈ wT := List.mem_filter.mpr ⟨List.mem_of_getElem? (i := 1315) (by decide +kernel), by decide +kernel⟩
theorem tw_1316 : Cond.fieldLink RX12 143 RX12 (TX12 43).2.1 (TX12 43).2.2.1 ∈ wT := List.mem_filter.mpr ⟨List.mem_of_getElem? (i := 1316) (by decide +kernel), by decide +kernel⟩
theorem tw_1317 : Cond.fieldLink RX12 147 RX12 (TX12 44).2.1 (TX12 44).2.2.1 ∈ wT := List.mem_filter.mpr ⟨List.mem_of_getElem? (i := 1317) (by decide +kernel), by decide +kernel⟩
theorem tw_1318 : Cond.fieldLink RX12 150 RX12 (TX12 45).2.1 (TX12 45).2.2.1 ∈ wT := List.mem_filter.mpr ⟨List.mem_of_getElem? (i := 1318) (by decide +kernel), by decide +kernel⟩
theorem tw_1319 : Cond.fieldLink RX12 153 RX12 (TX12 46).2.1 (TX12 46).2.2.1 ∈ wT := List.mem_filter.mpr ⟨List.mem_of_getElem? (i := 1319) (by decide +kernel), by decide +kernel⟩
theorem tw_1320 : Cond.fieldLink RX12 156 RX12 (TX12 47).2.1 (TX12 47).2.2.1 ∈ wT := List.mem_filter.mpr ⟨List.mem_of_getElem? (i := 1320) (by decide +kernel), by decide +kernel⟩
theorem tw_1321 : Cond.fieldLink RX12 159 RX12 (TX12 48).2.1 (TX12 48).2.2.1 ∈ wT := List.mem_filter.mpr ⟨List.mem_of_getElem? (i := 1321) (by decide +kernel), by decide +kernel⟩
theorem tw_1322 : Cond.fieldLink RX12 162 RX12 (TX12 49).2.1 (TX12 49).2.2.1 ∈ wT := List.mem_filter.mpr ⟨List.mem_of_getElem? (i := 1322) (by decide +kernel), by decide +kernel⟩
theorem tw_1323 : Cond.fieldLink RX12 165 RX12 (TX12 50).2.1 (TX12 50).2.2.1 ∈ wT := List.mem_filter.mpr ⟨List.mem_of_getElem? (i := 1323) (by decide +kernel), by decide +kernel⟩
theorem tw_1324 : Cond.fieldLink RX12 168 RX12 (TX12 51).2.1 (TX12 51).2.2.1 ∈ wT := List.mem_filter.mpr ⟨List.mem_of_getElem? (i := 1324) (by decide +kernel), by decide +kernel⟩
theorem tw_1325 : Cond.fieldLink RX12 171 RX12 (TX12 52).2.1 (TX12 52).2.2.1 ∈ wT := List.mem_filter.mpr ⟨List.mem_of_getElem? (i := 1325) (by decide +kernel), by decide +kernel⟩
theorem tw_1326 : Cond.fieldLink RX12 174 RX12 (TX12 53).2.1 (TX12 53).2.2.1 ∈ wT := List.mem_filter.mpr ⟨List.mem_of_getElem? (i := 1326) (by decide +kernel), by decide +kernel⟩
theorem tw_1327 : Cond.fieldLink RX12 177 RX12 (TX12 54).2.1 (TX12 54).2.2.1 ∈ wT := List.mem_filter.mpr ⟨List.mem_of_getElem? (i := 1327) (by decide +kernel), by decide +kernel⟩
theorem tw_1328 : Cond.fieldLink RX12 180 RX12 (TX12 55).2.1 (TX12 55).2.2.1 ∈ wT := List.mem_filter.mpr ⟨List.mem_of_getElem? (i := 1328) (by decide +kernel), by decide +kernel⟩
theorem tw_1329 : Cond.fieldLink RX12 183 RX12 (TX12 56).2.1 (TX12 56).2.2.1 ∈ wT := List.mem_filter.mpr ⟨List.mem_of_getElem? (i := 1329) (by decide +kernel), by decide +kernel⟩
theorem tw_1330 : Cond.fieldLink RX12 186 RX12 (TX12 57).2.1 (TX12 57).2.2.1 ∈ wT := List.mem_filter.mpr ⟨List.mem_of_getElem? (i := 1330) (by decide +kernel), by decide +kernel⟩
theorem tw_1331 : Cond.fieldLink RX12 189 RX12 (TX12 58).2.1 (TX12 58).2.2.1 ∈ wT := List.mem_filter.mpr ⟨List.mem_of_getElem? (i := 1331) (by decide +kernel), by decide +kernel⟩
theorem tw_1332 : Cond.fieldLink RX12 192 RX12 (TX12 59).2.1 (TX12 59).2.2.1 ∈ wT := List.mem_filter.mpr ⟨List.mem_of_getElem? (i := 1332) (by decide +kernel), by decide +kernel⟩
theorem tw_1333 : Cond.fieldLink RX12 195 RX12 (TX12 60).2.1 (TX12 60).2.2.1 ∈ wT := List.mem_filter.mpr ⟨List.mem_of_getElem? (i := 1333) (by decide +kernel), by decide +kernel⟩
theorem tw_1334 : Cond.fieldLink RX12 198 RX12 (TX12 61).2.1 (TX12 61).2.2.1 ∈ wT := List.mem_filter.mpr ⟨List.mem_of_getElem? (i := 1334) (by decide +kernel), by decide +kernel⟩
theorem tw_1335 : Cond.fieldLink RX12 201 RX12 (TX12 62).2.1 (TX12 62).2.2.1 ∈ wT := List.mem_filter.mpr ⟨List.mem_of_getElem? (i := 1335) (by decide +kernel), by decide +kernel⟩
theorem tw_1336 : Cond.fieldLink RX12 204 RX12 (TX12 63).2.1 (TX12 63).2.2.1 ∈ wT := List.mem_filter.mpr ⟨List.mem_of_getElem? (i := 1336) (by decide +kernel), by decide +kernel⟩
theorem tw_1337 : Cond.fieldLink RX12 207 RX12 (TX12 64).2.1 (TX12 64).2.2.1 ∈ wT := List.mem_filter.mpr ⟨List.mem_of_getElem? (i := 1337) (by decide +kernel), by decide +kernel⟩
theorem tw_1338 : Cond.fieldLink RX12 210 RX12 (TX12 65).2.1 (TX12 65).2.2.1 ∈ wT := List.mem_filter.mpr ⟨List.mem_of_getElem? (i := 1338) (by decide +kernel), by decide +kernel⟩
theorem tw_1339 : Cond.fieldLink RX12 213 RX12 (TX12 66).2.1 (TX12 66).2.2.1 ∈ wT := List.mem_filter.mpr ⟨List.mem_of_getElem? (i := 1339) (by decide +kernel), by decide +kernel⟩
theorem tw_1340 : Cond.fieldLink RX12 216 RX12 (TX12 67).2.1 (TX12 67).2.2.1 ∈ wT := List.mem_filter.mpr ⟨List.mem_of_getElem? (i := 1340) (by decide +kernel), by decide +kernel⟩
theorem tw_1341 : Cond.fieldLink RX12 219 RX12 (TX12 68).2.1 (TX12 68).2.2.1 ∈ wT := List.mem_filter.mpr ⟨List.mem_of_getElem? (i := 1341) (by decide +kernel), by decide +kernel⟩
theorem tw_1481 : Cond.arrayClass .boolean ∈ wT := List.mem_filter.mpr ⟨List.mem_of_getElem? (i := 1481) (by decide +kernel), by decide +kernel⟩
theorem tw_1486 : Cond.methodLink RX12 222 yX12_refuses ∈ wT := List.mem_filter.mpr ⟨List.mem_of_getElem? (i := 1486) (by decide +kernel), by decide +kernel⟩
theorem tw_1488 : Cond.instanceMethod yX12_refuses ∈ wT := List.mem_filter.mpr ⟨List.mem_of_getElem? (i := 1488) (by decide +kernel), by decide +kernel⟩
theorem tw_1489 : Cond.code yX12_refuses cX12_refuses 2 (some .int) ∈ wT := List.mem_filter.mpr ⟨List.mem_of_getElem? (i := 1489) (by decide +kernel), by decide +kernel⟩
theorem tw_1490 : Cond.methodLink RX12 226 yX12_put ∈ wT := List.mem_filter.mpr ⟨List.mem_of_getElem? (i := 1490) (by decide +kernel), by decide +kernel⟩
theorem tw_1492 : Cond.instanceMethod yX12_put ∈ wT := List.mem_filter.mpr ⟨List.mem_of_getElem? (i := 1492) (by decide +kernel), by decide +kernel⟩
theorem tw_1493 : Cond.code yX12_put cX12_put 3 none ∈ wT := List.mem_filter.mpr ⟨List.mem_of_getElem? (i := 1493) (by decide +kernel), by decide +kernel⟩
theorem tw_1502 : Cond.methodLink RX12 247 yX12_ahead ∈ wT := List.mem_filter.mpr ⟨List.mem_of_getElem? (i := 1502) (by decide +kernel), by decide +kernel⟩
theorem tw_1504 : Cond.instanceMethod yX12_ahead ∈ wT := List.mem_filter.mpr ⟨List.mem_of_getElem? (i := 1504) (by decide +kernel), by decide +kernel⟩
theorem tw_1505 : Cond.code yX12_ahead cX12_ahead 6 none ∈ wT := List.mem_filter.mpr ⟨List.mem_of_getElem? (i := 1505) (by decide +kernel), by decide +kernel⟩
theorem tw_1506 : Cond.methodLink RX12 234 yX12_isLetter ∈ wT := List.mem_filter.mpr ⟨List.mem_of_getElem? (i := 1506) (by decide +kernel), by decide +kernel⟩
theorem tw_1507 : Cond.static yX12_isLetter ∈ wT := List.mem_filter.mpr ⟨List.mem_of_getElem? (i := 1507) (by decide +kernel), by decide +kernel⟩
theorem tw_1508 : Cond.code yX12_isLetter cX12_isLetter 1 (some .boolean) ∈ wT := List.mem_filter.mpr ⟨List.mem_of_getElem? (i := 1508) (by decide +kernel), by decide +kernel⟩
theorem tw_1509 : Cond.methodLink RX12 238 yX12_isDigit ∈ wT := List.mem_filter.mpr ⟨List.mem_of_getElem? (i := 1509) (by decide +kernel), by decide +kernel⟩
theorem tw_1510 : Cond.static yX12_isDigit ∈ wT := List.mem_filter.mpr ⟨List.mem_of_getElem? (i := 1510) (by decide +kernel), by decide +kernel⟩
theorem tw_1511 : Cond.code yX12_isDigit cX12_isDigit 1 (some .boolean) ∈ wT := List.mem_filter.mpr ⟨List.mem_of_getElem? (i := 1511) (by decide +kernel), by decide +kernel⟩
theorem tw_1512 : Cond.methodLink RX12 412 yX12_statement ∈ wT := List.mem_filter.mpr ⟨List.mem_of_getElem? (i := 1512) (by decide +kernel), by decide +kernel⟩
theorem tw_1514 : Cond.instanceMethod yX12_statement ∈ wT := List.mem_filter.mpr ⟨List.mem_of_getElem? (i := 1514) (by decide +kernel), by decide +kernel⟩
theorem tw_1515 : Cond.code yX12_statement cX12_statement 1 none ∈ wT := List.mem_filter.mpr ⟨List.mem_of_getElem? (i := 1515) (by decide +kernel), by decide +kernel⟩
theorem tw_1516 : Cond.methodLink RX12 241 yX12_lex ∈ wT := List.mem_filter.mpr ⟨List.mem_of_getElem? (i := 1516) (by decide +kernel), by decide +kernel⟩
theorem tw_1518 : Cond.instanceMethod yX12_lex ∈ wT := List.mem_filter.mpr ⟨List.mem_of_getElem? (i := 1518) (by decide +kernel), by decide +kernel⟩
theorem tw_1519 : Cond.code yX12_lex cX12_lex 1 none ∈ wT := List.mem_filter.mpr ⟨List.mem_of_getElem? (i := 1519) (by decide +kernel), by decide +kernel⟩
theorem tw_1520 : Cond.methodLink RX12 230 yX12_blame ∈ wT := List.mem_filter.mpr ⟨List.mem_of_getElem? (i := 1520) (by decide +kernel), by decide +kernel⟩
theorem tw_1522 : Cond.instanceMethod yX12_blame ∈ wT := List.mem_filter.mpr ⟨List.mem_of_getElem? (i := 1522) (by decide +kernel), by decide +kernel⟩
theorem tw_1523 : Cond.code yX12_blame cX12_blame 3 none ∈ wT := List.mem_filter.mpr ⟨List.mem_of_getElem? (i := 1523) (by decide +kernel), by decide +kernel⟩
theorem tw_1525 : Cond.methodLink RX12 325 yX12_isWord ∈ wT := List.mem_filter.mpr ⟨List.mem_of_getElem? (i := 1525) (by decide +kernel), by decide +kernel⟩
theorem tw_1527 : Cond.instanceMethod yX12_isWord ∈ wT := List.mem_filter.mpr ⟨List.mem_of_getElem? (i := 1527) (by decide +kernel), by decide +kernel⟩
theorem tw_1528 : Cond.code yX12_isWord cX12_isWord 3 (some .boolean) ∈ wT := List.mem_filter.mpr ⟨List.mem_of_getElem? (i := 1528) (by decide +kernel), by decide +kernel⟩
theorem tw_1529 : Cond.methodLink RX12 385 yX12_blinding ∈ wT := List.mem_filter.mpr ⟨List.mem_of_getElem? (i := 1529) (by decide +kernel), by decide +kernel⟩
theorem tw_1531 : Cond.instanceMethod yX12_blinding ∈ wT := List.mem_filter.mpr ⟨List.mem_of_getElem? (i := 1531) (by decide +kernel), by decide +kernel⟩
theorem tw_1532 : Cond.code yX12_blinding cX12_blinding 1 none ∈ wT := List.mem_filter.mpr ⟨List.mem_of_getElem? (i := 1532) (by decide +kernel), by decide +kernel⟩
theorem tw_1533 : Cond.methodLink RX12 375 yX12_isShaped ∈ wT := List.mem_filter.mpr ⟨List.mem_of_getElem? (i := 1533) (by decide +kernel), by decide +kernel⟩
theorem tw_1535 : Cond.instanceMethod yX12_isShaped ∈ wT := List.mem_filter.mpr ⟨List.mem_of_getElem? (i := 1535) (by decide +kernel), by decide +kernel⟩
theorem tw_1536 : Cond.code yX12_isShaped cX12_isShaped 9 (some .boolean) ∈ wT := List.mem_filter.mpr ⟨List.mem_of_getElem? (i := 1536) (by decide +kernel), by decide +kernel⟩
theorem tw_1537 : Cond.methodLink RX12 306 yX12_manyOf ∈ wT := List.mem_filter.mpr ⟨List.mem_of_getElem? (i := 1537) (by decide +kernel), by decide +kernel⟩
theorem tw_1539 : Cond.instanceMethod yX12_manyOf ∈ wT := List.mem_filter.mpr ⟨List.mem_of_getElem? (i := 1539) (by decide +kernel), by decide +kernel⟩
theorem tw_1540 : Cond.code yX12_manyOf cX12_manyOf 2 (some .int) ∈ wT := List.mem_filter.mpr ⟨List.mem_of_getElem? (i := 1540) (by decide +kernel), by decide +kernel⟩
theorem tw_1541 : Cond.methodLink RX12 355 yX12_isCounted ∈ wT := List.mem_filter.mpr ⟨List.mem_of_getElem? (i := 1541) (by decide +kernel), by decide +kernel⟩
theorem tw_1543 : Cond.instanceMethod yX12_isCounted ∈ wT := List.mem_filter.mpr ⟨List.mem_of_getElem? (i := 1543) (by decide +kernel), by decide +kernel⟩
theorem tw_1544 : Cond.code yX12_isCounted cX12_isCounted 2 (some .boolean) ∈ wT := List.mem_filter.mpr ⟨List.mem_of_getElem? (i := 1544) (by decide +kernel), by decide +kernel⟩
theorem tw_1545 : Cond.methodLink RX12 363 yX12_fresh ∈ wT := List.mem_filter.mpr ⟨List.mem_of_getElem? (i := 1545) (by decide +kernel), by decide +kernel⟩
theorem tw_1547 : Cond.instanceMethod yX12_fresh ∈ wT := List.mem_filter.mpr ⟨List.mem_of_getElem? (i := 1547) (by decide +kernel), by decide +kernel⟩
theorem tw_1548 : Cond.code yX12_fresh cX12_fresh 3 (some .long) ∈ wT := List.mem_filter.mpr ⟨List.mem_of_getElem? (i := 1548) (by decide +kernel), by decide +kernel⟩
theorem tw_1549 : Cond.methodLink RX12 344 yX12_isOwn ∈ wT := List.mem_filter.mpr ⟨List.mem_of_getElem? (i := 1549) (by decide +kernel), by decide +kernel⟩
theorem tw_1551 : Cond.instanceMethod yX12_isOwn ∈ wT := List.mem_filter.mpr ⟨List.mem_of_getElem? (i := 1551) (by decide +kernel), by decide +kernel⟩
theorem tw_1552 : Cond.code yX12_isOwn cX12_isOwn 3 (some .boolean) ∈ wT := List.mem_filter.mpr ⟨List.mem_of_getElem? (i := 1552) (by decide +kernel), by decide +kernel⟩
theorem tw_1580 : Cond.methodLink RX12 347 yX12_named ∈ wT := List.mem_filter.mpr ⟨List.mem_of_getElem? (i := 1580) (by decide +kernel), by decide +kernel⟩
theorem tw_1582 : Cond.instanceMethod yX12_named ∈ wT := List.mem_filter.mpr ⟨List.mem_of_getElem? (i := 1582) (by decide +kernel), by decide +kernel⟩
theorem tw_1583 : Cond.code yX12_named cX12_named 5 (some .int) ∈ wT := List.mem_filter.mpr ⟨List.mem_of_getElem? (i := 1583) (by decide +kernel), by decide +kernel⟩
theorem tw_1584 : Cond.methodLink RX12 367 yX12_mustWord ∈ wT := List.mem_filter.mpr ⟨List.mem_of_getElem? (i := 1584) (by decide +kernel), by decide +kernel⟩
theorem tw_1586 : Cond.instanceMethod yX12_mustWord ∈ wT := List.mem_filter.mpr ⟨List.mem_of_getElem? (i := 1586) (by decide +kernel), by decide +kernel⟩
theorem tw_1587 : Cond.code yX12_mustWord cX12_mustWord 3 none ∈ wT := List.mem_filter.mpr ⟨List.mem_of_getElem? (i := 1587) (by decide +kernel), by decide +kernel⟩
theorem tw_1588 : Cond.methodLink RX12 359 yX12_number ∈ wT := List.mem_filter.mpr ⟨List.mem_of_getElem? (i := 1588) (by decide +kernel), by decide +kernel⟩
theorem tw_1590 : Cond.instanceMethod yX12_number ∈ wT := List.mem_filter.mpr ⟨List.mem_of_getElem? (i := 1590) (by decide +kernel), by decide +kernel⟩
theorem tw_1591 : Cond.code yX12_number cX12_number 4 (some .int) ∈ wT := List.mem_filter.mpr ⟨List.mem_of_getElem? (i := 1591) (by decide +kernel), by decide +kernel⟩
theorem tw_1592 : Cond.methodLink RX12 309 yX12_is ∈ wT := List.mem_filter.mpr ⟨List.mem_of_getElem? (i := 1592) (by decide +kernel), by decide +kernel⟩
theorem tw_1593 : Cond.static yX12_is ∈ wT := List.mem_filter.mpr ⟨List.mem_of_getElem? (i := 1593) (by decide +kernel), by decide +kernel⟩
theorem tw_1594 : Cond.code yX12_is cX12_is 3 (some .boolean) ∈ wT := List.mem_filter.mpr ⟨List.mem_of_getElem? (i := 1594) (by decide +kernel), by decide +kernel⟩
theorem tw_1595 : Cond.methodLink RX12 371 yX12_shapes ∈ wT := List.mem_filter.mpr ⟨List.mem_of_getElem? (i := 1595) (by decide +kernel), by decide +kernel⟩
theorem tw_1596 : Cond.static yX12_shapes ∈ wT := List.mem_filter.mpr ⟨List.mem_of_getElem? (i := 1596) (by decide +kernel), by decide +kernel⟩
theorem tw_1597 : Cond.code yX12_shapes cX12_shapes 5 none ∈ wT := List.mem_filter.mpr ⟨List.mem_of_getElem? (i := 1597) (by decide +kernel), by decide +kernel⟩
theorem tw_1598 : Cond.methodLink RX12 388 yX12_colouring ∈ wT := List.mem_filter.mpr ⟨List.mem_of_getElem? (i := 1598) (by decide +kernel), by decide +kernel⟩
theorem tw_1600 : Cond.instanceMethod yX12_colouring ∈ wT := List.mem_filter.mpr ⟨List.mem_of_getElem? (i := 1600) (by decide +kernel), by decide +kernel⟩
theorem tw_1601 : Cond.code yX12_colouring cX12_colouring 1 none ∈ wT := List.mem_filter.mpr ⟨List.mem_of_getElem? (i := 1601) (by decide +kernel), by decide +kernel⟩
theorem tw_1602 : Cond.methodLink RX12 391 yX12_thinging ∈ wT := List.mem_filter.mpr ⟨List.mem_of_getElem? (i := 1602) (by decide +kernel), by decide +kernel⟩
theorem tw_1604 : Cond.instanceMethod yX12_thinging ∈ wT := List.mem_filter.mpr ⟨List.mem_of_getElem? (i := 1604) (by decide +kernel), by decide +kernel⟩
theorem tw_1605 : Cond.code yX12_thinging cX12_thinging 1 none ∈ wT := List.mem_filter.mpr ⟨List.mem_of_getElem? (i := 1605) (by decide +kernel), by decide +kernel⟩
theorem tw_1606 : Cond.methodLink RX12 394 yX12_lateness ∈ wT := List.mem_filter.mpr ⟨List.mem_of_getElem? (i := 1606) (by decide +kernel), by decide +kernel⟩
theorem tw_1608 : Cond.instanceMethod yX12_lateness ∈ wT := List.mem_filter.mpr ⟨List.mem_of_getElem? (i := 1608) (by decide +kernel), by decide +kernel⟩
theorem tw_1609 : Cond.code yX12_lateness cX12_lateness 2 none ∈ wT := List.mem_filter.mpr ⟨List.mem_of_getElem? (i := 1609) (by decide +kernel), by decide +kernel⟩
theorem tw_1610 : Cond.methodLink RX12 378 yX12_known ∈ wT := List.mem_filter.mpr ⟨List.mem_of_getElem? (i := 1610) (by decide +kernel), by decide +kernel⟩
theorem tw_1612 : Cond.instanceMethod yX12_known ∈ wT := List.mem_filter.mpr ⟨List.mem_of_getElem? (i := 1612) (by decide +kernel), by decide +kernel⟩
theorem tw_1613 : Cond.code yX12_known cX12_known 4 (some .int) ∈ wT := List.mem_filter.mpr ⟨List.mem_of_getElem? (i := 1613) (by decide +kernel), by decide +kernel⟩
theorem tw_1614 : Cond.methodLink RX12 351 yX12_has2 ∈ wT := List.mem_filter.mpr ⟨List.mem_of_getElem? (i := 1614) (by decide +kernel), by decide +kernel⟩
theorem tw_1615 : Cond.static yX12_has2 ∈ wT := List.mem_filter.mpr ⟨List.mem_of_getElem? (i := 1615) (by decide +kernel), by decide +kernel⟩
theorem tw_1616 : Cond.code yX12_has2 cX12_has2 2 (some .boolean) ∈ wT := List.mem_filter.mpr ⟨List.mem_of_getElem? (i := 1616) (by decide +kernel), by decide +kernel⟩
theorem tw_1617 : Cond.methodLink RX12 397 yX12_nearing ∈ wT := List.mem_filter.mpr ⟨List.mem_of_getElem? (i := 1617) (by decide +kernel), by decide +kernel⟩
theorem tw_1619 : Cond.instanceMethod yX12_nearing ∈ wT := List.mem_filter.mpr ⟨List.mem_of_getElem? (i := 1619) (by decide +kernel), by decide +kernel⟩
theorem tw_1620 : Cond.code yX12_nearing cX12_nearing 3 none ∈ wT := List.mem_filter.mpr ⟨List.mem_of_getElem? (i := 1620) (by decide +kernel), by decide +kernel⟩
theorem tw_1621 : Cond.methodLink RX12 400 yX12_wearing ∈ wT := List.mem_filter.mpr ⟨List.mem_of_getElem? (i := 1621) (by decide +kernel), by decide +kernel⟩
theorem tw_1623 : Cond.instanceMethod yX12_wearing ∈ wT := List.mem_filter.mpr ⟨List.mem_of_getElem? (i := 1623) (by decide +kernel), by decide +kernel⟩
theorem tw_1624 : Cond.code yX12_wearing cX12_wearing 3 none ∈ wT := List.mem_filter.mpr ⟨List.mem_of_getElem? (i := 1624) (by decide +kernel), by decide +kernel⟩
theorem tw_1625 : Cond.methodLink RX12 403 yX12_telling ∈ wT := List.mem_filter.mpr ⟨List.mem_of_getElem? (i := 1625) (by decide +kernel), by decide +kernel⟩
theorem tw_1627 : Cond.instanceMethod yX12_telling ∈ wT := List.mem_filter.mpr ⟨List.mem_of_getElem? (i := 1627) (by decide +kernel), by decide +kernel⟩
theorem tw_1628 : Cond.code yX12_telling cX12_telling 2 (some .int) ∈ wT := List.mem_filter.mpr ⟨List.mem_of_getElem? (i := 1628) (by decide +kernel), by decide +kernel⟩
theorem tw_1629 : Cond.methodLink RX12 406 yX12_reading ∈ wT := List.mem_filter.mpr ⟨List.mem_of_getElem? (i := 1629) (by decide +kernel), by decide +kernel⟩
