/-! the shapes of the cells -/
def shx : List Sp := [(9, 9), (0, 11), (0, 6), (2, 34), (1, 1300), (1, 1301), (1, 1301), (2, 1301), (0, 3), (2, 12), (1, 12), (1, 12), (1, 12), (1, 12), (1, 16), (1, 16), (1, 16), (1, 16), (1, 16), (1, 16), (1, 3), (1, 3), (1, 64), (0, 3), (2, 12), (1, 12), (1, 12), (1, 12), (1, 12), (1, 16), (1, 16), (1, 16), (1, 16), (1, 16), (1, 16), (1, 3), (1, 3), (1, 64), (0, 4), (5, 3), (0, 7), (1, 700), (1, 4), (1, 4), (1, 60), (1, 11), (0, 7), (1, 700), (1, 4), (1, 4), (1, 60), (1, 11), (0, 7), (1, 700), (1, 4), (1, 4), (1, 60), (1, 11), (0, 7), (1, 700), (1, 4), (1, 4), (1, 60), (1, 11), (0, 8), (1, 18), (0, 1), (1, 200), (1, 200), (1, 200), (1, 200), (1, 200), (1, 12), (0, 2), (1, 12), (1, 12), (6, 13), (1, 256), (1, 256), (1, 256), (1, 256), (1, 256), (1, 256), (1, 256), (1, 256), (1, 256), (1, 256), (1, 256), (1, 256), (1, 256), (1, 256), (1, 3), (0, 9), (3, 8), (3, 8), (6, 4), (1, 64), (1, 64), (1, 64), (1, 64), (0, 0), (1, 10), (1, 10), (1, 10), (0, 10), (1, 12), (1, 4096), (1, 4096), (0, 5), (1, 8), (1, 8), (6, 2), (1, 1085), (1, 1085)]
def shm : List Sp := [(9, 9), (0, 12), (4, 1320), (4, 1300), (1, 2), (1, 2), (1, 2), (1, 2), (1, 2), (1, 24), (1, 24), (1, 24), (1, 24), (1, 32), (1, 32), (1, 32), (1, 32), (1, 32), (1, 32), (1, 6), (1, 6), (1, 128), (3, 16), (2, 24), (1, 4), (1, 16), (1, 16), (1, 2800), (1, 2800), (1, 80), (1, 80), (1, 90), (3, 16), (1, 200), (1, 200), (1, 200), (1, 200), (1, 200), (1, 12), (1, 12), (1, 12), (1, 53248), (1, 3), (1, 6400), (1, 10), (1, 10), (1, 10), (1, 12), (1, 12), (1, 8), (1, 8), (3, 302715)]
/-! facts of the tables: fields, methods, constants -/
theorem fl_RX0_11 : FLk RX0 11 0 1 := ⟨_, rfl, by decide, tb1 (i := 398) (by decide +kernel) rfl, rfl⟩
theorem fl_RX0_15 : FLk RX0 15 0 2 := ⟨_, rfl, by decide, tb1 (i := 399) (by decide +kernel) rfl, rfl⟩
theorem fl_RX0_18 : FLk RX0 18 0 3 := ⟨_, rfl, by decide, tb1 (i := 400) (by decide +kernel) rfl, rfl⟩
theorem fl_RX0_21 : FLk RX0 21 0 0 := ⟨_, rfl, by decide, tb1 (i := 396) (by decide +kernel) rfl, rfl⟩
theorem fl_RX10_11 : FLk RX10 11 10 1 := ⟨_, rfl, by decide, tb1 (i := 418) (by decide +kernel) rfl, rfl⟩
theorem fl_RX10_17 : FLk RX10 17 10 2 := ⟨_, rfl, by decide, tb1 (i := 419) (by decide +kernel) rfl, rfl⟩
theorem fl_RX10_21 : FLk RX10 21 10 3 := ⟨_, rfl, by decide, tb1 (i := 420) (by decide +kernel) rfl, rfl⟩
theorem fl_RX10_24 : FLk RX10 24 10 4 := ⟨_, rfl, by decide, tb1 (i := 421) (by decide +kernel) rfl, rfl⟩
theorem fl_RX10_31 : FLk RX10 31 3 1 := ⟨_, rfl, by decide, tb1 (i := 157) (by decide +kernel) rfl, rfl⟩
theorem fl_RX10_34 : FLk RX10 34 3 6 := ⟨_, rfl, by decide, tb1 (i := 166) (by decide +kernel) rfl, rfl⟩
theorem fl_RX10_41 : FLk RX10 41 10 0 := ⟨_, rfl, by decide, tb1 (i := 416) (by decide +kernel) rfl, rfl⟩
theorem fl_RX11_10 : FLk RX11 10 11 0 := ⟨_, rfl, by decide, tb1 (i := 463) (by decide +kernel) rfl, rfl⟩
theorem fl_RX11_101 : FLk RX11 101 6 2 := ⟨_, rfl, by decide, tb1 (i := 97) (by decide +kernel) rfl, rfl⟩
theorem fl_RX11_129 : FLk RX11 129 7 0 := ⟨_, rfl, by decide, tb1 (i := 269) (by decide +kernel) rfl, rfl⟩
theorem fl_RX11_130 : FLk RX11 130 6 12 := ⟨_, rfl, by decide, tb1 (i := 113) (by decide +kernel) rfl, rfl⟩
theorem fl_RX11_133 : FLk RX11 133 6 13 := ⟨_, rfl, by decide, tb1 (i := 115) (by decide +kernel) rfl, rfl⟩
theorem fl_RX11_143 : FLk RX11 143 3 7 := ⟨_, rfl, by decide, tb1 (i := 170) (by decide +kernel) rfl, rfl⟩
theorem fl_RX11_154 : FLk RX11 154 4 0 := ⟨_, rfl, by decide, tb1 (i := 243) (by decide +kernel) rfl, rfl⟩
theorem fl_RX11_157 : FLk RX11 157 4 1 := ⟨_, rfl, by decide, tb1 (i := 245) (by decide +kernel) rfl, rfl⟩
theorem fl_RX11_158 : FLk RX11 158 4 2 := ⟨_, rfl, by decide, tb1 (i := 247) (by decide +kernel) rfl, rfl⟩
theorem fl_RX11_19 : FLk RX11 19 11 1 := ⟨_, rfl, by decide, tb1 (i := 464) (by decide +kernel) rfl, rfl⟩
theorem fl_RX11_234 : FLk RX11 234 0 0 := ⟨_, rfl, by decide, tb1 (i := 397) (by decide +kernel) rfl, rfl⟩
theorem fl_RX11_243 : FLk RX11 243 10 0 := ⟨_, rfl, by decide, tb1 (i := 417) (by decide +kernel) rfl, rfl⟩
theorem fl_RX11_262 : FLk RX11 262 3 1 := ⟨_, rfl, by decide, tb1 (i := 159) (by decide +kernel) rfl, rfl⟩
theorem fl_RX11_265 : FLk RX11 265 3 11 := ⟨_, rfl, by decide, tb1 (i := 179) (by decide +kernel) rfl, rfl⟩
theorem fl_RX11_268 : FLk RX11 268 3 15 := ⟨_, rfl, by decide, tb1 (i := 187) (by decide +kernel) rfl, rfl⟩
theorem fl_RX11_271 : FLk RX11 271 1 0 := ⟨_, rfl, by decide, tb1 (i := 312) (by decide +kernel) rfl, rfl⟩
theorem fl_RX11_272 : FLk RX11 272 2 0 := ⟨_, rfl, by decide, tb1 (i := 347) (by decide +kernel) rfl, rfl⟩
theorem fl_RX11_275 : FLk RX11 275 1 1 := ⟨_, rfl, by decide, tb1 (i := 314) (by decide +kernel) rfl, rfl⟩
theorem fl_RX11_278 : FLk RX11 278 5 0 := ⟨_, rfl, by decide, tb1 (i := 441) (by decide +kernel) rfl, rfl⟩
theorem fl_RX11_29 : FLk RX11 29 11 3 := ⟨_, rfl, by decide, tb1 (i := 466) (by decide +kernel) rfl, rfl⟩
theorem fl_RX11_35 : FLk RX11 35 11 4 := ⟨_, rfl, by decide, tb1 (i := 467) (by decide +kernel) rfl, rfl⟩
theorem fl_RX11_47 : FLk RX11 47 11 6 := ⟨_, rfl, by decide, tb1 (i := 469) (by decide +kernel) rfl, rfl⟩
theorem fl_RX11_54 : FLk RX11 54 11 7 := ⟨_, rfl, by decide, tb1 (i := 470) (by decide +kernel) rfl, rfl⟩
theorem fl_RX11_61 : FLk RX11 61 11 8 := ⟨_, rfl, by decide, tb1 (i := 471) (by decide +kernel) rfl, rfl⟩
theorem fl_RX11_68 : FLk RX11 68 11 9 := ⟨_, rfl, by decide, tb1 (i := 472) (by decide +kernel) rfl, rfl⟩
theorem fl_RX11_75 : FLk RX11 75 11 10 := ⟨_, rfl, by decide, tb1 (i := 473) (by decide +kernel) rfl, rfl⟩
theorem fl_RX11_82 : FLk RX11 82 11 11 := ⟨_, rfl, by decide, tb1 (i := 474) (by decide +kernel) rfl, rfl⟩
theorem fl_RX11_89 : FLk RX11 89 11 12 := ⟨_, rfl, by decide, tb1 (i := 475) (by decide +kernel) rfl, rfl⟩
theorem fl_RX12_101 : FLk RX12 101 12 42 := ⟨_, rfl, by decide, tb1 (i := 1306) (by decide +kernel) rfl, rfl⟩
theorem fl_RX12_104 : FLk RX12 104 12 43 := ⟨_, rfl, by decide, tb1 (i := 1307) (by decide +kernel) rfl, rfl⟩
theorem fl_RX12_107 : FLk RX12 107 12 44 := ⟨_, rfl, by decide, tb1 (i := 1308) (by decide +kernel) rfl, rfl⟩
theorem fl_RX12_110 : FLk RX12 110 12 61 := ⟨_, rfl, by decide, tb1 (i := 1325) (by decide +kernel) rfl, rfl⟩
theorem fl_RX12_113 : FLk RX12 113 12 62 := ⟨_, rfl, by decide, tb1 (i := 1326) (by decide +kernel) rfl, rfl⟩
theorem fl_RX12_116 : FLk RX12 116 12 63 := ⟨_, rfl, by decide, tb1 (i := 1327) (by decide +kernel) rfl, rfl⟩
theorem fl_RX12_119 : FLk RX12 119 12 64 := ⟨_, rfl, by decide, tb1 (i := 1328) (by decide +kernel) rfl, rfl⟩
theorem fl_RX12_122 : FLk RX12 122 12 65 := ⟨_, rfl, by decide, tb1 (i := 1329) (by decide +kernel) rfl, rfl⟩
theorem fl_RX12_125 : FLk RX12 125 12 66 := ⟨_, rfl, by decide, tb1 (i := 1330) (by decide +kernel) rfl, rfl⟩
theorem fl_RX12_128 : FLk RX12 128 12 69 := ⟨_, rfl, by decide, tb1 (i := 1333) (by decide +kernel) rfl, rfl⟩
theorem fl_RX12_13 : FLk RX12 13 12 1 := ⟨_, rfl, by decide, tb1 (i := 1265) (by decide +kernel) rfl, rfl⟩
theorem fl_RX12_131 : FLk RX12 131 12 70 := ⟨_, rfl, by decide, tb1 (i := 1334) (by decide +kernel) rfl, rfl⟩
theorem fl_RX12_135 : FLk RX12 135 12 71 := ⟨_, rfl, by decide, tb1 (i := 1335) (by decide +kernel) rfl, rfl⟩
theorem fl_RX12_138 : FLk RX12 138 12 72 := ⟨_, rfl, by decide, tb1 (i := 1336) (by decide +kernel) rfl, rfl⟩
theorem fl_RX12_141 : FLk RX12 141 12 74 := ⟨_, rfl, by decide, tb1 (i := 1338) (by decide +kernel) rfl, rfl⟩
theorem fl_RX12_144 : FLk RX12 144 12 77 := ⟨_, rfl, by decide, tb1 (i := 1341) (by decide +kernel) rfl, rfl⟩
theorem fl_RX12_147 : FLk RX12 147 12 78 := ⟨_, rfl, by decide, tb1 (i := 1342) (by decide +kernel) rfl, rfl⟩
theorem fl_RX12_150 : FLk RX12 150 12 79 := ⟨_, rfl, by decide, tb1 (i := 1343) (by decide +kernel) rfl, rfl⟩
theorem fl_RX12_153 : FLk RX12 153 12 80 := ⟨_, rfl, by decide, tb1 (i := 1344) (by decide +kernel) rfl, rfl⟩
theorem fl_RX12_156 : FLk RX12 156 12 82 := ⟨_, rfl, by decide, tb1 (i := 1346) (by decide +kernel) rfl, rfl⟩
theorem fl_RX12_159 : FLk RX12 159 12 83 := ⟨_, rfl, by decide, tb1 (i := 1347) (by decide +kernel) rfl, rfl⟩
theorem fl_RX12_16 : FLk RX12 16 12 5 := ⟨_, rfl, by decide, tb1 (i := 1269) (by decide +kernel) rfl, rfl⟩
theorem fl_RX12_162 : FLk RX12 162 12 88 := ⟨_, rfl, by decide, tb1 (i := 1352) (by decide +kernel) rfl, rfl⟩
theorem fl_RX12_165 : FLk RX12 165 12 89 := ⟨_, rfl, by decide, tb1 (i := 1353) (by decide +kernel) rfl, rfl⟩
theorem fl_RX12_169 : FLk RX12 169 12 90 := ⟨_, rfl, by decide, tb1 (i := 1354) (by decide +kernel) rfl, rfl⟩
theorem fl_RX12_172 : FLk RX12 172 12 3 := ⟨_, rfl, by decide, tb1 (i := 1267) (by decide +kernel) rfl, rfl⟩
theorem fl_RX12_175 : FLk RX12 175 12 4 := ⟨_, rfl, by decide, tb1 (i := 1268) (by decide +kernel) rfl, rfl⟩
theorem fl_RX12_20 : FLk RX12 20 12 11 := ⟨_, rfl, by decide, tb1 (i := 1275) (by decide +kernel) rfl, rfl⟩
theorem fl_RX12_24 : FLk RX12 24 12 12 := ⟨_, rfl, by decide, tb1 (i := 1276) (by decide +kernel) rfl, rfl⟩
theorem fl_RX12_246 : FLk RX12 246 12 7 := ⟨_, rfl, by decide, tb1 (i := 1271) (by decide +kernel) rfl, rfl⟩
theorem fl_RX12_249 : FLk RX12 249 12 6 := ⟨_, rfl, by decide, tb1 (i := 1270) (by decide +kernel) rfl, rfl⟩
theorem fl_RX12_256 : FLk RX12 256 12 8 := ⟨_, rfl, by decide, tb1 (i := 1272) (by decide +kernel) rfl, rfl⟩
theorem fl_RX12_263 : FLk RX12 263 12 10 := ⟨_, rfl, by decide, tb1 (i := 1274) (by decide +kernel) rfl, rfl⟩
theorem fl_RX12_27 : FLk RX12 27 12 13 := ⟨_, rfl, by decide, tb1 (i := 1277) (by decide +kernel) rfl, rfl⟩
theorem fl_RX12_274 : FLk RX12 274 12 9 := ⟨_, rfl, by decide, tb1 (i := 1273) (by decide +kernel) rfl, rfl⟩
theorem fl_RX12_294 : FLk RX12 294 12 2 := ⟨_, rfl, by decide, tb1 (i := 1266) (by decide +kernel) rfl, rfl⟩
theorem fl_RX12_30 : FLk RX12 30 12 14 := ⟨_, rfl, by decide, tb1 (i := 1278) (by decide +kernel) rfl, rfl⟩
theorem fl_RX12_300 : FLk RX12 300 12 31 := ⟨_, rfl, by decide, tb1 (i := 1295) (by decide +kernel) rfl, rfl⟩
theorem fl_RX12_303 : FLk RX12 303 12 32 := ⟨_, rfl, by decide, tb1 (i := 1296) (by decide +kernel) rfl, rfl⟩
theorem fl_RX12_309 : FLk RX12 309 12 67 := ⟨_, rfl, by decide, tb1 (i := 1331) (by decide +kernel) rfl, rfl⟩
theorem fl_RX12_312 : FLk RX12 312 12 73 := ⟨_, rfl, by decide, tb1 (i := 1337) (by decide +kernel) rfl, rfl⟩
theorem fl_RX12_33 : FLk RX12 33 12 15 := ⟨_, rfl, by decide, tb1 (i := 1279) (by decide +kernel) rfl, rfl⟩
theorem fl_RX12_36 : FLk RX12 36 12 16 := ⟨_, rfl, by decide, tb1 (i := 1280) (by decide +kernel) rfl, rfl⟩
theorem fl_RX12_376 : FLk RX12 376 12 33 := ⟨_, rfl, by decide, tb1 (i := 1297) (by decide +kernel) rfl, rfl⟩
theorem fl_RX12_379 : FLk RX12 379 12 34 := ⟨_, rfl, by decide, tb1 (i := 1298) (by decide +kernel) rfl, rfl⟩
theorem fl_RX12_385 : FLk RX12 385 12 35 := ⟨_, rfl, by decide, tb1 (i := 1299) (by decide +kernel) rfl, rfl⟩
theorem fl_RX12_39 : FLk RX12 39 12 17 := ⟨_, rfl, by decide, tb1 (i := 1281) (by decide +kernel) rfl, rfl⟩
theorem fl_RX12_394 : FLk RX12 394 12 45 := ⟨_, rfl, by decide, tb1 (i := 1309) (by decide +kernel) rfl, rfl⟩
theorem fl_RX12_397 : FLk RX12 397 12 46 := ⟨_, rfl, by decide, tb1 (i := 1310) (by decide +kernel) rfl, rfl⟩
theorem fl_RX12_403 : FLk RX12 403 12 49 := ⟨_, rfl, by decide, tb1 (i := 1313) (by decide +kernel) rfl, rfl⟩
theorem fl_RX12_409 : FLk RX12 409 12 48 := ⟨_, rfl, by decide, tb1 (i := 1312) (by decide +kernel) rfl, rfl⟩
theorem fl_RX12_412 : FLk RX12 412 12 47 := ⟨_, rfl, by decide, tb1 (i := 1311) (by decide +kernel) rfl, rfl⟩
theorem fl_RX12_42 : FLk RX12 42 12 18 := ⟨_, rfl, by decide, tb1 (i := 1282) (by decide +kernel) rfl, rfl⟩
theorem fl_RX12_439 : FLk RX12 439 12 50 := ⟨_, rfl, by decide, tb1 (i := 1314) (by decide +kernel) rfl, rfl⟩
theorem fl_RX12_442 : FLk RX12 442 12 51 := ⟨_, rfl, by decide, tb1 (i := 1315) (by decide +kernel) rfl, rfl⟩
theorem fl_RX12_445 : FLk RX12 445 12 52 := ⟨_, rfl, by decide, tb1 (i := 1316) (by decide +kernel) rfl, rfl⟩
theorem fl_RX12_448 : FLk RX12 448 12 53 := ⟨_, rfl, by decide, tb1 (i := 1317) (by decide +kernel) rfl, rfl⟩
theorem fl_RX12_45 : FLk RX12 45 12 19 := ⟨_, rfl, by decide, tb1 (i := 1283) (by decide +kernel) rfl, rfl⟩
theorem fl_RX12_451 : FLk RX12 451 12 54 := ⟨_, rfl, by decide, tb1 (i := 1318) (by decide +kernel) rfl, rfl⟩
theorem fl_RX12_454 : FLk RX12 454 12 55 := ⟨_, rfl, by decide, tb1 (i := 1319) (by decide +kernel) rfl, rfl⟩
theorem fl_RX12_457 : FLk RX12 457 12 56 := ⟨_, rfl, by decide, tb1 (i := 1320) (by decide +kernel) rfl, rfl⟩
theorem fl_RX12_460 : FLk RX12 460 12 57 := ⟨_, rfl, by decide, tb1 (i := 1321) (by decide +kernel) rfl, rfl⟩
theorem fl_RX12_463 : FLk RX12 463 12 58 := ⟨_, rfl, by decide, tb1 (i := 1322) (by decide +kernel) rfl, rfl⟩
theorem fl_RX12_466 : FLk RX12 466 12 59 := ⟨_, rfl, by decide, tb1 (i := 1323) (by decide +kernel) rfl, rfl⟩
theorem fl_RX12_469 : FLk RX12 469 12 60 := ⟨_, rfl, by decide, tb1 (i := 1324) (by decide +kernel) rfl, rfl⟩
theorem fl_RX12_48 : FLk RX12 48 12 20 := ⟨_, rfl, by decide, tb1 (i := 1284) (by decide +kernel) rfl, rfl⟩
theorem fl_RX12_492 : FLk RX12 492 12 68 := ⟨_, rfl, by decide, tb1 (i := 1332) (by decide +kernel) rfl, rfl⟩
theorem fl_RX12_51 : FLk RX12 51 12 21 := ⟨_, rfl, by decide, tb1 (i := 1285) (by decide +kernel) rfl, rfl⟩
theorem fl_RX12_526 : FLk RX12 526 12 75 := ⟨_, rfl, by decide, tb1 (i := 1339) (by decide +kernel) rfl, rfl⟩
theorem fl_RX12_533 : FLk RX12 533 12 76 := ⟨_, rfl, by decide, tb1 (i := 1340) (by decide +kernel) rfl, rfl⟩
theorem fl_RX12_54 : FLk RX12 54 12 22 := ⟨_, rfl, by decide, tb1 (i := 1286) (by decide +kernel) rfl, rfl⟩
theorem fl_RX12_552 : FLk RX12 552 12 81 := ⟨_, rfl, by decide, tb1 (i := 1345) (by decide +kernel) rfl, rfl⟩
theorem fl_RX12_561 : FLk RX12 561 12 85 := ⟨_, rfl, by decide, tb1 (i := 1349) (by decide +kernel) rfl, rfl⟩
theorem fl_RX12_564 : FLk RX12 564 12 86 := ⟨_, rfl, by decide, tb1 (i := 1350) (by decide +kernel) rfl, rfl⟩
theorem fl_RX12_567 : FLk RX12 567 12 87 := ⟨_, rfl, by decide, tb1 (i := 1351) (by decide +kernel) rfl, rfl⟩
theorem fl_RX12_57 : FLk RX12 57 12 23 := ⟨_, rfl, by decide, tb1 (i := 1287) (by decide +kernel) rfl, rfl⟩
theorem fl_RX12_570 : FLk RX12 570 12 84 := ⟨_, rfl, by decide, tb1 (i := 1348) (by decide +kernel) rfl, rfl⟩
theorem fl_RX12_582 : FLk RX12 582 12 91 := ⟨_, rfl, by decide, tb1 (i := 1355) (by decide +kernel) rfl, rfl⟩
theorem fl_RX12_585 : FLk RX12 585 12 92 := ⟨_, rfl, by decide, tb1 (i := 1356) (by decide +kernel) rfl, rfl⟩
theorem fl_RX12_588 : FLk RX12 588 12 93 := ⟨_, rfl, by decide, tb1 (i := 1357) (by decide +kernel) rfl, rfl⟩
theorem fl_RX12_60 : FLk RX12 60 12 24 := ⟨_, rfl, by decide, tb1 (i := 1288) (by decide +kernel) rfl, rfl⟩
theorem fl_RX12_63 : FLk RX12 63 12 25 := ⟨_, rfl, by decide, tb1 (i := 1289) (by decide +kernel) rfl, rfl⟩
theorem fl_RX12_66 : FLk RX12 66 12 26 := ⟨_, rfl, by decide, tb1 (i := 1290) (by decide +kernel) rfl, rfl⟩
theorem fl_RX12_69 : FLk RX12 69 12 27 := ⟨_, rfl, by decide, tb1 (i := 1291) (by decide +kernel) rfl, rfl⟩
theorem fl_RX12_7 : FLk RX12 7 12 0 := ⟨_, rfl, by decide, tb1 (i := 1264) (by decide +kernel) rfl, rfl⟩
theorem fl_RX12_72 : FLk RX12 72 12 28 := ⟨_, rfl, by decide, tb1 (i := 1292) (by decide +kernel) rfl, rfl⟩
theorem fl_RX12_75 : FLk RX12 75 12 29 := ⟨_, rfl, by decide, tb1 (i := 1293) (by decide +kernel) rfl, rfl⟩
theorem fl_RX12_79 : FLk RX12 79 12 30 := ⟨_, rfl, by decide, tb1 (i := 1294) (by decide +kernel) rfl, rfl⟩
theorem fl_RX12_83 : FLk RX12 83 12 36 := ⟨_, rfl, by decide, tb1 (i := 1300) (by decide +kernel) rfl, rfl⟩
theorem fl_RX12_86 : FLk RX12 86 12 37 := ⟨_, rfl, by decide, tb1 (i := 1301) (by decide +kernel) rfl, rfl⟩
theorem fl_RX12_89 : FLk RX12 89 12 38 := ⟨_, rfl, by decide, tb1 (i := 1302) (by decide +kernel) rfl, rfl⟩
theorem fl_RX12_92 : FLk RX12 92 12 39 := ⟨_, rfl, by decide, tb1 (i := 1303) (by decide +kernel) rfl, rfl⟩
theorem fl_RX12_95 : FLk RX12 95 12 40 := ⟨_, rfl, by decide, tb1 (i := 1304) (by decide +kernel) rfl, rfl⟩
theorem fl_RX12_98 : FLk RX12 98 12 41 := ⟨_, rfl, by decide, tb1 (i := 1305) (by decide +kernel) rfl, rfl⟩
theorem fl_RX1_102 : FLk RX1 102 3 14 := ⟨_, rfl, by decide, tb1 (i := 185) (by decide +kernel) rfl, rfl⟩
theorem fl_RX1_107 : FLk RX1 107 3 3 := ⟨_, rfl, by decide, tb1 (i := 162) (by decide +kernel) rfl, rfl⟩
theorem fl_RX1_11 : FLk RX1 11 1 2 := ⟨_, rfl, by decide, tb1 (i := 315) (by decide +kernel) rfl, rfl⟩
theorem fl_RX1_15 : FLk RX1 15 1 3 := ⟨_, rfl, by decide, tb1 (i := 316) (by decide +kernel) rfl, rfl⟩
theorem fl_RX1_18 : FLk RX1 18 1 4 := ⟨_, rfl, by decide, tb1 (i := 317) (by decide +kernel) rfl, rfl⟩
theorem fl_RX1_21 : FLk RX1 21 1 5 := ⟨_, rfl, by decide, tb1 (i := 318) (by decide +kernel) rfl, rfl⟩
theorem fl_RX1_24 : FLk RX1 24 1 6 := ⟨_, rfl, by decide, tb1 (i := 319) (by decide +kernel) rfl, rfl⟩
theorem fl_RX1_29 : FLk RX1 29 1 7 := ⟨_, rfl, by decide, tb1 (i := 320) (by decide +kernel) rfl, rfl⟩
theorem fl_RX1_32 : FLk RX1 32 1 0 := ⟨_, rfl, by decide, tb1 (i := 311) (by decide +kernel) rfl, rfl⟩
theorem fl_RX1_36 : FLk RX1 36 1 1 := ⟨_, rfl, by decide, tb1 (i := 313) (by decide +kernel) rfl, rfl⟩
theorem fl_RX1_58 : FLk RX1 58 3 1 := ⟨_, rfl, by decide, tb1 (i := 158) (by decide +kernel) rfl, rfl⟩
theorem fl_RX1_65 : FLk RX1 65 3 6 := ⟨_, rfl, by decide, tb1 (i := 167) (by decide +kernel) rfl, rfl⟩
theorem fl_RX1_89 : FLk RX1 89 3 11 := ⟨_, rfl, by decide, tb1 (i := 178) (by decide +kernel) rfl, rfl⟩
theorem fl_RX1_92 : FLk RX1 92 3 12 := ⟨_, rfl, by decide, tb1 (i := 181) (by decide +kernel) rfl, rfl⟩
theorem fl_RX1_99 : FLk RX1 99 3 13 := ⟨_, rfl, by decide, tb1 (i := 183) (by decide +kernel) rfl, rfl⟩
theorem fl_RX2_115 : FLk RX2 115 3 16 := ⟨_, rfl, by decide, tb1 (i := 189) (by decide +kernel) rfl, rfl⟩
theorem fl_RX2_13 : FLk RX2 13 2 1 := ⟨_, rfl, by decide, tb1 (i := 348) (by decide +kernel) rfl, rfl⟩
theorem fl_RX2_17 : FLk RX2 17 2 2 := ⟨_, rfl, by decide, tb1 (i := 349) (by decide +kernel) rfl, rfl⟩
theorem fl_RX2_20 : FLk RX2 20 2 3 := ⟨_, rfl, by decide, tb1 (i := 350) (by decide +kernel) rfl, rfl⟩
theorem fl_RX2_24 : FLk RX2 24 2 4 := ⟨_, rfl, by decide, tb1 (i := 351) (by decide +kernel) rfl, rfl⟩
theorem fl_RX2_29 : FLk RX2 29 2 5 := ⟨_, rfl, by decide, tb1 (i := 352) (by decide +kernel) rfl, rfl⟩
theorem fl_RX2_32 : FLk RX2 32 2 6 := ⟨_, rfl, by decide, tb1 (i := 353) (by decide +kernel) rfl, rfl⟩
theorem fl_RX2_35 : FLk RX2 35 2 7 := ⟨_, rfl, by decide, tb1 (i := 354) (by decide +kernel) rfl, rfl⟩
theorem fl_RX2_42 : FLk RX2 42 2 0 := ⟨_, rfl, by decide, tb1 (i := 346) (by decide +kernel) rfl, rfl⟩
theorem fl_RX2_65 : FLk RX2 65 3 17 := ⟨_, rfl, by decide, tb1 (i := 191) (by decide +kernel) rfl, rfl⟩
theorem fl_RX3_100 : FLk RX3 100 3 11 := ⟨_, rfl, by decide, tb1 (i := 177) (by decide +kernel) rfl, rfl⟩
theorem fl_RX3_103 : FLk RX3 103 3 15 := ⟨_, rfl, by decide, tb1 (i := 186) (by decide +kernel) rfl, rfl⟩
theorem fl_RX3_106 : FLk RX3 106 3 18 := ⟨_, rfl, by decide, tb1 (i := 192) (by decide +kernel) rfl, rfl⟩
theorem fl_RX3_11 : FLk RX3 11 3 2 := ⟨_, rfl, by decide, tb1 (i := 160) (by decide +kernel) rfl, rfl⟩
theorem fl_RX3_147 : FLk RX3 147 6 11 := ⟨_, rfl, by decide, tb1 (i := 111) (by decide +kernel) rfl, rfl⟩
theorem fl_RX3_15 : FLk RX3 15 3 3 := ⟨_, rfl, by decide, tb1 (i := 161) (by decide +kernel) rfl, rfl⟩
theorem fl_RX3_159 : FLk RX3 159 6 10 := ⟨_, rfl, by decide, tb1 (i := 108) (by decide +kernel) rfl, rfl⟩
theorem fl_RX3_19 : FLk RX3 19 3 4 := ⟨_, rfl, by decide, tb1 (i := 163) (by decide +kernel) rfl, rfl⟩
theorem fl_RX3_22 : FLk RX3 22 3 5 := ⟨_, rfl, by decide, tb1 (i := 164) (by decide +kernel) rfl, rfl⟩
theorem fl_RX3_25 : FLk RX3 25 3 6 := ⟨_, rfl, by decide, tb1 (i := 165) (by decide +kernel) rfl, rfl⟩
theorem fl_RX3_28 : FLk RX3 28 3 8 := ⟨_, rfl, by decide, tb1 (i := 171) (by decide +kernel) rfl, rfl⟩
theorem fl_RX3_31 : FLk RX3 31 3 9 := ⟨_, rfl, by decide, tb1 (i := 173) (by decide +kernel) rfl, rfl⟩
theorem fl_RX3_34 : FLk RX3 34 3 10 := ⟨_, rfl, by decide, tb1 (i := 175) (by decide +kernel) rfl, rfl⟩
theorem fl_RX3_37 : FLk RX3 37 3 12 := ⟨_, rfl, by decide, tb1 (i := 180) (by decide +kernel) rfl, rfl⟩
theorem fl_RX3_40 : FLk RX3 40 3 13 := ⟨_, rfl, by decide, tb1 (i := 182) (by decide +kernel) rfl, rfl⟩
theorem fl_RX3_43 : FLk RX3 43 3 14 := ⟨_, rfl, by decide, tb1 (i := 184) (by decide +kernel) rfl, rfl⟩
theorem fl_RX3_46 : FLk RX3 46 3 16 := ⟨_, rfl, by decide, tb1 (i := 188) (by decide +kernel) rfl, rfl⟩
theorem fl_RX3_49 : FLk RX3 49 3 17 := ⟨_, rfl, by decide, tb1 (i := 190) (by decide +kernel) rfl, rfl⟩
theorem fl_RX3_52 : FLk RX3 52 3 19 := ⟨_, rfl, by decide, tb1 (i := 193) (by decide +kernel) rfl, rfl⟩
theorem fl_RX3_71 : FLk RX3 71 6 8 := ⟨_, rfl, by decide, tb1 (i := 103) (by decide +kernel) rfl, rfl⟩
theorem fl_RX3_78 : FLk RX3 78 3 1 := ⟨_, rfl, by decide, tb1 (i := 156) (by decide +kernel) rfl, rfl⟩
theorem fl_RX3_87 : FLk RX3 87 3 7 := ⟨_, rfl, by decide, tb1 (i := 169) (by decide +kernel) rfl, rfl⟩
theorem fl_RX4_15 : FLk RX4 15 4 1 := ⟨_, rfl, by decide, tb1 (i := 244) (by decide +kernel) rfl, rfl⟩
theorem fl_RX4_18 : FLk RX4 18 4 3 := ⟨_, rfl, by decide, tb1 (i := 248) (by decide +kernel) rfl, rfl⟩
theorem fl_RX4_25 : FLk RX4 25 4 2 := ⟨_, rfl, by decide, tb1 (i := 246) (by decide +kernel) rfl, rfl⟩
theorem fl_RX4_28 : FLk RX4 28 3 7 := ⟨_, rfl, by decide, tb1 (i := 168) (by decide +kernel) rfl, rfl⟩
theorem fl_RX4_33 : FLk RX4 33 3 8 := ⟨_, rfl, by decide, tb1 (i := 172) (by decide +kernel) rfl, rfl⟩
theorem fl_RX4_37 : FLk RX4 37 3 9 := ⟨_, rfl, by decide, tb1 (i := 174) (by decide +kernel) rfl, rfl⟩
theorem fl_RX4_40 : FLk RX4 40 3 10 := ⟨_, rfl, by decide, tb1 (i := 176) (by decide +kernel) rfl, rfl⟩
theorem fl_RX4_9 : FLk RX4 9 4 0 := ⟨_, rfl, by decide, tb1 (i := 242) (by decide +kernel) rfl, rfl⟩
theorem fl_RX5_11 : FLk RX5 11 5 4 := ⟨_, rfl, by decide, tb1 (i := 445) (by decide +kernel) rfl, rfl⟩
theorem fl_RX5_15 : FLk RX5 15 5 5 := ⟨_, rfl, by decide, tb1 (i := 446) (by decide +kernel) rfl, rfl⟩
theorem fl_RX5_20 : FLk RX5 20 5 6 := ⟨_, rfl, by decide, tb1 (i := 447) (by decide +kernel) rfl, rfl⟩
theorem fl_RX5_27 : FLk RX5 27 5 0 := ⟨_, rfl, by decide, tb1 (i := 440) (by decide +kernel) rfl, rfl⟩
theorem fl_RX5_31 : FLk RX5 31 5 3 := ⟨_, rfl, by decide, tb1 (i := 444) (by decide +kernel) rfl, rfl⟩
theorem fl_RX5_35 : FLk RX5 35 5 1 := ⟨_, rfl, by decide, tb1 (i := 442) (by decide +kernel) rfl, rfl⟩
theorem fl_RX5_38 : FLk RX5 38 5 2 := ⟨_, rfl, by decide, tb1 (i := 443) (by decide +kernel) rfl, rfl⟩
theorem fl_RX6_11 : FLk RX6 11 6 0 := ⟨_, rfl, by decide, tb1 (i := 94) (by decide +kernel) rfl, rfl⟩
theorem fl_RX6_15 : FLk RX6 15 6 1 := ⟨_, rfl, by decide, tb1 (i := 95) (by decide +kernel) rfl, rfl⟩
theorem fl_RX6_19 : FLk RX6 19 6 4 := ⟨_, rfl, by decide, tb1 (i := 99) (by decide +kernel) rfl, rfl⟩
theorem fl_RX6_22 : FLk RX6 22 6 5 := ⟨_, rfl, by decide, tb1 (i := 100) (by decide +kernel) rfl, rfl⟩
theorem fl_RX6_25 : FLk RX6 25 6 6 := ⟨_, rfl, by decide, tb1 (i := 101) (by decide +kernel) rfl, rfl⟩
theorem fl_RX6_28 : FLk RX6 28 6 13 := ⟨_, rfl, by decide, tb1 (i := 114) (by decide +kernel) rfl, rfl⟩
theorem fl_RX6_40 : FLk RX6 40 6 2 := ⟨_, rfl, by decide, tb1 (i := 96) (by decide +kernel) rfl, rfl⟩
theorem fl_RX6_43 : FLk RX6 43 6 12 := ⟨_, rfl, by decide, tb1 (i := 112) (by decide +kernel) rfl, rfl⟩
theorem fl_RX6_49 : FLk RX6 49 6 7 := ⟨_, rfl, by decide, tb1 (i := 102) (by decide +kernel) rfl, rfl⟩
theorem fl_RX6_55 : FLk RX6 55 6 3 := ⟨_, rfl, by decide, tb1 (i := 98) (by decide +kernel) rfl, rfl⟩
theorem fl_RX6_64 : FLk RX6 64 6 8 := ⟨_, rfl, by decide, tb1 (i := 105) (by decide +kernel) rfl, rfl⟩
theorem fl_RX6_67 : FLk RX6 67 6 9 := ⟨_, rfl, by decide, tb1 (i := 106) (by decide +kernel) rfl, rfl⟩
theorem fl_RX6_70 : FLk RX6 70 6 11 := ⟨_, rfl, by decide, tb1 (i := 110) (by decide +kernel) rfl, rfl⟩
theorem fl_RX6_74 : FLk RX6 74 6 10 := ⟨_, rfl, by decide, tb1 (i := 107) (by decide +kernel) rfl, rfl⟩
theorem fl_RX7_13 : FLk RX7 13 7 3 := ⟨_, rfl, by decide, tb1 (i := 272) (by decide +kernel) rfl, rfl⟩
theorem fl_RX7_17 : FLk RX7 17 7 4 := ⟨_, rfl, by decide, tb1 (i := 273) (by decide +kernel) rfl, rfl⟩
theorem fl_RX7_20 : FLk RX7 20 7 5 := ⟨_, rfl, by decide, tb1 (i := 274) (by decide +kernel) rfl, rfl⟩
theorem fl_RX7_23 : FLk RX7 23 7 6 := ⟨_, rfl, by decide, tb1 (i := 275) (by decide +kernel) rfl, rfl⟩
theorem fl_RX7_26 : FLk RX7 26 7 7 := ⟨_, rfl, by decide, tb1 (i := 276) (by decide +kernel) rfl, rfl⟩
theorem fl_RX7_39 : FLk RX7 39 7 2 := ⟨_, rfl, by decide, tb1 (i := 271) (by decide +kernel) rfl, rfl⟩
theorem fl_RX8_11 : FLk RX8 11 8 0 := ⟨_, rfl, by decide, tb1 (i := 301) (by decide +kernel) rfl, rfl⟩
theorem fl_RX9_11 : FLk RX9 11 9 0 := ⟨_, rfl, by decide, tb1 (i := 379) (by decide +kernel) rfl, rfl⟩
theorem fl_RX9_15 : FLk RX9 15 9 1 := ⟨_, rfl, by decide, tb1 (i := 380) (by decide +kernel) rfl, rfl⟩
theorem fl_RX9_22 : FLk RX9 22 9 2 := ⟨_, rfl, by decide, tb1 (i := 381) (by decide +kernel) rfl, rfl⟩
theorem fl_RX9_45 : FLk RX9 45 3 19 := ⟨_, rfl, by decide, tb1 (i := 194) (by decide +kernel) rfl, rfl⟩
theorem ml_RX0_27 : Cond.methodLink RX0 27 yX7_ask ∈ TB := tb1 (i := 1141) (by decide +kernel) rfl
theorem ml_RX0_33 : Cond.methodLink RX0 33 yX0_lapseIn ∈ TB := tb1 (i := 1142) (by decide +kernel) rfl
theorem ml_RX0_41 : Cond.methodLink RX0 41 yX7_valueOf ∈ TB := tb1 (i := 1146) (by decide +kernel) rfl
theorem ml_RX10_37 : Cond.methodLink RX10 37 yX10_mostAlone ∈ TB := tb1 (i := 1168) (by decide +kernel) rfl
theorem ml_RX10_44 : Cond.methodLink RX10 44 yX10_choose ∈ TB := tb1 (i := 1177) (by decide +kernel) rfl
theorem ml_RX10_48 : Cond.methodLink RX10 48 yX10_mostWithin ∈ TB := tb1 (i := 1172) (by decide +kernel) rfl
theorem ml_RX10_52 : Cond.methodLink RX10 52 Lib.Math.max.name ∈ TB := tb1 (i := 1176) (by decide +kernel) rfl
theorem ml_RX11_105 : Cond.methodLink RX11 105 yX11_within ∈ TB := tb1 (i := 519) (by decide +kernel) rfl
theorem ml_RX11_116 : Cond.methodLink RX11 116 yX2_dropSteps ∈ TB := tb1 (i := 716) (by decide +kernel) rfl
theorem ml_RX11_124 : Cond.methodLink RX11 124 yX11_isTongue ∈ TB := tb1 (i := 728) (by decide +kernel) rfl
theorem ml_RX11_136 : Cond.methodLink RX11 136 yX11_isPart ∈ TB := tb1 (i := 787) (by decide +kernel) rfl
theorem ml_RX11_139 : Cond.methodLink RX11 139 yX3_lengthAt ∈ TB := tb1 (i := 791) (by decide +kernel) rfl
theorem ml_RX11_146 : Cond.methodLink RX11 146 yX3_fits ∈ TB := tb1 (i := 800) (by decide +kernel) rfl
theorem ml_RX11_150 : Cond.methodLink RX11 150 yX4_search ∈ TB := tb1 (i := 816) (by decide +kernel) rfl
theorem ml_RX11_161 : Cond.methodLink RX11 161 yX8_between ∈ TB := tb1 (i := 842) (by decide +kernel) rfl
theorem ml_RX11_165 : Cond.methodLink RX11 165 yX11_isMonth ∈ TB := tb1 (i := 894) (by decide +kernel) rfl
theorem ml_RX11_168 : Cond.methodLink RX11 168 yX1_tell ∈ TB := tb1 (i := 897) (by decide +kernel) rfl
theorem ml_RX11_173 : Cond.methodLink RX11 173 yX1_takeBack ∈ TB := tb1 (i := 914) (by decide +kernel) rfl
theorem ml_RX11_176 : Cond.methodLink RX11 176 yX1_letPass ∈ TB := tb1 (i := 923) (by decide +kernel) rfl
theorem ml_RX11_180 : Cond.methodLink RX11 180 yX1_findMonths ∈ TB := tb1 (i := 932) (by decide +kernel) rfl
theorem ml_RX11_184 : Cond.methodLink RX11 184 yX1_monthOf ∈ TB := tb1 (i := 953) (by decide +kernel) rfl
theorem ml_RX11_187 : Cond.methodLink RX11 187 yX1_spent ∈ TB := tb1 (i := 958) (by decide +kernel) rfl
theorem ml_RX11_191 : Cond.methodLink RX11 191 yX1_paidBy ∈ TB := tb1 (i := 966) (by decide +kernel) rfl
theorem ml_RX11_195 : Cond.methodLink RX11 195 yX1_overrun ∈ TB := tb1 (i := 982) (by decide +kernel) rfl
theorem ml_RX11_198 : Cond.methodLink RX11 198 yX7_mayLeave ∈ TB := tb1 (i := 996) (by decide +kernel) rfl
theorem ml_RX11_201 : Cond.methodLink RX11 201 yX2_addStep ∈ TB := tb1 (i := 1001) (by decide +kernel) rfl
theorem ml_RX11_204 : Cond.methodLink RX11 204 yX2_setPump ∈ TB := tb1 (i := 1014) (by decide +kernel) rfl
theorem ml_RX11_207 : Cond.methodLink RX11 207 yX2_leastPumped ∈ TB := tb1 (i := 1022) (by decide +kernel) rfl
theorem ml_RX11_211 : Cond.methodLink RX11 211 yX2_moveOf ∈ TB := tb1 (i := 1072) (by decide +kernel) rfl
theorem ml_RX11_215 : Cond.methodLink RX11 215 yX9_open ∈ TB := tb1 (i := 1096) (by decide +kernel) rfl
theorem ml_RX11_219 : Cond.methodLink RX11 219 yX9_fewestMinutes ∈ TB := tb1 (i := 1101) (by decide +kernel) rfl
theorem ml_RX11_222 : Cond.methodLink RX11 222 yX0_add ∈ TB := tb1 (i := 1125) (by decide +kernel) rfl
theorem ml_RX11_225 : Cond.methodLink RX11 225 yX1_shownBy ∈ TB := tb1 (i := 1133) (by decide +kernel) rfl
theorem ml_RX11_228 : Cond.methodLink RX11 228 yX0_settle ∈ TB := tb1 (i := 1137) (by decide +kernel) rfl
theorem ml_RX11_231 : Cond.methodLink RX11 231 yX0_holders ∈ TB := tb1 (i := 1147) (by decide +kernel) rfl
theorem ml_RX11_237 : Cond.methodLink RX11 237 yX0_roundOf ∈ TB := tb1 (i := 1155) (by decide +kernel) rfl
theorem ml_RX11_240 : Cond.methodLink RX11 240 yX10_divide ∈ TB := tb1 (i := 1164) (by decide +kernel) rfl
theorem ml_RX11_246 : Cond.methodLink RX11 246 yX10_makerOf ∈ TB := tb1 (i := 1185) (by decide +kernel) rfl
theorem ml_RX11_249 : Cond.methodLink RX11 249 yX5_add ∈ TB := tb1 (i := 1194) (by decide +kernel) rfl
theorem ml_RX11_250 : Cond.methodLink RX11 250 yX5_setGrant ∈ TB := tb1 (i := 1203) (by decide +kernel) rfl
theorem ml_RX11_253 : Cond.methodLink RX11 253 yX11_isMoney ∈ TB := tb1 (i := 1211) (by decide +kernel) rfl
theorem ml_RX11_256 : Cond.methodLink RX11 256 yX5_isSafe ∈ TB := tb1 (i := 1214) (by decide +kernel) rfl
theorem ml_RX11_259 : Cond.methodLink RX11 259 yX5_firstYear ∈ TB := tb1 (i := 1248) (by decide +kernel) rfl
theorem ml_RX11_93 : Cond.methodLink RX11 93 yX6_hasRoom ∈ TB := tb1 (i := 507) (by decide +kernel) rfl
theorem ml_RX11_97 : Cond.methodLink RX11 97 yX6_append ∈ TB := tb1 (i := 511) (by decide +kernel) rfl
theorem ml_RX12_252 : Cond.methodLink RX12 252 yX12_sign ∈ TB := tb1 (i := 1559) (by decide +kernel) rfl
theorem ml_RX12_259 : Cond.methodLink RX12 259 yX12_isLetter ∈ TB := tb1 (i := 1563) (by decide +kernel) rfl
theorem ml_RX12_267 : Cond.methodLink RX12 267 yX12_isKept ∈ TB := tb1 (i := 1566) (by decide +kernel) rfl
theorem ml_RX12_271 : Cond.methodLink RX12 271 yX12_isDigit ∈ TB := tb1 (i := 1603) (by decide +kernel) rfl
theorem ml_RX12_277 : Cond.methodLink RX12 277 yX12_isSign ∈ TB := tb1 (i := 1606) (by decide +kernel) rfl
theorem ml_RX12_280 : Cond.methodLink RX12 280 yX12_fails ∈ TB := tb1 (i := 1629) (by decide +kernel) rfl
theorem ml_RX12_284 : Cond.methodLink RX12 284 yX12_isGood ∈ TB := tb1 (i := 1609) (by decide +kernel) rfl
theorem ml_RX12_288 : Cond.methodLink RX12 288 yX12_next ∈ TB := tb1 (i := 1555) (by decide +kernel) rfl
theorem ml_RX12_291 : Cond.methodLink RX12 291 yX12_wrong ∈ TB := tb1 (i := 1625) (by decide +kernel) rfl
theorem ml_RX12_297 : Cond.methodLink RX12 297 yX12_takeTape ∈ TB := tb1 (i := 1551) (by decide +kernel) rfl
theorem ml_RX12_306 : Cond.methodLink RX12 306 yX12_readMachine ∈ TB := tb1 (i := 1613) (by decide +kernel) rfl
theorem ml_RX12_315 : Cond.methodLink RX12 315 yX12_isWord ∈ TB := tb1 (i := 1617) (by decide +kernel) rfl
theorem ml_RX12_318 : Cond.methodLink RX12 318 yX12_isFull ∈ TB := tb1 (i := 1621) (by decide +kernel) rfl
theorem ml_RX12_321 : Cond.methodLink RX12 321 yX12_readPart ∈ TB := tb1 (i := 1633) (by decide +kernel) rfl
theorem ml_RX12_324 : Cond.methodLink RX12 324 yX12_readJoin ∈ TB := tb1 (i := 1645) (by decide +kernel) rfl
theorem ml_RX12_327 : Cond.methodLink RX12 327 yX12_readMoves ∈ TB := tb1 (i := 1653) (by decide +kernel) rfl
theorem ml_RX12_330 : Cond.methodLink RX12 330 yX12_readTank ∈ TB := tb1 (i := 1657) (by decide +kernel) rfl
theorem ml_RX12_333 : Cond.methodLink RX12 333 yX12_readRow ∈ TB := tb1 (i := 1661) (by decide +kernel) rfl
theorem ml_RX12_336 : Cond.methodLink RX12 336 yX12_is ∈ TB := tb1 (i := 1665) (by decide +kernel) rfl
theorem ml_RX12_339 : Cond.methodLink RX12 339 yX12_must ∈ TB := tb1 (i := 1637) (by decide +kernel) rfl
theorem ml_RX12_343 : Cond.methodLink RX12 343 yX12_numeral ∈ TB := tb1 (i := 1641) (by decide +kernel) rfl
theorem ml_RX12_347 : Cond.methodLink RX12 347 yX12_partNamed ∈ TB := tb1 (i := 1649) (by decide +kernel) rfl
theorem ml_RX12_350 : Cond.methodLink RX12 350 yX12_parts ∈ TB := tb1 (i := 1681) (by decide +kernel) rfl
theorem ml_RX12_354 : Cond.methodLink RX12 354 yX12_isIn ∈ TB := tb1 (i := 1685) (by decide +kernel) rfl
theorem ml_RX12_360 : Cond.methodLink RX12 360 yX12_isPart ∈ TB := tb1 (i := 1677) (by decide +kernel) rfl
theorem ml_RX12_363 : Cond.methodLink RX12 363 yX12_mmOf ∈ TB := tb1 (i := 1688) (by decide +kernel) rfl
theorem ml_RX12_366 : Cond.methodLink RX12 366 yX12_fitsBy ∈ TB := tb1 (i := 1705) (by decide +kernel) rfl
theorem ml_RX12_369 : Cond.methodLink RX12 369 yX12_joins ∈ TB := tb1 (i := 1697) (by decide +kernel) rfl
theorem ml_RX12_372 : Cond.methodLink RX12 372 yX12_fits ∈ TB := tb1 (i := 1701) (by decide +kernel) rfl
theorem ml_RX12_382 : Cond.methodLink RX12 382 yX12_fitsWith ∈ TB := tb1 (i := 1721) (by decide +kernel) rfl
theorem ml_RX12_388 : Cond.methodLink RX12 388 yX12_seekMend ∈ TB := tb1 (i := 1717) (by decide +kernel) rfl
theorem ml_RX12_391 : Cond.methodLink RX12 391 yX12_isTongue ∈ TB := tb1 (i := 1729) (by decide +kernel) rfl
theorem ml_RX12_400 : Cond.methodLink RX12 400 yX12_readTreaty ∈ TB := tb1 (i := 1732) (by decide +kernel) rfl
theorem ml_RX12_406 : Cond.methodLink RX12 406 yX12_e ∈ TB := tb1 (i := 1736) (by decide +kernel) rfl
theorem ml_RX12_415 : Cond.methodLink RX12 415 yX12_put ∈ TB := tb1 (i := 1740) (by decide +kernel) rfl
theorem ml_RX12_418 : Cond.methodLink RX12 418 yX12_unit ∈ TB := tb1 (i := 1744) (by decide +kernel) rfl
theorem ml_RX12_421 : Cond.methodLink RX12 421 yX12_behind ∈ TB := tb1 (i := 1760) (by decide +kernel) rfl
theorem ml_RX12_424 : Cond.methodLink RX12 424 yX12_wordHere ∈ TB := tb1 (i := 1748) (by decide +kernel) rfl
theorem ml_RX12_427 : Cond.methodLink RX12 427 yX12_mayAsk ∈ TB := tb1 (i := 1752) (by decide +kernel) rfl
theorem ml_RX12_430 : Cond.methodLink RX12 430 yX12_step ∈ TB := tb1 (i := 1756) (by decide +kernel) rfl
theorem ml_RX12_433 : Cond.methodLink RX12 433 yX12_rankHere ∈ TB := tb1 (i := 1764) (by decide +kernel) rfl
theorem ml_RX12_436 : Cond.methodLink RX12 436 yX12_isCompared ∈ TB := tb1 (i := 1768) (by decide +kernel) rfl
theorem ml_RX12_472 : Cond.methodLink RX12 472 yX12_term ∈ TB := tb1 (i := 1788) (by decide +kernel) rfl
theorem ml_RX12_475 : Cond.methodLink RX12 475 yX12_two ∈ TB := tb1 (i := 1792) (by decide +kernel) rfl
theorem ml_RX12_479 : Cond.methodLink RX12 479 yX12_work ∈ TB := tb1 (i := 1784) (by decide +kernel) rfl
theorem ml_RX12_482 : Cond.methodLink RX12 482 yX12_flies ∈ TB := tb1 (i := 1780) (by decide +kernel) rfl
theorem ml_RX12_486 : Cond.methodLink RX12 486 yX12_unlikeToFly ∈ TB := tb1 (i := 1776) (by decide +kernel) rfl
theorem ml_RX12_489 : Cond.methodLink RX12 489 yX12_leavesBy ∈ TB := tb1 (i := 1795) (by decide +kernel) rfl
theorem ml_RX12_495 : Cond.methodLink RX12 495 yX12_isMonth ∈ TB := tb1 (i := 1803) (by decide +kernel) rfl
theorem ml_RX12_498 : Cond.methodLink RX12 498 yX12_tell ∈ TB := tb1 (i := 1806) (by decide +kernel) rfl
theorem ml_RX12_504 : Cond.methodLink RX12 504 yX12_counts ∈ TB := tb1 (i := 1837) (by decide +kernel) rfl
theorem ml_RX12_507 : Cond.methodLink RX12 507 yX12_findMoves ∈ TB := tb1 (i := 1832) (by decide +kernel) rfl
theorem ml_RX12_511 : Cond.methodLink RX12 511 yX12_costsOf ∈ TB := tb1 (i := 1845) (by decide +kernel) rfl
theorem ml_RX12_514 : Cond.methodLink RX12 514 yX12_overOf ∈ TB := tb1 (i := 1857) (by decide +kernel) rfl
theorem ml_RX12_517 : Cond.methodLink RX12 517 yX12_fillUp ∈ TB := tb1 (i := 1897) (by decide +kernel) rfl
theorem ml_RX12_520 : Cond.methodLink RX12 520 yX12_tanks ∈ TB := tb1 (i := 1889) (by decide +kernel) rfl
theorem ml_RX12_523 : Cond.methodLink RX12 523 yX12_stateNow ∈ TB := tb1 (i := 1909) (by decide +kernel) rfl
theorem ml_RX12_529 : Cond.methodLink RX12 529 yX12_tryMove ∈ TB := tb1 (i := 1905) (by decide +kernel) rfl
theorem ml_RX12_536 : Cond.methodLink RX12 536 yX12_bestMove ∈ TB := tb1 (i := 1901) (by decide +kernel) rfl
theorem ml_RX12_539 : Cond.methodLink RX12 539 yX12_isFuel ∈ TB := tb1 (i := 1885) (by decide +kernel) rfl
theorem ml_RX12_542 : Cond.methodLink RX12 542 yX12_fillPlan ∈ TB := tb1 (i := 1893) (by decide +kernel) rfl
theorem ml_RX12_545 : Cond.methodLink RX12 545 yX12_planOf ∈ TB := tb1 (i := 1881) (by decide +kernel) rfl
theorem ml_RX12_548 : Cond.methodLink RX12 548 yX12_enter ∈ TB := tb1 (i := 1921) (by decide +kernel) rfl
theorem ml_RX12_555 : Cond.methodLink RX12 555 yX12_rounds ∈ TB := tb1 (i := 1933) (by decide +kernel) rfl
theorem ml_RX12_558 : Cond.methodLink RX12 558 yX12_hold ∈ TB := tb1 (i := 1941) (by decide +kernel) rfl
theorem ml_RX12_573 : Cond.methodLink RX12 573 yX12_give ∈ TB := tb1 (i := 1950) (by decide +kernel) rfl
theorem ml_RX12_576 : Cond.methodLink RX12 576 yX12_seekShared ∈ TB := tb1 (i := 1946) (by decide +kernel) rfl
theorem ml_RX12_579 : Cond.methodLink RX12 579 yX12_shared ∈ TB := tb1 (i := 1958) (by decide +kernel) rfl
theorem ml_RX12_591 : Cond.methodLink RX12 591 yX12_capped ∈ TB := tb1 (i := 1985) (by decide +kernel) rfl
theorem ml_RX12_594 : Cond.methodLink RX12 594 yX12_stateOf ∈ TB := tb1 (i := 1978) (by decide +kernel) rfl
theorem ml_RX12_598 : Cond.methodLink RX12 598 yX12_paid ∈ TB := tb1 (i := 1992) (by decide +kernel) rfl
theorem ml_RX12_602 : Cond.methodLink RX12 602 yX12_waits ∈ TB := tb1 (i := 1981) (by decide +kernel) rfl
theorem ml_RX12_605 : Cond.methodLink RX12 605 yX12_goesOn ∈ TB := tb1 (i := 1988) (by decide +kernel) rfl
theorem ml_RX12_608 : Cond.methodLink RX12 608 yX12_isMoney ∈ TB := tb1 (i := 1971) (by decide +kernel) rfl
theorem ml_RX12_611 : Cond.methodLink RX12 611 yX12_layStages ∈ TB := tb1 (i := 1974) (by decide +kernel) rfl
theorem ml_RX12_614 : Cond.methodLink RX12 614 yX12_safe ∈ TB := tb1 (i := 2004) (by decide +kernel) rfl
theorem ml_RX1_110 : Cond.methodLink RX1 110 yX7_ask ∈ TB := tb1 (i := 974) (by decide +kernel) rfl
theorem ml_RX1_115 : Cond.methodLink RX1 115 yX7_valueOf ∈ TB := tb1 (i := 975) (by decide +kernel) rfl
theorem ml_RX1_118 : Cond.methodLink RX1 118 Lib.Math.max.name ∈ TB := tb1 (i := 977) (by decide +kernel) rfl
theorem ml_RX1_44 : Cond.methodLink RX1 44 yJ7_fill_53178 ∈ TB := tb1 (i := 936) (by decide +kernel) rfl
theorem ml_RX1_50 : Cond.methodLink RX1 50 yX1_counts ∈ TB := tb1 (i := 937) (by decide +kernel) rfl
theorem ml_RX1_54 : Cond.methodLink RX1 54 yX1_moveBy ∈ TB := tb1 (i := 941) (by decide +kernel) rfl
theorem ml_RX1_61 : Cond.methodLink RX1 61 yX1_moveOthers ∈ TB := tb1 (i := 945) (by decide +kernel) rfl
theorem ml_RX1_68 : Cond.methodLink RX1 68 yX1_paidByFirst ∈ TB := tb1 (i := 970) (by decide +kernel) rfl
theorem ml_RX1_72 : Cond.methodLink RX1 72 yX1_findMonths ∈ TB := tb1 (i := 986) (by decide +kernel) rfl
theorem ml_RX1_76 : Cond.methodLink RX1 76 yX1_estimateAt ∈ TB := tb1 (i := 987) (by decide +kernel) rfl
theorem ml_RX1_80 : Cond.methodLink RX1 80 yX1_spent ∈ TB := tb1 (i := 991) (by decide +kernel) rfl
theorem ml_RX1_84 : Cond.methodLink RX1 84 Lib.Math.min.name ∈ TB := tb1 (i := 976) (by decide +kernel) rfl
theorem ml_RX1_95 : Cond.methodLink RX1 95 yX1_monthOf ∈ TB := tb1 (i := 949) (by decide +kernel) rfl
theorem ml_RX2_101 : Cond.methodLink RX2 101 yX2_pumpedState ∈ TB := tb1 (i := 1061) (by decide +kernel) rfl
theorem ml_RX2_104 : Cond.methodLink RX2 104 yX2_burntAt ∈ TB := tb1 (i := 1064) (by decide +kernel) rfl
theorem ml_RX2_108 : Cond.methodLink RX2 108 yX2_fuelBehind ∈ TB := tb1 (i := 1081) (by decide +kernel) rfl
theorem ml_RX2_111 : Cond.methodLink RX2 111 yX2_keepsLeast ∈ TB := tb1 (i := 1085) (by decide +kernel) rfl
theorem ml_RX2_45 : Cond.methodLink RX2 45 yX2_canHold ∈ TB := tb1 (i := 1026) (by decide +kernel) rfl
theorem ml_RX2_49 : Cond.methodLink RX2 49 yX2_prepare ∈ TB := tb1 (i := 1029) (by decide +kernel) rfl
theorem ml_RX2_53 : Cond.methodLink RX2 53 yX2_leastPumped ∈ TB := tb1 (i := 1076) (by decide +kernel) rfl
theorem ml_RX2_57 : Cond.methodLink RX2 57 yX2_firstMove ∈ TB := tb1 (i := 1077) (by decide +kernel) rfl
theorem ml_RX2_61 : Cond.methodLink RX2 61 yX2_stateBehind ∈ TB := tb1 (i := 1089) (by decide +kernel) rfl
theorem ml_RX2_68 : Cond.methodLink RX2 68 yX2_findBurnt ∈ TB := tb1 (i := 1033) (by decide +kernel) rfl
theorem ml_RX2_71 : Cond.methodLink RX2 71 yX2_leastFrom ∈ TB := tb1 (i := 1049) (by decide +kernel) rfl
theorem ml_RX2_74 : Cond.methodLink RX2 74 yJ7_fill_53178 ∈ TB := tb1 (i := 1037) (by decide +kernel) rfl
theorem ml_RX2_80 : Cond.methodLink RX2 80 yX2_fill ∈ TB := tb1 (i := 1038) (by decide +kernel) rfl
theorem ml_RX2_86 : Cond.methodLink RX2 86 yX2_leastAt ∈ TB := tb1 (i := 1044) (by decide +kernel) rfl
theorem ml_RX2_89 : Cond.methodLink RX2 89 Lib.Math.min.name ∈ TB := tb1 (i := 1048) (by decide +kernel) rfl
theorem ml_RX2_94 : Cond.methodLink RX2 94 yX2_isBalanced ∈ TB := tb1 (i := 1053) (by decide +kernel) rfl
theorem ml_RX2_98 : Cond.methodLink RX2 98 yX2_canPump ∈ TB := tb1 (i := 1057) (by decide +kernel) rfl
theorem ml_RX3_109 : Cond.methodLink RX3 109 yJ7_fill_53178 ∈ TB := tb1 (i := 534) (by decide +kernel) rfl
theorem ml_RX3_115 : Cond.methodLink RX3 115 yX3_readPart ∈ TB := tb1 (i := 645) (by decide +kernel) rfl
theorem ml_RX3_118 : Cond.methodLink RX3 118 yX3_readJoin ∈ TB := tb1 (i := 677) (by decide +kernel) rfl
theorem ml_RX3_121 : Cond.methodLink RX3 121 yX3_readMoves ∈ TB := tb1 (i := 685) (by decide +kernel) rfl
theorem ml_RX3_124 : Cond.methodLink RX3 124 yX3_readTank ∈ TB := tb1 (i := 689) (by decide +kernel) rfl
theorem ml_RX3_127 : Cond.methodLink RX3 127 yX3_readRow ∈ TB := tb1 (i := 693) (by decide +kernel) rfl
theorem ml_RX3_130 : Cond.methodLink RX3 130 yX6_refuse ∈ TB := tb1 (i := 649) (by decide +kernel) rfl
theorem ml_RX3_134 : Cond.methodLink RX3 134 yX6_advance ∈ TB := tb1 (i := 653) (by decide +kernel) rfl
theorem ml_RX3_137 : Cond.methodLink RX3 137 yX3_readNewName ∈ TB := tb1 (i := 654) (by decide +kernel) rfl
theorem ml_RX3_140 : Cond.methodLink RX3 140 yX6_expectNumberBehind ∈ TB := tb1 (i := 662) (by decide +kernel) rfl
theorem ml_RX3_144 : Cond.methodLink RX3 144 yX6_expect ∈ TB := tb1 (i := 676) (by decide +kernel) rfl
theorem ml_RX3_151 : Cond.methodLink RX3 151 yX3_partNamed ∈ TB := tb1 (i := 658) (by decide +kernel) rfl
theorem ml_RX3_155 : Cond.methodLink RX3 155 yX3_readOldName ∈ TB := tb1 (i := 681) (by decide +kernel) rfl
theorem ml_RX3_162 : Cond.methodLink RX3 162 yX6_expectNumber ∈ TB := tb1 (i := 698) (by decide +kernel) rfl
theorem ml_RX3_165 : Cond.methodLink RX3 165 yX3_readGrounds ∈ TB := tb1 (i := 699) (by decide +kernel) rfl
theorem ml_RX3_169 : Cond.methodLink RX3 169 yX6_atWord ∈ TB := tb1 (i := 703) (by decide +kernel) rfl
theorem ml_RX3_174 : Cond.methodLink RX3 174 yX3_setGround ∈ TB := tb1 (i := 708) (by decide +kernel) rfl
theorem ml_RX3_67 : Cond.methodLink RX3 67 yX6_sound ∈ TB := tb1 (i := 637) (by decide +kernel) rfl
theorem ml_RX3_90 : Cond.methodLink RX3 90 yX3_lengthAt ∈ TB := tb1 (i := 804) (by decide +kernel) rfl
theorem ml_RX3_94 : Cond.methodLink RX3 94 Lib.Math.abs.name ∈ TB := tb1 (i := 805) (by decide +kernel) rfl
theorem ml_RX4_21 : Cond.methodLink RX4 21 yX4_fittingWith ∈ TB := tb1 (i := 820) (by decide +kernel) rfl
theorem ml_RX4_43 : Cond.methodLink RX4 43 yX4_tryEnds ∈ TB := tb1 (i := 825) (by decide +kernel) rfl
theorem ml_RX4_47 : Cond.methodLink RX4 47 yX3_lengthAt ∈ TB := tb1 (i := 823) (by decide +kernel) rfl
theorem ml_RX4_51 : Cond.methodLink RX4 51 yX4_tryLength ∈ TB := tb1 (i := 829) (by decide +kernel) rfl
theorem ml_RX4_55 : Cond.methodLink RX4 55 Lib.Math.abs.name ∈ TB := tb1 (i := 824) (by decide +kernel) rfl
theorem ml_RX4_65 : Cond.methodLink RX4 65 yX4_isNearer ∈ TB := tb1 (i := 834) (by decide +kernel) rfl
theorem ml_RX5_41 : Cond.methodLink RX5 41 yX5_findLeast ∈ TB := tb1 (i := 1218) (by decide +kernel) rfl
theorem ml_RX5_44 : Cond.methodLink RX5 44 yX5_leastAt ∈ TB := tb1 (i := 1230) (by decide +kernel) rfl
theorem ml_RX5_48 : Cond.methodLink RX5 48 yX5_leastGoingOn ∈ TB := tb1 (i := 1226) (by decide +kernel) rfl
theorem ml_RX5_51 : Cond.methodLink RX5 51 yX5_leastWaiting ∈ TB := tb1 (i := 1236) (by decide +kernel) rfl
theorem ml_RX5_54 : Cond.methodLink RX5 54 yX5_findGame ∈ TB := tb1 (i := 1222) (by decide +kernel) rfl
theorem ml_RX5_58 : Cond.methodLink RX5 58 Lib.Math.min.name ∈ TB := tb1 (i := 1235) (by decide +kernel) rfl
theorem ml_RX5_64 : Cond.methodLink RX5 64 Lib.Math.max.name ∈ TB := tb1 (i := 1234) (by decide +kernel) rfl
theorem ml_RX6_104 : Cond.methodLink RX6 104 yX6_withLetter ∈ TB := tb1 (i := 88) (by decide +kernel) rfl
theorem ml_RX6_108 : Cond.methodLink RX6 108 yX6_byteAt ∈ TB := tb1 (i := 543) (by decide +kernel) rfl
theorem ml_RX6_112 : Cond.methodLink RX6 112 yX6_isLetter ∈ TB := tb1 (i := 548) (by decide +kernel) rfl
theorem ml_RX6_119 : Cond.methodLink RX6 119 yX6_isDigit ∈ TB := tb1 (i := 563) (by decide +kernel) rfl
theorem ml_RX6_130 : Cond.methodLink RX6 130 yX6_putToken ∈ TB := tb1 (i := 559) (by decide +kernel) rfl
theorem ml_RX6_134 : Cond.methodLink RX6 134 yX6_kindOfWord ∈ TB := tb1 (i := 555) (by decide +kernel) rfl
theorem ml_RX6_52 : Cond.methodLink RX6 52 yX6_advance ∈ TB := tb1 (i := 632) (by decide +kernel) rfl
theorem ml_RX6_58 : Cond.methodLink RX6 58 Lib.Math.min.name ∈ TB := tb1 (i := 636) (by decide +kernel) rfl
theorem ml_RX6_77 : Cond.methodLink RX6 77 yX6_refuse ∈ TB := tb1 (i := 670) (by decide +kernel) rfl
theorem ml_RX6_85 : Cond.methodLink RX6 85 yX6_expect ∈ TB := tb1 (i := 666) (by decide +kernel) rfl
theorem ml_RX6_88 : Cond.methodLink RX6 88 yX6_sound ∈ TB := tb1 (i := 671) (by decide +kernel) rfl
theorem ml_RX6_92 : Cond.methodLink RX6 92 yX6_expectNumber ∈ TB := tb1 (i := 672) (by decide +kernel) rfl
theorem ml_RX7_63 : Cond.methodLink RX7 63 yX7_isTold ∈ TB := tb1 (i := 742) (by decide +kernel) rfl
theorem ml_RX7_67 : Cond.methodLink RX7 67 yX7_ask ∈ TB := tb1 (i := 861) (by decide +kernel) rfl
theorem ml_RX7_71 : Cond.methodLink RX7 71 yX7_valueOf ∈ TB := tb1 (i := 865) (by decide +kernel) rfl
theorem ml_RX7_75 : Cond.methodLink RX7 75 yX7_untold ∈ TB := tb1 (i := 869) (by decide +kernel) rfl
theorem ml_RX7_78 : Cond.methodLink RX7 78 yX7_work ∈ TB := tb1 (i := 872) (by decide +kernel) rfl
theorem ml_RX7_82 : Cond.methodLink RX7 82 yX7_push ∈ TB := tb1 (i := 876) (by decide +kernel) rfl
theorem ml_RX7_85 : Cond.methodLink RX7 85 yX7_joined ∈ TB := tb1 (i := 880) (by decide +kernel) rfl
theorem ml_RX8_15 : Cond.methodLink RX8 15 yJ7_fill_53178 ∈ TB := tb1 (i := 300) (by decide +kernel) rfl
theorem ml_RX8_25 : Cond.methodLink RX8 25 yX8_inFlying ∈ TB := tb1 (i := 847) (by decide +kernel) rfl
theorem ml_RX8_29 : Cond.methodLink RX8 29 yX8_inLeaving ∈ TB := tb1 (i := 883) (by decide +kernel) rfl
theorem ml_RX8_36 : Cond.methodLink RX8 36 yX8_tries ∈ TB := tb1 (i := 850) (by decide +kernel) rfl
theorem ml_RX8_40 : Cond.methodLink RX8 40 yX7_mayLeave ∈ TB := tb1 (i := 886) (by decide +kernel) rfl
theorem ml_RX8_44 : Cond.methodLink RX8 44 yX7_mayFly ∈ TB := tb1 (i := 857) (by decide +kernel) rfl
theorem ml_RX8_48 : Cond.methodLink RX8 48 yX7_asks ∈ TB := tb1 (i := 853) (by decide +kernel) rfl
theorem ml_RX9_25 : Cond.methodLink RX9 25 yX7_mayFly ∈ TB := tb1 (i := 1100) (by decide +kernel) rfl
theorem ml_RX9_35 : Cond.methodLink RX9 35 yJ7_fill_53178 ∈ TB := tb1 (i := 1107) (by decide +kernel) rfl
theorem ml_RX9_41 : Cond.methodLink RX9 41 yX9_findRow ∈ TB := tb1 (i := 1108) (by decide +kernel) rfl
theorem ml_RX9_49 : Cond.methodLink RX9 49 yX9_beside ∈ TB := tb1 (i := 1112) (by decide +kernel) rfl
theorem ml_RX9_53 : Cond.methodLink RX9 53 Lib.Math.min.name ∈ TB := tb1 (i := 1120) (by decide +kernel) rfl
theorem ml_RX9_58 : Cond.methodLink RX9 58 yX9_minutesAt ∈ TB := tb1 (i := 1116) (by decide +kernel) rfl
theorem sw_RX2_83 : Cond.fieldLink RX2 83 "FastPlane$Flight" "WEIGHT" "[I" ∈ TB := tb1 (i := 1042) (by decide +kernel) rfl
theorem kc_RX11_172 : Cond.constant RX11 172 99999 ∈ TB := tb1 (i := 905) (by decide +kernel) rfl
theorem kc_RX12_501 : Cond.constant RX12 501 99999 ∈ TB := tb1 (i := 1814) (by decide +kernel) rfl
theorem kc_RX12_502 : Cond.constant RX12 502 100000 ∈ TB := tb1 (i := 1827) (by decide +kernel) rfl
theorem kc_RX12_503 : Cond.constant RX12 503 1000000 ∈ TB := tb1 (i := 1836) (by decide +kernel) rfl
theorem kc_RX1_43 : Cond.constant RX1 43 100000 ∈ TB := tb1 (i := 927) (by decide +kernel) rfl
theorem kc_RX9_34 : Cond.constant RX9 34 100000 ∈ TB := tb1 (i := 1106) (by decide +kernel) rfl
theorem kl_RX12_178 : Cond.constantLong RX12 178 1885434484 ∈ TB := tb1 (i := 1569) (by decide +kernel) rfl
theorem kl_RX12_180 : Cond.constantLong RX12 180 25209 ∈ TB := tb1 (i := 1570) (by decide +kernel) rfl
theorem kl_RX12_182 : Cond.constantLong RX12 182 1819242087 ∈ TB := tb1 (i := 1571) (by decide +kernel) rfl
theorem kl_RX12_184 : Cond.constantLong RX12 184 25453 ∈ TB := tb1 (i := 1572) (by decide +kernel) rfl
theorem kl_RX12_186 : Cond.constantLong RX12 186 1768842088 ∈ TB := tb1 (i := 1573) (by decide +kernel) rfl
theorem kl_RX12_188 : Cond.constantLong RX12 188 444301539187 ∈ TB := tb1 (i := 1574) (by decide +kernel) rfl
theorem kl_RX12_190 : Cond.constantLong RX12 190 427071599731 ∈ TB := tb1 (i := 1575) (by decide +kernel) rfl
theorem kl_RX12_192 : Cond.constantLong RX12 192 1785686382 ∈ TB := tb1 (i := 1576) (by decide +kernel) rfl
theorem kl_RX12_194 : Cond.constantLong RX12 194 6775152 ∈ TB := tb1 (i := 1577) (by decide +kernel) rfl
theorem kl_RX12_196 : Cond.constantLong RX12 196 470021465459 ∈ TB := tb1 (i := 1578) (by decide +kernel) rfl
theorem kl_RX12_198 : Cond.constantLong RX12 198 418330731890 ∈ TB := tb1 (i := 1579) (by decide +kernel) rfl
theorem kl_RX12_200 : Cond.constantLong RX12 200 1952542315 ∈ TB := tb1 (i := 1580) (by decide +kernel) rfl
theorem kl_RX12_202 : Cond.constantLong RX12 202 24948 ∈ TB := tb1 (i := 1581) (by decide +kernel) rfl
theorem kl_RX12_204 : Cond.constantLong RX12 204 448545973363 ∈ TB := tb1 (i := 1582) (by decide +kernel) rfl
theorem kl_RX12_206 : Cond.constantLong RX12 206 7499639 ∈ TB := tb1 (i := 1583) (by decide +kernel) rfl
theorem kl_RX12_208 : Cond.constantLong RX12 208 495672455781 ∈ TB := tb1 (i := 1584) (by decide +kernel) rfl
theorem kl_RX12_210 : Cond.constantLong RX12 210 465557354085 ∈ TB := tb1 (i := 1585) (by decide +kernel) rfl
theorem kl_RX12_212 : Cond.constantLong RX12 212 6712441 ∈ TB := tb1 (i := 1586) (by decide +kernel) rfl
theorem kl_RX12_214 : Cond.constantLong RX12 214 1801807216 ∈ TB := tb1 (i := 1587) (by decide +kernel) rfl
theorem kl_RX12_216 : Cond.constantLong RX12 216 2003330414 ∈ TB := tb1 (i := 1588) (by decide +kernel) rfl
theorem kl_RX12_218 : Cond.constantLong RX12 218 6385252 ∈ TB := tb1 (i := 1589) (by decide +kernel) rfl
theorem kl_RX12_220 : Cond.constantLong RX12 220 28530 ∈ TB := tb1 (i := 1590) (by decide +kernel) rfl
theorem kl_RX12_222 : Cond.constantLong RX12 222 7237492 ∈ TB := tb1 (i := 1591) (by decide +kernel) rfl
theorem kl_RX12_224 : Cond.constantLong RX12 224 1818324580 ∈ TB := tb1 (i := 1592) (by decide +kernel) rfl
theorem kl_RX12_226 : Cond.constantLong RX12 226 1668248436 ∈ TB := tb1 (i := 1593) (by decide +kernel) rfl
theorem kl_RX12_228 : Cond.constantLong RX12 228 470020945000 ∈ TB := tb1 (i := 1594) (by decide +kernel) rfl
theorem kl_RX12_230 : Cond.constantLong RX12 230 1870030194 ∈ TB := tb1 (i := 1595) (by decide +kernel) rfl
theorem kl_RX12_232 : Cond.constantLong RX12 232 113741193899620 ∈ TB := tb1 (i := 1596) (by decide +kernel) rfl
theorem kl_RX12_234 : Cond.constantLong RX12 234 1752135026 ∈ TB := tb1 (i := 1597) (by decide +kernel) rfl
theorem kl_RX12_236 : Cond.constantLong RX12 236 495806932324 ∈ TB := tb1 (i := 1598) (by decide +kernel) rfl
theorem kl_RX12_238 : Cond.constantLong RX12 238 27419012906970725 ∈ TB := tb1 (i := 1599) (by decide +kernel) rfl
theorem kl_RX12_240 : Cond.constantLong RX12 240 495673374574 ∈ TB := tb1 (i := 1600) (by decide +kernel) rfl
theorem kl_RX12_242 : Cond.constantLong RX12 242 122545758368371 ∈ TB := tb1 (i := 1601) (by decide +kernel) rfl
theorem kl_RX12_244 : Cond.constantLong RX12 244 482955846501 ∈ TB := tb1 (i := 1602) (by decide +kernel) rfl
theorem kl_RX12_358 : Cond.constantLong RX12 358 100000 ∈ TB := tb1 (i := 1692) (by decide +kernel) rfl
theorem kl_RX3_172 : Cond.constantLong RX3 172 31 ∈ TB := tb1 (i := 707) (by decide +kernel) rfl
theorem kl_RX3_85 : Cond.constantLong RX3 85 100000 ∈ TB := tb1 (i := 795) (by decide +kernel) rfl
theorem kl_RX6_138 : Cond.constantLong RX6 138 10 ∈ TB := tb1 (i := 570) (by decide +kernel) rfl
theorem kl_RX6_140 : Cond.constantLong RX6 140 48 ∈ TB := tb1 (i := 571) (by decide +kernel) rfl
theorem kl_RX6_142 : Cond.constantLong RX6 142 32 ∈ TB := tb1 (i := 91) (by decide +kernel) rfl
theorem kl_RX6_144 : Cond.constantLong RX6 144 97 ∈ TB := tb1 (i := 92) (by decide +kernel) rfl
theorem mth_abs : MthT Lib.Math.abs.name Lib.Math.abs.code 1 := ⟨tb1 (i := 806) (by decide +kernel) rfl, tb1 (i := 19) (by decide +kernel) rfl, tb1 (i := 807) (by decide +kernel) rfl⟩
theorem mth_max : MthT Lib.Math.max.name Lib.Math.max.code 2 := ⟨tb1 (i := 589) (by decide +kernel) rfl, tb1 (i := 19) (by decide +kernel) rfl, tb1 (i := 590) (by decide +kernel) rfl⟩
theorem mth_min : MthT Lib.Math.min.name Lib.Math.min.code 2 := ⟨tb1 (i := 592) (by decide +kernel) rfl, tb1 (i := 19) (by decide +kernel) rfl, tb1 (i := 593) (by decide +kernel) rfl⟩
theorem mt_J7_fill_53178 : MtB yJ7_fill_53178 cJ7_fill_53178 4 none 2 := ⟨tb1 (i := 267) (by decide +kernel) rfl, tb1 (i := 10) (by decide +kernel) rfl, ⟨by decide, by decide⟩, by decide +kernel⟩
theorem ms_J7_fill_53178 : Cond.static yJ7_fill_53178 ∈ TB := tb1 (i := 266) (by decide +kernel) rfl
theorem mt_X0_add : MtB yX0_add cX0_add 3 (some .int) 2 := ⟨tb1 (i := 1128) (by decide +kernel) rfl, tb1 (i := 15) (by decide +kernel) rfl, ⟨by decide, by decide⟩, by decide +kernel⟩
theorem mv_X0_add : MtV yX0_add := ⟨tb1 (i := 1126) (by decide +kernel) rfl, tb1 (i := 1127) (by decide +kernel) rfl⟩
theorem mt_X0_holders : MtB yX0_holders cX0_holders 3 (some .int) 0 := ⟨tb1 (i := 1150) (by decide +kernel) rfl, tb1 (i := 15) (by decide +kernel) rfl, ⟨by decide, by decide⟩, by decide +kernel⟩
theorem mv_X0_holders : MtV yX0_holders := ⟨tb1 (i := 1148) (by decide +kernel) rfl, tb1 (i := 1149) (by decide +kernel) rfl⟩
theorem mt_X0_lapseIn : MtB yX0_lapseIn cX0_lapseIn 6 (some .int) 3 := ⟨tb1 (i := 1145) (by decide +kernel) rfl, tb1 (i := 15) (by decide +kernel) rfl, ⟨by decide, by decide⟩, by decide +kernel⟩
theorem mv_X0_lapseIn : MtV yX0_lapseIn := ⟨tb1 (i := 1144) (by decide +kernel) rfl, tb0 (i := 51) (by decide +kernel) rfl⟩
theorem mt_X0_roundOf : MtB yX0_roundOf cX0_roundOf 2 (some .int) 1 := ⟨tb1 (i := 1158) (by decide +kernel) rfl, tb1 (i := 15) (by decide +kernel) rfl, ⟨by decide, by decide⟩, by decide +kernel⟩
theorem mv_X0_roundOf : MtV yX0_roundOf := ⟨tb1 (i := 1156) (by decide +kernel) rfl, tb1 (i := 1157) (by decide +kernel) rfl⟩
theorem mt_X0_settle : MtB yX0_settle cX0_settle 7 none 3 := ⟨tb1 (i := 1140) (by decide +kernel) rfl, tb1 (i := 15) (by decide +kernel) rfl, ⟨by decide, by decide⟩, by decide +kernel⟩
theorem mv_X0_settle : MtV yX0_settle := ⟨tb1 (i := 1138) (by decide +kernel) rfl, tb1 (i := 1139) (by decide +kernel) rfl⟩
theorem mt_X10_choose : MtB yX10_choose cX10_choose 9 none 3 := ⟨tb1 (i := 1180) (by decide +kernel) rfl, tb1 (i := 16) (by decide +kernel) rfl, ⟨by decide, by decide⟩, by decide +kernel⟩
theorem mv_X10_choose : MtV yX10_choose := ⟨tb1 (i := 1179) (by decide +kernel) rfl, tb0 (i := 54) (by decide +kernel) rfl⟩
theorem mt_X10_divide : MtB yX10_divide cX10_divide 6 none 2 := ⟨tb1 (i := 1167) (by decide +kernel) rfl, tb1 (i := 16) (by decide +kernel) rfl, ⟨by decide, by decide⟩, by decide +kernel⟩
theorem mv_X10_divide : MtV yX10_divide := ⟨tb1 (i := 1165) (by decide +kernel) rfl, tb1 (i := 1166) (by decide +kernel) rfl⟩
theorem mt_X10_makerOf : MtB yX10_makerOf cX10_makerOf 2 (some .int) 1 := ⟨tb1 (i := 1188) (by decide +kernel) rfl, tb1 (i := 16) (by decide +kernel) rfl, ⟨by decide, by decide⟩, by decide +kernel⟩
theorem mv_X10_makerOf : MtV yX10_makerOf := ⟨tb1 (i := 1186) (by decide +kernel) rfl, tb1 (i := 1187) (by decide +kernel) rfl⟩
theorem mt_X10_mostAlone : MtB yX10_mostAlone cX10_mostAlone 8 (some .int) 4 := ⟨tb1 (i := 1171) (by decide +kernel) rfl, tb1 (i := 16) (by decide +kernel) rfl, ⟨by decide, by decide⟩, by decide +kernel⟩
theorem mv_X10_mostAlone : MtV yX10_mostAlone := ⟨tb1 (i := 1170) (by decide +kernel) rfl, tb0 (i := 52) (by decide +kernel) rfl⟩
theorem mt_X10_mostWithin : MtB yX10_mostWithin cX10_mostWithin 6 (some .int) 2 := ⟨tb1 (i := 1175) (by decide +kernel) rfl, tb1 (i := 16) (by decide +kernel) rfl, ⟨by decide, by decide⟩, by decide +kernel⟩
theorem mv_X10_mostWithin : MtV yX10_mostWithin := ⟨tb1 (i := 1174) (by decide +kernel) rfl, tb0 (i := 53) (by decide +kernel) rfl⟩
theorem mt_X11_isMoney : MtB yX11_isMoney cX11_isMoney 1 (some .boolean) 1 := ⟨tb1 (i := 1213) (by decide +kernel) rfl, tb1 (i := 1) (by decide +kernel) rfl, ⟨by decide, by decide⟩, by decide +kernel⟩
theorem ms_X11_isMoney : Cond.static yX11_isMoney ∈ TB := tb1 (i := 1212) (by decide +kernel) rfl
theorem mt_X11_isMonth : MtB yX11_isMonth cX11_isMonth 1 (some .boolean) 1 := ⟨tb1 (i := 896) (by decide +kernel) rfl, tb1 (i := 1) (by decide +kernel) rfl, ⟨by decide, by decide⟩, by decide +kernel⟩
theorem ms_X11_isMonth : Cond.static yX11_isMonth ∈ TB := tb1 (i := 895) (by decide +kernel) rfl
theorem mt_X11_isPart : MtB yX11_isPart cX11_isPart 2 (some .boolean) 1 := ⟨tb1 (i := 790) (by decide +kernel) rfl, tb1 (i := 1) (by decide +kernel) rfl, ⟨by decide, by decide⟩, by decide +kernel⟩
theorem mv_X11_isPart : MtV yX11_isPart := ⟨tb1 (i := 789) (by decide +kernel) rfl, tb0 (i := 26) (by decide +kernel) rfl⟩
theorem mt_X11_isTongue : MtB yX11_isTongue cX11_isTongue 1 (some .boolean) 1 := ⟨tb1 (i := 730) (by decide +kernel) rfl, tb1 (i := 1) (by decide +kernel) rfl, ⟨by decide, by decide⟩, by decide +kernel⟩
theorem ms_X11_isTongue : Cond.static yX11_isTongue ∈ TB := tb1 (i := 729) (by decide +kernel) rfl
theorem mt_X11_within : MtB yX11_within cX11_within 3 (some .boolean) 3 := ⟨tb1 (i := 521) (by decide +kernel) rfl, tb1 (i := 1) (by decide +kernel) rfl, ⟨by decide, by decide⟩, by decide +kernel⟩
theorem ms_X11_within : Cond.static yX11_within ∈ TB := tb1 (i := 520) (by decide +kernel) rfl
theorem mt_X12_behind : MtB yX12_behind cX12_behind 2 (some .boolean) 0 := ⟨tb1 (i := 1763) (by decide +kernel) rfl, tb1 (i := 18) (by decide +kernel) rfl, ⟨by decide, by decide⟩, by decide +kernel⟩
theorem mv_X12_behind : MtV yX12_behind := ⟨tb1 (i := 1762) (by decide +kernel) rfl, tb0 (i := 93) (by decide +kernel) rfl⟩
theorem mt_X12_bestMove : MtB yX12_bestMove cX12_bestMove 9 (some .int) 2 := ⟨tb1 (i := 1904) (by decide +kernel) rfl, tb1 (i := 18) (by decide +kernel) rfl, ⟨by decide, by decide⟩, by decide +kernel⟩
theorem mv_X12_bestMove : MtV yX12_bestMove := ⟨tb1 (i := 1903) (by decide +kernel) rfl, tb0 (i := 111) (by decide +kernel) rfl⟩
theorem mt_X12_capped : MtB yX12_capped cX12_capped 1 (some .int) 1 := ⟨tb1 (i := 1987) (by decide +kernel) rfl, tb1 (i := 18) (by decide +kernel) rfl, ⟨by decide, by decide⟩, by decide +kernel⟩
theorem ms_X12_capped : Cond.static yX12_capped ∈ TB := tb1 (i := 1986) (by decide +kernel) rfl
theorem mt_X12_costsOf : MtB yX12_costsOf cX12_costsOf 5 (some .int) 2 := ⟨tb1 (i := 1848) (by decide +kernel) rfl, tb1 (i := 18) (by decide +kernel) rfl, ⟨by decide, by decide⟩, by decide +kernel⟩
theorem mv_X12_costsOf : MtV yX12_costsOf := ⟨tb1 (i := 1847) (by decide +kernel) rfl, tb0 (i := 104) (by decide +kernel) rfl⟩
theorem mt_X12_counts : MtB yX12_counts cX12_counts 4 (some .boolean) 3 := ⟨tb1 (i := 1840) (by decide +kernel) rfl, tb1 (i := 18) (by decide +kernel) rfl, ⟨by decide, by decide⟩, by decide +kernel⟩
theorem mv_X12_counts : MtV yX12_counts := ⟨tb1 (i := 1839) (by decide +kernel) rfl, tb0 (i := 103) (by decide +kernel) rfl⟩
theorem mt_X12_e : MtB yX12_e cX12_e 2 none 0 := ⟨tb1 (i := 1739) (by decide +kernel) rfl, tb1 (i := 18) (by decide +kernel) rfl, ⟨by decide, by decide⟩, by decide +kernel⟩
theorem mv_X12_e : MtV yX12_e := ⟨tb1 (i := 1738) (by decide +kernel) rfl, tb0 (i := 87) (by decide +kernel) rfl⟩
theorem mt_X12_enter : MtB yX12_enter cX12_enter 11 none 7 := ⟨tb1 (i := 1924) (by decide +kernel) rfl, tb1 (i := 18) (by decide +kernel) rfl, ⟨by decide, by decide⟩, by decide +kernel⟩
theorem mv_X12_enter : MtV yX12_enter := ⟨tb1 (i := 1923) (by decide +kernel) rfl, tb0 (i := 114) (by decide +kernel) rfl⟩
theorem mt_X12_fails : MtB yX12_fails cX12_fails 3 none 2 := ⟨tb1 (i := 1632) (by decide +kernel) rfl, tb1 (i := 18) (by decide +kernel) rfl, ⟨by decide, by decide⟩, by decide +kernel⟩
theorem mv_X12_fails : MtV yX12_fails := ⟨tb1 (i := 1631) (by decide +kernel) rfl, tb0 (i := 68) (by decide +kernel) rfl⟩
theorem mt_X12_fillPlan : MtB yX12_fillPlan cX12_fillPlan 5 none 0 := ⟨tb1 (i := 1896) (by decide +kernel) rfl, tb1 (i := 18) (by decide +kernel) rfl, ⟨by decide, by decide⟩, by decide +kernel⟩
theorem mv_X12_fillPlan : MtV yX12_fillPlan := ⟨tb1 (i := 1895) (by decide +kernel) rfl, tb0 (i := 109) (by decide +kernel) rfl⟩
theorem mt_X12_fillUp : MtB yX12_fillUp cX12_fillUp 2 none 1 := ⟨tb1 (i := 1900) (by decide +kernel) rfl, tb1 (i := 18) (by decide +kernel) rfl, ⟨by decide, by decide⟩, by decide +kernel⟩
theorem mv_X12_fillUp : MtV yX12_fillUp := ⟨tb1 (i := 1899) (by decide +kernel) rfl, tb0 (i := 110) (by decide +kernel) rfl⟩
theorem mt_X12_findMoves : MtB yX12_findMoves cX12_findMoves 5 none 1 := ⟨tb1 (i := 1835) (by decide +kernel) rfl, tb1 (i := 18) (by decide +kernel) rfl, ⟨by decide, by decide⟩, by decide +kernel⟩
theorem mv_X12_findMoves : MtV yX12_findMoves := ⟨tb1 (i := 1834) (by decide +kernel) rfl, tb0 (i := 102) (by decide +kernel) rfl⟩
theorem mt_X12_fits : MtB yX12_fits cX12_fits 3 (some .boolean) 2 := ⟨tb1 (i := 1704) (by decide +kernel) rfl, tb1 (i := 18) (by decide +kernel) rfl, ⟨by decide, by decide⟩, by decide +kernel⟩
theorem mv_X12_fits : MtV yX12_fits := ⟨tb1 (i := 1703) (by decide +kernel) rfl, tb0 (i := 82) (by decide +kernel) rfl⟩
theorem mt_X12_fitsBy : MtB yX12_fitsBy cX12_fitsBy 4 (some .boolean) 3 := ⟨tb1 (i := 1708) (by decide +kernel) rfl, tb1 (i := 18) (by decide +kernel) rfl, ⟨by decide, by decide⟩, by decide +kernel⟩
theorem mv_X12_fitsBy : MtV yX12_fitsBy := ⟨tb1 (i := 1707) (by decide +kernel) rfl, tb0 (i := 83) (by decide +kernel) rfl⟩
theorem mt_X12_fitsWith : MtB yX12_fitsWith cX12_fitsWith 7 (some .int) 2 := ⟨tb1 (i := 1724) (by decide +kernel) rfl, tb1 (i := 18) (by decide +kernel) rfl, ⟨by decide, by decide⟩, by decide +kernel⟩
theorem mv_X12_fitsWith : MtV yX12_fitsWith := ⟨tb1 (i := 1723) (by decide +kernel) rfl, tb0 (i := 85) (by decide +kernel) rfl⟩
theorem mt_X12_flies : MtB yX12_flies cX12_flies 5 (some .boolean) 4 := ⟨tb1 (i := 1783) (by decide +kernel) rfl, tb1 (i := 18) (by decide +kernel) rfl, ⟨by decide, by decide⟩, by decide +kernel⟩
theorem mv_X12_flies : MtV yX12_flies := ⟨tb1 (i := 1782) (by decide +kernel) rfl, tb0 (i := 97) (by decide +kernel) rfl⟩
theorem mt_X12_give : MtB yX12_give cX12_give 4 none 2 := ⟨tb1 (i := 1953) (by decide +kernel) rfl, tb1 (i := 18) (by decide +kernel) rfl, ⟨by decide, by decide⟩, by decide +kernel⟩
theorem mv_X12_give : MtV yX12_give := ⟨tb1 (i := 1952) (by decide +kernel) rfl, tb0 (i := 117) (by decide +kernel) rfl⟩
theorem mt_X12_goesOn : MtB yX12_goesOn cX12_goesOn 8 (some .boolean) 5 := ⟨tb1 (i := 1991) (by decide +kernel) rfl, tb1 (i := 18) (by decide +kernel) rfl, ⟨by decide, by decide⟩, by decide +kernel⟩
theorem mv_X12_goesOn : MtV yX12_goesOn := ⟨tb1 (i := 1990) (by decide +kernel) rfl, tb0 (i := 120) (by decide +kernel) rfl⟩
theorem mt_X12_hold : MtB yX12_hold cX12_hold 4 (some .int) 3 := ⟨tb1 (i := 1932) (by decide +kernel) rfl, tb1 (i := 18) (by decide +kernel) rfl, ⟨by decide, by decide⟩, by decide +kernel⟩
theorem mv_X12_hold : MtV yX12_hold := ⟨tb1 (i := 1930) (by decide +kernel) rfl, tb1 (i := 1931) (by decide +kernel) rfl⟩
theorem mt_X12_is : MtB yX12_is cX12_is 2 (some .boolean) 1 := ⟨tb1 (i := 1668) (by decide +kernel) rfl, tb1 (i := 18) (by decide +kernel) rfl, ⟨by decide, by decide⟩, by decide +kernel⟩
theorem mv_X12_is : MtV yX12_is := ⟨tb1 (i := 1667) (by decide +kernel) rfl, tb0 (i := 77) (by decide +kernel) rfl⟩
theorem mt_X12_isCompared : MtB yX12_isCompared cX12_isCompared 2 (some .boolean) 0 := ⟨tb1 (i := 1771) (by decide +kernel) rfl, tb1 (i := 18) (by decide +kernel) rfl, ⟨by decide, by decide⟩, by decide +kernel⟩
theorem mv_X12_isCompared : MtV yX12_isCompared := ⟨tb1 (i := 1770) (by decide +kernel) rfl, tb0 (i := 95) (by decide +kernel) rfl⟩
theorem mt_X12_isDigit : MtB yX12_isDigit cX12_isDigit 1 (some .boolean) 1 := ⟨tb1 (i := 1605) (by decide +kernel) rfl, tb1 (i := 18) (by decide +kernel) rfl, ⟨by decide, by decide⟩, by decide +kernel⟩
theorem ms_X12_isDigit : Cond.static yX12_isDigit ∈ TB := tb1 (i := 1604) (by decide +kernel) rfl
theorem mt_X12_isFuel : MtB yX12_isFuel cX12_isFuel 3 (some .boolean) 2 := ⟨tb1 (i := 1888) (by decide +kernel) rfl, tb1 (i := 18) (by decide +kernel) rfl, ⟨by decide, by decide⟩, by decide +kernel⟩
theorem mv_X12_isFuel : MtV yX12_isFuel := ⟨tb1 (i := 1887) (by decide +kernel) rfl, tb0 (i := 107) (by decide +kernel) rfl⟩
theorem mt_X12_isFull : MtB yX12_isFull cX12_isFull 1 (some .boolean) 0 := ⟨tb1 (i := 1624) (by decide +kernel) rfl, tb1 (i := 18) (by decide +kernel) rfl, ⟨by decide, by decide⟩, by decide +kernel⟩
theorem mv_X12_isFull : MtV yX12_isFull := ⟨tb1 (i := 1623) (by decide +kernel) rfl, tb0 (i := 66) (by decide +kernel) rfl⟩
theorem mt_X12_isGood : MtB yX12_isGood cX12_isGood 1 (some .boolean) 0 := ⟨tb1 (i := 1612) (by decide +kernel) rfl, tb1 (i := 18) (by decide +kernel) rfl, ⟨by decide, by decide⟩, by decide +kernel⟩
theorem mv_X12_isGood : MtV yX12_isGood := ⟨tb1 (i := 1611) (by decide +kernel) rfl, tb0 (i := 63) (by decide +kernel) rfl⟩
theorem mt_X12_isIn : MtB yX12_isIn cX12_isIn 3 (some .boolean) 3 := ⟨tb1 (i := 1687) (by decide +kernel) rfl, tb1 (i := 18) (by decide +kernel) rfl, ⟨by decide, by decide⟩, by decide +kernel⟩
theorem ms_X12_isIn : Cond.static yX12_isIn ∈ TB := tb1 (i := 1686) (by decide +kernel) rfl
theorem mt_X12_isKept : MtB yX12_isKept cX12_isKept 4 (some .boolean) 1 := ⟨tb1 (i := 1568) (by decide +kernel) rfl, tb1 (i := 18) (by decide +kernel) rfl, ⟨by decide, by decide⟩, by decide +kernel⟩
theorem ms_X12_isKept : Cond.static yX12_isKept ∈ TB := tb1 (i := 1567) (by decide +kernel) rfl
theorem mt_X12_isLetter : MtB yX12_isLetter cX12_isLetter 1 (some .boolean) 1 := ⟨tb1 (i := 1565) (by decide +kernel) rfl, tb1 (i := 18) (by decide +kernel) rfl, ⟨by decide, by decide⟩, by decide +kernel⟩
theorem ms_X12_isLetter : Cond.static yX12_isLetter ∈ TB := tb1 (i := 1564) (by decide +kernel) rfl
theorem mt_X12_isMoney : MtB yX12_isMoney cX12_isMoney 2 (some .boolean) 2 := ⟨tb1 (i := 1973) (by decide +kernel) rfl, tb1 (i := 18) (by decide +kernel) rfl, ⟨by decide, by decide⟩, by decide +kernel⟩
theorem ms_X12_isMoney : Cond.static yX12_isMoney ∈ TB := tb1 (i := 1972) (by decide +kernel) rfl
theorem mt_X12_isMonth : MtB yX12_isMonth cX12_isMonth 1 (some .boolean) 1 := ⟨tb1 (i := 1805) (by decide +kernel) rfl, tb1 (i := 18) (by decide +kernel) rfl, ⟨by decide, by decide⟩, by decide +kernel⟩
theorem ms_X12_isMonth : Cond.static yX12_isMonth ∈ TB := tb1 (i := 1804) (by decide +kernel) rfl
theorem mt_X12_isPart : MtB yX12_isPart cX12_isPart 2 (some .boolean) 1 := ⟨tb1 (i := 1680) (by decide +kernel) rfl, tb1 (i := 18) (by decide +kernel) rfl, ⟨by decide, by decide⟩, by decide +kernel⟩
theorem mv_X12_isPart : MtV yX12_isPart := ⟨tb1 (i := 1679) (by decide +kernel) rfl, tb0 (i := 78) (by decide +kernel) rfl⟩
theorem mt_X12_isSign : MtB yX12_isSign cX12_isSign 1 (some .boolean) 1 := ⟨tb1 (i := 1608) (by decide +kernel) rfl, tb1 (i := 18) (by decide +kernel) rfl, ⟨by decide, by decide⟩, by decide +kernel⟩
theorem ms_X12_isSign : Cond.static yX12_isSign ∈ TB := tb1 (i := 1607) (by decide +kernel) rfl
theorem mt_X12_isTongue : MtB yX12_isTongue cX12_isTongue 1 (some .boolean) 1 := ⟨tb1 (i := 1731) (by decide +kernel) rfl, tb1 (i := 18) (by decide +kernel) rfl, ⟨by decide, by decide⟩, by decide +kernel⟩
theorem ms_X12_isTongue : Cond.static yX12_isTongue ∈ TB := tb1 (i := 1730) (by decide +kernel) rfl
theorem mt_X12_isWord : MtB yX12_isWord cX12_isWord 3 (some .boolean) 1 := ⟨tb1 (i := 1620) (by decide +kernel) rfl, tb1 (i := 18) (by decide +kernel) rfl, ⟨by decide, by decide⟩, by decide +kernel⟩
theorem mv_X12_isWord : MtV yX12_isWord := ⟨tb1 (i := 1619) (by decide +kernel) rfl, tb0 (i := 65) (by decide +kernel) rfl⟩
theorem mt_X12_joins : MtB yX12_joins cX12_joins 1 (some .int) 0 := ⟨tb1 (i := 1700) (by decide +kernel) rfl, tb1 (i := 18) (by decide +kernel) rfl, ⟨by decide, by decide⟩, by decide +kernel⟩
theorem mv_X12_joins : MtV yX12_joins := ⟨tb1 (i := 1699) (by decide +kernel) rfl, tb0 (i := 81) (by decide +kernel) rfl⟩
theorem mt_X12_layStages : MtB yX12_layStages cX12_layStages 6 none 0 := ⟨tb1 (i := 1977) (by decide +kernel) rfl, tb1 (i := 18) (by decide +kernel) rfl, ⟨by decide, by decide⟩, by decide +kernel⟩
theorem mv_X12_layStages : MtV yX12_layStages := ⟨tb1 (i := 1976) (by decide +kernel) rfl, tb0 (i := 118) (by decide +kernel) rfl⟩
theorem mt_X12_leavesBy : MtB yX12_leavesBy cX12_leavesBy 4 (some .boolean) 3 := ⟨tb1 (i := 1798) (by decide +kernel) rfl, tb1 (i := 18) (by decide +kernel) rfl, ⟨by decide, by decide⟩, by decide +kernel⟩
theorem mv_X12_leavesBy : MtV yX12_leavesBy := ⟨tb1 (i := 1797) (by decide +kernel) rfl, tb0 (i := 100) (by decide +kernel) rfl⟩
theorem mt_X12_mayAsk : MtB yX12_mayAsk cX12_mayAsk 2 (some .boolean) 1 := ⟨tb1 (i := 1755) (by decide +kernel) rfl, tb1 (i := 18) (by decide +kernel) rfl, ⟨by decide, by decide⟩, by decide +kernel⟩
theorem mv_X12_mayAsk : MtV yX12_mayAsk := ⟨tb1 (i := 1754) (by decide +kernel) rfl, tb0 (i := 91) (by decide +kernel) rfl⟩
theorem mt_X12_mmOf : MtB yX12_mmOf cX12_mmOf 5 (some .int) 2 := ⟨tb1 (i := 1691) (by decide +kernel) rfl, tb1 (i := 18) (by decide +kernel) rfl, ⟨by decide, by decide⟩, by decide +kernel⟩
theorem mv_X12_mmOf : MtV yX12_mmOf := ⟨tb1 (i := 1690) (by decide +kernel) rfl, tb0 (i := 80) (by decide +kernel) rfl⟩
theorem mt_X12_must : MtB yX12_must cX12_must 2 none 1 := ⟨tb1 (i := 1640) (by decide +kernel) rfl, tb1 (i := 18) (by decide +kernel) rfl, ⟨by decide, by decide⟩, by decide +kernel⟩
theorem mv_X12_must : MtV yX12_must := ⟨tb1 (i := 1639) (by decide +kernel) rfl, tb0 (i := 70) (by decide +kernel) rfl⟩
theorem mt_X12_next : MtB yX12_next cX12_next 3 none 0 := ⟨tb1 (i := 1558) (by decide +kernel) rfl, tb1 (i := 18) (by decide +kernel) rfl, ⟨by decide, by decide⟩, by decide +kernel⟩
theorem mv_X12_next : MtV yX12_next := ⟨tb1 (i := 1557) (by decide +kernel) rfl, tb0 (i := 61) (by decide +kernel) rfl⟩
theorem mt_X12_numeral : MtB yX12_numeral cX12_numeral 4 (some .int) 2 := ⟨tb1 (i := 1644) (by decide +kernel) rfl, tb1 (i := 18) (by decide +kernel) rfl, ⟨by decide, by decide⟩, by decide +kernel⟩
theorem mv_X12_numeral : MtV yX12_numeral := ⟨tb1 (i := 1643) (by decide +kernel) rfl, tb0 (i := 71) (by decide +kernel) rfl⟩
theorem mt_X12_overOf : MtB yX12_overOf cX12_overOf 5 (some .int) 2 := ⟨tb1 (i := 1860) (by decide +kernel) rfl, tb1 (i := 18) (by decide +kernel) rfl, ⟨by decide, by decide⟩, by decide +kernel⟩
theorem mv_X12_overOf : MtV yX12_overOf := ⟨tb1 (i := 1859) (by decide +kernel) rfl, tb0 (i := 105) (by decide +kernel) rfl⟩
theorem mt_X12_paid : MtB yX12_paid cX12_paid 6 (some .boolean) 5 := ⟨tb1 (i := 1995) (by decide +kernel) rfl, tb1 (i := 18) (by decide +kernel) rfl, ⟨by decide, by decide⟩, by decide +kernel⟩
theorem mv_X12_paid : MtV yX12_paid := ⟨tb1 (i := 1994) (by decide +kernel) rfl, tb0 (i := 121) (by decide +kernel) rfl⟩
theorem mt_X12_partNamed : MtB yX12_partNamed cX12_partNamed 4 (some .int) 1 := ⟨tb1 (i := 1652) (by decide +kernel) rfl, tb1 (i := 18) (by decide +kernel) rfl, ⟨by decide, by decide⟩, by decide +kernel⟩
theorem mv_X12_partNamed : MtV yX12_partNamed := ⟨tb1 (i := 1651) (by decide +kernel) rfl, tb0 (i := 73) (by decide +kernel) rfl⟩
theorem mt_X12_parts : MtB yX12_parts cX12_parts 1 (some .int) 0 := ⟨tb1 (i := 1684) (by decide +kernel) rfl, tb1 (i := 18) (by decide +kernel) rfl, ⟨by decide, by decide⟩, by decide +kernel⟩
theorem mv_X12_parts : MtV yX12_parts := ⟨tb1 (i := 1683) (by decide +kernel) rfl, tb0 (i := 79) (by decide +kernel) rfl⟩
theorem mt_X12_planOf : MtB yX12_planOf cX12_planOf 5 (some .int) 3 := ⟨tb1 (i := 1884) (by decide +kernel) rfl, tb1 (i := 18) (by decide +kernel) rfl, ⟨by decide, by decide⟩, by decide +kernel⟩
theorem mv_X12_planOf : MtV yX12_planOf := ⟨tb1 (i := 1883) (by decide +kernel) rfl, tb0 (i := 106) (by decide +kernel) rfl⟩
theorem mt_X12_put : MtB yX12_put cX12_put 3 none 2 := ⟨tb1 (i := 1743) (by decide +kernel) rfl, tb1 (i := 18) (by decide +kernel) rfl, ⟨by decide, by decide⟩, by decide +kernel⟩
theorem mv_X12_put : MtV yX12_put := ⟨tb1 (i := 1742) (by decide +kernel) rfl, tb0 (i := 88) (by decide +kernel) rfl⟩
theorem mt_X12_rankHere : MtB yX12_rankHere cX12_rankHere 1 (some .int) 0 := ⟨tb1 (i := 1767) (by decide +kernel) rfl, tb1 (i := 18) (by decide +kernel) rfl, ⟨by decide, by decide⟩, by decide +kernel⟩
theorem mv_X12_rankHere : MtV yX12_rankHere := ⟨tb1 (i := 1766) (by decide +kernel) rfl, tb0 (i := 94) (by decide +kernel) rfl⟩
theorem mt_X12_readJoin : MtB yX12_readJoin cX12_readJoin 2 none 0 := ⟨tb1 (i := 1648) (by decide +kernel) rfl, tb1 (i := 18) (by decide +kernel) rfl, ⟨by decide, by decide⟩, by decide +kernel⟩
theorem mv_X12_readJoin : MtV yX12_readJoin := ⟨tb1 (i := 1647) (by decide +kernel) rfl, tb0 (i := 72) (by decide +kernel) rfl⟩
theorem mt_X12_readMachine : MtB yX12_readMachine cX12_readMachine 5 none 0 := ⟨tb1 (i := 1616) (by decide +kernel) rfl, tb1 (i := 18) (by decide +kernel) rfl, ⟨by decide, by decide⟩, by decide +kernel⟩
theorem mv_X12_readMachine : MtV yX12_readMachine := ⟨tb1 (i := 1615) (by decide +kernel) rfl, tb0 (i := 64) (by decide +kernel) rfl⟩
theorem mt_X12_readMoves : MtB yX12_readMoves cX12_readMoves 2 none 0 := ⟨tb1 (i := 1656) (by decide +kernel) rfl, tb1 (i := 18) (by decide +kernel) rfl, ⟨by decide, by decide⟩, by decide +kernel⟩
theorem mv_X12_readMoves : MtV yX12_readMoves := ⟨tb1 (i := 1655) (by decide +kernel) rfl, tb0 (i := 74) (by decide +kernel) rfl⟩
theorem mt_X12_readPart : MtB yX12_readPart cX12_readPart 4 none 0 := ⟨tb1 (i := 1636) (by decide +kernel) rfl, tb1 (i := 18) (by decide +kernel) rfl, ⟨by decide, by decide⟩, by decide +kernel⟩
theorem mv_X12_readPart : MtV yX12_readPart := ⟨tb1 (i := 1635) (by decide +kernel) rfl, tb0 (i := 69) (by decide +kernel) rfl⟩
theorem mt_X12_readRow : MtB yX12_readRow cX12_readRow 4 none 0 := ⟨tb1 (i := 1664) (by decide +kernel) rfl, tb1 (i := 18) (by decide +kernel) rfl, ⟨by decide, by decide⟩, by decide +kernel⟩
theorem mv_X12_readRow : MtV yX12_readRow := ⟨tb1 (i := 1663) (by decide +kernel) rfl, tb0 (i := 76) (by decide +kernel) rfl⟩
theorem mt_X12_readTank : MtB yX12_readTank cX12_readTank 2 none 0 := ⟨tb1 (i := 1660) (by decide +kernel) rfl, tb1 (i := 18) (by decide +kernel) rfl, ⟨by decide, by decide⟩, by decide +kernel⟩
theorem mv_X12_readTank : MtV yX12_readTank := ⟨tb1 (i := 1659) (by decide +kernel) rfl, tb0 (i := 75) (by decide +kernel) rfl⟩
theorem mt_X12_readTreaty : MtB yX12_readTreaty cX12_readTreaty 2 none 0 := ⟨tb1 (i := 1735) (by decide +kernel) rfl, tb1 (i := 18) (by decide +kernel) rfl, ⟨by decide, by decide⟩, by decide +kernel⟩
theorem mv_X12_readTreaty : MtV yX12_readTreaty := ⟨tb1 (i := 1734) (by decide +kernel) rfl, tb0 (i := 86) (by decide +kernel) rfl⟩
theorem mt_X12_rounds : MtB yX12_rounds cX12_rounds 10 (some .int) 3 := ⟨tb1 (i := 1936) (by decide +kernel) rfl, tb1 (i := 18) (by decide +kernel) rfl, ⟨by decide, by decide⟩, by decide +kernel⟩
theorem mv_X12_rounds : MtV yX12_rounds := ⟨tb1 (i := 1935) (by decide +kernel) rfl, tb0 (i := 115) (by decide +kernel) rfl⟩
theorem mt_X12_safe : MtB yX12_safe cX12_safe 4 (some .int) 3 := ⟨tb1 (i := 1970) (by decide +kernel) rfl, tb1 (i := 18) (by decide +kernel) rfl, ⟨by decide, by decide⟩, by decide +kernel⟩
theorem mv_X12_safe : MtV yX12_safe := ⟨tb1 (i := 1968) (by decide +kernel) rfl, tb1 (i := 1969) (by decide +kernel) rfl⟩
theorem mt_X12_seekMend : MtB yX12_seekMend cX12_seekMend 7 none 0 := ⟨tb1 (i := 1720) (by decide +kernel) rfl, tb1 (i := 18) (by decide +kernel) rfl, ⟨by decide, by decide⟩, by decide +kernel⟩
theorem mv_X12_seekMend : MtV yX12_seekMend := ⟨tb1 (i := 1719) (by decide +kernel) rfl, tb0 (i := 84) (by decide +kernel) rfl⟩
theorem mt_X12_seekShared : MtB yX12_seekShared cX12_seekShared 5 none 1 := ⟨tb1 (i := 1949) (by decide +kernel) rfl, tb1 (i := 18) (by decide +kernel) rfl, ⟨by decide, by decide⟩, by decide +kernel⟩
theorem mv_X12_seekShared : MtV yX12_seekShared := ⟨tb1 (i := 1948) (by decide +kernel) rfl, tb0 (i := 116) (by decide +kernel) rfl⟩
theorem mt_X12_shared : MtB yX12_shared cX12_shared 2 (some .int) 1 := ⟨tb1 (i := 1945) (by decide +kernel) rfl, tb1 (i := 18) (by decide +kernel) rfl, ⟨by decide, by decide⟩, by decide +kernel⟩
theorem mv_X12_shared : MtV yX12_shared := ⟨tb1 (i := 1943) (by decide +kernel) rfl, tb1 (i := 1944) (by decide +kernel) rfl⟩
theorem mt_X12_sign : MtB yX12_sign cX12_sign 2 (some .int) 1 := ⟨tb1 (i := 1562) (by decide +kernel) rfl, tb1 (i := 18) (by decide +kernel) rfl, ⟨by decide, by decide⟩, by decide +kernel⟩
theorem mv_X12_sign : MtV yX12_sign := ⟨tb1 (i := 1561) (by decide +kernel) rfl, tb0 (i := 62) (by decide +kernel) rfl⟩
theorem mt_X12_stateNow : MtB yX12_stateNow cX12_stateNow 1 (some .int) 0 := ⟨tb1 (i := 1912) (by decide +kernel) rfl, tb1 (i := 18) (by decide +kernel) rfl, ⟨by decide, by decide⟩, by decide +kernel⟩
theorem mv_X12_stateNow : MtV yX12_stateNow := ⟨tb1 (i := 1911) (by decide +kernel) rfl, tb0 (i := 113) (by decide +kernel) rfl⟩
theorem mt_X12_stateOf : MtB yX12_stateOf cX12_stateOf 5 (some .int) 5 := ⟨tb1 (i := 1980) (by decide +kernel) rfl, tb1 (i := 18) (by decide +kernel) rfl, ⟨by decide, by decide⟩, by decide +kernel⟩
theorem ms_X12_stateOf : Cond.static yX12_stateOf ∈ TB := tb1 (i := 1979) (by decide +kernel) rfl
theorem mt_X12_step : MtB yX12_step cX12_step 3 none 2 := ⟨tb1 (i := 1759) (by decide +kernel) rfl, tb1 (i := 18) (by decide +kernel) rfl, ⟨by decide, by decide⟩, by decide +kernel⟩
theorem mv_X12_step : MtV yX12_step := ⟨tb1 (i := 1758) (by decide +kernel) rfl, tb0 (i := 92) (by decide +kernel) rfl⟩
theorem mt_X12_takeTape : MtB yX12_takeTape cX12_takeTape 2 none 0 := ⟨tb1 (i := 1554) (by decide +kernel) rfl, tb1 (i := 18) (by decide +kernel) rfl, ⟨by decide, by decide⟩, by decide +kernel⟩
theorem mv_X12_takeTape : MtV yX12_takeTape := ⟨tb1 (i := 1553) (by decide +kernel) rfl, tb0 (i := 60) (by decide +kernel) rfl⟩
theorem mt_X12_tanks : MtB yX12_tanks cX12_tanks 1 (some .int) 0 := ⟨tb1 (i := 1892) (by decide +kernel) rfl, tb1 (i := 18) (by decide +kernel) rfl, ⟨by decide, by decide⟩, by decide +kernel⟩
theorem mv_X12_tanks : MtV yX12_tanks := ⟨tb1 (i := 1891) (by decide +kernel) rfl, tb0 (i := 108) (by decide +kernel) rfl⟩
theorem mt_X12_tell : MtB yX12_tell cX12_tell 4 (some .int) 3 := ⟨tb1 (i := 1809) (by decide +kernel) rfl, tb1 (i := 18) (by decide +kernel) rfl, ⟨by decide, by decide⟩, by decide +kernel⟩
theorem mv_X12_tell : MtV yX12_tell := ⟨tb1 (i := 1808) (by decide +kernel) rfl, tb0 (i := 101) (by decide +kernel) rfl⟩
theorem mt_X12_term : MtB yX12_term cX12_term 3 (some .int) 2 := ⟨tb1 (i := 1791) (by decide +kernel) rfl, tb1 (i := 18) (by decide +kernel) rfl, ⟨by decide, by decide⟩, by decide +kernel⟩
theorem mv_X12_term : MtV yX12_term := ⟨tb1 (i := 1790) (by decide +kernel) rfl, tb0 (i := 99) (by decide +kernel) rfl⟩
theorem mt_X12_tryMove : MtB yX12_tryMove cX12_tryMove 10 (some .int) 6 := ⟨tb1 (i := 1908) (by decide +kernel) rfl, tb1 (i := 18) (by decide +kernel) rfl, ⟨by decide, by decide⟩, by decide +kernel⟩
theorem mv_X12_tryMove : MtV yX12_tryMove := ⟨tb1 (i := 1907) (by decide +kernel) rfl, tb0 (i := 112) (by decide +kernel) rfl⟩
theorem mt_X12_two : MtB yX12_two cX12_two 3 (some .int) 3 := ⟨tb1 (i := 1794) (by decide +kernel) rfl, tb1 (i := 18) (by decide +kernel) rfl, ⟨by decide, by decide⟩, by decide +kernel⟩
theorem ms_X12_two : Cond.static yX12_two ∈ TB := tb1 (i := 1793) (by decide +kernel) rfl
theorem mt_X12_unit : MtB yX12_unit cX12_unit 6 (some .boolean) 0 := ⟨tb1 (i := 1747) (by decide +kernel) rfl, tb1 (i := 18) (by decide +kernel) rfl, ⟨by decide, by decide⟩, by decide +kernel⟩
theorem mv_X12_unit : MtV yX12_unit := ⟨tb1 (i := 1746) (by decide +kernel) rfl, tb0 (i := 89) (by decide +kernel) rfl⟩
theorem mt_X12_unlikeToFly : MtB yX12_unlikeToFly cX12_unlikeToFly 6 (some .int) 2 := ⟨tb1 (i := 1779) (by decide +kernel) rfl, tb1 (i := 18) (by decide +kernel) rfl, ⟨by decide, by decide⟩, by decide +kernel⟩
theorem mv_X12_unlikeToFly : MtV yX12_unlikeToFly := ⟨tb1 (i := 1778) (by decide +kernel) rfl, tb0 (i := 96) (by decide +kernel) rfl⟩
theorem mt_X12_waits : MtB yX12_waits cX12_waits 6 (some .boolean) 5 := ⟨tb1 (i := 1984) (by decide +kernel) rfl, tb1 (i := 18) (by decide +kernel) rfl, ⟨by decide, by decide⟩, by decide +kernel⟩
theorem mv_X12_waits : MtV yX12_waits := ⟨tb1 (i := 1983) (by decide +kernel) rfl, tb0 (i := 119) (by decide +kernel) rfl⟩
theorem mt_X12_wordHere : MtB yX12_wordHere cX12_wordHere 1 (some .int) 0 := ⟨tb1 (i := 1751) (by decide +kernel) rfl, tb1 (i := 18) (by decide +kernel) rfl, ⟨by decide, by decide⟩, by decide +kernel⟩
theorem mv_X12_wordHere : MtV yX12_wordHere := ⟨tb1 (i := 1750) (by decide +kernel) rfl, tb0 (i := 90) (by decide +kernel) rfl⟩
theorem mt_X12_work : MtB yX12_work cX12_work 7 (some .int) 3 := ⟨tb1 (i := 1787) (by decide +kernel) rfl, tb1 (i := 18) (by decide +kernel) rfl, ⟨by decide, by decide⟩, by decide +kernel⟩
theorem mv_X12_work : MtV yX12_work := ⟨tb1 (i := 1786) (by decide +kernel) rfl, tb0 (i := 98) (by decide +kernel) rfl⟩
theorem mt_X12_wrong : MtB yX12_wrong cX12_wrong 1 none 0 := ⟨tb1 (i := 1628) (by decide +kernel) rfl, tb1 (i := 18) (by decide +kernel) rfl, ⟨by decide, by decide⟩, by decide +kernel⟩
theorem mv_X12_wrong : MtV yX12_wrong := ⟨tb1 (i := 1627) (by decide +kernel) rfl, tb0 (i := 67) (by decide +kernel) rfl⟩
theorem mt_X1_counts : MtB yX1_counts cX1_counts 3 (some .boolean) 2 := ⟨tb1 (i := 940) (by decide +kernel) rfl, tb1 (i := 12) (by decide +kernel) rfl, ⟨by decide, by decide⟩, by decide +kernel⟩
theorem mv_X1_counts : MtV yX1_counts := ⟨tb1 (i := 939) (by decide +kernel) rfl, tb0 (i := 32) (by decide +kernel) rfl⟩
theorem mt_X1_estimateAt : MtB yX1_estimateAt cX1_estimateAt 6 (some .int) 2 := ⟨tb1 (i := 990) (by decide +kernel) rfl, tb1 (i := 12) (by decide +kernel) rfl, ⟨by decide, by decide⟩, by decide +kernel⟩
theorem mv_X1_estimateAt : MtV yX1_estimateAt := ⟨tb1 (i := 989) (by decide +kernel) rfl, tb0 (i := 36) (by decide +kernel) rfl⟩
theorem mt_X1_findMonths : MtB yX1_findMonths cX1_findMonths 4 none 2 := ⟨tb1 (i := 935) (by decide +kernel) rfl, tb1 (i := 12) (by decide +kernel) rfl, ⟨by decide, by decide⟩, by decide +kernel⟩
theorem mv_X1_findMonths : MtV yX1_findMonths := ⟨tb1 (i := 933) (by decide +kernel) rfl, tb1 (i := 934) (by decide +kernel) rfl⟩
theorem mt_X1_letPass : MtB yX1_letPass cX1_letPass 2 (some .int) 1 := ⟨tb1 (i := 926) (by decide +kernel) rfl, tb1 (i := 12) (by decide +kernel) rfl, ⟨by decide, by decide⟩, by decide +kernel⟩
theorem mv_X1_letPass : MtV yX1_letPass := ⟨tb1 (i := 924) (by decide +kernel) rfl, tb1 (i := 925) (by decide +kernel) rfl⟩
theorem mt_X1_monthOf : MtB yX1_monthOf cX1_monthOf 2 (some .int) 1 := ⟨tb1 (i := 952) (by decide +kernel) rfl, tb1 (i := 12) (by decide +kernel) rfl, ⟨by decide, by decide⟩, by decide +kernel⟩
theorem mv_X1_monthOf : MtV yX1_monthOf := ⟨tb1 (i := 950) (by decide +kernel) rfl, tb1 (i := 951) (by decide +kernel) rfl⟩
theorem mt_X1_moveBy : MtB yX1_moveBy cX1_moveBy 3 none 2 := ⟨tb1 (i := 944) (by decide +kernel) rfl, tb1 (i := 12) (by decide +kernel) rfl, ⟨by decide, by decide⟩, by decide +kernel⟩
theorem mv_X1_moveBy : MtV yX1_moveBy := ⟨tb1 (i := 943) (by decide +kernel) rfl, tb0 (i := 33) (by decide +kernel) rfl⟩
theorem mt_X1_moveOthers : MtB yX1_moveOthers cX1_moveOthers 4 none 1 := ⟨tb1 (i := 948) (by decide +kernel) rfl, tb1 (i := 12) (by decide +kernel) rfl, ⟨by decide, by decide⟩, by decide +kernel⟩
theorem mv_X1_moveOthers : MtV yX1_moveOthers := ⟨tb1 (i := 947) (by decide +kernel) rfl, tb0 (i := 34) (by decide +kernel) rfl⟩
theorem mt_X1_overrun : MtB yX1_overrun cX1_overrun 5 (some .int) 3 := ⟨tb1 (i := 985) (by decide +kernel) rfl, tb1 (i := 12) (by decide +kernel) rfl, ⟨by decide, by decide⟩, by decide +kernel⟩
theorem mv_X1_overrun : MtV yX1_overrun := ⟨tb1 (i := 983) (by decide +kernel) rfl, tb1 (i := 984) (by decide +kernel) rfl⟩
theorem mt_X1_paidBy : MtB yX1_paidBy cX1_paidBy 7 (some .int) 3 := ⟨tb1 (i := 969) (by decide +kernel) rfl, tb1 (i := 12) (by decide +kernel) rfl, ⟨by decide, by decide⟩, by decide +kernel⟩
theorem mv_X1_paidBy : MtV yX1_paidBy := ⟨tb1 (i := 967) (by decide +kernel) rfl, tb1 (i := 968) (by decide +kernel) rfl⟩
theorem mt_X1_paidByFirst : MtB yX1_paidByFirst cX1_paidByFirst 6 (some .int) 3 := ⟨tb1 (i := 973) (by decide +kernel) rfl, tb1 (i := 12) (by decide +kernel) rfl, ⟨by decide, by decide⟩, by decide +kernel⟩
theorem mv_X1_paidByFirst : MtV yX1_paidByFirst := ⟨tb1 (i := 972) (by decide +kernel) rfl, tb0 (i := 35) (by decide +kernel) rfl⟩
theorem mt_X1_shownBy : MtB yX1_shownBy cX1_shownBy 5 (some .int) 2 := ⟨tb1 (i := 1136) (by decide +kernel) rfl, tb1 (i := 12) (by decide +kernel) rfl, ⟨by decide, by decide⟩, by decide +kernel⟩
theorem mv_X1_shownBy : MtV yX1_shownBy := ⟨tb1 (i := 1134) (by decide +kernel) rfl, tb1 (i := 1135) (by decide +kernel) rfl⟩
theorem mt_X1_spent : MtB yX1_spent cX1_spent 6 (some .int) 3 := ⟨tb1 (i := 961) (by decide +kernel) rfl, tb1 (i := 12) (by decide +kernel) rfl, ⟨by decide, by decide⟩, by decide +kernel⟩
theorem mv_X1_spent : MtV yX1_spent := ⟨tb1 (i := 959) (by decide +kernel) rfl, tb1 (i := 960) (by decide +kernel) rfl⟩
theorem mt_X1_takeBack : MtB yX1_takeBack cX1_takeBack 2 (some .boolean) 1 := ⟨tb1 (i := 917) (by decide +kernel) rfl, tb1 (i := 12) (by decide +kernel) rfl, ⟨by decide, by decide⟩, by decide +kernel⟩
theorem mv_X1_takeBack : MtV yX1_takeBack := ⟨tb1 (i := 915) (by decide +kernel) rfl, tb1 (i := 916) (by decide +kernel) rfl⟩
theorem mt_X1_tell : MtB yX1_tell cX1_tell 4 (some .int) 3 := ⟨tb1 (i := 900) (by decide +kernel) rfl, tb1 (i := 12) (by decide +kernel) rfl, ⟨by decide, by decide⟩, by decide +kernel⟩
theorem mv_X1_tell : MtV yX1_tell := ⟨tb1 (i := 898) (by decide +kernel) rfl, tb1 (i := 899) (by decide +kernel) rfl⟩
theorem mt_X2_addStep : MtB yX2_addStep cX2_addStep 4 (some .int) 2 := ⟨tb1 (i := 1004) (by decide +kernel) rfl, tb1 (i := 13) (by decide +kernel) rfl, ⟨by decide, by decide⟩, by decide +kernel⟩
theorem mv_X2_addStep : MtV yX2_addStep := ⟨tb1 (i := 1002) (by decide +kernel) rfl, tb1 (i := 1003) (by decide +kernel) rfl⟩
theorem mt_X2_burntAt : MtB yX2_burntAt cX2_burntAt 2 (some .int) 1 := ⟨tb1 (i := 1067) (by decide +kernel) rfl, tb1 (i := 13) (by decide +kernel) rfl, ⟨by decide, by decide⟩, by decide +kernel⟩
theorem mv_X2_burntAt : MtV yX2_burntAt := ⟨tb1 (i := 1066) (by decide +kernel) rfl, tb0 (i := 44) (by decide +kernel) rfl⟩
theorem mt_X2_canHold : MtB yX2_canHold cX2_canHold 6 (some .boolean) 4 := ⟨tb1 (i := 1028) (by decide +kernel) rfl, tb1 (i := 13) (by decide +kernel) rfl, ⟨by decide, by decide⟩, by decide +kernel⟩
theorem ms_X2_canHold : Cond.static yX2_canHold ∈ TB := tb1 (i := 1027) (by decide +kernel) rfl
theorem mt_X2_canPump : MtB yX2_canPump cX2_canPump 7 (some .boolean) 2 := ⟨tb1 (i := 1060) (by decide +kernel) rfl, tb1 (i := 13) (by decide +kernel) rfl, ⟨by decide, by decide⟩, by decide +kernel⟩
theorem mv_X2_canPump : MtV yX2_canPump := ⟨tb1 (i := 1059) (by decide +kernel) rfl, tb0 (i := 43) (by decide +kernel) rfl⟩
theorem mt_X2_dropSteps : MtB yX2_dropSteps cX2_dropSteps 2 (some .int) 0 := ⟨tb1 (i := 719) (by decide +kernel) rfl, tb1 (i := 13) (by decide +kernel) rfl, ⟨by decide, by decide⟩, by decide +kernel⟩
theorem mv_X2_dropSteps : MtV yX2_dropSteps := ⟨tb1 (i := 717) (by decide +kernel) rfl, tb1 (i := 718) (by decide +kernel) rfl⟩
theorem mt_X2_fill : MtB yX2_fill cX2_fill 4 (some .boolean) 3 := ⟨tb1 (i := 1041) (by decide +kernel) rfl, tb1 (i := 13) (by decide +kernel) rfl, ⟨by decide, by decide⟩, by decide +kernel⟩
theorem mv_X2_fill : MtV yX2_fill := ⟨tb1 (i := 1040) (by decide +kernel) rfl, tb0 (i := 39) (by decide +kernel) rfl⟩
theorem mt_X2_findBurnt : MtB yX2_findBurnt cX2_findBurnt 6 none 2 := ⟨tb1 (i := 1036) (by decide +kernel) rfl, tb1 (i := 13) (by decide +kernel) rfl, ⟨by decide, by decide⟩, by decide +kernel⟩
theorem mv_X2_findBurnt : MtV yX2_findBurnt := ⟨tb1 (i := 1035) (by decide +kernel) rfl, tb0 (i := 38) (by decide +kernel) rfl⟩
theorem mt_X2_firstMove : MtB yX2_firstMove cX2_firstMove 7 (some .int) 3 := ⟨tb1 (i := 1080) (by decide +kernel) rfl, tb1 (i := 13) (by decide +kernel) rfl, ⟨by decide, by decide⟩, by decide +kernel⟩
theorem mv_X2_firstMove : MtV yX2_firstMove := ⟨tb1 (i := 1079) (by decide +kernel) rfl, tb0 (i := 45) (by decide +kernel) rfl⟩
theorem mt_X2_fuelBehind : MtB yX2_fuelBehind cX2_fuelBehind 6 (some .int) 2 := ⟨tb1 (i := 1084) (by decide +kernel) rfl, tb1 (i := 13) (by decide +kernel) rfl, ⟨by decide, by decide⟩, by decide +kernel⟩
theorem mv_X2_fuelBehind : MtV yX2_fuelBehind := ⟨tb1 (i := 1083) (by decide +kernel) rfl, tb0 (i := 46) (by decide +kernel) rfl⟩
theorem mt_X2_isBalanced : MtB yX2_isBalanced cX2_isBalanced 6 (some .boolean) 2 := ⟨tb1 (i := 1056) (by decide +kernel) rfl, tb1 (i := 13) (by decide +kernel) rfl, ⟨by decide, by decide⟩, by decide +kernel⟩
theorem mv_X2_isBalanced : MtV yX2_isBalanced := ⟨tb1 (i := 1055) (by decide +kernel) rfl, tb0 (i := 42) (by decide +kernel) rfl⟩
theorem mt_X2_keepsLeast : MtB yX2_keepsLeast cX2_keepsLeast 6 (some .boolean) 4 := ⟨tb1 (i := 1088) (by decide +kernel) rfl, tb1 (i := 13) (by decide +kernel) rfl, ⟨by decide, by decide⟩, by decide +kernel⟩
theorem mv_X2_keepsLeast : MtV yX2_keepsLeast := ⟨tb1 (i := 1087) (by decide +kernel) rfl, tb0 (i := 47) (by decide +kernel) rfl⟩
theorem mt_X2_leastAt : MtB yX2_leastAt cX2_leastAt 4 (some .int) 2 := ⟨tb1 (i := 1047) (by decide +kernel) rfl, tb1 (i := 13) (by decide +kernel) rfl, ⟨by decide, by decide⟩, by decide +kernel⟩
theorem mv_X2_leastAt : MtV yX2_leastAt := ⟨tb1 (i := 1046) (by decide +kernel) rfl, tb0 (i := 40) (by decide +kernel) rfl⟩
theorem mt_X2_leastFrom : MtB yX2_leastFrom cX2_leastFrom 6 (some .int) 3 := ⟨tb1 (i := 1052) (by decide +kernel) rfl, tb1 (i := 13) (by decide +kernel) rfl, ⟨by decide, by decide⟩, by decide +kernel⟩
theorem mv_X2_leastFrom : MtV yX2_leastFrom := ⟨tb1 (i := 1051) (by decide +kernel) rfl, tb0 (i := 41) (by decide +kernel) rfl⟩
theorem mt_X2_leastPumped : MtB yX2_leastPumped cX2_leastPumped 6 (some .int) 4 := ⟨tb1 (i := 1025) (by decide +kernel) rfl, tb1 (i := 13) (by decide +kernel) rfl, ⟨by decide, by decide⟩, by decide +kernel⟩
theorem mv_X2_leastPumped : MtV yX2_leastPumped := ⟨tb1 (i := 1023) (by decide +kernel) rfl, tb1 (i := 1024) (by decide +kernel) rfl⟩
theorem mt_X2_moveOf : MtB yX2_moveOf cX2_moveOf 9 (some .int) 5 := ⟨tb1 (i := 1075) (by decide +kernel) rfl, tb1 (i := 13) (by decide +kernel) rfl, ⟨by decide, by decide⟩, by decide +kernel⟩
theorem mv_X2_moveOf : MtV yX2_moveOf := ⟨tb1 (i := 1073) (by decide +kernel) rfl, tb1 (i := 1074) (by decide +kernel) rfl⟩
theorem mt_X2_prepare : MtB yX2_prepare cX2_prepare 5 none 2 := ⟨tb1 (i := 1032) (by decide +kernel) rfl, tb1 (i := 13) (by decide +kernel) rfl, ⟨by decide, by decide⟩, by decide +kernel⟩
theorem mv_X2_prepare : MtV yX2_prepare := ⟨tb1 (i := 1031) (by decide +kernel) rfl, tb0 (i := 37) (by decide +kernel) rfl⟩
theorem mt_X2_pumpedState : MtB yX2_pumpedState cX2_pumpedState 3 (some .int) 2 := ⟨tb1 (i := 1063) (by decide +kernel) rfl, tb1 (i := 13) (by decide +kernel) rfl, ⟨by decide, by decide⟩, by decide +kernel⟩
theorem ms_X2_pumpedState : Cond.static yX2_pumpedState ∈ TB := tb1 (i := 1062) (by decide +kernel) rfl
theorem mt_X2_setPump : MtB yX2_setPump cX2_setPump 2 (some .boolean) 1 := ⟨tb1 (i := 1017) (by decide +kernel) rfl, tb1 (i := 13) (by decide +kernel) rfl, ⟨by decide, by decide⟩, by decide +kernel⟩
theorem mv_X2_setPump : MtV yX2_setPump := ⟨tb1 (i := 1015) (by decide +kernel) rfl, tb1 (i := 1016) (by decide +kernel) rfl⟩
theorem mt_X2_stateBehind : MtB yX2_stateBehind cX2_stateBehind 2 (some .int) 2 := ⟨tb1 (i := 1091) (by decide +kernel) rfl, tb1 (i := 13) (by decide +kernel) rfl, ⟨by decide, by decide⟩, by decide +kernel⟩
theorem ms_X2_stateBehind : Cond.static yX2_stateBehind ∈ TB := tb1 (i := 1090) (by decide +kernel) rfl
theorem mt_X3_fits : MtB yX3_fits cX3_fits 3 (some .boolean) 2 := ⟨tb1 (i := 803) (by decide +kernel) rfl, tb1 (i := 7) (by decide +kernel) rfl, ⟨by decide, by decide⟩, by decide +kernel⟩
theorem mv_X3_fits : MtV yX3_fits := ⟨tb1 (i := 801) (by decide +kernel) rfl, tb1 (i := 802) (by decide +kernel) rfl⟩
theorem mt_X3_lengthAt : MtB yX3_lengthAt cX3_lengthAt 5 (some .int) 2 := ⟨tb1 (i := 794) (by decide +kernel) rfl, tb1 (i := 7) (by decide +kernel) rfl, ⟨by decide, by decide⟩, by decide +kernel⟩
theorem mv_X3_lengthAt : MtV yX3_lengthAt := ⟨tb1 (i := 792) (by decide +kernel) rfl, tb1 (i := 793) (by decide +kernel) rfl⟩
theorem mt_X3_partNamed : MtB yX3_partNamed cX3_partNamed 4 (some .int) 1 := ⟨tb1 (i := 661) (by decide +kernel) rfl, tb1 (i := 7) (by decide +kernel) rfl, ⟨by decide, by decide⟩, by decide +kernel⟩
theorem mv_X3_partNamed : MtV yX3_partNamed := ⟨tb1 (i := 660) (by decide +kernel) rfl, tb0 (i := 11) (by decide +kernel) rfl⟩
theorem mt_X3_readGrounds : MtB yX3_readGrounds cX3_readGrounds 5 none 2 := ⟨tb1 (i := 702) (by decide +kernel) rfl, tb1 (i := 7) (by decide +kernel) rfl, ⟨by decide, by decide⟩, by decide +kernel⟩
theorem mv_X3_readGrounds : MtV yX3_readGrounds := ⟨tb1 (i := 701) (by decide +kernel) rfl, tb0 (i := 17) (by decide +kernel) rfl⟩
theorem mt_X3_readJoin : MtB yX3_readJoin cX3_readJoin 2 none 1 := ⟨tb1 (i := 680) (by decide +kernel) rfl, tb1 (i := 7) (by decide +kernel) rfl, ⟨by decide, by decide⟩, by decide +kernel⟩
theorem mv_X3_readJoin : MtV yX3_readJoin := ⟨tb1 (i := 679) (by decide +kernel) rfl, tb0 (i := 12) (by decide +kernel) rfl⟩
theorem mt_X3_readMoves : MtB yX3_readMoves cX3_readMoves 2 none 1 := ⟨tb1 (i := 688) (by decide +kernel) rfl, tb1 (i := 7) (by decide +kernel) rfl, ⟨by decide, by decide⟩, by decide +kernel⟩
theorem mv_X3_readMoves : MtV yX3_readMoves := ⟨tb1 (i := 687) (by decide +kernel) rfl, tb0 (i := 14) (by decide +kernel) rfl⟩
theorem mt_X3_readNewName : MtB yX3_readNewName cX3_readNewName 2 none 1 := ⟨tb1 (i := 657) (by decide +kernel) rfl, tb1 (i := 7) (by decide +kernel) rfl, ⟨by decide, by decide⟩, by decide +kernel⟩
theorem mv_X3_readNewName : MtV yX3_readNewName := ⟨tb1 (i := 656) (by decide +kernel) rfl, tb0 (i := 10) (by decide +kernel) rfl⟩
theorem mt_X3_readOldName : MtB yX3_readOldName cX3_readOldName 4 (some .int) 2 := ⟨tb1 (i := 684) (by decide +kernel) rfl, tb1 (i := 7) (by decide +kernel) rfl, ⟨by decide, by decide⟩, by decide +kernel⟩
theorem mv_X3_readOldName : MtV yX3_readOldName := ⟨tb1 (i := 683) (by decide +kernel) rfl, tb0 (i := 13) (by decide +kernel) rfl⟩
theorem mt_X3_readPart : MtB yX3_readPart cX3_readPart 3 none 1 := ⟨tb1 (i := 648) (by decide +kernel) rfl, tb1 (i := 7) (by decide +kernel) rfl, ⟨by decide, by decide⟩, by decide +kernel⟩
theorem mv_X3_readPart : MtV yX3_readPart := ⟨tb1 (i := 647) (by decide +kernel) rfl, tb0 (i := 9) (by decide +kernel) rfl⟩
theorem mt_X3_readRow : MtB yX3_readRow cX3_readRow 3 none 1 := ⟨tb1 (i := 696) (by decide +kernel) rfl, tb1 (i := 7) (by decide +kernel) rfl, ⟨by decide, by decide⟩, by decide +kernel⟩
theorem mv_X3_readRow : MtV yX3_readRow := ⟨tb1 (i := 695) (by decide +kernel) rfl, tb0 (i := 16) (by decide +kernel) rfl⟩
theorem mt_X3_readTank : MtB yX3_readTank cX3_readTank 2 none 1 := ⟨tb1 (i := 692) (by decide +kernel) rfl, tb1 (i := 7) (by decide +kernel) rfl, ⟨by decide, by decide⟩, by decide +kernel⟩
theorem mv_X3_readTank : MtV yX3_readTank := ⟨tb1 (i := 691) (by decide +kernel) rfl, tb0 (i := 15) (by decide +kernel) rfl⟩
theorem mt_X3_setGround : MtB yX3_setGround cX3_setGround 3 none 2 := ⟨tb1 (i := 711) (by decide +kernel) rfl, tb1 (i := 7) (by decide +kernel) rfl, ⟨by decide, by decide⟩, by decide +kernel⟩
theorem mv_X3_setGround : MtV yX3_setGround := ⟨tb1 (i := 710) (by decide +kernel) rfl, tb0 (i := 18) (by decide +kernel) rfl⟩
theorem mt_X4_fittingWith : MtB yX4_fittingWith cX4_fittingWith 9 (some .int) 3 := ⟨tb1 (i := 822) (by decide +kernel) rfl, tb1 (i := 8) (by decide +kernel) rfl, ⟨by decide, by decide⟩, by decide +kernel⟩
theorem ms_X4_fittingWith : Cond.static yX4_fittingWith ∈ TB := tb1 (i := 821) (by decide +kernel) rfl
theorem mt_X4_isNearer : MtB yX4_isNearer cX4_isNearer 4 (some .boolean) 3 := ⟨tb1 (i := 837) (by decide +kernel) rfl, tb1 (i := 8) (by decide +kernel) rfl, ⟨by decide, by decide⟩, by decide +kernel⟩
theorem mv_X4_isNearer : MtV yX4_isNearer := ⟨tb1 (i := 836) (by decide +kernel) rfl, tb0 (i := 29) (by decide +kernel) rfl⟩
theorem mt_X4_search : MtB yX4_search cX4_search 3 none 1 := ⟨tb1 (i := 819) (by decide +kernel) rfl, tb1 (i := 8) (by decide +kernel) rfl, ⟨by decide, by decide⟩, by decide +kernel⟩
theorem mv_X4_search : MtV yX4_search := ⟨tb1 (i := 817) (by decide +kernel) rfl, tb1 (i := 818) (by decide +kernel) rfl⟩
theorem mt_X4_tryEnds : MtB yX4_tryEnds cX4_tryEnds 6 none 4 := ⟨tb1 (i := 828) (by decide +kernel) rfl, tb1 (i := 8) (by decide +kernel) rfl, ⟨by decide, by decide⟩, by decide +kernel⟩
theorem mv_X4_tryEnds : MtV yX4_tryEnds := ⟨tb1 (i := 827) (by decide +kernel) rfl, tb0 (i := 27) (by decide +kernel) rfl⟩
theorem mt_X4_tryLength : MtB yX4_tryLength cX4_tryLength 6 none 3 := ⟨tb1 (i := 832) (by decide +kernel) rfl, tb1 (i := 8) (by decide +kernel) rfl, ⟨by decide, by decide⟩, by decide +kernel⟩
theorem mv_X4_tryLength : MtV yX4_tryLength := ⟨tb1 (i := 831) (by decide +kernel) rfl, tb0 (i := 28) (by decide +kernel) rfl⟩
theorem mt_X5_add : MtB yX5_add cX5_add 3 (some .int) 2 := ⟨tb1 (i := 1197) (by decide +kernel) rfl, tb1 (i := 17) (by decide +kernel) rfl, ⟨by decide, by decide⟩, by decide +kernel⟩
theorem mv_X5_add : MtV yX5_add := ⟨tb1 (i := 1195) (by decide +kernel) rfl, tb1 (i := 1196) (by decide +kernel) rfl⟩
theorem mt_X5_findGame : MtB yX5_findGame cX5_findGame 7 none 2 := ⟨tb1 (i := 1225) (by decide +kernel) rfl, tb1 (i := 17) (by decide +kernel) rfl, ⟨by decide, by decide⟩, by decide +kernel⟩
theorem mv_X5_findGame : MtV yX5_findGame := ⟨tb1 (i := 1224) (by decide +kernel) rfl, tb0 (i := 56) (by decide +kernel) rfl⟩
theorem mt_X5_findLeast : MtB yX5_findLeast cX5_findLeast 3 none 0 := ⟨tb1 (i := 1221) (by decide +kernel) rfl, tb1 (i := 17) (by decide +kernel) rfl, ⟨by decide, by decide⟩, by decide +kernel⟩
theorem mv_X5_findLeast : MtV yX5_findLeast := ⟨tb1 (i := 1220) (by decide +kernel) rfl, tb0 (i := 55) (by decide +kernel) rfl⟩
theorem mt_X5_firstYear : MtB yX5_firstYear cX5_firstYear 4 (some .int) 3 := ⟨tb1 (i := 1251) (by decide +kernel) rfl, tb1 (i := 17) (by decide +kernel) rfl, ⟨by decide, by decide⟩, by decide +kernel⟩
theorem mv_X5_firstYear : MtV yX5_firstYear := ⟨tb1 (i := 1249) (by decide +kernel) rfl, tb1 (i := 1250) (by decide +kernel) rfl⟩
theorem mt_X5_isSafe : MtB yX5_isSafe cX5_isSafe 4 (some .boolean) 3 := ⟨tb1 (i := 1217) (by decide +kernel) rfl, tb1 (i := 17) (by decide +kernel) rfl, ⟨by decide, by decide⟩, by decide +kernel⟩
theorem mv_X5_isSafe : MtV yX5_isSafe := ⟨tb1 (i := 1215) (by decide +kernel) rfl, tb1 (i := 1216) (by decide +kernel) rfl⟩
theorem mt_X5_leastAt : MtB yX5_leastAt cX5_leastAt 6 (some .int) 4 := ⟨tb1 (i := 1233) (by decide +kernel) rfl, tb1 (i := 17) (by decide +kernel) rfl, ⟨by decide, by decide⟩, by decide +kernel⟩
theorem mv_X5_leastAt : MtV yX5_leastAt := ⟨tb1 (i := 1232) (by decide +kernel) rfl, tb0 (i := 58) (by decide +kernel) rfl⟩
theorem mt_X5_leastGoingOn : MtB yX5_leastGoingOn cX5_leastGoingOn 9 (some .int) 4 := ⟨tb1 (i := 1229) (by decide +kernel) rfl, tb1 (i := 17) (by decide +kernel) rfl, ⟨by decide, by decide⟩, by decide +kernel⟩
theorem mv_X5_leastGoingOn : MtV yX5_leastGoingOn := ⟨tb1 (i := 1228) (by decide +kernel) rfl, tb0 (i := 57) (by decide +kernel) rfl⟩
theorem mt_X5_leastWaiting : MtB yX5_leastWaiting cX5_leastWaiting 6 (some .int) 4 := ⟨tb1 (i := 1239) (by decide +kernel) rfl, tb1 (i := 17) (by decide +kernel) rfl, ⟨by decide, by decide⟩, by decide +kernel⟩
theorem mv_X5_leastWaiting : MtV yX5_leastWaiting := ⟨tb1 (i := 1238) (by decide +kernel) rfl, tb0 (i := 59) (by decide +kernel) rfl⟩
theorem mt_X5_setGrant : MtB yX5_setGrant cX5_setGrant 3 (some .boolean) 2 := ⟨tb1 (i := 1206) (by decide +kernel) rfl, tb1 (i := 17) (by decide +kernel) rfl, ⟨by decide, by decide⟩, by decide +kernel⟩
theorem mv_X5_setGrant : MtV yX5_setGrant := ⟨tb1 (i := 1204) (by decide +kernel) rfl, tb1 (i := 1205) (by decide +kernel) rfl⟩
theorem mt_X6_advance : MtB yX6_advance cX6_advance 1 none 0 := ⟨tb1 (i := 635) (by decide +kernel) rfl, tb1 (i := 2) (by decide +kernel) rfl, ⟨by decide, by decide⟩, by decide +kernel⟩
theorem mv_X6_advance : MtV yX6_advance := ⟨tb1 (i := 633) (by decide +kernel) rfl, tb1 (i := 634) (by decide +kernel) rfl⟩
theorem mt_X6_append : MtB yX6_append cX6_append 3 none 1 := ⟨tb1 (i := 514) (by decide +kernel) rfl, tb1 (i := 2) (by decide +kernel) rfl, ⟨by decide, by decide⟩, by decide +kernel⟩
theorem mv_X6_append : MtV yX6_append := ⟨tb1 (i := 512) (by decide +kernel) rfl, tb1 (i := 513) (by decide +kernel) rfl⟩
theorem mt_X6_atWord : MtB yX6_atWord cX6_atWord 1 (some .boolean) 0 := ⟨tb1 (i := 706) (by decide +kernel) rfl, tb1 (i := 2) (by decide +kernel) rfl, ⟨by decide, by decide⟩, by decide +kernel⟩
theorem mv_X6_atWord : MtV yX6_atWord := ⟨tb1 (i := 704) (by decide +kernel) rfl, tb1 (i := 705) (by decide +kernel) rfl⟩
theorem mt_X6_byteAt : MtB yX6_byteAt cX6_byteAt 2 (some .int) 1 := ⟨tb1 (i := 546) (by decide +kernel) rfl, tb1 (i := 2) (by decide +kernel) rfl, ⟨by decide, by decide⟩, by decide +kernel⟩
theorem mv_X6_byteAt : MtV yX6_byteAt := ⟨tb1 (i := 545) (by decide +kernel) rfl, tb0 (i := 3) (by decide +kernel) rfl⟩
theorem mt_X6_expect : MtB yX6_expect cX6_expect 2 none 1 := ⟨tb1 (i := 669) (by decide +kernel) rfl, tb1 (i := 2) (by decide +kernel) rfl, ⟨by decide, by decide⟩, by decide +kernel⟩
theorem mv_X6_expect : MtV yX6_expect := ⟨tb1 (i := 667) (by decide +kernel) rfl, tb1 (i := 668) (by decide +kernel) rfl⟩
theorem mt_X6_expectNumber : MtB yX6_expectNumber cX6_expectNumber 4 (some .int) 2 := ⟨tb1 (i := 675) (by decide +kernel) rfl, tb1 (i := 2) (by decide +kernel) rfl, ⟨by decide, by decide⟩, by decide +kernel⟩
theorem mv_X6_expectNumber : MtV yX6_expectNumber := ⟨tb1 (i := 673) (by decide +kernel) rfl, tb1 (i := 674) (by decide +kernel) rfl⟩
theorem mt_X6_expectNumberBehind : MtB yX6_expectNumberBehind cX6_expectNumberBehind 4 (some .int) 3 := ⟨tb1 (i := 665) (by decide +kernel) rfl, tb1 (i := 2) (by decide +kernel) rfl, ⟨by decide, by decide⟩, by decide +kernel⟩
theorem mv_X6_expectNumberBehind : MtV yX6_expectNumberBehind := ⟨tb1 (i := 663) (by decide +kernel) rfl, tb1 (i := 664) (by decide +kernel) rfl⟩
theorem mt_X6_hasRoom : MtB yX6_hasRoom cX6_hasRoom 2 (some .boolean) 1 := ⟨tb1 (i := 510) (by decide +kernel) rfl, tb1 (i := 2) (by decide +kernel) rfl, ⟨by decide, by decide⟩, by decide +kernel⟩
theorem mv_X6_hasRoom : MtV yX6_hasRoom := ⟨tb1 (i := 508) (by decide +kernel) rfl, tb1 (i := 509) (by decide +kernel) rfl⟩
theorem mt_X6_isDigit : MtB yX6_isDigit cX6_isDigit 1 (some .boolean) 1 := ⟨tb1 (i := 565) (by decide +kernel) rfl, tb1 (i := 2) (by decide +kernel) rfl, ⟨by decide, by decide⟩, by decide +kernel⟩
theorem ms_X6_isDigit : Cond.static yX6_isDigit ∈ TB := tb1 (i := 564) (by decide +kernel) rfl
theorem mt_X6_isLetter : MtB yX6_isLetter cX6_isLetter 1 (some .boolean) 1 := ⟨tb1 (i := 550) (by decide +kernel) rfl, tb1 (i := 2) (by decide +kernel) rfl, ⟨by decide, by decide⟩, by decide +kernel⟩
theorem ms_X6_isLetter : Cond.static yX6_isLetter ∈ TB := tb1 (i := 549) (by decide +kernel) rfl
theorem mt_X6_kindOfWord : MtB yX6_kindOfWord cX6_kindOfWord 4 (some .int) 1 := ⟨tb1 (i := 558) (by decide +kernel) rfl, tb1 (i := 2) (by decide +kernel) rfl, ⟨by decide, by decide⟩, by decide +kernel⟩
theorem mv_X6_kindOfWord : MtV yX6_kindOfWord := ⟨tb1 (i := 557) (by decide +kernel) rfl, tb0 (i := 5) (by decide +kernel) rfl⟩
theorem mt_X6_putToken : MtB yX6_putToken cX6_putToken 5 none 3 := ⟨tb1 (i := 562) (by decide +kernel) rfl, tb1 (i := 2) (by decide +kernel) rfl, ⟨by decide, by decide⟩, by decide +kernel⟩
theorem mv_X6_putToken : MtV yX6_putToken := ⟨tb1 (i := 561) (by decide +kernel) rfl, tb0 (i := 6) (by decide +kernel) rfl⟩
theorem mt_X6_refuse : MtB yX6_refuse cX6_refuse 2 none 1 := ⟨tb1 (i := 652) (by decide +kernel) rfl, tb1 (i := 2) (by decide +kernel) rfl, ⟨by decide, by decide⟩, by decide +kernel⟩
theorem mv_X6_refuse : MtV yX6_refuse := ⟨tb1 (i := 650) (by decide +kernel) rfl, tb1 (i := 651) (by decide +kernel) rfl⟩
theorem mt_X6_sound : MtB yX6_sound cX6_sound 1 (some .boolean) 0 := ⟨tb1 (i := 640) (by decide +kernel) rfl, tb1 (i := 2) (by decide +kernel) rfl, ⟨by decide, by decide⟩, by decide +kernel⟩
theorem mv_X6_sound : MtV yX6_sound := ⟨tb1 (i := 638) (by decide +kernel) rfl, tb1 (i := 639) (by decide +kernel) rfl⟩
theorem mt_X6_withLetter : MtB yX6_withLetter cX6_withLetter 3 (some .long) 2 := ⟨tb1 (i := 90) (by decide +kernel) rfl, tb1 (i := 2) (by decide +kernel) rfl, ⟨by decide, by decide⟩, by decide +kernel⟩
theorem ms_X6_withLetter : Cond.static yX6_withLetter ∈ TB := tb1 (i := 89) (by decide +kernel) rfl
theorem mt_X7_ask : MtB yX7_ask cX7_ask 3 none 2 := ⟨tb1 (i := 864) (by decide +kernel) rfl, tb1 (i := 9) (by decide +kernel) rfl, ⟨by decide, by decide⟩, by decide +kernel⟩
theorem mv_X7_ask : MtV yX7_ask := ⟨tb1 (i := 862) (by decide +kernel) rfl, tb1 (i := 863) (by decide +kernel) rfl⟩
theorem mt_X7_asks : MtB yX7_asks cX7_asks 4 (some .boolean) 2 := ⟨tb1 (i := 856) (by decide +kernel) rfl, tb1 (i := 9) (by decide +kernel) rfl, ⟨by decide, by decide⟩, by decide +kernel⟩
theorem mv_X7_asks : MtV yX7_asks := ⟨tb1 (i := 854) (by decide +kernel) rfl, tb1 (i := 855) (by decide +kernel) rfl⟩
theorem mt_X7_isTold : MtB yX7_isTold cX7_isTold 2 (some .boolean) 1 := ⟨tb1 (i := 745) (by decide +kernel) rfl, tb1 (i := 9) (by decide +kernel) rfl, ⟨by decide, by decide⟩, by decide +kernel⟩
theorem mv_X7_isTold : MtV yX7_isTold := ⟨tb1 (i := 744) (by decide +kernel) rfl, tb0 (i := 20) (by decide +kernel) rfl⟩
theorem mt_X7_joined : MtB yX7_joined cX7_joined 3 (some .int) 3 := ⟨tb1 (i := 882) (by decide +kernel) rfl, tb1 (i := 9) (by decide +kernel) rfl, ⟨by decide, by decide⟩, by decide +kernel⟩
theorem ms_X7_joined : Cond.static yX7_joined ∈ TB := tb1 (i := 881) (by decide +kernel) rfl
theorem mt_X7_mayFly : MtB yX7_mayFly cX7_mayFly 4 (some .boolean) 3 := ⟨tb1 (i := 860) (by decide +kernel) rfl, tb1 (i := 9) (by decide +kernel) rfl, ⟨by decide, by decide⟩, by decide +kernel⟩
theorem mv_X7_mayFly : MtV yX7_mayFly := ⟨tb1 (i := 858) (by decide +kernel) rfl, tb1 (i := 859) (by decide +kernel) rfl⟩
theorem mt_X7_mayLeave : MtB yX7_mayLeave cX7_mayLeave 3 (some .boolean) 2 := ⟨tb1 (i := 889) (by decide +kernel) rfl, tb1 (i := 9) (by decide +kernel) rfl, ⟨by decide, by decide⟩, by decide +kernel⟩
theorem mv_X7_mayLeave : MtV yX7_mayLeave := ⟨tb1 (i := 887) (by decide +kernel) rfl, tb1 (i := 888) (by decide +kernel) rfl⟩
theorem mt_X7_push : MtB yX7_push cX7_push 3 (some .int) 2 := ⟨tb1 (i := 879) (by decide +kernel) rfl, tb1 (i := 9) (by decide +kernel) rfl, ⟨by decide, by decide⟩, by decide +kernel⟩
theorem mv_X7_push : MtV yX7_push := ⟨tb1 (i := 878) (by decide +kernel) rfl, tb0 (i := 31) (by decide +kernel) rfl⟩
theorem mt_X7_untold : MtB yX7_untold cX7_untold 1 (some .int) 1 := ⟨tb1 (i := 871) (by decide +kernel) rfl, tb1 (i := 9) (by decide +kernel) rfl, ⟨by decide, by decide⟩, by decide +kernel⟩
theorem ms_X7_untold : Cond.static yX7_untold ∈ TB := tb1 (i := 870) (by decide +kernel) rfl
theorem mt_X7_valueOf : MtB yX7_valueOf cX7_valueOf 4 (some .int) 1 := ⟨tb1 (i := 868) (by decide +kernel) rfl, tb1 (i := 9) (by decide +kernel) rfl, ⟨by decide, by decide⟩, by decide +kernel⟩
theorem mv_X7_valueOf : MtV yX7_valueOf := ⟨tb1 (i := 866) (by decide +kernel) rfl, tb1 (i := 867) (by decide +kernel) rfl⟩
theorem mt_X7_work : MtB yX7_work cX7_work 4 (some .int) 2 := ⟨tb1 (i := 875) (by decide +kernel) rfl, tb1 (i := 9) (by decide +kernel) rfl, ⟨by decide, by decide⟩, by decide +kernel⟩
theorem mv_X7_work : MtV yX7_work := ⟨tb1 (i := 874) (by decide +kernel) rfl, tb0 (i := 30) (by decide +kernel) rfl⟩
theorem mt_X8_between : MtB yX8_between cX8_between 8 (some .int) 4 := ⟨tb1 (i := 845) (by decide +kernel) rfl, tb1 (i := 11) (by decide +kernel) rfl, ⟨by decide, by decide⟩, by decide +kernel⟩
theorem mv_X8_between : MtV yX8_between := ⟨tb1 (i := 843) (by decide +kernel) rfl, tb1 (i := 844) (by decide +kernel) rfl⟩
theorem mt_X8_inFlying : MtB yX8_inFlying cX8_inFlying 8 (some .int) 2 := ⟨tb1 (i := 849) (by decide +kernel) rfl, tb1 (i := 11) (by decide +kernel) rfl, ⟨by decide, by decide⟩, by decide +kernel⟩
theorem ms_X8_inFlying : Cond.static yX8_inFlying ∈ TB := tb1 (i := 848) (by decide +kernel) rfl
theorem mt_X8_inLeaving : MtB yX8_inLeaving cX8_inLeaving 6 (some .int) 2 := ⟨tb1 (i := 885) (by decide +kernel) rfl, tb1 (i := 11) (by decide +kernel) rfl, ⟨by decide, by decide⟩, by decide +kernel⟩
theorem ms_X8_inLeaving : Cond.static yX8_inLeaving ∈ TB := tb1 (i := 884) (by decide +kernel) rfl
theorem mt_X8_tries : MtB yX8_tries cX8_tries 5 (some .int) 5 := ⟨tb1 (i := 852) (by decide +kernel) rfl, tb1 (i := 11) (by decide +kernel) rfl, ⟨by decide, by decide⟩, by decide +kernel⟩
theorem ms_X8_tries : Cond.static yX8_tries ∈ TB := tb1 (i := 851) (by decide +kernel) rfl
theorem mt_X9_beside : MtB yX9_beside cX9_beside 5 (some .int) 2 := ⟨tb1 (i := 1115) (by decide +kernel) rfl, tb1 (i := 14) (by decide +kernel) rfl, ⟨by decide, by decide⟩, by decide +kernel⟩
theorem mv_X9_beside : MtV yX9_beside := ⟨tb1 (i := 1114) (by decide +kernel) rfl, tb0 (i := 49) (by decide +kernel) rfl⟩
theorem mt_X9_fewestMinutes : MtB yX9_fewestMinutes cX9_fewestMinutes 8 (some .int) 4 := ⟨tb1 (i := 1104) (by decide +kernel) rfl, tb1 (i := 14) (by decide +kernel) rfl, ⟨by decide, by decide⟩, by decide +kernel⟩
theorem mv_X9_fewestMinutes : MtV yX9_fewestMinutes := ⟨tb1 (i := 1102) (by decide +kernel) rfl, tb1 (i := 1103) (by decide +kernel) rfl⟩
theorem mt_X9_findRow : MtB yX9_findRow cX9_findRow 7 none 2 := ⟨tb1 (i := 1111) (by decide +kernel) rfl, tb1 (i := 14) (by decide +kernel) rfl, ⟨by decide, by decide⟩, by decide +kernel⟩
theorem mv_X9_findRow : MtV yX9_findRow := ⟨tb1 (i := 1110) (by decide +kernel) rfl, tb0 (i := 48) (by decide +kernel) rfl⟩
theorem mt_X9_minutesAt : MtB yX9_minutesAt cX9_minutesAt 4 (some .int) 2 := ⟨tb1 (i := 1119) (by decide +kernel) rfl, tb1 (i := 14) (by decide +kernel) rfl, ⟨by decide, by decide⟩, by decide +kernel⟩
theorem mv_X9_minutesAt : MtV yX9_minutesAt := ⟨tb1 (i := 1118) (by decide +kernel) rfl, tb0 (i := 50) (by decide +kernel) rfl⟩
theorem mt_X9_open : MtB yX9_open cX9_open 6 none 3 := ⟨tb1 (i := 1099) (by decide +kernel) rfl, tb1 (i := 14) (by decide +kernel) rfl, ⟨by decide, by decide⟩, by decide +kernel⟩
theorem mv_X9_open : MtV yX9_open := ⟨tb1 (i := 1097) (by decide +kernel) rfl, tb1 (i := 1098) (by decide +kernel) rfl⟩
