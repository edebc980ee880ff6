theorem ul0 : u_ws RX0 TX0 13 = [249, 251, 253, 255, 257, 259, 261, 263, 265, 267, 269, 271, 273].filterMap (fun i => lw_tbl[i]?) := by decide +kernel
theorem ul1 : u_ws RX1 TX1 3 = [125, 127, 129].filterMap (fun i => lw_tbl[i]?) := by decide +kernel
theorem ul2 : u_ws RX2 TX2 9 = [292, 294, 296, 298, 300, 302, 304, 306, 308].filterMap (fun i => lw_tbl[i]?) := by decide +kernel
theorem ul3 : u_ws RX3 TX3 10 = [154, 156, 158, 160, 162, 164, 166, 168, 170, 172].filterMap (fun i => lw_tbl[i]?) := by decide +kernel
theorem ul4 : u_ws RX4 TX4 13 = [199, 201, 203, 205, 207, 209, 211, 213, 215, 217, 219, 221, 223].filterMap (fun i => lw_tbl[i]?) := by decide +kernel
theorem ul5 : u_ws RX5 TX5 5 = [887, 889, 891, 893, 895].filterMap (fun i => lw_tbl[i]?) := by decide +kernel
theorem ul6 : u_ws RX6 TX6 4 = [758, 760, 762, 764].filterMap (fun i => lw_tbl[i]?) := by decide +kernel
theorem ul7 : u_ws RX7 TX7 13 = [507, 509, 511, 513, 515, 517, 519, 521, 523, 525, 527, 529, 531].filterMap (fun i => lw_tbl[i]?) := by decide +kernel
theorem ul8 : u_ws RX8 TX8 8 = [638, 640, 642, 644, 646, 648, 650, 652].filterMap (fun i => lw_tbl[i]?) := by decide +kernel
theorem ul9 : u_ws RX9 TX9 3 = [108, 110, 112].filterMap (fun i => lw_tbl[i]?) := by decide +kernel
theorem ul10 : u_ws RX10 TX10 7 = [404, 406, 408, 410, 412, 414, 416].filterMap (fun i => lw_tbl[i]?) := by decide +kernel
theorem ul11 : u_ws RX11 TX11 18 = [330, 332, 334, 336, 338, 340, 342, 344, 346, 348, 350, 352, 354, 356, 358, 360, 362, 364].filterMap (fun i => lw_tbl[i]?) := by decide +kernel
theorem ul12 : u_ws RX12 TX12 92 = [1272, 1274, 1276, 1278, 1280, 1282, 1284, 1286, 1288, 1290, 1292, 1294, 1296, 1298, 1300, 1302, 1304, 1306, 1308, 1310, 1312, 1314, 1316, 1318, 1320, 1322, 1324, 1326, 1328, 1330, 1332, 1334, 1336, 1338, 1340, 1342, 1344, 1346, 1348, 1350, 1352, 1354, 1356, 1358, 1360, 1362, 1364, 1366, 1368, 1370, 1372, 1374, 1376, 1378, 1380, 1382, 1384, 1386, 1388, 1390, 1392, 1394, 1396, 1398, 1400, 1402, 1404, 1406, 1408, 1410, 1412, 1414, 1416, 1418, 1420, 1422, 1424, 1426, 1428, 1430, 1432, 1434, 1436, 1438, 1440, 1442, 1444, 1446, 1448, 1450, 1452, 1454].filterMap (fun i => lw_tbl[i]?) := by decide +kernel
theorem w_313 : (Cond.fieldLink RX11 10 RX11 "timetable" "LNewsreelHouse$Timetable;") ∈ lw_tbl := List.mem_of_getElem? (i := 313) (by decide +kernel)
theorem w_314 : (Cond.fieldLink RX11 19 RX11 "facts" "LNewsreelHouse$Facts;") ∈ lw_tbl := List.mem_of_getElem? (i := 314) (by decide +kernel)
theorem w_315 : (Cond.fieldLink RX11 25 RX11 "shots" "[LNewsreelHouse$Shot;") ∈ lw_tbl := List.mem_of_getElem? (i := 315) (by decide +kernel)
theorem w_317 : (Cond.fieldLink RX11 31 RX11 "stories" "[LNewsreelHouse$Story;") ∈ lw_tbl := List.mem_of_getElem? (i := 317) (by decide +kernel)
theorem w_319 : (Cond.fieldLink RX11 35 RX11 "oldAge" "I") ∈ lw_tbl := List.mem_of_getElem? (i := 319) (by decide +kernel)
theorem w_320 : (Cond.fieldLink RX11 39 RX11 "rates" "[I") ∈ lw_tbl := List.mem_of_getElem? (i := 320) (by decide +kernel)
theorem w_321 : (Cond.fieldLink RX11 45 RX11 "rules" "[LNewsreelHouse$Rule;") ∈ lw_tbl := List.mem_of_getElem? (i := 321) (by decide +kernel)
theorem w_323 : (Cond.fieldLink RX11 52 RX11 "reader" "LNewsreelHouse$Reader;") ∈ lw_tbl := List.mem_of_getElem? (i := 323) (by decide +kernel)
theorem w_325 : (Cond.fieldLink RX11 58 RX11 "rights" "[LNewsreelHouse$Right;") ∈ lw_tbl := List.mem_of_getElem? (i := 325) (by decide +kernel)
theorem w_327 : (Cond.fieldLink RX11 65 RX11 "reels" "LNewsreelHouse$Reels;") ∈ lw_tbl := List.mem_of_getElem? (i := 327) (by decide +kernel)
theorem w_328 : (Cond.fieldLink RX11 72 RX11 "crew" "LNewsreelHouse$Crew;") ∈ lw_tbl := List.mem_of_getElem? (i := 328) (by decide +kernel)
theorem w_329 : (Cond.fieldLink RX11 79 RX11 "halls" "LNewsreelHouse$Halls;") ∈ lw_tbl := List.mem_of_getElem? (i := 329) (by decide +kernel)
theorem w_312 : (Cond.fieldLink RX11 87 RX11 "theHour" "I") ∈ lw_tbl := List.mem_of_getElem? (i := 312) (by decide +kernel)
theorem w_403 : (Cond.fieldLink RX11 114 RX10 "shut" "Z") ∈ lw_tbl := List.mem_of_getElem? (i := 403) (by decide +kernel)
theorem w_316 : (Cond.fieldLink RX11 131 RX11 "shotCount" "I") ∈ lw_tbl := List.mem_of_getElem? (i := 316) (by decide +kernel)
theorem w_479 : (Cond.fieldLink RX11 141 RX7 "number" "I") ∈ lw_tbl := List.mem_of_getElem? (i := 479) (by decide +kernel)
theorem w_481 : (Cond.fieldLink RX11 148 RX7 "place" "I") ∈ lw_tbl := List.mem_of_getElem? (i := 481) (by decide +kernel)
theorem w_484 : (Cond.fieldLink RX11 151 RX7 "hour" "I") ∈ lw_tbl := List.mem_of_getElem? (i := 484) (by decide +kernel)
theorem w_487 : (Cond.fieldLink RX11 154 RX7 "feet" "I") ∈ lw_tbl := List.mem_of_getElem? (i := 487) (by decide +kernel)
theorem w_489 : (Cond.fieldLink RX11 157 RX7 "subject" "I") ∈ lw_tbl := List.mem_of_getElem? (i := 489) (by decide +kernel)
theorem w_491 : (Cond.fieldLink RX11 160 RX7 "marks" "I") ∈ lw_tbl := List.mem_of_getElem? (i := 491) (by decide +kernel)
theorem w_494 : (Cond.fieldLink RX11 163 RX7 "kind" "I") ∈ lw_tbl := List.mem_of_getElem? (i := 494) (by decide +kernel)
theorem w_498 : (Cond.fieldLinkNest RX11 170 RX7 "sentAt" "I" "NewsreelHouse") ∈ lw_tbl := List.mem_of_getElem? (i := 498) (by decide +kernel)
theorem w_504 : (Cond.fieldLinkNest RX11 173 RX7 "best" "I" "NewsreelHouse") ∈ lw_tbl := List.mem_of_getElem? (i := 504) (by decide +kernel)
theorem w_506 : (Cond.fieldLinkNest RX11 176 RX7 "worst" "I" "NewsreelHouse") ∈ lw_tbl := List.mem_of_getElem? (i := 506) (by decide +kernel)
theorem w_500 : (Cond.fieldLinkNest RX11 179 RX7 "cameAt" "I" "NewsreelHouse") ∈ lw_tbl := List.mem_of_getElem? (i := 500) (by decide +kernel)
theorem w_502 : (Cond.fieldLinkNest RX11 182 RX7 "lostAt" "I" "NewsreelHouse") ∈ lw_tbl := List.mem_of_getElem? (i := 502) (by decide +kernel)
theorem w_318 : (Cond.fieldLink RX11 200 RX11 "storyCount" "I") ∈ lw_tbl := List.mem_of_getElem? (i := 318) (by decide +kernel)
theorem w_635 : (Cond.fieldLinkNest RX11 220 RX8 "said" "Z" "NewsreelHouse") ∈ lw_tbl := List.mem_of_getElem? (i := 635) (by decide +kernel)
theorem w_637 : (Cond.fieldLinkNest RX11 227 RX8 "must" "Z" "NewsreelHouse") ∈ lw_tbl := List.mem_of_getElem? (i := 637) (by decide +kernel)
theorem w_633 : (Cond.fieldLinkNest RX11 230 RX8 "size" "I" "NewsreelHouse") ∈ lw_tbl := List.mem_of_getElem? (i := 633) (by decide +kernel)
theorem w_322 : (Cond.fieldLink RX11 260 RX11 "ruleCount" "I") ∈ lw_tbl := List.mem_of_getElem? (i := 322) (by decide +kernel)
theorem w_753 : (Cond.fieldLinkNest RX11 276 RX6 "struckFrom" "I" "NewsreelHouse") ∈ lw_tbl := List.mem_of_getElem? (i := 753) (by decide +kernel)
theorem w_324 : (Cond.fieldLink RX11 287 RX11 "reservedSubjects" "I") ∈ lw_tbl := List.mem_of_getElem? (i := 324) (by decide +kernel)
theorem w_326 : (Cond.fieldLink RX11 298 RX11 "rightCount" "I") ∈ lw_tbl := List.mem_of_getElem? (i := 326) (by decide +kernel)
theorem w_886 : (Cond.fieldLinkNest RX11 304 RX5 "showings" "I" "NewsreelHouse") ∈ lw_tbl := List.mem_of_getElem? (i := 886) (by decide +kernel)
theorem w_625 : (Cond.fieldLink RX11 307 RX8 "subject" "I") ∈ lw_tbl := List.mem_of_getElem? (i := 625) (by decide +kernel)
theorem w_188 : (Cond.fieldLinkNest RX11 318 RX4 "rivalSubjects" "I" "NewsreelHouse") ∈ lw_tbl := List.mem_of_getElem? (i := 188) (by decide +kernel)
theorem w_197 : (Cond.fieldLinkNest RX11 332 RX4 "bestWorth" "I" "NewsreelHouse") ∈ lw_tbl := List.mem_of_getElem? (i := 197) (by decide +kernel)
theorem w_244 : (Cond.fieldLinkNest RX11 355 RX0 "bestWorth" "I" "NewsreelHouse") ∈ lw_tbl := List.mem_of_getElem? (i := 244) (by decide +kernel)
theorem w_235 : (Cond.fieldLinkNest RX11 356 RX0 "eventCount" "I" "NewsreelHouse") ∈ lw_tbl := List.mem_of_getElem? (i := 235) (by decide +kernel)
theorem w_246 : (Cond.fieldLinkNest RX11 359 RX0 "inAll" "I" "NewsreelHouse") ∈ lw_tbl := List.mem_of_getElem? (i := 246) (by decide +kernel)
theorem w_248 : (Cond.fieldLinkNest RX11 362 RX0 "inSome" "I" "NewsreelHouse") ∈ lw_tbl := List.mem_of_getElem? (i := 248) (by decide +kernel)
theorem w_283 : (Cond.fieldLinkNest RX11 379 RX2 "hallCount" "I" "NewsreelHouse") ∈ lw_tbl := List.mem_of_getElem? (i := 283) (by decide +kernel)
theorem w_232 : (Cond.fieldLink RX0 9 RX0 "manPlaces" "[I") ∈ lw_tbl := List.mem_of_getElem? (i := 232) (by decide +kernel)
theorem w_233 : (Cond.fieldLink RX0 15 RX0 "manHours" "[I") ∈ lw_tbl := List.mem_of_getElem? (i := 233) (by decide +kernel)
theorem w_236 : (Cond.fieldLink RX0 18 RX0 "places" "[I") ∈ lw_tbl := List.mem_of_getElem? (i := 236) (by decide +kernel)
theorem w_237 : (Cond.fieldLink RX0 21 RX0 "hours" "[I") ∈ lw_tbl := List.mem_of_getElem? (i := 237) (by decide +kernel)
theorem w_238 : (Cond.fieldLink RX0 24 RX0 "worths" "[I") ∈ lw_tbl := List.mem_of_getElem? (i := 238) (by decide +kernel)
theorem w_239 : (Cond.fieldLink RX0 27 RX0 "byHour" "[I") ∈ lw_tbl := List.mem_of_getElem? (i := 239) (by decide +kernel)
theorem w_240 : (Cond.fieldLink RX0 30 RX0 "nextOnes" "[I") ∈ lw_tbl := List.mem_of_getElem? (i := 240) (by decide +kernel)
theorem w_241 : (Cond.fieldLink RX0 33 RX0 "oneManDoes" "[Z") ∈ lw_tbl := List.mem_of_getElem? (i := 241) (by decide +kernel)
theorem w_242 : (Cond.fieldLink RX0 37 RX0 "menDo" "[Z") ∈ lw_tbl := List.mem_of_getElem? (i := 242) (by decide +kernel)
theorem w_234 : (Cond.fieldLink RX0 40 RX0 "eventCount" "I") ∈ lw_tbl := List.mem_of_getElem? (i := 234) (by decide +kernel)
theorem w_243 : (Cond.fieldLink RX0 88 RX0 "bestWorth" "I") ∈ lw_tbl := List.mem_of_getElem? (i := 243) (by decide +kernel)
theorem w_245 : (Cond.fieldLink RX0 91 RX0 "inAll" "I") ∈ lw_tbl := List.mem_of_getElem? (i := 245) (by decide +kernel)
theorem w_247 : (Cond.fieldLink RX0 94 RX0 "inSome" "I") ∈ lw_tbl := List.mem_of_getElem? (i := 247) (by decide +kernel)
theorem w_122 : (Cond.fieldLink RX1 9 RX1 "placeSets" "[I") ∈ lw_tbl := List.mem_of_getElem? (i := 122) (by decide +kernel)
theorem w_123 : (Cond.fieldLink RX1 15 RX1 "firstDays" "[I") ∈ lw_tbl := List.mem_of_getElem? (i := 123) (by decide +kernel)
theorem w_124 : (Cond.fieldLink RX1 18 RX1 "lastDays" "[I") ∈ lw_tbl := List.mem_of_getElem? (i := 124) (by decide +kernel)
theorem w_284 : (Cond.fieldLink RX2 9 RX2 "froms" "[I") ∈ lw_tbl := List.mem_of_getElem? (i := 284) (by decide +kernel)
theorem w_285 : (Cond.fieldLink RX2 15 RX2 "tos" "[I") ∈ lw_tbl := List.mem_of_getElem? (i := 285) (by decide +kernel)
theorem w_286 : (Cond.fieldLink RX2 18 RX2 "takes" "[I") ∈ lw_tbl := List.mem_of_getElem? (i := 286) (by decide +kernel)
theorem w_287 : (Cond.fieldLink RX2 21 RX2 "parts" "[I") ∈ lw_tbl := List.mem_of_getElem? (i := 287) (by decide +kernel)
theorem w_288 : (Cond.fieldLink RX2 24 RX2 "printCount" "I") ∈ lw_tbl := List.mem_of_getElem? (i := 288) (by decide +kernel)
theorem w_289 : (Cond.fieldLink RX2 28 RX2 "gains" "[J") ∈ lw_tbl := List.mem_of_getElem? (i := 289) (by decide +kernel)
theorem w_290 : (Cond.fieldLink RX2 32 RX2 "soFar" "[J") ∈ lw_tbl := List.mem_of_getElem? (i := 290) (by decide +kernel)
theorem w_282 : (Cond.fieldLink RX2 35 RX2 "hallCount" "I") ∈ lw_tbl := List.mem_of_getElem? (i := 282) (by decide +kernel)
theorem w_291 : (Cond.fieldLink RX2 38 RX2 "searched" "Z") ∈ lw_tbl := List.mem_of_getElem? (i := 291) (by decide +kernel)
theorem w_1141 : (Cond.fieldLink RX2 78 RX2 "TENS" "[I") ∈ lw_tbl := List.mem_of_getElem? (i := 1141) (by decide +kernel)
theorem w_144 : (Cond.fieldLink RX3 9 RX3 "values" "[I") ∈ lw_tbl := List.mem_of_getElem? (i := 144) (by decide +kernel)
theorem w_145 : (Cond.fieldLink RX3 15 RX3 "earlierHeld" "[Z") ∈ lw_tbl := List.mem_of_getElem? (i := 145) (by decide +kernel)
theorem w_146 : (Cond.fieldLink RX3 19 RX3 "allHold" "[Z") ∈ lw_tbl := List.mem_of_getElem? (i := 146) (by decide +kernel)
theorem w_147 : (Cond.fieldLink RX3 22 RX3 "turned" "[Z") ∈ lw_tbl := List.mem_of_getElem? (i := 147) (by decide +kernel)
theorem w_623 : (Cond.fieldLink RX3 25 RX8 "subject" "I") ∈ lw_tbl := List.mem_of_getElem? (i := 623) (by decide +kernel)
theorem w_627 : (Cond.fieldLink RX3 31 RX8 "place" "I") ∈ lw_tbl := List.mem_of_getElem? (i := 627) (by decide +kernel)
theorem w_634 : (Cond.fieldLinkNest RX3 38 RX8 "said" "Z" "NewsreelHouse") ∈ lw_tbl := List.mem_of_getElem? (i := 634) (by decide +kernel)
theorem w_148 : (Cond.fieldLink RX3 45 RX3 "depth" "I") ∈ lw_tbl := List.mem_of_getElem? (i := 148) (by decide +kernel)
theorem w_757 : (Cond.fieldLinkNest RX3 51 RX6 "size" "I" "NewsreelHouse") ∈ lw_tbl := List.mem_of_getElem? (i := 757) (by decide +kernel)
theorem w_755 : (Cond.fieldLinkNest RX3 56 RX6 "text" "[I" "NewsreelHouse") ∈ lw_tbl := List.mem_of_getElem? (i := 755) (by decide +kernel)
theorem w_149 : (Cond.fieldLink RX3 66 RX3 "state" "I") ∈ lw_tbl := List.mem_of_getElem? (i := 149) (by decide +kernel)
theorem w_153 : (Cond.fieldLink RX3 72 RX3 "digits" "I") ∈ lw_tbl := List.mem_of_getElem? (i := 153) (by decide +kernel)
theorem w_150 : (Cond.fieldLink RX3 91 RX3 "letter" "I") ∈ lw_tbl := List.mem_of_getElem? (i := 150) (by decide +kernel)
theorem w_151 : (Cond.fieldLink RX3 94 RX3 "sign" "I") ∈ lw_tbl := List.mem_of_getElem? (i := 151) (by decide +kernel)
theorem w_152 : (Cond.fieldLink RX3 97 RX3 "number" "I") ∈ lw_tbl := List.mem_of_getElem? (i := 152) (by decide +kernel)
theorem w_184 : (Cond.fieldLink RX4 9 RX4 "least" "I") ∈ lw_tbl := List.mem_of_getElem? (i := 184) (by decide +kernel)
theorem w_185 : (Cond.fieldLink RX4 15 RX4 "most" "I") ∈ lw_tbl := List.mem_of_getElem? (i := 185) (by decide +kernel)
theorem w_186 : (Cond.fieldLink RX4 18 RX4 "apartFrom" "[I") ∈ lw_tbl := List.mem_of_getElem? (i := 186) (by decide +kernel)
theorem w_193 : (Cond.fieldLink RX4 22 RX4 "feet" "[I") ∈ lw_tbl := List.mem_of_getElem? (i := 193) (by decide +kernel)
theorem w_194 : (Cond.fieldLink RX4 25 RX4 "worth" "[I") ∈ lw_tbl := List.mem_of_getElem? (i := 194) (by decide +kernel)
theorem w_195 : (Cond.fieldLink RX4 28 RX4 "rowOf" "[I") ∈ lw_tbl := List.mem_of_getElem? (i := 195) (by decide +kernel)
theorem w_189 : (Cond.fieldLink RX4 43 RX4 "listed" "I") ∈ lw_tbl := List.mem_of_getElem? (i := 189) (by decide +kernel)
theorem w_190 : (Cond.fieldLink RX4 46 RX4 "readySet" "I") ∈ lw_tbl := List.mem_of_getElem? (i := 190) (by decide +kernel)
theorem w_191 : (Cond.fieldLink RX4 49 RX4 "allowedSet" "I") ∈ lw_tbl := List.mem_of_getElem? (i := 191) (by decide +kernel)
theorem w_192 : (Cond.fieldLink RX4 52 RX4 "mustSet" "I") ∈ lw_tbl := List.mem_of_getElem? (i := 192) (by decide +kernel)
theorem w_636 : (Cond.fieldLinkNest RX4 55 RX8 "must" "Z" "NewsreelHouse") ∈ lw_tbl := List.mem_of_getElem? (i := 636) (by decide +kernel)
theorem w_187 : (Cond.fieldLink RX4 65 RX4 "rivalSubjects" "I") ∈ lw_tbl := List.mem_of_getElem? (i := 187) (by decide +kernel)
theorem w_624 : (Cond.fieldLink RX4 68 RX8 "subject" "I") ∈ lw_tbl := List.mem_of_getElem? (i := 624) (by decide +kernel)
theorem w_630 : (Cond.fieldLink RX4 71 RX8 "worth" "I") ∈ lw_tbl := List.mem_of_getElem? (i := 630) (by decide +kernel)
theorem w_196 : (Cond.fieldLink RX4 87 RX4 "bestWorth" "I") ∈ lw_tbl := List.mem_of_getElem? (i := 196) (by decide +kernel)
theorem w_198 : (Cond.fieldLink RX4 90 RX4 "bestRow" "I") ∈ lw_tbl := List.mem_of_getElem? (i := 198) (by decide +kernel)
theorem w_978 : (Cond.fieldLink RX4 97 RX4 "NINES" "[I") ∈ lw_tbl := List.mem_of_getElem? (i := 978) (by decide +kernel)
theorem w_881 : (Cond.fieldLink RX5 7 RX5 "subject" "I") ∈ lw_tbl := List.mem_of_getElem? (i := 881) (by decide +kernel)
theorem w_882 : (Cond.fieldLink RX5 13 RX5 "lands" "I") ∈ lw_tbl := List.mem_of_getElem? (i := 882) (by decide +kernel)
theorem w_883 : (Cond.fieldLink RX5 16 RX5 "from" "I") ∈ lw_tbl := List.mem_of_getElem? (i := 883) (by decide +kernel)
theorem w_884 : (Cond.fieldLink RX5 19 RX5 "to" "I") ∈ lw_tbl := List.mem_of_getElem? (i := 884) (by decide +kernel)
theorem w_885 : (Cond.fieldLink RX5 22 RX5 "showings" "I") ∈ lw_tbl := List.mem_of_getElem? (i := 885) (by decide +kernel)
theorem w_752 : (Cond.fieldLink RX6 10 RX6 "struckFrom" "I") ∈ lw_tbl := List.mem_of_getElem? (i := 752) (by decide +kernel)
theorem w_754 : (Cond.fieldLink RX6 16 RX6 "text" "[I") ∈ lw_tbl := List.mem_of_getElem? (i := 754) (by decide +kernel)
theorem w_751 : (Cond.fieldLink RX6 20 RX6 "from" "I") ∈ lw_tbl := List.mem_of_getElem? (i := 751) (by decide +kernel)
theorem w_756 : (Cond.fieldLink RX6 27 RX6 "size" "I") ∈ lw_tbl := List.mem_of_getElem? (i := 756) (by decide +kernel)
theorem w_497 : (Cond.fieldLink RX7 10 RX7 "sentAt" "I") ∈ lw_tbl := List.mem_of_getElem? (i := 497) (by decide +kernel)
theorem w_499 : (Cond.fieldLink RX7 16 RX7 "cameAt" "I") ∈ lw_tbl := List.mem_of_getElem? (i := 499) (by decide +kernel)
theorem w_501 : (Cond.fieldLink RX7 19 RX7 "lostAt" "I") ∈ lw_tbl := List.mem_of_getElem? (i := 501) (by decide +kernel)
theorem w_503 : (Cond.fieldLink RX7 22 RX7 "best" "I") ∈ lw_tbl := List.mem_of_getElem? (i := 503) (by decide +kernel)
theorem w_505 : (Cond.fieldLink RX7 25 RX7 "worst" "I") ∈ lw_tbl := List.mem_of_getElem? (i := 505) (by decide +kernel)
theorem w_477 : (Cond.fieldLink RX7 28 RX7 "number" "I") ∈ lw_tbl := List.mem_of_getElem? (i := 477) (by decide +kernel)
theorem w_480 : (Cond.fieldLink RX7 31 RX7 "place" "I") ∈ lw_tbl := List.mem_of_getElem? (i := 480) (by decide +kernel)
theorem w_482 : (Cond.fieldLink RX7 34 RX7 "hour" "I") ∈ lw_tbl := List.mem_of_getElem? (i := 482) (by decide +kernel)
theorem w_485 : (Cond.fieldLink RX7 37 RX7 "feet" "I") ∈ lw_tbl := List.mem_of_getElem? (i := 485) (by decide +kernel)
theorem w_488 : (Cond.fieldLink RX7 40 RX7 "subject" "I") ∈ lw_tbl := List.mem_of_getElem? (i := 488) (by decide +kernel)
theorem w_490 : (Cond.fieldLink RX7 43 RX7 "marks" "I") ∈ lw_tbl := List.mem_of_getElem? (i := 490) (by decide +kernel)
theorem w_493 : (Cond.fieldLink RX7 46 RX7 "kind" "I") ∈ lw_tbl := List.mem_of_getElem? (i := 493) (by decide +kernel)
theorem w_496 : (Cond.fieldLink RX7 49 RX7 "toldAt" "I") ∈ lw_tbl := List.mem_of_getElem? (i := 496) (by decide +kernel)
theorem w_631 : (Cond.fieldLink RX8 11 RX8 "row" "[LNewsreelHouse$Shot;") ∈ lw_tbl := List.mem_of_getElem? (i := 631) (by decide +kernel)
theorem w_622 : (Cond.fieldLink RX8 17 RX8 "subject" "I") ∈ lw_tbl := List.mem_of_getElem? (i := 622) (by decide +kernel)
theorem w_626 : (Cond.fieldLink RX8 21 RX8 "place" "I") ∈ lw_tbl := List.mem_of_getElem? (i := 626) (by decide +kernel)
theorem w_628 : (Cond.fieldLink RX8 24 RX8 "hour" "I") ∈ lw_tbl := List.mem_of_getElem? (i := 628) (by decide +kernel)
theorem w_629 : (Cond.fieldLink RX8 27 RX8 "worth" "I") ∈ lw_tbl := List.mem_of_getElem? (i := 629) (by decide +kernel)
theorem w_632 : (Cond.fieldLink RX8 30 RX8 "size" "I") ∈ lw_tbl := List.mem_of_getElem? (i := 632) (by decide +kernel)
theorem w_478 : (Cond.fieldLink RX8 37 RX7 "number" "I") ∈ lw_tbl := List.mem_of_getElem? (i := 478) (by decide +kernel)
theorem w_486 : (Cond.fieldLink RX8 40 RX7 "feet" "I") ∈ lw_tbl := List.mem_of_getElem? (i := 486) (by decide +kernel)
theorem w_483 : (Cond.fieldLink RX8 43 RX7 "hour" "I") ∈ lw_tbl := List.mem_of_getElem? (i := 483) (by decide +kernel)
theorem w_492 : (Cond.fieldLink RX8 48 RX7 "marks" "I") ∈ lw_tbl := List.mem_of_getElem? (i := 492) (by decide +kernel)
theorem w_495 : (Cond.fieldLink RX8 57 RX7 "kind" "I") ∈ lw_tbl := List.mem_of_getElem? (i := 495) (by decide +kernel)
theorem w_105 : (Cond.fieldLink RX9 11 RX9 "ways" "[LNewsreelHouse$Way;") ∈ lw_tbl := List.mem_of_getElem? (i := 105) (by decide +kernel)
theorem w_107 : (Cond.fieldLink RX9 17 RX9 "there" "[I") ∈ lw_tbl := List.mem_of_getElem? (i := 107) (by decide +kernel)
theorem w_106 : (Cond.fieldLink RX9 21 RX9 "wayCount" "I") ∈ lw_tbl := List.mem_of_getElem? (i := 106) (by decide +kernel)
theorem w_395 : (Cond.fieldLink RX9 40 RX10 "from" "I") ∈ lw_tbl := List.mem_of_getElem? (i := 395) (by decide +kernel)
theorem w_397 : (Cond.fieldLink RX9 47 RX10 "to" "I") ∈ lw_tbl := List.mem_of_getElem? (i := 397) (by decide +kernel)
theorem w_394 : (Cond.fieldLink RX10 9 RX10 "from" "I") ∈ lw_tbl := List.mem_of_getElem? (i := 394) (by decide +kernel)
theorem w_396 : (Cond.fieldLink RX10 15 RX10 "to" "I") ∈ lw_tbl := List.mem_of_getElem? (i := 396) (by decide +kernel)
theorem w_398 : (Cond.fieldLink RX10 18 RX10 "first" "I") ∈ lw_tbl := List.mem_of_getElem? (i := 398) (by decide +kernel)
theorem w_399 : (Cond.fieldLink RX10 21 RX10 "every" "I") ∈ lw_tbl := List.mem_of_getElem? (i := 399) (by decide +kernel)
theorem w_400 : (Cond.fieldLink RX10 24 RX10 "takes" "I") ∈ lw_tbl := List.mem_of_getElem? (i := 400) (by decide +kernel)
theorem w_401 : (Cond.fieldLink RX10 27 RX10 "late" "I") ∈ lw_tbl := List.mem_of_getElem? (i := 401) (by decide +kernel)
theorem w_402 : (Cond.fieldLink RX10 30 RX10 "shut" "Z") ∈ lw_tbl := List.mem_of_getElem? (i := 402) (by decide +kernel)
theorem w_1182 : (Cond.fieldLink RX12 7 RX12 "wayFrom" "[I") ∈ lw_tbl := List.mem_of_getElem? (i := 1182) (by decide +kernel)
theorem w_1183 : (Cond.fieldLink RX12 13 RX12 "wayTo" "[I") ∈ lw_tbl := List.mem_of_getElem? (i := 1183) (by decide +kernel)
theorem w_1184 : (Cond.fieldLink RX12 16 RX12 "first" "[I") ∈ lw_tbl := List.mem_of_getElem? (i := 1184) (by decide +kernel)
theorem w_1185 : (Cond.fieldLink RX12 19 RX12 "every" "[I") ∈ lw_tbl := List.mem_of_getElem? (i := 1185) (by decide +kernel)
theorem w_1186 : (Cond.fieldLink RX12 22 RX12 "takes" "[I") ∈ lw_tbl := List.mem_of_getElem? (i := 1186) (by decide +kernel)
theorem w_1187 : (Cond.fieldLink RX12 25 RX12 "late" "[I") ∈ lw_tbl := List.mem_of_getElem? (i := 1187) (by decide +kernel)
theorem w_1188 : (Cond.fieldLink RX12 28 RX12 "isShut" "[Z") ∈ lw_tbl := List.mem_of_getElem? (i := 1188) (by decide +kernel)
theorem w_1189 : (Cond.fieldLink RX12 32 RX12 "there" "[I") ∈ lw_tbl := List.mem_of_getElem? (i := 1189) (by decide +kernel)
theorem w_1191 : (Cond.fieldLink RX12 35 RX12 "place" "[I") ∈ lw_tbl := List.mem_of_getElem? (i := 1191) (by decide +kernel)
theorem w_1192 : (Cond.fieldLink RX12 38 RX12 "taken" "[I") ∈ lw_tbl := List.mem_of_getElem? (i := 1192) (by decide +kernel)
theorem w_1193 : (Cond.fieldLink RX12 41 RX12 "feet" "[I") ∈ lw_tbl := List.mem_of_getElem? (i := 1193) (by decide +kernel)
theorem w_1194 : (Cond.fieldLink RX12 44 RX12 "subject" "[I") ∈ lw_tbl := List.mem_of_getElem? (i := 1194) (by decide +kernel)
theorem w_1195 : (Cond.fieldLink RX12 47 RX12 "marks" "[I") ∈ lw_tbl := List.mem_of_getElem? (i := 1195) (by decide +kernel)
theorem w_1196 : (Cond.fieldLink RX12 50 RX12 "kind" "[I") ∈ lw_tbl := List.mem_of_getElem? (i := 1196) (by decide +kernel)
theorem w_1197 : (Cond.fieldLink RX12 53 RX12 "toldAt" "[I") ∈ lw_tbl := List.mem_of_getElem? (i := 1197) (by decide +kernel)
theorem w_1198 : (Cond.fieldLink RX12 56 RX12 "sentAt" "[I") ∈ lw_tbl := List.mem_of_getElem? (i := 1198) (by decide +kernel)
theorem w_1199 : (Cond.fieldLink RX12 59 RX12 "cameAt" "[I") ∈ lw_tbl := List.mem_of_getElem? (i := 1199) (by decide +kernel)
theorem w_1200 : (Cond.fieldLink RX12 62 RX12 "lostAt" "[I") ∈ lw_tbl := List.mem_of_getElem? (i := 1200) (by decide +kernel)
theorem w_1201 : (Cond.fieldLink RX12 65 RX12 "best" "[I") ∈ lw_tbl := List.mem_of_getElem? (i := 1201) (by decide +kernel)
theorem w_1202 : (Cond.fieldLink RX12 68 RX12 "worst" "[I") ∈ lw_tbl := List.mem_of_getElem? (i := 1202) (by decide +kernel)
theorem w_1203 : (Cond.fieldLink RX12 71 RX12 "factPlaces" "[I") ∈ lw_tbl := List.mem_of_getElem? (i := 1203) (by decide +kernel)
theorem w_1204 : (Cond.fieldLink RX12 74 RX12 "factFrom" "[I") ∈ lw_tbl := List.mem_of_getElem? (i := 1204) (by decide +kernel)
theorem w_1205 : (Cond.fieldLink RX12 77 RX12 "factTo" "[I") ∈ lw_tbl := List.mem_of_getElem? (i := 1205) (by decide +kernel)
theorem w_1207 : (Cond.fieldLink RX12 80 RX12 "storySubject" "[I") ∈ lw_tbl := List.mem_of_getElem? (i := 1207) (by decide +kernel)
theorem w_1208 : (Cond.fieldLink RX12 83 RX12 "storyPlace" "[I") ∈ lw_tbl := List.mem_of_getElem? (i := 1208) (by decide +kernel)
theorem w_1209 : (Cond.fieldLink RX12 86 RX12 "storyHour" "[I") ∈ lw_tbl := List.mem_of_getElem? (i := 1209) (by decide +kernel)
theorem w_1210 : (Cond.fieldLink RX12 89 RX12 "storyWorth" "[I") ∈ lw_tbl := List.mem_of_getElem? (i := 1210) (by decide +kernel)
theorem w_1211 : (Cond.fieldLink RX12 92 RX12 "storyMany" "[I") ∈ lw_tbl := List.mem_of_getElem? (i := 1211) (by decide +kernel)
theorem w_1212 : (Cond.fieldLink RX12 95 RX12 "storyShot" "[I") ∈ lw_tbl := List.mem_of_getElem? (i := 1212) (by decide +kernel)
theorem w_1213 : (Cond.fieldLink RX12 98 RX12 "isSaid" "[Z") ∈ lw_tbl := List.mem_of_getElem? (i := 1213) (by decide +kernel)
theorem w_1214 : (Cond.fieldLink RX12 101 RX12 "must" "[Z") ∈ lw_tbl := List.mem_of_getElem? (i := 1214) (by decide +kernel)
theorem w_1215 : (Cond.fieldLink RX12 104 RX12 "age" "I") ∈ lw_tbl := List.mem_of_getElem? (i := 1215) (by decide +kernel)
theorem w_1216 : (Cond.fieldLink RX12 108 RX12 "rate" "[I") ∈ lw_tbl := List.mem_of_getElem? (i := 1216) (by decide +kernel)
theorem w_1218 : (Cond.fieldLink RX12 111 RX12 "ruleDay" "[I") ∈ lw_tbl := List.mem_of_getElem? (i := 1218) (by decide +kernel)
theorem w_1219 : (Cond.fieldLink RX12 114 RX12 "struckDay" "[I") ∈ lw_tbl := List.mem_of_getElem? (i := 1219) (by decide +kernel)
theorem w_1220 : (Cond.fieldLink RX12 117 RX12 "ruleLength" "[I") ∈ lw_tbl := List.mem_of_getElem? (i := 1220) (by decide +kernel)
theorem w_1221 : (Cond.fieldLink RX12 120 RX12 "bytes" "[I") ∈ lw_tbl := List.mem_of_getElem? (i := 1221) (by decide +kernel)
theorem w_1224 : (Cond.fieldLink RX12 123 RX12 "open" "[I") ∈ lw_tbl := List.mem_of_getElem? (i := 1224) (by decide +kernel)
theorem w_1226 : (Cond.fieldLink RX12 126 RX12 "truth" "[Z") ∈ lw_tbl := List.mem_of_getElem? (i := 1226) (by decide +kernel)
theorem w_1227 : (Cond.fieldLink RX12 129 RX12 "values" "[I") ∈ lw_tbl := List.mem_of_getElem? (i := 1227) (by decide +kernel)
theorem w_1228 : (Cond.fieldLink RX12 132 RX12 "isReserved" "[Z") ∈ lw_tbl := List.mem_of_getElem? (i := 1228) (by decide +kernel)
theorem w_1230 : (Cond.fieldLink RX12 135 RX12 "rightSubject" "[I") ∈ lw_tbl := List.mem_of_getElem? (i := 1230) (by decide +kernel)
theorem w_1231 : (Cond.fieldLink RX12 138 RX12 "rightLands" "[I") ∈ lw_tbl := List.mem_of_getElem? (i := 1231) (by decide +kernel)
theorem w_1232 : (Cond.fieldLink RX12 141 RX12 "rightFrom" "[I") ∈ lw_tbl := List.mem_of_getElem? (i := 1232) (by decide +kernel)
theorem w_1233 : (Cond.fieldLink RX12 144 RX12 "rightTo" "[I") ∈ lw_tbl := List.mem_of_getElem? (i := 1233) (by decide +kernel)
theorem w_1234 : (Cond.fieldLink RX12 147 RX12 "rightLeft" "[I") ∈ lw_tbl := List.mem_of_getElem? (i := 1234) (by decide +kernel)
theorem w_1235 : (Cond.fieldLink RX12 150 RX12 "least" "I") ∈ lw_tbl := List.mem_of_getElem? (i := 1235) (by decide +kernel)
theorem w_1236 : (Cond.fieldLink RX12 153 RX12 "most" "I") ∈ lw_tbl := List.mem_of_getElem? (i := 1236) (by decide +kernel)
theorem w_1237 : (Cond.fieldLink RX12 156 RX12 "areApart" "[Z") ∈ lw_tbl := List.mem_of_getElem? (i := 1237) (by decide +kernel)
theorem w_1238 : (Cond.fieldLink RX12 159 RX12 "rivalHas" "[Z") ∈ lw_tbl := List.mem_of_getElem? (i := 1238) (by decide +kernel)
theorem w_1239 : (Cond.fieldLink RX12 162 RX12 "mayShow" "[Z") ∈ lw_tbl := List.mem_of_getElem? (i := 1239) (by decide +kernel)
theorem w_1240 : (Cond.fieldLink RX12 165 RX12 "showFeet" "[I") ∈ lw_tbl := List.mem_of_getElem? (i := 1240) (by decide +kernel)
theorem w_1241 : (Cond.fieldLink RX12 168 RX12 "showWorth" "[I") ∈ lw_tbl := List.mem_of_getElem? (i := 1241) (by decide +kernel)
theorem w_1243 : (Cond.fieldLink RX12 171 RX12 "row" "[I") ∈ lw_tbl := List.mem_of_getElem? (i := 1243) (by decide +kernel)
theorem w_1244 : (Cond.fieldLink RX12 174 RX12 "bestRow" "[I") ∈ lw_tbl := List.mem_of_getElem? (i := 1244) (by decide +kernel)
theorem w_1247 : (Cond.fieldLink RX12 177 RX12 "manPlace" "[I") ∈ lw_tbl := List.mem_of_getElem? (i := 1247) (by decide +kernel)
theorem w_1248 : (Cond.fieldLink RX12 180 RX12 "manHour" "[I") ∈ lw_tbl := List.mem_of_getElem? (i := 1248) (by decide +kernel)
theorem w_1250 : (Cond.fieldLink RX12 183 RX12 "eventPlace" "[I") ∈ lw_tbl := List.mem_of_getElem? (i := 1250) (by decide +kernel)
theorem w_1251 : (Cond.fieldLink RX12 186 RX12 "eventHour" "[I") ∈ lw_tbl := List.mem_of_getElem? (i := 1251) (by decide +kernel)
theorem w_1252 : (Cond.fieldLink RX12 189 RX12 "eventWorth" "[I") ∈ lw_tbl := List.mem_of_getElem? (i := 1252) (by decide +kernel)
theorem w_1253 : (Cond.fieldLink RX12 192 RX12 "canGo" "[Z") ∈ lw_tbl := List.mem_of_getElem? (i := 1253) (by decide +kernel)
theorem w_1254 : (Cond.fieldLink RX12 195 RX12 "allGo" "[Z") ∈ lw_tbl := List.mem_of_getElem? (i := 1254) (by decide +kernel)
theorem w_1255 : (Cond.fieldLink RX12 198 RX12 "someGo" "[Z") ∈ lw_tbl := List.mem_of_getElem? (i := 1255) (by decide +kernel)
theorem w_1256 : (Cond.fieldLink RX12 201 RX12 "inOrder" "[I") ∈ lw_tbl := List.mem_of_getElem? (i := 1256) (by decide +kernel)
theorem w_1257 : (Cond.fieldLink RX12 204 RX12 "inTime" "[Z") ∈ lw_tbl := List.mem_of_getElem? (i := 1257) (by decide +kernel)
theorem w_1259 : (Cond.fieldLink RX12 207 RX12 "hallFrom" "[I") ∈ lw_tbl := List.mem_of_getElem? (i := 1259) (by decide +kernel)
theorem w_1260 : (Cond.fieldLink RX12 210 RX12 "hallTo" "[I") ∈ lw_tbl := List.mem_of_getElem? (i := 1260) (by decide +kernel)
theorem w_1261 : (Cond.fieldLink RX12 213 RX12 "hallTake" "[I") ∈ lw_tbl := List.mem_of_getElem? (i := 1261) (by decide +kernel)
theorem w_1262 : (Cond.fieldLink RX12 216 RX12 "part" "[I") ∈ lw_tbl := List.mem_of_getElem? (i := 1262) (by decide +kernel)
theorem w_1263 : (Cond.fieldLink RX12 219 RX12 "prints" "I") ∈ lw_tbl := List.mem_of_getElem? (i := 1263) (by decide +kernel)
theorem w_1265 : (Cond.fieldLink RX12 222 RX12 "edgeFrom" "[I") ∈ lw_tbl := List.mem_of_getElem? (i := 1265) (by decide +kernel)
theorem w_1266 : (Cond.fieldLink RX12 225 RX12 "edgeTo" "[I") ∈ lw_tbl := List.mem_of_getElem? (i := 1266) (by decide +kernel)
theorem w_1267 : (Cond.fieldLink RX12 228 RX12 "room" "[I") ∈ lw_tbl := List.mem_of_getElem? (i := 1267) (by decide +kernel)
theorem w_1268 : (Cond.fieldLink RX12 231 RX12 "price" "[I") ∈ lw_tbl := List.mem_of_getElem? (i := 1268) (by decide +kernel)
theorem w_1269 : (Cond.fieldLink RX12 234 RX12 "far" "[I") ∈ lw_tbl := List.mem_of_getElem? (i := 1269) (by decide +kernel)
theorem w_1270 : (Cond.fieldLink RX12 237 RX12 "came" "[I") ∈ lw_tbl := List.mem_of_getElem? (i := 1270) (by decide +kernel)
theorem w_1271 : (Cond.fieldLink RX12 240 RX12 "fixed" "[I") ∈ lw_tbl := List.mem_of_getElem? (i := 1271) (by decide +kernel)
theorem w_1180 : (Cond.fieldLink RX12 255 RX12 "hour" "I") ∈ lw_tbl := List.mem_of_getElem? (i := 1180) (by decide +kernel)
theorem w_1181 : (Cond.fieldLink RX12 267 RX12 "ways" "I") ∈ lw_tbl := List.mem_of_getElem? (i := 1181) (by decide +kernel)
theorem w_1190 : (Cond.fieldLink RX12 279 RX12 "shots" "I") ∈ lw_tbl := List.mem_of_getElem? (i := 1190) (by decide +kernel)
theorem w_1206 : (Cond.fieldLink RX12 311 RX12 "stories" "I") ∈ lw_tbl := List.mem_of_getElem? (i := 1206) (by decide +kernel)
theorem w_1217 : (Cond.fieldLink RX12 336 RX12 "rules" "I") ∈ lw_tbl := List.mem_of_getElem? (i := 1217) (by decide +kernel)
theorem w_1222 : (Cond.fieldLink RX12 345 RX12 "at" "I") ∈ lw_tbl := List.mem_of_getElem? (i := 1222) (by decide +kernel)
theorem w_1225 : (Cond.fieldLink RX12 362 RX12 "truthMany" "I") ∈ lw_tbl := List.mem_of_getElem? (i := 1225) (by decide +kernel)
theorem w_1223 : (Cond.fieldLink RX12 365 RX12 "openMany" "I") ∈ lw_tbl := List.mem_of_getElem? (i := 1223) (by decide +kernel)
theorem w_1229 : (Cond.fieldLink RX12 397 RX12 "rights" "I") ∈ lw_tbl := List.mem_of_getElem? (i := 1229) (by decide +kernel)
theorem w_1242 : (Cond.fieldLink RX12 407 RX12 "musts" "I") ∈ lw_tbl := List.mem_of_getElem? (i := 1242) (by decide +kernel)
theorem w_1246 : (Cond.fieldLink RX12 414 RX12 "bestWorth" "I") ∈ lw_tbl := List.mem_of_getElem? (i := 1246) (by decide +kernel)
theorem w_1245 : (Cond.fieldLink RX12 417 RX12 "bestMany" "I") ∈ lw_tbl := List.mem_of_getElem? (i := 1245) (by decide +kernel)
theorem w_1249 : (Cond.fieldLink RX12 436 RX12 "events" "I") ∈ lw_tbl := List.mem_of_getElem? (i := 1249) (by decide +kernel)
theorem w_1258 : (Cond.fieldLink RX12 460 RX12 "halls" "I") ∈ lw_tbl := List.mem_of_getElem? (i := 1258) (by decide +kernel)
theorem w_1264 : (Cond.fieldLink RX12 465 RX12 "edges" "I") ∈ lw_tbl := List.mem_of_getElem? (i := 1264) (by decide +kernel)
theorem w_371 : (Cond.methodLink RX11 83 yX11_within) ∈ lw_tbl := List.mem_of_getElem? (i := 371) (by decide +kernel)
set_option maxRecDepth 20000 in
theorem w_373 : (Cond.code yX11_within cX11_within 3 (some .boolean)) ∈ lw_tbl := List.mem_of_getElem? (i := 373) rfl
theorem w_73 : (Cond.initialized RX11) ∈ lw_tbl := List.mem_of_getElem? (i := 73) (by decide +kernel)
theorem w_372 : (Cond.static yX11_within) ∈ lw_tbl := List.mem_of_getElem? (i := 372) (by decide +kernel)
theorem w_378 : (Cond.methodLink RX11 90 yX11_isPlace) ∈ lw_tbl := List.mem_of_getElem? (i := 378) (by decide +kernel)
set_option maxRecDepth 20000 in
theorem w_380 : (Cond.code yX11_isPlace cX11_isPlace 1 (some .boolean)) ∈ lw_tbl := List.mem_of_getElem? (i := 380) rfl
theorem w_379 : (Cond.static yX11_isPlace) ∈ lw_tbl := List.mem_of_getElem? (i := 379) (by decide +kernel)
theorem w_381 : (Cond.methodLink RX11 94 yX11_isHour) ∈ lw_tbl := List.mem_of_getElem? (i := 381) (by decide +kernel)
set_option maxRecDepth 20000 in
theorem w_383 : (Cond.code yX11_isHour cX11_isHour 1 (some .boolean)) ∈ lw_tbl := List.mem_of_getElem? (i := 383) rfl
theorem w_382 : (Cond.static yX11_isHour) ∈ lw_tbl := List.mem_of_getElem? (i := 382) (by decide +kernel)
theorem w_384 : (Cond.methodLink RX11 97 yX9_isFull) ∈ lw_tbl := List.mem_of_getElem? (i := 384) (by decide +kernel)
set_option maxRecDepth 20000 in
theorem w_387 : (Cond.code yX9_isFull cX9_isFull 1 (some .boolean)) ∈ lw_tbl := List.mem_of_getElem? (i := 387) rfl
theorem w_74 : (Cond.initialized RX9) ∈ lw_tbl := List.mem_of_getElem? (i := 74) (by decide +kernel)
theorem w_385 : (Cond.instanceMethod yX9_isFull) ∈ lw_tbl := List.mem_of_getElem? (i := 385) (by decide +kernel)
theorem w_386 : (Cond.selects RX9 yX9_isFull yX9_isFull) ∈ lw_tbl := List.mem_of_getElem? (i := 386) (by decide +kernel)
theorem w_390 : (Cond.methodLink RX11 103 yX10_init) ∈ lw_tbl := List.mem_of_getElem? (i := 390) (by decide +kernel)
set_option maxRecDepth 20000 in
theorem w_392 : (Cond.code yX10_init cX10_init 7 none) ∈ lw_tbl := List.mem_of_getElem? (i := 392) rfl
theorem w_81 : (Cond.initialized RX10) ∈ lw_tbl := List.mem_of_getElem? (i := 81) (by decide +kernel)
theorem w_391 : (Cond.instanceMethod yX10_init) ∈ lw_tbl := List.mem_of_getElem? (i := 391) (by decide +kernel)
theorem w_419 : (Cond.methodLink RX11 106 yX9_add) ∈ lw_tbl := List.mem_of_getElem? (i := 419) (by decide +kernel)
set_option maxRecDepth 20000 in
theorem w_422 : (Cond.code yX9_add cX9_add 2 (some .int)) ∈ lw_tbl := List.mem_of_getElem? (i := 422) rfl
theorem w_420 : (Cond.instanceMethod yX9_add) ∈ lw_tbl := List.mem_of_getElem? (i := 420) (by decide +kernel)
theorem w_421 : (Cond.selects RX9 yX9_add yX9_add) ∈ lw_tbl := List.mem_of_getElem? (i := 421) (by decide +kernel)
theorem w_428 : (Cond.methodLink RX11 110 yX9_numbered) ∈ lw_tbl := List.mem_of_getElem? (i := 428) (by decide +kernel)
set_option maxRecDepth 20000 in
theorem w_431 : (Cond.code yX9_numbered cX9_numbered 2 (some (.object RX10))) ∈ lw_tbl := List.mem_of_getElem? (i := 431) rfl
theorem w_429 : (Cond.instanceMethod yX9_numbered) ∈ lw_tbl := List.mem_of_getElem? (i := 429) (by decide +kernel)
theorem w_430 : (Cond.selects RX9 yX9_numbered yX9_numbered) ∈ lw_tbl := List.mem_of_getElem? (i := 430) (by decide +kernel)
theorem w_437 : (Cond.methodLink RX11 118 yX9_earliest) ∈ lw_tbl := List.mem_of_getElem? (i := 437) (by decide +kernel)
set_option maxRecDepth 20000 in
theorem w_440 : (Cond.code yX9_earliest cX9_earliest 5 (some .int)) ∈ lw_tbl := List.mem_of_getElem? (i := 440) rfl
theorem w_438 : (Cond.instanceMethod yX9_earliest) ∈ lw_tbl := List.mem_of_getElem? (i := 438) (by decide +kernel)
theorem w_439 : (Cond.selects RX9 yX9_earliest yX9_earliest) ∈ lw_tbl := List.mem_of_getElem? (i := 439) (by decide +kernel)
theorem w_462 : (Cond.methodLink RX11 122 yX11_isSubject) ∈ lw_tbl := List.mem_of_getElem? (i := 462) (by decide +kernel)
set_option maxRecDepth 20000 in
theorem w_464 : (Cond.code yX11_isSubject cX11_isSubject 1 (some .boolean)) ∈ lw_tbl := List.mem_of_getElem? (i := 464) rfl
theorem w_463 : (Cond.static yX11_isSubject) ∈ lw_tbl := List.mem_of_getElem? (i := 463) (by decide +kernel)
theorem w_465 : (Cond.methodLink RX11 125 yX11_isMarkSet) ∈ lw_tbl := List.mem_of_getElem? (i := 465) (by decide +kernel)
set_option maxRecDepth 20000 in
theorem w_467 : (Cond.code yX11_isMarkSet cX11_isMarkSet 1 (some .boolean)) ∈ lw_tbl := List.mem_of_getElem? (i := 467) rfl
theorem w_466 : (Cond.static yX11_isMarkSet) ∈ lw_tbl := List.mem_of_getElem? (i := 466) (by decide +kernel)
theorem w_468 : (Cond.methodLink RX11 128 yX11_isKind) ∈ lw_tbl := List.mem_of_getElem? (i := 468) (by decide +kernel)
set_option maxRecDepth 20000 in
theorem w_470 : (Cond.code yX11_isKind cX11_isKind 1 (some .boolean)) ∈ lw_tbl := List.mem_of_getElem? (i := 470) rfl
theorem w_469 : (Cond.static yX11_isKind) ∈ lw_tbl := List.mem_of_getElem? (i := 469) (by decide +kernel)
theorem w_472 : (Cond.methodLink RX11 134 yX7_init) ∈ lw_tbl := List.mem_of_getElem? (i := 472) (by decide +kernel)
set_option maxRecDepth 20000 in
theorem w_474 : (Cond.code yX7_init cX7_init 8 none) ∈ lw_tbl := List.mem_of_getElem? (i := 474) rfl
theorem w_83 : (Cond.initialized RX7) ∈ lw_tbl := List.mem_of_getElem? (i := 83) (by decide +kernel)
theorem w_473 : (Cond.instanceMethod yX7_init) ∈ lw_tbl := List.mem_of_getElem? (i := 473) (by decide +kernel)
theorem w_534 : (Cond.methodLink RX11 137 yX7_tell) ∈ lw_tbl := List.mem_of_getElem? (i := 534) (by decide +kernel)
set_option maxRecDepth 20000 in
theorem w_537 : (Cond.code yX7_tell cX7_tell 2 none) ∈ lw_tbl := List.mem_of_getElem? (i := 537) rfl
theorem w_535 : (Cond.instanceMethod yX7_tell) ∈ lw_tbl := List.mem_of_getElem? (i := 535) (by decide +kernel)
theorem w_536 : (Cond.selects RX7 yX7_tell yX7_tell) ∈ lw_tbl := List.mem_of_getElem? (i := 536) (by decide +kernel)
theorem w_542 : (Cond.methodLink RX11 144 yX11_shotNumbered) ∈ lw_tbl := List.mem_of_getElem? (i := 542) (by decide +kernel)
set_option maxRecDepth 20000 in
theorem w_545 : (Cond.code yX11_shotNumbered cX11_shotNumbered 2 (some (.object RX7))) ∈ lw_tbl := List.mem_of_getElem? (i := 545) rfl
theorem w_544 : (Cond.instanceMethod yX11_shotNumbered) ∈ lw_tbl := List.mem_of_getElem? (i := 544) (by decide +kernel)
theorem w_0 : (Cond.selects RX11 yX11_shotNumbered yX11_shotNumbered) ∈ lw_tbl := List.mem_of_getElem? (i := 0) (by decide +kernel)
theorem w_550 : (Cond.methodLink RX11 166 yX7_whereAt) ∈ lw_tbl := List.mem_of_getElem? (i := 550) (by decide +kernel)
set_option maxRecDepth 20000 in
theorem w_553 : (Cond.code yX7_whereAt cX7_whereAt 2 (some .int)) ∈ lw_tbl := List.mem_of_getElem? (i := 553) rfl
theorem w_551 : (Cond.instanceMethod yX7_whereAt) ∈ lw_tbl := List.mem_of_getElem? (i := 551) (by decide +kernel)
theorem w_552 : (Cond.selects RX7 yX7_whereAt yX7_whereAt) ∈ lw_tbl := List.mem_of_getElem? (i := 552) (by decide +kernel)
theorem w_578 : (Cond.methodLink RX11 185 yX11_isDayOfYear) ∈ lw_tbl := List.mem_of_getElem? (i := 578) (by decide +kernel)
set_option maxRecDepth 20000 in
theorem w_580 : (Cond.code yX11_isDayOfYear cX11_isDayOfYear 1 (some .boolean)) ∈ lw_tbl := List.mem_of_getElem? (i := 580) rfl
theorem w_579 : (Cond.static yX11_isDayOfYear) ∈ lw_tbl := List.mem_of_getElem? (i := 579) (by decide +kernel)
theorem w_581 : (Cond.methodLink RX11 188 yX1_learn) ∈ lw_tbl := List.mem_of_getElem? (i := 581) (by decide +kernel)
set_option maxRecDepth 20000 in
theorem w_584 : (Cond.code yX1_learn cX1_learn 5 none) ∈ lw_tbl := List.mem_of_getElem? (i := 584) rfl
theorem w_75 : (Cond.initialized RX1) ∈ lw_tbl := List.mem_of_getElem? (i := 75) (by decide +kernel)
theorem w_582 : (Cond.instanceMethod yX1_learn) ∈ lw_tbl := List.mem_of_getElem? (i := 582) (by decide +kernel)
theorem w_583 : (Cond.selects RX1 yX1_learn yX1_learn) ∈ lw_tbl := List.mem_of_getElem? (i := 583) (by decide +kernel)
theorem w_589 : (Cond.methodLink RX11 192 yX1_firstLie) ∈ lw_tbl := List.mem_of_getElem? (i := 589) (by decide +kernel)
set_option maxRecDepth 20000 in
theorem w_592 : (Cond.code yX1_firstLie cX1_firstLie 5 (some .int)) ∈ lw_tbl := List.mem_of_getElem? (i := 592) rfl
theorem w_590 : (Cond.instanceMethod yX1_firstLie) ∈ lw_tbl := List.mem_of_getElem? (i := 590) (by decide +kernel)
theorem w_591 : (Cond.selects RX1 yX1_firstLie yX1_firstLie) ∈ lw_tbl := List.mem_of_getElem? (i := 591) (by decide +kernel)
theorem w_608 : (Cond.methodLink RX11 196 yX11_isCard) ∈ lw_tbl := List.mem_of_getElem? (i := 608) (by decide +kernel)
set_option maxRecDepth 20000 in
theorem w_611 : (Cond.code yX11_isCard cX11_isCard 4 (some .boolean)) ∈ lw_tbl := List.mem_of_getElem? (i := 611) rfl
theorem w_610 : (Cond.instanceMethod yX11_isCard) ∈ lw_tbl := List.mem_of_getElem? (i := 610) (by decide +kernel)
theorem w_2 : (Cond.selects RX11 yX11_isCard yX11_isCard) ∈ lw_tbl := List.mem_of_getElem? (i := 2) (by decide +kernel)
theorem w_617 : (Cond.methodLink RX11 203 yX8_init) ∈ lw_tbl := List.mem_of_getElem? (i := 617) (by decide +kernel)
set_option maxRecDepth 20000 in
theorem w_619 : (Cond.code yX8_init cX8_init 5 none) ∈ lw_tbl := List.mem_of_getElem? (i := 619) rfl
theorem w_84 : (Cond.initialized RX8) ∈ lw_tbl := List.mem_of_getElem? (i := 84) (by decide +kernel)
theorem w_618 : (Cond.instanceMethod yX8_init) ∈ lw_tbl := List.mem_of_getElem? (i := 618) (by decide +kernel)
theorem w_659 : (Cond.methodLink RX11 205 yX11_storyNumbered) ∈ lw_tbl := List.mem_of_getElem? (i := 659) (by decide +kernel)
set_option maxRecDepth 20000 in
theorem w_662 : (Cond.code yX11_storyNumbered cX11_storyNumbered 2 (some (.object RX8))) ∈ lw_tbl := List.mem_of_getElem? (i := 662) rfl
theorem w_661 : (Cond.instanceMethod yX11_storyNumbered) ∈ lw_tbl := List.mem_of_getElem? (i := 661) (by decide +kernel)
theorem w_3 : (Cond.selects RX11 yX11_storyNumbered yX11_storyNumbered) ∈ lw_tbl := List.mem_of_getElem? (i := 3) (by decide +kernel)
theorem w_663 : (Cond.methodLink RX11 209 yX8_has) ∈ lw_tbl := List.mem_of_getElem? (i := 663) (by decide +kernel)
set_option maxRecDepth 20000 in
theorem w_666 : (Cond.code yX8_has cX8_has 3 (some .boolean)) ∈ lw_tbl := List.mem_of_getElem? (i := 666) rfl
theorem w_664 : (Cond.instanceMethod yX8_has) ∈ lw_tbl := List.mem_of_getElem? (i := 664) (by decide +kernel)
theorem w_665 : (Cond.selects RX8 yX8_has yX8_has) ∈ lw_tbl := List.mem_of_getElem? (i := 665) (by decide +kernel)
theorem w_667 : (Cond.methodLink RX11 213 yX8_append) ∈ lw_tbl := List.mem_of_getElem? (i := 667) (by decide +kernel)
set_option maxRecDepth 20000 in
theorem w_670 : (Cond.code yX8_append cX8_append 2 (some .int)) ∈ lw_tbl := List.mem_of_getElem? (i := 670) rfl
theorem w_668 : (Cond.instanceMethod yX8_append) ∈ lw_tbl := List.mem_of_getElem? (i := 668) (by decide +kernel)
theorem w_669 : (Cond.selects RX8 yX8_append yX8_append) ∈ lw_tbl := List.mem_of_getElem? (i := 669) (by decide +kernel)
theorem w_675 : (Cond.methodLink RX11 217 yX8_remove) ∈ lw_tbl := List.mem_of_getElem? (i := 675) (by decide +kernel)
set_option maxRecDepth 20000 in
theorem w_678 : (Cond.code yX8_remove cX8_remove 4 (some .int)) ∈ lw_tbl := List.mem_of_getElem? (i := 678) rfl
theorem w_676 : (Cond.instanceMethod yX8_remove) ∈ lw_tbl := List.mem_of_getElem? (i := 676) (by decide +kernel)
theorem w_677 : (Cond.selects RX8 yX8_remove yX8_remove) ∈ lw_tbl := List.mem_of_getElem? (i := 677) (by decide +kernel)
theorem w_684 : (Cond.methodLink RX11 223 yX11_asNumber) ∈ lw_tbl := List.mem_of_getElem? (i := 684) (by decide +kernel)
set_option maxRecDepth 20000 in
theorem w_686 : (Cond.code yX11_asNumber cX11_asNumber 1 (some .int)) ∈ lw_tbl := List.mem_of_getElem? (i := 686) rfl
theorem w_685 : (Cond.static yX11_asNumber) ∈ lw_tbl := List.mem_of_getElem? (i := 685) (by decide +kernel)
theorem w_695 : (Cond.methodLink RX11 233 yX8_allFeet) ∈ lw_tbl := List.mem_of_getElem? (i := 695) (by decide +kernel)
set_option maxRecDepth 20000 in
theorem w_698 : (Cond.code yX8_allFeet cX8_allFeet 3 (some .int)) ∈ lw_tbl := List.mem_of_getElem? (i := 698) rfl
theorem w_696 : (Cond.instanceMethod yX8_allFeet) ∈ lw_tbl := List.mem_of_getElem? (i := 696) (by decide +kernel)
theorem w_697 : (Cond.selects RX8 yX8_allFeet yX8_allFeet) ∈ lw_tbl := List.mem_of_getElem? (i := 697) (by decide +kernel)
theorem w_699 : (Cond.methodLink RX11 237 yX8_disorder) ∈ lw_tbl := List.mem_of_getElem? (i := 699) (by decide +kernel)
set_option maxRecDepth 20000 in
theorem w_702 : (Cond.code yX8_disorder cX8_disorder 4 (some .int)) ∈ lw_tbl := List.mem_of_getElem? (i := 702) rfl
theorem w_700 : (Cond.instanceMethod yX8_disorder) ∈ lw_tbl := List.mem_of_getElem? (i := 700) (by decide +kernel)
theorem w_701 : (Cond.selects RX8 yX8_disorder yX8_disorder) ∈ lw_tbl := List.mem_of_getElem? (i := 701) (by decide +kernel)
theorem w_704 : (Cond.methodLink RX11 240 yX8_oldOnes) ∈ lw_tbl := List.mem_of_getElem? (i := 704) (by decide +kernel)
set_option maxRecDepth 20000 in
theorem w_707 : (Cond.code yX8_oldOnes cX8_oldOnes 4 (some .int)) ∈ lw_tbl := List.mem_of_getElem? (i := 707) rfl
theorem w_705 : (Cond.instanceMethod yX8_oldOnes) ∈ lw_tbl := List.mem_of_getElem? (i := 705) (by decide +kernel)
theorem w_706 : (Cond.selects RX8 yX8_oldOnes yX8_oldOnes) ∈ lw_tbl := List.mem_of_getElem? (i := 706) (by decide +kernel)
theorem w_708 : (Cond.methodLink RX11 243 yX8_falseOnes) ∈ lw_tbl := List.mem_of_getElem? (i := 708) (by decide +kernel)
set_option maxRecDepth 20000 in
theorem w_711 : (Cond.code yX8_falseOnes cX8_falseOnes 4 (some .int)) ∈ lw_tbl := List.mem_of_getElem? (i := 711) rfl
theorem w_709 : (Cond.instanceMethod yX8_falseOnes) ∈ lw_tbl := List.mem_of_getElem? (i := 709) (by decide +kernel)
theorem w_710 : (Cond.selects RX8 yX8_falseOnes yX8_falseOnes) ∈ lw_tbl := List.mem_of_getElem? (i := 710) (by decide +kernel)
theorem w_713 : (Cond.methodLink RX11 247 yX8_lentOnes) ∈ lw_tbl := List.mem_of_getElem? (i := 713) (by decide +kernel)
set_option maxRecDepth 20000 in
theorem w_716 : (Cond.code yX8_lentOnes cX8_lentOnes 3 (some .int)) ∈ lw_tbl := List.mem_of_getElem? (i := 716) rfl
theorem w_714 : (Cond.instanceMethod yX8_lentOnes) ∈ lw_tbl := List.mem_of_getElem? (i := 714) (by decide +kernel)
theorem w_715 : (Cond.selects RX8 yX8_lentOnes yX8_lentOnes) ∈ lw_tbl := List.mem_of_getElem? (i := 715) (by decide +kernel)
theorem w_717 : (Cond.methodLink RX11 250 yX8_isReady) ∈ lw_tbl := List.mem_of_getElem? (i := 717) (by decide +kernel)
set_option maxRecDepth 20000 in
theorem w_720 : (Cond.code yX8_isReady cX8_isReady 3 (some .boolean)) ∈ lw_tbl := List.mem_of_getElem? (i := 720) rfl
theorem w_718 : (Cond.instanceMethod yX8_isReady) ∈ lw_tbl := List.mem_of_getElem? (i := 718) (by decide +kernel)
theorem w_719 : (Cond.selects RX8 yX8_isReady yX8_isReady) ∈ lw_tbl := List.mem_of_getElem? (i := 719) (by decide +kernel)
theorem w_730 : (Cond.methodLink RX11 253 yX8_price) ∈ lw_tbl := List.mem_of_getElem? (i := 730) (by decide +kernel)
set_option maxRecDepth 20000 in
theorem w_733 : (Cond.code yX8_price cX8_price 4 (some .int)) ∈ lw_tbl := List.mem_of_getElem? (i := 733) rfl
theorem w_731 : (Cond.instanceMethod yX8_price) ∈ lw_tbl := List.mem_of_getElem? (i := 731) (by decide +kernel)
theorem w_732 : (Cond.selects RX8 yX8_price yX8_price) ∈ lw_tbl := List.mem_of_getElem? (i := 732) (by decide +kernel)
theorem w_742 : (Cond.methodLink RX11 257 yX11_isDay) ∈ lw_tbl := List.mem_of_getElem? (i := 742) (by decide +kernel)
set_option maxRecDepth 20000 in
theorem w_744 : (Cond.code yX11_isDay cX11_isDay 1 (some .boolean)) ∈ lw_tbl := List.mem_of_getElem? (i := 744) rfl
theorem w_743 : (Cond.static yX11_isDay) ∈ lw_tbl := List.mem_of_getElem? (i := 743) (by decide +kernel)
theorem w_746 : (Cond.methodLink RX11 263 yX6_init) ∈ lw_tbl := List.mem_of_getElem? (i := 746) (by decide +kernel)
set_option maxRecDepth 20000 in
theorem w_748 : (Cond.code yX6_init cX6_init 2 none) ∈ lw_tbl := List.mem_of_getElem? (i := 748) rfl
theorem w_85 : (Cond.initialized RX6) ∈ lw_tbl := List.mem_of_getElem? (i := 85) (by decide +kernel)
theorem w_747 : (Cond.instanceMethod yX6_init) ∈ lw_tbl := List.mem_of_getElem? (i := 747) (by decide +kernel)
theorem w_771 : (Cond.methodLink RX11 265 yX11_ruleNumbered) ∈ lw_tbl := List.mem_of_getElem? (i := 771) (by decide +kernel)
set_option maxRecDepth 20000 in
theorem w_774 : (Cond.code yX11_ruleNumbered cX11_ruleNumbered 2 (some (.object RX6))) ∈ lw_tbl := List.mem_of_getElem? (i := 774) rfl
theorem w_773 : (Cond.instanceMethod yX11_ruleNumbered) ∈ lw_tbl := List.mem_of_getElem? (i := 773) (by decide +kernel)
theorem w_4 : (Cond.selects RX11 yX11_ruleNumbered yX11_ruleNumbered) ∈ lw_tbl := List.mem_of_getElem? (i := 4) (by decide +kernel)
theorem w_775 : (Cond.methodLink RX11 269 yX6_append) ∈ lw_tbl := List.mem_of_getElem? (i := 775) (by decide +kernel)
set_option maxRecDepth 20000 in
theorem w_778 : (Cond.code yX6_append cX6_append 5 (some .int)) ∈ lw_tbl := List.mem_of_getElem? (i := 778) rfl
theorem w_776 : (Cond.instanceMethod yX6_append) ∈ lw_tbl := List.mem_of_getElem? (i := 776) (by decide +kernel)
theorem w_777 : (Cond.selects RX6 yX6_append yX6_append) ∈ lw_tbl := List.mem_of_getElem? (i := 777) (by decide +kernel)
theorem w_787 : (Cond.methodLink RX11 272 yX3_read) ∈ lw_tbl := List.mem_of_getElem? (i := 787) (by decide +kernel)
set_option maxRecDepth 20000 in
theorem w_790 : (Cond.code yX3_read cX3_read 3 (some .int)) ∈ lw_tbl := List.mem_of_getElem? (i := 790) rfl
theorem w_76 : (Cond.initialized RX3) ∈ lw_tbl := List.mem_of_getElem? (i := 76) (by decide +kernel)
theorem w_788 : (Cond.instanceMethod yX3_read) ∈ lw_tbl := List.mem_of_getElem? (i := 788) (by decide +kernel)
theorem w_789 : (Cond.selects RX3 yX3_read yX3_read) ∈ lw_tbl := List.mem_of_getElem? (i := 789) (by decide +kernel)
theorem w_843 : (Cond.methodLink RX11 280 yX11_isLand) ∈ lw_tbl := List.mem_of_getElem? (i := 843) (by decide +kernel)
set_option maxRecDepth 20000 in
theorem w_845 : (Cond.code yX11_isLand cX11_isLand 1 (some .boolean)) ∈ lw_tbl := List.mem_of_getElem? (i := 845) rfl
theorem w_844 : (Cond.static yX11_isLand) ∈ lw_tbl := List.mem_of_getElem? (i := 844) (by decide +kernel)
theorem w_846 : (Cond.methodLink RX11 283 yX11_firstBar) ∈ lw_tbl := List.mem_of_getElem? (i := 846) (by decide +kernel)
set_option maxRecDepth 20000 in
theorem w_849 : (Cond.code yX11_firstBar cX11_firstBar 5 (some .int)) ∈ lw_tbl := List.mem_of_getElem? (i := 849) rfl
theorem w_848 : (Cond.instanceMethod yX11_firstBar) ∈ lw_tbl := List.mem_of_getElem? (i := 848) (by decide +kernel)
theorem w_14 : (Cond.selects RX11 yX11_firstBar yX11_firstBar) ∈ lw_tbl := List.mem_of_getElem? (i := 14) (by decide +kernel)
theorem w_868 : (Cond.methodLink RX11 290 yX11_hasMember) ∈ lw_tbl := List.mem_of_getElem? (i := 868) (by decide +kernel)
set_option maxRecDepth 20000 in
theorem w_595 : (Cond.code yX11_hasMember cX11_hasMember 2 (some .boolean)) ∈ lw_tbl := List.mem_of_getElem? (i := 595) rfl
theorem w_594 : (Cond.static yX11_hasMember) ∈ lw_tbl := List.mem_of_getElem? (i := 594) (by decide +kernel)
theorem w_869 : (Cond.methodLink RX11 294 yX11_withMember) ∈ lw_tbl := List.mem_of_getElem? (i := 869) (by decide +kernel)
set_option maxRecDepth 20000 in
theorem w_871 : (Cond.code yX11_withMember cX11_withMember 3 (some .int)) ∈ lw_tbl := List.mem_of_getElem? (i := 871) rfl
theorem w_870 : (Cond.static yX11_withMember) ∈ lw_tbl := List.mem_of_getElem? (i := 870) (by decide +kernel)
theorem w_877 : (Cond.methodLink RX11 301 yX5_init) ∈ lw_tbl := List.mem_of_getElem? (i := 877) (by decide +kernel)
set_option maxRecDepth 20000 in
theorem w_879 : (Cond.code yX5_init cX5_init 6 none) ∈ lw_tbl := List.mem_of_getElem? (i := 879) rfl
theorem w_86 : (Cond.initialized RX5) ∈ lw_tbl := List.mem_of_getElem? (i := 86) (by decide +kernel)
theorem w_878 : (Cond.instanceMethod yX5_init) ∈ lw_tbl := List.mem_of_getElem? (i := 878) (by decide +kernel)
theorem w_906 : (Cond.methodLink RX11 308 yX11_isLicensed) ∈ lw_tbl := List.mem_of_getElem? (i := 906) (by decide +kernel)
set_option maxRecDepth 20000 in
theorem w_909 : (Cond.code yX11_isLicensed cX11_isLicensed 4 (some .boolean)) ∈ lw_tbl := List.mem_of_getElem? (i := 909) rfl
theorem w_908 : (Cond.instanceMethod yX11_isLicensed) ∈ lw_tbl := List.mem_of_getElem? (i := 908) (by decide +kernel)
theorem w_15 : (Cond.selects RX11 yX11_isLicensed yX11_isLicensed) ∈ lw_tbl := List.mem_of_getElem? (i := 15) (by decide +kernel)
theorem w_924 : (Cond.methodLink RX11 311 yX4_changeLength) ∈ lw_tbl := List.mem_of_getElem? (i := 924) (by decide +kernel)
set_option maxRecDepth 20000 in
theorem w_927 : (Cond.code yX4_changeLength cX4_changeLength 4 (some .int)) ∈ lw_tbl := List.mem_of_getElem? (i := 927) rfl
theorem w_77 : (Cond.initialized RX4) ∈ lw_tbl := List.mem_of_getElem? (i := 77) (by decide +kernel)
theorem w_925 : (Cond.instanceMethod yX4_changeLength) ∈ lw_tbl := List.mem_of_getElem? (i := 925) (by decide +kernel)
theorem w_926 : (Cond.selects RX4 yX4_changeLength yX4_changeLength) ∈ lw_tbl := List.mem_of_getElem? (i := 926) (by decide +kernel)
theorem w_932 : (Cond.methodLink RX11 315 yX4_keepApart) ∈ lw_tbl := List.mem_of_getElem? (i := 932) (by decide +kernel)
set_option maxRecDepth 20000 in
theorem w_935 : (Cond.code yX4_keepApart cX4_keepApart 5 (some .int)) ∈ lw_tbl := List.mem_of_getElem? (i := 935) rfl
theorem w_933 : (Cond.instanceMethod yX4_keepApart) ∈ lw_tbl := List.mem_of_getElem? (i := 933) (by decide +kernel)
theorem w_934 : (Cond.selects RX4 yX4_keepApart yX4_keepApart) ∈ lw_tbl := List.mem_of_getElem? (i := 934) (by decide +kernel)
theorem w_947 : (Cond.methodLink RX11 321 yX11_refuseLandDay) ∈ lw_tbl := List.mem_of_getElem? (i := 947) (by decide +kernel)
set_option maxRecDepth 20000 in
theorem w_949 : (Cond.code yX11_refuseLandDay cX11_refuseLandDay 2 (some .int)) ∈ lw_tbl := List.mem_of_getElem? (i := 949) rfl
theorem w_948 : (Cond.static yX11_refuseLandDay) ∈ lw_tbl := List.mem_of_getElem? (i := 948) (by decide +kernel)
theorem w_950 : (Cond.methodLink RX11 325 yX11_listStories) ∈ lw_tbl := List.mem_of_getElem? (i := 950) (by decide +kernel)
set_option maxRecDepth 20000 in
theorem w_953 : (Cond.code yX11_listStories cX11_listStories 6 none) ∈ lw_tbl := List.mem_of_getElem? (i := 953) rfl
theorem w_952 : (Cond.instanceMethod yX11_listStories) ∈ lw_tbl := List.mem_of_getElem? (i := 952) (by decide +kernel)
theorem w_17 : (Cond.selects RX11 yX11_listStories yX11_listStories) ∈ lw_tbl := List.mem_of_getElem? (i := 17) (by decide +kernel)
theorem w_963 : (Cond.methodLink RX11 329 yX4_search) ∈ lw_tbl := List.mem_of_getElem? (i := 963) (by decide +kernel)
set_option maxRecDepth 20000 in
theorem w_966 : (Cond.code yX4_search cX4_search 4 none) ∈ lw_tbl := List.mem_of_getElem? (i := 966) rfl
theorem w_964 : (Cond.instanceMethod yX4_search) ∈ lw_tbl := List.mem_of_getElem? (i := 964) (by decide +kernel)
theorem w_965 : (Cond.selects RX4 yX4_search yX4_search) ∈ lw_tbl := List.mem_of_getElem? (i := 965) (by decide +kernel)
theorem w_1003 : (Cond.methodLink RX11 335 yX4_bestStory) ∈ lw_tbl := List.mem_of_getElem? (i := 1003) (by decide +kernel)
set_option maxRecDepth 20000 in
theorem w_1006 : (Cond.code yX4_bestStory cX4_bestStory 4 (some .int)) ∈ lw_tbl := List.mem_of_getElem? (i := 1006) rfl
theorem w_1004 : (Cond.instanceMethod yX4_bestStory) ∈ lw_tbl := List.mem_of_getElem? (i := 1004) (by decide +kernel)
theorem w_1005 : (Cond.selects RX4 yX4_bestStory yX4_bestStory) ∈ lw_tbl := List.mem_of_getElem? (i := 1005) (by decide +kernel)
theorem w_1011 : (Cond.methodLink RX11 338 yX4_lack) ∈ lw_tbl := List.mem_of_getElem? (i := 1011) (by decide +kernel)
set_option maxRecDepth 20000 in
theorem w_1014 : (Cond.code yX4_lack cX4_lack 8 (some .int)) ∈ lw_tbl := List.mem_of_getElem? (i := 1014) rfl
theorem w_1012 : (Cond.instanceMethod yX4_lack) ∈ lw_tbl := List.mem_of_getElem? (i := 1012) (by decide +kernel)
theorem w_1013 : (Cond.selects RX4 yX4_lack yX4_lack) ∈ lw_tbl := List.mem_of_getElem? (i := 1013) (by decide +kernel)
theorem w_1020 : (Cond.methodLink RX11 341 yX11_takeShowing) ∈ lw_tbl := List.mem_of_getElem? (i := 1020) (by decide +kernel)
set_option maxRecDepth 20000 in
theorem w_1023 : (Cond.code yX11_takeShowing cX11_takeShowing 5 (some .int)) ∈ lw_tbl := List.mem_of_getElem? (i := 1023) rfl
theorem w_1022 : (Cond.instanceMethod yX11_takeShowing) ∈ lw_tbl := List.mem_of_getElem? (i := 1022) (by decide +kernel)
theorem w_23 : (Cond.selects RX11 yX11_takeShowing yX11_takeShowing) ∈ lw_tbl := List.mem_of_getElem? (i := 23) (by decide +kernel)
theorem w_1028 : (Cond.methodLink RX11 344 yX0_station) ∈ lw_tbl := List.mem_of_getElem? (i := 1028) (by decide +kernel)
set_option maxRecDepth 20000 in
theorem w_1031 : (Cond.code yX0_station cX0_station 4 none) ∈ lw_tbl := List.mem_of_getElem? (i := 1031) rfl
theorem w_78 : (Cond.initialized RX0) ∈ lw_tbl := List.mem_of_getElem? (i := 78) (by decide +kernel)
theorem w_1029 : (Cond.instanceMethod yX0_station) ∈ lw_tbl := List.mem_of_getElem? (i := 1029) (by decide +kernel)
theorem w_1030 : (Cond.selects RX0 yX0_station yX0_station) ∈ lw_tbl := List.mem_of_getElem? (i := 1030) (by decide +kernel)
theorem w_1036 : (Cond.methodLink RX11 348 yX0_announce) ∈ lw_tbl := List.mem_of_getElem? (i := 1036) (by decide +kernel)
set_option maxRecDepth 20000 in
theorem w_1039 : (Cond.code yX0_announce cX0_announce 4 (some .int)) ∈ lw_tbl := List.mem_of_getElem? (i := 1039) rfl
theorem w_1037 : (Cond.instanceMethod yX0_announce) ∈ lw_tbl := List.mem_of_getElem? (i := 1037) (by decide +kernel)
theorem w_1038 : (Cond.selects RX0 yX0_announce yX0_announce) ∈ lw_tbl := List.mem_of_getElem? (i := 1038) (by decide +kernel)
theorem w_1048 : (Cond.methodLink RX11 351 yX0_plan) ∈ lw_tbl := List.mem_of_getElem? (i := 1048) (by decide +kernel)
set_option maxRecDepth 20000 in
theorem w_1051 : (Cond.code yX0_plan cX0_plan 4 none) ∈ lw_tbl := List.mem_of_getElem? (i := 1051) rfl
theorem w_1049 : (Cond.instanceMethod yX0_plan) ∈ lw_tbl := List.mem_of_getElem? (i := 1049) (by decide +kernel)
theorem w_1050 : (Cond.selects RX0 yX0_plan yX0_plan) ∈ lw_tbl := List.mem_of_getElem? (i := 1050) (by decide +kernel)
theorem w_1094 : (Cond.methodLink RX11 365 yX11_isWeek) ∈ lw_tbl := List.mem_of_getElem? (i := 1094) (by decide +kernel)
set_option maxRecDepth 20000 in
theorem w_1096 : (Cond.code yX11_isWeek cX11_isWeek 1 (some .boolean)) ∈ lw_tbl := List.mem_of_getElem? (i := 1096) rfl
theorem w_1095 : (Cond.static yX11_isWeek) ∈ lw_tbl := List.mem_of_getElem? (i := 1095) (by decide +kernel)
theorem w_1097 : (Cond.methodLink RX11 368 yX2_add) ∈ lw_tbl := List.mem_of_getElem? (i := 1097) (by decide +kernel)
set_option maxRecDepth 20000 in
theorem w_1100 : (Cond.code yX2_add cX2_add 4 (some .int)) ∈ lw_tbl := List.mem_of_getElem? (i := 1100) rfl
theorem w_79 : (Cond.initialized RX2) ∈ lw_tbl := List.mem_of_getElem? (i := 79) (by decide +kernel)
theorem w_1098 : (Cond.instanceMethod yX2_add) ∈ lw_tbl := List.mem_of_getElem? (i := 1098) (by decide +kernel)
theorem w_1099 : (Cond.selects RX2 yX2_add yX2_add) ∈ lw_tbl := List.mem_of_getElem? (i := 1099) (by decide +kernel)
theorem w_1105 : (Cond.methodLink RX11 370 yX2_changePart) ∈ lw_tbl := List.mem_of_getElem? (i := 1105) (by decide +kernel)
set_option maxRecDepth 20000 in
theorem w_1108 : (Cond.code yX2_changePart cX2_changePart 4 (some .int)) ∈ lw_tbl := List.mem_of_getElem? (i := 1108) rfl
theorem w_1106 : (Cond.instanceMethod yX2_changePart) ∈ lw_tbl := List.mem_of_getElem? (i := 1106) (by decide +kernel)
theorem w_1107 : (Cond.selects RX2 yX2_changePart yX2_changePart) ∈ lw_tbl := List.mem_of_getElem? (i := 1107) (by decide +kernel)
theorem w_1113 : (Cond.methodLink RX11 373 yX2_changePrints) ∈ lw_tbl := List.mem_of_getElem? (i := 1113) (by decide +kernel)
set_option maxRecDepth 20000 in
theorem w_1116 : (Cond.code yX2_changePrints cX2_changePrints 3 (some .int)) ∈ lw_tbl := List.mem_of_getElem? (i := 1116) rfl
theorem w_1114 : (Cond.instanceMethod yX2_changePrints) ∈ lw_tbl := List.mem_of_getElem? (i := 1114) (by decide +kernel)
theorem w_1115 : (Cond.selects RX2 yX2_changePrints yX2_changePrints) ∈ lw_tbl := List.mem_of_getElem? (i := 1115) (by decide +kernel)
theorem w_1121 : (Cond.methodLink RX11 376 yX2_earnings) ∈ lw_tbl := List.mem_of_getElem? (i := 1121) (by decide +kernel)
set_option maxRecDepth 20000 in
theorem w_1124 : (Cond.code yX2_earnings cX2_earnings 1 (some .int)) ∈ lw_tbl := List.mem_of_getElem? (i := 1124) rfl
theorem w_1122 : (Cond.instanceMethod yX2_earnings) ∈ lw_tbl := List.mem_of_getElem? (i := 1122) (by decide +kernel)
theorem w_1123 : (Cond.selects RX2 yX2_earnings yX2_earnings) ∈ lw_tbl := List.mem_of_getElem? (i := 1123) (by decide +kernel)
theorem w_1161 : (Cond.methodLink RX11 382 yX2_bestWeek) ∈ lw_tbl := List.mem_of_getElem? (i := 1161) (by decide +kernel)
set_option maxRecDepth 20000 in
theorem w_1164 : (Cond.code yX2_bestWeek cX2_bestWeek 5 (some .int)) ∈ lw_tbl := List.mem_of_getElem? (i := 1164) rfl
theorem w_1162 : (Cond.instanceMethod yX2_bestWeek) ∈ lw_tbl := List.mem_of_getElem? (i := 1162) (by decide +kernel)
theorem w_1163 : (Cond.selects RX2 yX2_bestWeek yX2_bestWeek) ∈ lw_tbl := List.mem_of_getElem? (i := 1163) (by decide +kernel)
theorem w_1170 : (Cond.methodLink RX11 385 yX11_shotsIn) ∈ lw_tbl := List.mem_of_getElem? (i := 1170) (by decide +kernel)
set_option maxRecDepth 20000 in
theorem w_1173 : (Cond.code yX11_shotsIn cX11_shotsIn 3 (some .int)) ∈ lw_tbl := List.mem_of_getElem? (i := 1173) rfl
theorem w_1172 : (Cond.instanceMethod yX11_shotsIn) ∈ lw_tbl := List.mem_of_getElem? (i := 1172) (by decide +kernel)
theorem w_34 : (Cond.selects RX11 yX11_shotsIn yX11_shotsIn) ∈ lw_tbl := List.mem_of_getElem? (i := 34) (by decide +kernel)
theorem w_850 : (Cond.methodLink RX11 388 yX3_look) ∈ lw_tbl := List.mem_of_getElem? (i := 850) (by decide +kernel)
set_option maxRecDepth 20000 in
theorem w_853 : (Cond.code yX3_look cX3_look 5 none) ∈ lw_tbl := List.mem_of_getElem? (i := 853) rfl
theorem w_851 : (Cond.instanceMethod yX3_look) ∈ lw_tbl := List.mem_of_getElem? (i := 851) (by decide +kernel)
theorem w_852 : (Cond.selects RX3 yX3_look yX3_look) ∈ lw_tbl := List.mem_of_getElem? (i := 852) (by decide +kernel)
theorem w_856 : (Cond.methodLink RX11 392 yX6_isInForce) ∈ lw_tbl := List.mem_of_getElem? (i := 856) (by decide +kernel)
set_option maxRecDepth 20000 in
theorem w_859 : (Cond.code yX6_isInForce cX6_isInForce 2 (some .boolean)) ∈ lw_tbl := List.mem_of_getElem? (i := 859) rfl
theorem w_857 : (Cond.instanceMethod yX6_isInForce) ∈ lw_tbl := List.mem_of_getElem? (i := 857) (by decide +kernel)
theorem w_858 : (Cond.selects RX6 yX6_isInForce yX6_isInForce) ∈ lw_tbl := List.mem_of_getElem? (i := 858) (by decide +kernel)
theorem w_860 : (Cond.methodLink RX11 395 yX3_held) ∈ lw_tbl := List.mem_of_getElem? (i := 860) (by decide +kernel)
set_option maxRecDepth 20000 in
theorem w_863 : (Cond.code yX3_held cX3_held 1 (some .boolean)) ∈ lw_tbl := List.mem_of_getElem? (i := 863) rfl
theorem w_861 : (Cond.instanceMethod yX3_held) ∈ lw_tbl := List.mem_of_getElem? (i := 861) (by decide +kernel)
theorem w_862 : (Cond.selects RX3 yX3_held yX3_held) ∈ lw_tbl := List.mem_of_getElem? (i := 862) (by decide +kernel)
theorem w_914 : (Cond.methodLink RX11 398 yX5_serves) ∈ lw_tbl := List.mem_of_getElem? (i := 914) (by decide +kernel)
set_option maxRecDepth 20000 in
theorem w_917 : (Cond.code yX5_serves cX5_serves 4 (some .boolean)) ∈ lw_tbl := List.mem_of_getElem? (i := 917) rfl
theorem w_915 : (Cond.instanceMethod yX5_serves) ∈ lw_tbl := List.mem_of_getElem? (i := 915) (by decide +kernel)
theorem w_916 : (Cond.selects RX5 yX5_serves yX5_serves) ∈ lw_tbl := List.mem_of_getElem? (i := 916) (by decide +kernel)
theorem w_910 : (Cond.methodLink RX11 401 yX11_firstRight) ∈ lw_tbl := List.mem_of_getElem? (i := 910) (by decide +kernel)
set_option maxRecDepth 20000 in
theorem w_913 : (Cond.code yX11_firstRight cX11_firstRight 5 (some (.object RX5))) ∈ lw_tbl := List.mem_of_getElem? (i := 913) rfl
theorem w_912 : (Cond.instanceMethod yX11_firstRight) ∈ lw_tbl := List.mem_of_getElem? (i := 912) (by decide +kernel)
theorem w_16 : (Cond.selects RX11 yX11_firstRight yX11_firstRight) ∈ lw_tbl := List.mem_of_getElem? (i := 16) (by decide +kernel)
theorem w_954 : (Cond.methodLink RX11 405 yX4_clearList) ∈ lw_tbl := List.mem_of_getElem? (i := 954) (by decide +kernel)
set_option maxRecDepth 20000 in
theorem w_957 : (Cond.code yX4_clearList cX4_clearList 1 none) ∈ lw_tbl := List.mem_of_getElem? (i := 957) rfl
theorem w_955 : (Cond.instanceMethod yX4_clearList) ∈ lw_tbl := List.mem_of_getElem? (i := 955) (by decide +kernel)
theorem w_956 : (Cond.selects RX4 yX4_clearList yX4_clearList) ∈ lw_tbl := List.mem_of_getElem? (i := 956) (by decide +kernel)
theorem w_958 : (Cond.methodLink RX11 408 yX4_list) ∈ lw_tbl := List.mem_of_getElem? (i := 958) (by decide +kernel)
set_option maxRecDepth 20000 in
theorem w_961 : (Cond.code yX4_list cX4_list 4 none) ∈ lw_tbl := List.mem_of_getElem? (i := 961) rfl
theorem w_959 : (Cond.instanceMethod yX4_list) ∈ lw_tbl := List.mem_of_getElem? (i := 959) (by decide +kernel)
theorem w_960 : (Cond.selects RX4 yX4_list yX4_list) ∈ lw_tbl := List.mem_of_getElem? (i := 960) (by decide +kernel)
theorem w_1040 : (Cond.methodLink RX0 44 yX0_insertByHour) ∈ lw_tbl := List.mem_of_getElem? (i := 1040) (by decide +kernel)
set_option maxRecDepth 20000 in
theorem w_1043 : (Cond.code yX0_insertByHour cX0_insertByHour 4 none) ∈ lw_tbl := List.mem_of_getElem? (i := 1043) rfl
theorem w_1042 : (Cond.instanceMethod yX0_insertByHour) ∈ lw_tbl := List.mem_of_getElem? (i := 1042) (by decide +kernel)
theorem w_24 : (Cond.selects RX0 yX0_insertByHour yX0_insertByHour) ∈ lw_tbl := List.mem_of_getElem? (i := 24) (by decide +kernel)
theorem w_1052 : (Cond.methodLink RX0 48 yX0_reachable) ∈ lw_tbl := List.mem_of_getElem? (i := 1052) (by decide +kernel)
set_option maxRecDepth 20000 in
theorem w_1055 : (Cond.code yX0_reachable cX0_reachable 7 (some .int)) ∈ lw_tbl := List.mem_of_getElem? (i := 1055) rfl
theorem w_1054 : (Cond.instanceMethod yX0_reachable) ∈ lw_tbl := List.mem_of_getElem? (i := 1054) (by decide +kernel)
theorem w_25 : (Cond.selects RX0 yX0_reachable yX0_reachable) ∈ lw_tbl := List.mem_of_getElem? (i := 25) (by decide +kernel)
theorem w_1062 : (Cond.methodLink RX0 52 yX0_addMan) ∈ lw_tbl := List.mem_of_getElem? (i := 1062) (by decide +kernel)
set_option maxRecDepth 20000 in
theorem w_1065 : (Cond.code yX0_addMan cX0_addMan 4 none) ∈ lw_tbl := List.mem_of_getElem? (i := 1065) rfl
theorem w_1064 : (Cond.instanceMethod yX0_addMan) ∈ lw_tbl := List.mem_of_getElem? (i := 1064) (by decide +kernel)
theorem w_26 : (Cond.selects RX0 yX0_addMan yX0_addMan) ∈ lw_tbl := List.mem_of_getElem? (i := 26) (by decide +kernel)
theorem w_1078 : (Cond.methodLink RX0 56 yX0_chooseBest) ∈ lw_tbl := List.mem_of_getElem? (i := 1078) (by decide +kernel)
set_option maxRecDepth 20000 in
theorem w_1081 : (Cond.code yX0_chooseBest cX0_chooseBest 2 none) ∈ lw_tbl := List.mem_of_getElem? (i := 1081) rfl
theorem w_1080 : (Cond.instanceMethod yX0_chooseBest) ∈ lw_tbl := List.mem_of_getElem? (i := 1080) (by decide +kernel)
theorem w_28 : (Cond.selects RX0 yX0_chooseBest yX0_chooseBest) ∈ lw_tbl := List.mem_of_getElem? (i := 28) (by decide +kernel)
theorem w_1056 : (Cond.methodLink RX0 59 yX9_travel) ∈ lw_tbl := List.mem_of_getElem? (i := 1056) (by decide +kernel)
set_option maxRecDepth 20000 in
theorem w_444 : (Cond.code yX9_travel cX9_travel 9 none) ∈ lw_tbl := List.mem_of_getElem? (i := 444) rfl
theorem w_442 : (Cond.instanceMethod yX9_travel) ∈ lw_tbl := List.mem_of_getElem? (i := 442) (by decide +kernel)
theorem w_443 : (Cond.selects RX9 yX9_travel yX9_travel) ∈ lw_tbl := List.mem_of_getElem? (i := 443) (by decide +kernel)
theorem w_1057 : (Cond.methodLink RX0 65 yX9_isThereBy) ∈ lw_tbl := List.mem_of_getElem? (i := 1057) (by decide +kernel)
set_option maxRecDepth 20000 in
theorem w_1060 : (Cond.code yX9_isThereBy cX9_isThereBy 3 (some .boolean)) ∈ lw_tbl := List.mem_of_getElem? (i := 1060) rfl
theorem w_1058 : (Cond.instanceMethod yX9_isThereBy) ∈ lw_tbl := List.mem_of_getElem? (i := 1058) (by decide +kernel)
theorem w_1059 : (Cond.selects RX9 yX9_isThereBy yX9_isThereBy) ∈ lw_tbl := List.mem_of_getElem? (i := 1059) (by decide +kernel)
theorem w_1066 : (Cond.methodLink RX0 73 yX0_canDo) ∈ lw_tbl := List.mem_of_getElem? (i := 1066) (by decide +kernel)
set_option maxRecDepth 20000 in
theorem w_1069 : (Cond.code yX0_canDo cX0_canDo 5 (some .boolean)) ∈ lw_tbl := List.mem_of_getElem? (i := 1069) rfl
theorem w_1068 : (Cond.instanceMethod yX0_canDo) ∈ lw_tbl := List.mem_of_getElem? (i := 1068) (by decide +kernel)
theorem w_27 : (Cond.selects RX0 yX0_canDo yX0_canDo) ∈ lw_tbl := List.mem_of_getElem? (i := 27) (by decide +kernel)
theorem w_1070 : (Cond.methodLink RX0 76 yX0_highest) ∈ lw_tbl := List.mem_of_getElem? (i := 1070) (by decide +kernel)
set_option maxRecDepth 20000 in
theorem w_1072 : (Cond.code yX0_highest cX0_highest 1 (some .int)) ∈ lw_tbl := List.mem_of_getElem? (i := 1072) rfl
theorem w_1071 : (Cond.static yX0_highest) ∈ lw_tbl := List.mem_of_getElem? (i := 1071) (by decide +kernel)
theorem w_1073 : (Cond.methodLink RX0 83 yJ6_numberOfLeadingZeros_0f7a4) ∈ lw_tbl := List.mem_of_getElem? (i := 1073) (by decide +kernel)
set_option maxRecDepth 20000 in
theorem w_1075 : (Cond.code yJ6_numberOfLeadingZeros_0f7a4 cJ6_numberOfLeadingZeros_0f7a4 2 (some .int)) ∈ lw_tbl := List.mem_of_getElem? (i := 1075) rfl
theorem w_88 : (Cond.initialized RJ6) ∈ lw_tbl := List.mem_of_getElem? (i := 88) (by decide +kernel)
theorem w_1074 : (Cond.static yJ6_numberOfLeadingZeros_0f7a4) ∈ lw_tbl := List.mem_of_getElem? (i := 1074) (by decide +kernel)
theorem w_1082 : (Cond.methodLink RX0 97 yX0_offer) ∈ lw_tbl := List.mem_of_getElem? (i := 1082) (by decide +kernel)
set_option maxRecDepth 20000 in
theorem w_1085 : (Cond.code yX0_offer cX0_offer 5 none) ∈ lw_tbl := List.mem_of_getElem? (i := 1085) rfl
theorem w_1084 : (Cond.instanceMethod yX0_offer) ∈ lw_tbl := List.mem_of_getElem? (i := 1084) (by decide +kernel)
theorem w_29 : (Cond.selects RX0 yX0_offer yX0_offer) ∈ lw_tbl := List.mem_of_getElem? (i := 29) (by decide +kernel)
theorem w_596 : (Cond.methodLink RX1 33 yX1_canBe) ∈ lw_tbl := List.mem_of_getElem? (i := 596) (by decide +kernel)
set_option maxRecDepth 20000 in
theorem w_599 : (Cond.code yX1_canBe cX1_canBe 8 (some .boolean)) ∈ lw_tbl := List.mem_of_getElem? (i := 599) rfl
theorem w_598 : (Cond.instanceMethod yX1_canBe) ∈ lw_tbl := List.mem_of_getElem? (i := 598) (by decide +kernel)
theorem w_1 : (Cond.selects RX1 yX1_canBe yX1_canBe) ∈ lw_tbl := List.mem_of_getElem? (i := 1) (by decide +kernel)
theorem w_1125 : (Cond.methodLink RX2 42 yX2_bestRun) ∈ lw_tbl := List.mem_of_getElem? (i := 1125) (by decide +kernel)
set_option maxRecDepth 20000 in
theorem w_1128 : (Cond.code yX2_bestRun cX2_bestRun 1 (some .long)) ∈ lw_tbl := List.mem_of_getElem? (i := 1128) rfl
theorem w_1127 : (Cond.instanceMethod yX2_bestRun) ∈ lw_tbl := List.mem_of_getElem? (i := 1127) (by decide +kernel)
theorem w_30 : (Cond.selects RX2 yX2_bestRun yX2_bestRun) ∈ lw_tbl := List.mem_of_getElem? (i := 30) (by decide +kernel)
theorem w_1129 : (Cond.methodLink RX2 50 yX2_search) ∈ lw_tbl := List.mem_of_getElem? (i := 1129) (by decide +kernel)
set_option maxRecDepth 20000 in
theorem w_1132 : (Cond.code yX2_search cX2_search 5 none) ∈ lw_tbl := List.mem_of_getElem? (i := 1132) rfl
theorem w_1131 : (Cond.instanceMethod yX2_search) ∈ lw_tbl := List.mem_of_getElem? (i := 1131) (by decide +kernel)
theorem w_31 : (Cond.selects RX2 yX2_search yX2_search) ∈ lw_tbl := List.mem_of_getElem? (i := 31) (by decide +kernel)
theorem w_1133 : (Cond.methodLink RX2 53 yJ7_fill_d0a16) ∈ lw_tbl := List.mem_of_getElem? (i := 1133) (by decide +kernel)
set_option maxRecDepth 20000 in
theorem w_1135 : (Cond.code yJ7_fill_d0a16 cJ7_fill_d0a16 5 none) ∈ lw_tbl := List.mem_of_getElem? (i := 1135) rfl
theorem w_82 : (Cond.initialized RJ7) ∈ lw_tbl := List.mem_of_getElem? (i := 82) (by decide +kernel)
theorem w_1134 : (Cond.static yJ7_fill_d0a16) ∈ lw_tbl := List.mem_of_getElem? (i := 1134) (by decide +kernel)
theorem w_1136 : (Cond.methodLink RX2 59 yX2_openIn) ∈ lw_tbl := List.mem_of_getElem? (i := 1136) (by decide +kernel)
set_option maxRecDepth 20000 in
theorem w_1139 : (Cond.code yX2_openIn cX2_openIn 6 (some .int)) ∈ lw_tbl := List.mem_of_getElem? (i := 1139) rfl
theorem w_1138 : (Cond.instanceMethod yX2_openIn) ∈ lw_tbl := List.mem_of_getElem? (i := 1138) (by decide +kernel)
theorem w_32 : (Cond.selects RX2 yX2_openIn yX2_openIn) ∈ lw_tbl := List.mem_of_getElem? (i := 32) (by decide +kernel)
theorem w_1145 : (Cond.methodLink RX2 63 yJ6_bitCount_0f7a4) ∈ lw_tbl := List.mem_of_getElem? (i := 1145) (by decide +kernel)
set_option maxRecDepth 20000 in
theorem w_982 : (Cond.code yJ6_bitCount_0f7a4 cJ6_bitCount_0f7a4 1 (some .int)) ∈ lw_tbl := List.mem_of_getElem? (i := 982) rfl
theorem w_981 : (Cond.static yJ6_bitCount_0f7a4) ∈ lw_tbl := List.mem_of_getElem? (i := 981) (by decide +kernel)
theorem w_1146 : (Cond.methodLink RX2 68 yJ9_min_7cf53) ∈ lw_tbl := List.mem_of_getElem? (i := 1146) (by decide +kernel)
set_option maxRecDepth 20000 in
theorem w_1148 : (Cond.code yJ9_min_7cf53 cJ9_min_7cf53 2 (some .int)) ∈ lw_tbl := List.mem_of_getElem? (i := 1148) rfl
theorem w_87 : (Cond.initialized RJ9) ∈ lw_tbl := List.mem_of_getElem? (i := 87) (by decide +kernel)
theorem w_1147 : (Cond.static yJ9_min_7cf53) ∈ lw_tbl := List.mem_of_getElem? (i := 1147) (by decide +kernel)
theorem w_1149 : (Cond.methodLink RX2 74 yX2_addPrint) ∈ lw_tbl := List.mem_of_getElem? (i := 1149) (by decide +kernel)
set_option maxRecDepth 20000 in
theorem w_1152 : (Cond.code yX2_addPrint cX2_addPrint 4 none) ∈ lw_tbl := List.mem_of_getElem? (i := 1152) rfl
theorem w_1151 : (Cond.instanceMethod yX2_addPrint) ∈ lw_tbl := List.mem_of_getElem? (i := 1151) (by decide +kernel)
theorem w_33 : (Cond.selects RX2 yX2_addPrint yX2_addPrint) ∈ lw_tbl := List.mem_of_getElem? (i := 33) (by decide +kernel)
theorem w_1154 : (Cond.methodLink RX2 93 yJ9_max_f86c9) ∈ lw_tbl := List.mem_of_getElem? (i := 1154) (by decide +kernel)
set_option maxRecDepth 20000 in
theorem w_1156 : (Cond.code yJ9_max_f86c9 cJ9_max_f86c9 4 (some .long)) ∈ lw_tbl := List.mem_of_getElem? (i := 1156) rfl
theorem w_1155 : (Cond.static yJ9_max_f86c9) ∈ lw_tbl := List.mem_of_getElem? (i := 1155) (by decide +kernel)
theorem w_854 : (Cond.methodLink RX3 34 yX8_allFeet) ∈ lw_tbl := List.mem_of_getElem? (i := 854) (by decide +kernel)
theorem w_855 : (Cond.methodLink RX3 42 yX8_lentOnes) ∈ lw_tbl := List.mem_of_getElem? (i := 855) (by decide +kernel)
theorem w_791 : (Cond.methodLink RX3 48 yX3_openLevel) ∈ lw_tbl := List.mem_of_getElem? (i := 791) (by decide +kernel)
set_option maxRecDepth 20000 in
theorem w_794 : (Cond.code yX3_openLevel cX3_openLevel 1 none) ∈ lw_tbl := List.mem_of_getElem? (i := 794) rfl
theorem w_793 : (Cond.instanceMethod yX3_openLevel) ∈ lw_tbl := List.mem_of_getElem? (i := 793) (by decide +kernel)
theorem w_5 : (Cond.selects RX3 yX3_openLevel yX3_openLevel) ∈ lw_tbl := List.mem_of_getElem? (i := 5) (by decide +kernel)
theorem w_795 : (Cond.methodLink RX3 59 yX3_take) ∈ lw_tbl := List.mem_of_getElem? (i := 795) (by decide +kernel)
set_option maxRecDepth 20000 in
theorem w_798 : (Cond.code yX3_take cX3_take 2 (some .boolean)) ∈ lw_tbl := List.mem_of_getElem? (i := 798) rfl
theorem w_797 : (Cond.instanceMethod yX3_take) ∈ lw_tbl := List.mem_of_getElem? (i := 797) (by decide +kernel)
theorem w_6 : (Cond.selects RX3 yX3_take yX3_take) ∈ lw_tbl := List.mem_of_getElem? (i := 6) (by decide +kernel)
theorem w_807 : (Cond.methodLink RX3 63 yX3_endNumber) ∈ lw_tbl := List.mem_of_getElem? (i := 807) (by decide +kernel)
set_option maxRecDepth 20000 in
theorem w_810 : (Cond.code yX3_endNumber cX3_endNumber 1 none) ∈ lw_tbl := List.mem_of_getElem? (i := 810) rfl
theorem w_809 : (Cond.instanceMethod yX3_endNumber) ∈ lw_tbl := List.mem_of_getElem? (i := 809) (by decide +kernel)
theorem w_8 : (Cond.selects RX3 yX3_endNumber yX3_endNumber) ∈ lw_tbl := List.mem_of_getElem? (i := 8) (by decide +kernel)
theorem w_799 : (Cond.methodLink RX3 69 yX3_isDigit) ∈ lw_tbl := List.mem_of_getElem? (i := 799) (by decide +kernel)
set_option maxRecDepth 20000 in
theorem w_801 : (Cond.code yX3_isDigit cX3_isDigit 1 (some .boolean)) ∈ lw_tbl := List.mem_of_getElem? (i := 801) rfl
theorem w_800 : (Cond.static yX3_isDigit) ∈ lw_tbl := List.mem_of_getElem? (i := 800) (by decide +kernel)
theorem w_803 : (Cond.methodLink RX3 75 yX3_takeDigit) ∈ lw_tbl := List.mem_of_getElem? (i := 803) (by decide +kernel)
set_option maxRecDepth 20000 in
theorem w_806 : (Cond.code yX3_takeDigit cX3_takeDigit 2 (some .boolean)) ∈ lw_tbl := List.mem_of_getElem? (i := 806) rfl
theorem w_805 : (Cond.instanceMethod yX3_takeDigit) ∈ lw_tbl := List.mem_of_getElem? (i := 805) (by decide +kernel)
theorem w_7 : (Cond.selects RX3 yX3_takeDigit yX3_takeDigit) ∈ lw_tbl := List.mem_of_getElem? (i := 7) (by decide +kernel)
theorem w_819 : (Cond.methodLink RX3 78 yX3_takeOne) ∈ lw_tbl := List.mem_of_getElem? (i := 819) (by decide +kernel)
set_option maxRecDepth 20000 in
theorem w_822 : (Cond.code yX3_takeOne cX3_takeOne 2 (some .boolean)) ∈ lw_tbl := List.mem_of_getElem? (i := 822) rfl
theorem w_821 : (Cond.instanceMethod yX3_takeOne) ∈ lw_tbl := List.mem_of_getElem? (i := 821) (by decide +kernel)
theorem w_11 : (Cond.selects RX3 yX3_takeOne yX3_takeOne) ∈ lw_tbl := List.mem_of_getElem? (i := 11) (by decide +kernel)
theorem w_826 : (Cond.methodLink RX3 81 yX3_takeSign) ∈ lw_tbl := List.mem_of_getElem? (i := 826) (by decide +kernel)
set_option maxRecDepth 20000 in
theorem w_829 : (Cond.code yX3_takeSign cX3_takeSign 2 (some .boolean)) ∈ lw_tbl := List.mem_of_getElem? (i := 829) rfl
theorem w_828 : (Cond.instanceMethod yX3_takeSign) ∈ lw_tbl := List.mem_of_getElem? (i := 828) (by decide +kernel)
theorem w_12 : (Cond.selects RX3 yX3_takeSign yX3_takeSign) ∈ lw_tbl := List.mem_of_getElem? (i := 12) (by decide +kernel)
theorem w_830 : (Cond.methodLink RX3 84 yX3_takeJoint) ∈ lw_tbl := List.mem_of_getElem? (i := 830) (by decide +kernel)
set_option maxRecDepth 20000 in
theorem w_833 : (Cond.code yX3_takeJoint cX3_takeJoint 3 (some .boolean)) ∈ lw_tbl := List.mem_of_getElem? (i := 833) rfl
theorem w_832 : (Cond.instanceMethod yX3_takeJoint) ∈ lw_tbl := List.mem_of_getElem? (i := 832) (by decide +kernel)
theorem w_13 : (Cond.selects RX3 yX3_takeJoint yX3_takeJoint) ∈ lw_tbl := List.mem_of_getElem? (i := 13) (by decide +kernel)
theorem w_823 : (Cond.methodLink RX3 87 yX3_letterIndex) ∈ lw_tbl := List.mem_of_getElem? (i := 823) (by decide +kernel)
set_option maxRecDepth 20000 in
theorem w_825 : (Cond.code yX3_letterIndex cX3_letterIndex 1 (some .int)) ∈ lw_tbl := List.mem_of_getElem? (i := 825) rfl
theorem w_824 : (Cond.static yX3_letterIndex) ∈ lw_tbl := List.mem_of_getElem? (i := 824) (by decide +kernel)
theorem w_815 : (Cond.methodLink RX3 100 yX3_endOne) ∈ lw_tbl := List.mem_of_getElem? (i := 815) (by decide +kernel)
set_option maxRecDepth 20000 in
theorem w_818 : (Cond.code yX3_endOne cX3_endOne 2 none) ∈ lw_tbl := List.mem_of_getElem? (i := 818) rfl
theorem w_817 : (Cond.instanceMethod yX3_endOne) ∈ lw_tbl := List.mem_of_getElem? (i := 817) (by decide +kernel)
theorem w_10 : (Cond.selects RX3 yX3_endOne yX3_endOne) ∈ lw_tbl := List.mem_of_getElem? (i := 10) (by decide +kernel)
theorem w_811 : (Cond.methodLink RX3 108 yX3_compares) ∈ lw_tbl := List.mem_of_getElem? (i := 811) (by decide +kernel)
set_option maxRecDepth 20000 in
theorem w_814 : (Cond.code yX3_compares cX3_compares 2 (some .boolean)) ∈ lw_tbl := List.mem_of_getElem? (i := 814) rfl
theorem w_813 : (Cond.instanceMethod yX3_compares) ∈ lw_tbl := List.mem_of_getElem? (i := 813) (by decide +kernel)
theorem w_9 : (Cond.selects RX3 yX3_compares yX3_compares) ∈ lw_tbl := List.mem_of_getElem? (i := 9) (by decide +kernel)
theorem w_962 : (Cond.methodLink RX4 61 yX8_allFeet) ∈ lw_tbl := List.mem_of_getElem? (i := 962) (by decide +kernel)
theorem w_990 : (Cond.methodLink RX4 73 yX4_sumOver) ∈ lw_tbl := List.mem_of_getElem? (i := 990) (by decide +kernel)
set_option maxRecDepth 20000 in
theorem w_993 : (Cond.code yX4_sumOver cX4_sumOver 5 (some .int)) ∈ lw_tbl := List.mem_of_getElem? (i := 993) rfl
theorem w_992 : (Cond.instanceMethod yX4_sumOver) ∈ lw_tbl := List.mem_of_getElem? (i := 992) (by decide +kernel)
theorem w_21 : (Cond.selects RX4 yX4_sumOver yX4_sumOver) ∈ lw_tbl := List.mem_of_getElem? (i := 21) (by decide +kernel)
theorem w_986 : (Cond.methodLink RX4 83 yX4_hasLength) ∈ lw_tbl := List.mem_of_getElem? (i := 986) (by decide +kernel)
set_option maxRecDepth 20000 in
theorem w_989 : (Cond.code yX4_hasLength cX4_hasLength 2 (some .boolean)) ∈ lw_tbl := List.mem_of_getElem? (i := 989) rfl
theorem w_988 : (Cond.instanceMethod yX4_hasLength) ∈ lw_tbl := List.mem_of_getElem? (i := 988) (by decide +kernel)
theorem w_20 : (Cond.selects RX4 yX4_hasLength yX4_hasLength) ∈ lw_tbl := List.mem_of_getElem? (i := 20) (by decide +kernel)
theorem w_967 : (Cond.methodLink RX4 93 yX4_greatestRow) ∈ lw_tbl := List.mem_of_getElem? (i := 967) (by decide +kernel)
set_option maxRecDepth 20000 in
theorem w_970 : (Cond.code yX4_greatestRow cX4_greatestRow 5 (some .int)) ∈ lw_tbl := List.mem_of_getElem? (i := 970) rfl
theorem w_969 : (Cond.instanceMethod yX4_greatestRow) ∈ lw_tbl := List.mem_of_getElem? (i := 969) (by decide +kernel)
theorem w_18 : (Cond.selects RX4 yX4_greatestRow yX4_greatestRow) ∈ lw_tbl := List.mem_of_getElem? (i := 18) (by decide +kernel)
theorem w_980 : (Cond.methodLink RX4 100 yJ6_bitCount_0f7a4) ∈ lw_tbl := List.mem_of_getElem? (i := 980) (by decide +kernel)
theorem w_995 : (Cond.methodLink RX4 105 yX4_offer) ∈ lw_tbl := List.mem_of_getElem? (i := 995) (by decide +kernel)
set_option maxRecDepth 20000 in
theorem w_998 : (Cond.code yX4_offer cX4_offer 3 none) ∈ lw_tbl := List.mem_of_getElem? (i := 998) rfl
theorem w_997 : (Cond.instanceMethod yX4_offer) ∈ lw_tbl := List.mem_of_getElem? (i := 997) (by decide +kernel)
theorem w_22 : (Cond.selects RX4 yX4_offer yX4_offer) ∈ lw_tbl := List.mem_of_getElem? (i := 22) (by decide +kernel)
theorem w_971 : (Cond.methodLink RX4 109 yX4_greatestRowTo) ∈ lw_tbl := List.mem_of_getElem? (i := 971) (by decide +kernel)
set_option maxRecDepth 20000 in
theorem w_974 : (Cond.code yX4_greatestRowTo cX4_greatestRowTo 6 (some .int)) ∈ lw_tbl := List.mem_of_getElem? (i := 974) rfl
theorem w_973 : (Cond.instanceMethod yX4_greatestRowTo) ∈ lw_tbl := List.mem_of_getElem? (i := 973) (by decide +kernel)
theorem w_19 : (Cond.selects RX4 yX4_greatestRowTo yX4_greatestRowTo) ∈ lw_tbl := List.mem_of_getElem? (i := 19) (by decide +kernel)
theorem w_975 : (Cond.methodLink RX4 113 yJ9_max_7cf53) ∈ lw_tbl := List.mem_of_getElem? (i := 975) (by decide +kernel)
set_option maxRecDepth 20000 in
theorem w_977 : (Cond.code yJ9_max_7cf53 cJ9_max_7cf53 2 (some .int)) ∈ lw_tbl := List.mem_of_getElem? (i := 977) rfl
theorem w_976 : (Cond.static yJ9_max_7cf53) ∈ lw_tbl := List.mem_of_getElem? (i := 976) (by decide +kernel)
theorem w_779 : (Cond.methodLink RX6 23 yX6_byteAt) ∈ lw_tbl := List.mem_of_getElem? (i := 779) (by decide +kernel)
set_option maxRecDepth 20000 in
theorem w_781 : (Cond.code yX6_byteAt cX6_byteAt 3 (some .int)) ∈ lw_tbl := List.mem_of_getElem? (i := 781) rfl
theorem w_780 : (Cond.static yX6_byteAt) ∈ lw_tbl := List.mem_of_getElem? (i := 780) (by decide +kernel)
theorem w_712 : (Cond.methodLink RX8 51 yX1_firstLie) ∈ lw_tbl := List.mem_of_getElem? (i := 712) (by decide +kernel)
theorem w_721 : (Cond.methodLink RX8 60 yX7_whereAt) ∈ lw_tbl := List.mem_of_getElem? (i := 721) (by decide +kernel)
theorem w_423 : (Cond.methodLink RX9 25 yX9_isFull) ∈ lw_tbl := List.mem_of_getElem? (i := 423) (by decide +kernel)
theorem w_446 : (Cond.methodLink RX9 34 yJ7_fill_53178) ∈ lw_tbl := List.mem_of_getElem? (i := 446) (by decide +kernel)
set_option maxRecDepth 20000 in
theorem w_448 : (Cond.code yJ7_fill_53178 cJ7_fill_53178 4 none) ∈ lw_tbl := List.mem_of_getElem? (i := 448) rfl
theorem w_447 : (Cond.static yJ7_fill_53178) ∈ lw_tbl := List.mem_of_getElem? (i := 447) (by decide +kernel)
theorem w_449 : (Cond.methodLink RX9 43 yX10_arrives) ∈ lw_tbl := List.mem_of_getElem? (i := 449) (by decide +kernel)
set_option maxRecDepth 20000 in
theorem w_452 : (Cond.code yX10_arrives cX10_arrives 3 (some .int)) ∈ lw_tbl := List.mem_of_getElem? (i := 452) rfl
theorem w_450 : (Cond.instanceMethod yX10_arrives) ∈ lw_tbl := List.mem_of_getElem? (i := 450) (by decide +kernel)
theorem w_451 : (Cond.selects RX10 yX10_arrives yX10_arrives) ∈ lw_tbl := List.mem_of_getElem? (i := 451) (by decide +kernel)
theorem w_441 : (Cond.methodLink RX9 50 yX9_travel) ∈ lw_tbl := List.mem_of_getElem? (i := 441) (by decide +kernel)
theorem w_453 : (Cond.methodLink RX10 34 yX10_leaves) ∈ lw_tbl := List.mem_of_getElem? (i := 453) (by decide +kernel)
set_option maxRecDepth 20000 in
theorem w_456 : (Cond.code yX10_leaves cX10_leaves 3 (some .int)) ∈ lw_tbl := List.mem_of_getElem? (i := 456) rfl
theorem w_454 : (Cond.instanceMethod yX10_leaves) ∈ lw_tbl := List.mem_of_getElem? (i := 454) (by decide +kernel)
theorem w_455 : (Cond.selects RX10 yX10_leaves yX10_leaves) ∈ lw_tbl := List.mem_of_getElem? (i := 455) (by decide +kernel)
theorem w_91 : (Cond.methodLink RL 9 yX11_init) ∈ lw_tbl := List.mem_of_getElem? (i := 91) (by decide +kernel)
set_option maxRecDepth 20000 in
theorem w_93 : (Cond.code yX11_init cX11_init 1 none) ∈ lw_tbl := List.mem_of_getElem? (i := 93) rfl
theorem w_92 : (Cond.instanceMethod yX11_init) ∈ lw_tbl := List.mem_of_getElem? (i := 92) (by decide +kernel)
theorem w_1176 : (Cond.methodLink RL 12 yX12_init) ∈ lw_tbl := List.mem_of_getElem? (i := 1176) (by decide +kernel)
set_option maxRecDepth 20000 in
theorem w_1178 : (Cond.code yX12_init cX12_init 2 none) ∈ lw_tbl := List.mem_of_getElem? (i := 1178) rfl
theorem w_80 : (Cond.initialized RX12) ∈ lw_tbl := List.mem_of_getElem? (i := 80) (by decide +kernel)
theorem w_1177 : (Cond.instanceMethod yX12_init) ∈ lw_tbl := List.mem_of_getElem? (i := 1177) (by decide +kernel)
theorem w_367 : (Cond.methodLink RL 13 yX11_pass) ∈ lw_tbl := List.mem_of_getElem? (i := 367) (by decide +kernel)
set_option maxRecDepth 20000 in
theorem w_370 : (Cond.code yX11_pass cX11_pass 2 (some .int)) ∈ lw_tbl := List.mem_of_getElem? (i := 370) rfl
theorem w_368 : (Cond.instanceMethod yX11_pass) ∈ lw_tbl := List.mem_of_getElem? (i := 368) (by decide +kernel)
theorem w_369 : (Cond.selects RX11 yX11_pass yX11_pass) ∈ lw_tbl := List.mem_of_getElem? (i := 369) (by decide +kernel)
theorem w_1457 : (Cond.methodLink RL 17 yX12_pass) ∈ lw_tbl := List.mem_of_getElem? (i := 1457) (by decide +kernel)
set_option maxRecDepth 20000 in
theorem w_1460 : (Cond.code yX12_pass cX12_pass 2 (some .int)) ∈ lw_tbl := List.mem_of_getElem? (i := 1460) rfl
theorem w_1458 : (Cond.instanceMethod yX12_pass) ∈ lw_tbl := List.mem_of_getElem? (i := 1458) (by decide +kernel)
theorem w_1459 : (Cond.selects RX12 yX12_pass yX12_pass) ∈ lw_tbl := List.mem_of_getElem? (i := 1459) (by decide +kernel)
theorem w_374 : (Cond.methodLink RL 18 yX11_way) ∈ lw_tbl := List.mem_of_getElem? (i := 374) (by decide +kernel)
set_option maxRecDepth 20000 in
theorem w_377 : (Cond.code yX11_way cX11_way 7 (some .int)) ∈ lw_tbl := List.mem_of_getElem? (i := 377) rfl
theorem w_375 : (Cond.instanceMethod yX11_way) ∈ lw_tbl := List.mem_of_getElem? (i := 375) (by decide +kernel)
theorem w_376 : (Cond.selects RX11 yX11_way yX11_way) ∈ lw_tbl := List.mem_of_getElem? (i := 376) (by decide +kernel)
theorem w_1465 : (Cond.methodLink RL 22 yX12_way) ∈ lw_tbl := List.mem_of_getElem? (i := 1465) (by decide +kernel)
set_option maxRecDepth 20000 in
theorem w_1468 : (Cond.code yX12_way cX12_way 7 (some .int)) ∈ lw_tbl := List.mem_of_getElem? (i := 1468) rfl
theorem w_1466 : (Cond.instanceMethod yX12_way) ∈ lw_tbl := List.mem_of_getElem? (i := 1466) (by decide +kernel)
theorem w_1467 : (Cond.selects RX12 yX12_way yX12_way) ∈ lw_tbl := List.mem_of_getElem? (i := 1467) (by decide +kernel)
theorem w_424 : (Cond.methodLink RL 23 yX11_shut) ∈ lw_tbl := List.mem_of_getElem? (i := 424) (by decide +kernel)
set_option maxRecDepth 20000 in
theorem w_427 : (Cond.code yX11_shut cX11_shut 3 (some .int)) ∈ lw_tbl := List.mem_of_getElem? (i := 427) rfl
theorem w_425 : (Cond.instanceMethod yX11_shut) ∈ lw_tbl := List.mem_of_getElem? (i := 425) (by decide +kernel)
theorem w_426 : (Cond.selects RX11 yX11_shut yX11_shut) ∈ lw_tbl := List.mem_of_getElem? (i := 426) (by decide +kernel)
theorem w_1478 : (Cond.methodLink RL 26 yX12_shut) ∈ lw_tbl := List.mem_of_getElem? (i := 1478) (by decide +kernel)
set_option maxRecDepth 20000 in
theorem w_1481 : (Cond.code yX12_shut cX12_shut 2 (some .int)) ∈ lw_tbl := List.mem_of_getElem? (i := 1481) rfl
theorem w_1479 : (Cond.instanceMethod yX12_shut) ∈ lw_tbl := List.mem_of_getElem? (i := 1479) (by decide +kernel)
theorem w_1480 : (Cond.selects RX12 yX12_shut yX12_shut) ∈ lw_tbl := List.mem_of_getElem? (i := 1480) (by decide +kernel)
theorem w_433 : (Cond.methodLink RL 27 yX11_arrival) ∈ lw_tbl := List.mem_of_getElem? (i := 433) (by decide +kernel)
set_option maxRecDepth 20000 in
theorem w_436 : (Cond.code yX11_arrival cX11_arrival 5 (some .int)) ∈ lw_tbl := List.mem_of_getElem? (i := 436) rfl
theorem w_434 : (Cond.instanceMethod yX11_arrival) ∈ lw_tbl := List.mem_of_getElem? (i := 434) (by decide +kernel)
theorem w_435 : (Cond.selects RX11 yX11_arrival yX11_arrival) ∈ lw_tbl := List.mem_of_getElem? (i := 435) (by decide +kernel)
theorem w_1482 : (Cond.methodLink RL 31 yX12_arrival) ∈ lw_tbl := List.mem_of_getElem? (i := 1482) (by decide +kernel)
set_option maxRecDepth 20000 in
theorem w_1485 : (Cond.code yX12_arrival cX12_arrival 6 (some .int)) ∈ lw_tbl := List.mem_of_getElem? (i := 1485) rfl
theorem w_1483 : (Cond.instanceMethod yX12_arrival) ∈ lw_tbl := List.mem_of_getElem? (i := 1483) (by decide +kernel)
theorem w_1484 : (Cond.selects RX12 yX12_arrival yX12_arrival) ∈ lw_tbl := List.mem_of_getElem? (i := 1484) (by decide +kernel)
theorem w_458 : (Cond.methodLink RL 32 yX11_shot) ∈ lw_tbl := List.mem_of_getElem? (i := 458) (by decide +kernel)
set_option maxRecDepth 20000 in
theorem w_461 : (Cond.code yX11_shot cX11_shot 8 (some .int)) ∈ lw_tbl := List.mem_of_getElem? (i := 461) rfl
theorem w_459 : (Cond.instanceMethod yX11_shot) ∈ lw_tbl := List.mem_of_getElem? (i := 459) (by decide +kernel)
theorem w_460 : (Cond.selects RX11 yX11_shot yX11_shot) ∈ lw_tbl := List.mem_of_getElem? (i := 460) (by decide +kernel)
theorem w_1495 : (Cond.methodLink RL 35 yX12_shot) ∈ lw_tbl := List.mem_of_getElem? (i := 1495) (by decide +kernel)
set_option maxRecDepth 20000 in
theorem w_1498 : (Cond.code yX12_shot cX12_shot 7 (some .int)) ∈ lw_tbl := List.mem_of_getElem? (i := 1498) rfl
theorem w_1496 : (Cond.instanceMethod yX12_shot) ∈ lw_tbl := List.mem_of_getElem? (i := 1496) (by decide +kernel)
theorem w_1497 : (Cond.selects RX12 yX12_shot yX12_shot) ∈ lw_tbl := List.mem_of_getElem? (i := 1497) (by decide +kernel)
theorem w_538 : (Cond.methodLink RL 36 yX11_about) ∈ lw_tbl := List.mem_of_getElem? (i := 538) (by decide +kernel)
set_option maxRecDepth 20000 in
theorem w_541 : (Cond.code yX11_about cX11_about 4 (some .int)) ∈ lw_tbl := List.mem_of_getElem? (i := 541) rfl
theorem w_539 : (Cond.instanceMethod yX11_about) ∈ lw_tbl := List.mem_of_getElem? (i := 539) (by decide +kernel)
theorem w_540 : (Cond.selects RX11 yX11_about yX11_about) ∈ lw_tbl := List.mem_of_getElem? (i := 540) (by decide +kernel)
theorem w_1503 : (Cond.methodLink RL 40 yX12_about) ∈ lw_tbl := List.mem_of_getElem? (i := 1503) (by decide +kernel)
set_option maxRecDepth 20000 in
theorem w_1506 : (Cond.code yX12_about cX12_about 3 (some .int)) ∈ lw_tbl := List.mem_of_getElem? (i := 1506) rfl
theorem w_1504 : (Cond.instanceMethod yX12_about) ∈ lw_tbl := List.mem_of_getElem? (i := 1504) (by decide +kernel)
theorem w_1505 : (Cond.selects RX12 yX12_about yX12_about) ∈ lw_tbl := List.mem_of_getElem? (i := 1505) (by decide +kernel)
theorem w_546 : (Cond.methodLink RL 41 yX11_send) ∈ lw_tbl := List.mem_of_getElem? (i := 546) (by decide +kernel)
set_option maxRecDepth 20000 in
theorem w_549 : (Cond.code yX11_send cX11_send 5 (some .int)) ∈ lw_tbl := List.mem_of_getElem? (i := 549) rfl
theorem w_547 : (Cond.instanceMethod yX11_send) ∈ lw_tbl := List.mem_of_getElem? (i := 547) (by decide +kernel)
theorem w_548 : (Cond.selects RX11 yX11_send yX11_send) ∈ lw_tbl := List.mem_of_getElem? (i := 548) (by decide +kernel)
theorem w_1511 : (Cond.methodLink RL 44 yX12_send) ∈ lw_tbl := List.mem_of_getElem? (i := 1511) (by decide +kernel)
set_option maxRecDepth 20000 in
theorem w_1514 : (Cond.code yX12_send cX12_send 4 (some .int)) ∈ lw_tbl := List.mem_of_getElem? (i := 1514) rfl
theorem w_1512 : (Cond.instanceMethod yX12_send) ∈ lw_tbl := List.mem_of_getElem? (i := 1512) (by decide +kernel)
theorem w_1513 : (Cond.selects RX12 yX12_send yX12_send) ∈ lw_tbl := List.mem_of_getElem? (i := 1513) (by decide +kernel)
theorem w_554 : (Cond.methodLink RL 45 yX11_expected) ∈ lw_tbl := List.mem_of_getElem? (i := 554) (by decide +kernel)
set_option maxRecDepth 20000 in
theorem w_557 : (Cond.code yX11_expected cX11_expected 4 (some .int)) ∈ lw_tbl := List.mem_of_getElem? (i := 557) rfl
theorem w_555 : (Cond.instanceMethod yX11_expected) ∈ lw_tbl := List.mem_of_getElem? (i := 555) (by decide +kernel)
theorem w_556 : (Cond.selects RX11 yX11_expected yX11_expected) ∈ lw_tbl := List.mem_of_getElem? (i := 556) (by decide +kernel)
theorem w_1522 : (Cond.methodLink RL 49 yX12_expected) ∈ lw_tbl := List.mem_of_getElem? (i := 1522) (by decide +kernel)
set_option maxRecDepth 20000 in
theorem w_1525 : (Cond.code yX12_expected cX12_expected 3 (some .int)) ∈ lw_tbl := List.mem_of_getElem? (i := 1525) rfl
theorem w_1523 : (Cond.instanceMethod yX12_expected) ∈ lw_tbl := List.mem_of_getElem? (i := 1523) (by decide +kernel)
theorem w_1524 : (Cond.selects RX12 yX12_expected yX12_expected) ∈ lw_tbl := List.mem_of_getElem? (i := 1524) (by decide +kernel)
theorem w_558 : (Cond.methodLink RL 50 yX11_come) ∈ lw_tbl := List.mem_of_getElem? (i := 558) (by decide +kernel)
set_option maxRecDepth 20000 in
theorem w_561 : (Cond.code yX11_come cX11_come 3 (some .int)) ∈ lw_tbl := List.mem_of_getElem? (i := 561) rfl
theorem w_559 : (Cond.instanceMethod yX11_come) ∈ lw_tbl := List.mem_of_getElem? (i := 559) (by decide +kernel)
theorem w_560 : (Cond.selects RX11 yX11_come yX11_come) ∈ lw_tbl := List.mem_of_getElem? (i := 560) (by decide +kernel)
theorem w_1526 : (Cond.methodLink RL 53 yX12_come) ∈ lw_tbl := List.mem_of_getElem? (i := 1526) (by decide +kernel)
set_option maxRecDepth 20000 in
theorem w_1529 : (Cond.code yX12_come cX12_come 2 (some .int)) ∈ lw_tbl := List.mem_of_getElem? (i := 1529) rfl
theorem w_1527 : (Cond.instanceMethod yX12_come) ∈ lw_tbl := List.mem_of_getElem? (i := 1527) (by decide +kernel)
theorem w_1528 : (Cond.selects RX12 yX12_come yX12_come) ∈ lw_tbl := List.mem_of_getElem? (i := 1528) (by decide +kernel)
theorem w_562 : (Cond.methodLink RL 54 yX11_lose) ∈ lw_tbl := List.mem_of_getElem? (i := 562) (by decide +kernel)
set_option maxRecDepth 20000 in
theorem w_565 : (Cond.code yX11_lose cX11_lose 4 (some .int)) ∈ lw_tbl := List.mem_of_getElem? (i := 565) rfl
theorem w_563 : (Cond.instanceMethod yX11_lose) ∈ lw_tbl := List.mem_of_getElem? (i := 563) (by decide +kernel)
theorem w_564 : (Cond.selects RX11 yX11_lose yX11_lose) ∈ lw_tbl := List.mem_of_getElem? (i := 564) (by decide +kernel)
theorem w_1530 : (Cond.methodLink RL 57 yX12_lose) ∈ lw_tbl := List.mem_of_getElem? (i := 1530) (by decide +kernel)
set_option maxRecDepth 20000 in
theorem w_1533 : (Cond.code yX12_lose cX12_lose 3 (some .int)) ∈ lw_tbl := List.mem_of_getElem? (i := 1533) rfl
theorem w_1531 : (Cond.instanceMethod yX12_lose) ∈ lw_tbl := List.mem_of_getElem? (i := 1531) (by decide +kernel)
theorem w_1532 : (Cond.selects RX12 yX12_lose yX12_lose) ∈ lw_tbl := List.mem_of_getElem? (i := 1532) (by decide +kernel)
theorem w_566 : (Cond.methodLink RL 58 yX11_where) ∈ lw_tbl := List.mem_of_getElem? (i := 566) (by decide +kernel)
set_option maxRecDepth 20000 in
theorem w_569 : (Cond.code yX11_where cX11_where 4 (some .int)) ∈ lw_tbl := List.mem_of_getElem? (i := 569) rfl
theorem w_567 : (Cond.instanceMethod yX11_where) ∈ lw_tbl := List.mem_of_getElem? (i := 567) (by decide +kernel)
theorem w_568 : (Cond.selects RX11 yX11_where yX11_where) ∈ lw_tbl := List.mem_of_getElem? (i := 568) (by decide +kernel)
theorem w_1534 : (Cond.methodLink RL 61 yX12_where) ∈ lw_tbl := List.mem_of_getElem? (i := 1534) (by decide +kernel)
set_option maxRecDepth 20000 in
theorem w_1537 : (Cond.code yX12_where cX12_where 3 (some .int)) ∈ lw_tbl := List.mem_of_getElem? (i := 1537) rfl
theorem w_1535 : (Cond.instanceMethod yX12_where) ∈ lw_tbl := List.mem_of_getElem? (i := 1535) (by decide +kernel)
theorem w_1536 : (Cond.selects RX12 yX12_where yX12_where) ∈ lw_tbl := List.mem_of_getElem? (i := 1536) (by decide +kernel)
theorem w_570 : (Cond.methodLink RL 62 yX11_overdue) ∈ lw_tbl := List.mem_of_getElem? (i := 570) (by decide +kernel)
set_option maxRecDepth 20000 in
theorem w_573 : (Cond.code yX11_overdue cX11_overdue 3 (some .int)) ∈ lw_tbl := List.mem_of_getElem? (i := 573) rfl
theorem w_571 : (Cond.instanceMethod yX11_overdue) ∈ lw_tbl := List.mem_of_getElem? (i := 571) (by decide +kernel)
theorem w_572 : (Cond.selects RX11 yX11_overdue yX11_overdue) ∈ lw_tbl := List.mem_of_getElem? (i := 572) (by decide +kernel)
theorem w_1538 : (Cond.methodLink RL 66 yX12_overdue) ∈ lw_tbl := List.mem_of_getElem? (i := 1538) (by decide +kernel)
set_option maxRecDepth 20000 in
theorem w_1541 : (Cond.code yX12_overdue cX12_overdue 3 (some .int)) ∈ lw_tbl := List.mem_of_getElem? (i := 1541) rfl
theorem w_1539 : (Cond.instanceMethod yX12_overdue) ∈ lw_tbl := List.mem_of_getElem? (i := 1539) (by decide +kernel)
theorem w_1540 : (Cond.selects RX12 yX12_overdue yX12_overdue) ∈ lw_tbl := List.mem_of_getElem? (i := 1540) (by decide +kernel)
theorem w_574 : (Cond.methodLink RL 67 yX11_fact) ∈ lw_tbl := List.mem_of_getElem? (i := 574) (by decide +kernel)
set_option maxRecDepth 20000 in
theorem w_577 : (Cond.code yX11_fact cX11_fact 5 (some .int)) ∈ lw_tbl := List.mem_of_getElem? (i := 577) rfl
theorem w_575 : (Cond.instanceMethod yX11_fact) ∈ lw_tbl := List.mem_of_getElem? (i := 575) (by decide +kernel)
theorem w_576 : (Cond.selects RX11 yX11_fact yX11_fact) ∈ lw_tbl := List.mem_of_getElem? (i := 576) (by decide +kernel)
theorem w_1542 : (Cond.methodLink RL 71 yX12_fact) ∈ lw_tbl := List.mem_of_getElem? (i := 1542) (by decide +kernel)
set_option maxRecDepth 20000 in
theorem w_1545 : (Cond.code yX12_fact cX12_fact 5 (some .int)) ∈ lw_tbl := List.mem_of_getElem? (i := 1545) rfl
theorem w_1543 : (Cond.instanceMethod yX12_fact) ∈ lw_tbl := List.mem_of_getElem? (i := 1543) (by decide +kernel)
theorem w_1544 : (Cond.selects RX12 yX12_fact yX12_fact) ∈ lw_tbl := List.mem_of_getElem? (i := 1544) (by decide +kernel)
theorem w_585 : (Cond.methodLink RL 72 yX11_lie) ∈ lw_tbl := List.mem_of_getElem? (i := 585) (by decide +kernel)
set_option maxRecDepth 20000 in
theorem w_588 : (Cond.code yX11_lie cX11_lie 5 (some .int)) ∈ lw_tbl := List.mem_of_getElem? (i := 588) rfl
theorem w_586 : (Cond.instanceMethod yX11_lie) ∈ lw_tbl := List.mem_of_getElem? (i := 586) (by decide +kernel)
theorem w_587 : (Cond.selects RX11 yX11_lie yX11_lie) ∈ lw_tbl := List.mem_of_getElem? (i := 587) (by decide +kernel)
theorem w_1547 : (Cond.methodLink RL 76 yX12_lie) ∈ lw_tbl := List.mem_of_getElem? (i := 1547) (by decide +kernel)
set_option maxRecDepth 20000 in
theorem w_1550 : (Cond.code yX12_lie cX12_lie 4 (some .int)) ∈ lw_tbl := List.mem_of_getElem? (i := 1550) rfl
theorem w_1548 : (Cond.instanceMethod yX12_lie) ∈ lw_tbl := List.mem_of_getElem? (i := 1548) (by decide +kernel)
theorem w_1549 : (Cond.selects RX12 yX12_lie yX12_lie) ∈ lw_tbl := List.mem_of_getElem? (i := 1549) (by decide +kernel)
theorem w_604 : (Cond.methodLink RL 77 yX11_find) ∈ lw_tbl := List.mem_of_getElem? (i := 604) (by decide +kernel)
set_option maxRecDepth 20000 in
theorem w_607 : (Cond.code yX11_find cX11_find 6 (some .int)) ∈ lw_tbl := List.mem_of_getElem? (i := 607) rfl
theorem w_605 : (Cond.instanceMethod yX11_find) ∈ lw_tbl := List.mem_of_getElem? (i := 605) (by decide +kernel)
theorem w_606 : (Cond.selects RX11 yX11_find yX11_find) ∈ lw_tbl := List.mem_of_getElem? (i := 606) (by decide +kernel)
theorem w_1559 : (Cond.methodLink RL 80 yX12_find) ∈ lw_tbl := List.mem_of_getElem? (i := 1559) (by decide +kernel)
set_option maxRecDepth 20000 in
theorem w_1562 : (Cond.code yX12_find cX12_find 6 (some .int)) ∈ lw_tbl := List.mem_of_getElem? (i := 1562) rfl
theorem w_1560 : (Cond.instanceMethod yX12_find) ∈ lw_tbl := List.mem_of_getElem? (i := 1560) (by decide +kernel)
theorem w_1561 : (Cond.selects RX12 yX12_find yX12_find) ∈ lw_tbl := List.mem_of_getElem? (i := 1561) (by decide +kernel)
theorem w_612 : (Cond.methodLink RL 81 yX11_story) ∈ lw_tbl := List.mem_of_getElem? (i := 612) (by decide +kernel)
set_option maxRecDepth 20000 in
theorem w_615 : (Cond.code yX11_story cX11_story 5 (some .int)) ∈ lw_tbl := List.mem_of_getElem? (i := 615) rfl
theorem w_613 : (Cond.instanceMethod yX11_story) ∈ lw_tbl := List.mem_of_getElem? (i := 613) (by decide +kernel)
theorem w_614 : (Cond.selects RX11 yX11_story yX11_story) ∈ lw_tbl := List.mem_of_getElem? (i := 614) (by decide +kernel)
theorem w_1563 : (Cond.methodLink RL 84 yX12_story) ∈ lw_tbl := List.mem_of_getElem? (i := 1563) (by decide +kernel)
set_option maxRecDepth 20000 in
theorem w_1566 : (Cond.code yX12_story cX12_story 5 (some .int)) ∈ lw_tbl := List.mem_of_getElem? (i := 1566) rfl
theorem w_1564 : (Cond.instanceMethod yX12_story) ∈ lw_tbl := List.mem_of_getElem? (i := 1564) (by decide +kernel)
theorem w_1565 : (Cond.selects RX12 yX12_story yX12_story) ∈ lw_tbl := List.mem_of_getElem? (i := 1565) (by decide +kernel)
theorem w_655 : (Cond.methodLink RL 85 yX11_put) ∈ lw_tbl := List.mem_of_getElem? (i := 655) (by decide +kernel)
set_option maxRecDepth 20000 in
theorem w_658 : (Cond.code yX11_put cX11_put 5 (some .int)) ∈ lw_tbl := List.mem_of_getElem? (i := 658) rfl
theorem w_656 : (Cond.instanceMethod yX11_put) ∈ lw_tbl := List.mem_of_getElem? (i := 656) (by decide +kernel)
theorem w_657 : (Cond.selects RX11 yX11_put yX11_put) ∈ lw_tbl := List.mem_of_getElem? (i := 657) (by decide +kernel)
theorem w_1568 : (Cond.methodLink RL 88 yX12_put) ∈ lw_tbl := List.mem_of_getElem? (i := 1568) (by decide +kernel)
set_option maxRecDepth 20000 in
theorem w_1571 : (Cond.code yX12_put cX12_put 5 (some .int)) ∈ lw_tbl := List.mem_of_getElem? (i := 1571) rfl
theorem w_1569 : (Cond.instanceMethod yX12_put) ∈ lw_tbl := List.mem_of_getElem? (i := 1569) (by decide +kernel)
theorem w_1570 : (Cond.selects RX12 yX12_put yX12_put) ∈ lw_tbl := List.mem_of_getElem? (i := 1570) (by decide +kernel)
theorem w_671 : (Cond.methodLink RL 89 yX11_cut) ∈ lw_tbl := List.mem_of_getElem? (i := 671) (by decide +kernel)
set_option maxRecDepth 20000 in
theorem w_674 : (Cond.code yX11_cut cX11_cut 4 (some .int)) ∈ lw_tbl := List.mem_of_getElem? (i := 674) rfl
theorem w_672 : (Cond.instanceMethod yX11_cut) ∈ lw_tbl := List.mem_of_getElem? (i := 672) (by decide +kernel)
theorem w_673 : (Cond.selects RX11 yX11_cut yX11_cut) ∈ lw_tbl := List.mem_of_getElem? (i := 673) (by decide +kernel)
theorem w_1576 : (Cond.methodLink RL 92 yX12_cut) ∈ lw_tbl := List.mem_of_getElem? (i := 1576) (by decide +kernel)
set_option maxRecDepth 20000 in
theorem w_1579 : (Cond.code yX12_cut cX12_cut 5 (some .int)) ∈ lw_tbl := List.mem_of_getElem? (i := 1579) rfl
theorem w_1577 : (Cond.instanceMethod yX12_cut) ∈ lw_tbl := List.mem_of_getElem? (i := 1577) (by decide +kernel)
theorem w_1578 : (Cond.selects RX12 yX12_cut yX12_cut) ∈ lw_tbl := List.mem_of_getElem? (i := 1578) (by decide +kernel)
theorem w_680 : (Cond.methodLink RL 93 yX11_say) ∈ lw_tbl := List.mem_of_getElem? (i := 680) (by decide +kernel)
set_option maxRecDepth 20000 in
theorem w_683 : (Cond.code yX11_say cX11_say 5 (some .int)) ∈ lw_tbl := List.mem_of_getElem? (i := 683) rfl
theorem w_681 : (Cond.instanceMethod yX11_say) ∈ lw_tbl := List.mem_of_getElem? (i := 681) (by decide +kernel)
theorem w_682 : (Cond.selects RX11 yX11_say yX11_say) ∈ lw_tbl := List.mem_of_getElem? (i := 682) (by decide +kernel)
theorem w_1580 : (Cond.methodLink RL 96 yX12_say) ∈ lw_tbl := List.mem_of_getElem? (i := 1580) (by decide +kernel)
set_option maxRecDepth 20000 in
theorem w_1583 : (Cond.code yX12_say cX12_say 4 (some .int)) ∈ lw_tbl := List.mem_of_getElem? (i := 1583) rfl
theorem w_1581 : (Cond.instanceMethod yX12_say) ∈ lw_tbl := List.mem_of_getElem? (i := 1581) (by decide +kernel)
theorem w_1582 : (Cond.selects RX12 yX12_say yX12_say) ∈ lw_tbl := List.mem_of_getElem? (i := 1582) (by decide +kernel)
theorem w_687 : (Cond.methodLink RL 97 yX11_must) ∈ lw_tbl := List.mem_of_getElem? (i := 687) (by decide +kernel)
set_option maxRecDepth 20000 in
theorem w_690 : (Cond.code yX11_must cX11_must 5 (some .int)) ∈ lw_tbl := List.mem_of_getElem? (i := 690) rfl
theorem w_688 : (Cond.instanceMethod yX11_must) ∈ lw_tbl := List.mem_of_getElem? (i := 688) (by decide +kernel)
theorem w_689 : (Cond.selects RX11 yX11_must yX11_must) ∈ lw_tbl := List.mem_of_getElem? (i := 689) (by decide +kernel)
theorem w_1584 : (Cond.methodLink RL 100 yX12_must) ∈ lw_tbl := List.mem_of_getElem? (i := 1584) (by decide +kernel)
set_option maxRecDepth 20000 in
theorem w_1587 : (Cond.code yX12_must cX12_must 4 (some .int)) ∈ lw_tbl := List.mem_of_getElem? (i := 1587) rfl
theorem w_1585 : (Cond.instanceMethod yX12_must) ∈ lw_tbl := List.mem_of_getElem? (i := 1585) (by decide +kernel)
theorem w_1586 : (Cond.selects RX12 yX12_must yX12_must) ∈ lw_tbl := List.mem_of_getElem? (i := 1586) (by decide +kernel)
theorem w_691 : (Cond.methodLink RL 101 yX11_of) ∈ lw_tbl := List.mem_of_getElem? (i := 691) (by decide +kernel)
set_option maxRecDepth 20000 in
theorem w_694 : (Cond.code yX11_of cX11_of 4 (some .int)) ∈ lw_tbl := List.mem_of_getElem? (i := 694) rfl
theorem w_692 : (Cond.instanceMethod yX11_of) ∈ lw_tbl := List.mem_of_getElem? (i := 692) (by decide +kernel)
theorem w_693 : (Cond.selects RX11 yX11_of yX11_of) ∈ lw_tbl := List.mem_of_getElem? (i := 693) (by decide +kernel)
theorem w_1588 : (Cond.methodLink RL 104 yX12_of) ∈ lw_tbl := List.mem_of_getElem? (i := 1588) (by decide +kernel)
set_option maxRecDepth 20000 in
theorem w_1591 : (Cond.code yX12_of cX12_of 3 (some .int)) ∈ lw_tbl := List.mem_of_getElem? (i := 1591) rfl
theorem w_1589 : (Cond.instanceMethod yX12_of) ∈ lw_tbl := List.mem_of_getElem? (i := 1589) (by decide +kernel)
theorem w_1590 : (Cond.selects RX12 yX12_of yX12_of) ∈ lw_tbl := List.mem_of_getElem? (i := 1590) (by decide +kernel)
theorem w_722 : (Cond.methodLink RL 105 yX11_age) ∈ lw_tbl := List.mem_of_getElem? (i := 722) (by decide +kernel)
set_option maxRecDepth 20000 in
theorem w_725 : (Cond.code yX11_age cX11_age 3 (some .int)) ∈ lw_tbl := List.mem_of_getElem? (i := 725) rfl
theorem w_723 : (Cond.instanceMethod yX11_age) ∈ lw_tbl := List.mem_of_getElem? (i := 723) (by decide +kernel)
theorem w_724 : (Cond.selects RX11 yX11_age yX11_age) ∈ lw_tbl := List.mem_of_getElem? (i := 724) (by decide +kernel)
theorem w_1608 : (Cond.methodLink RL 108 yX12_age) ∈ lw_tbl := List.mem_of_getElem? (i := 1608) (by decide +kernel)
set_option maxRecDepth 20000 in
theorem w_1611 : (Cond.code yX12_age cX12_age 3 (some .int)) ∈ lw_tbl := List.mem_of_getElem? (i := 1611) rfl
theorem w_1609 : (Cond.instanceMethod yX12_age) ∈ lw_tbl := List.mem_of_getElem? (i := 1609) (by decide +kernel)
theorem w_1610 : (Cond.selects RX12 yX12_age yX12_age) ∈ lw_tbl := List.mem_of_getElem? (i := 1610) (by decide +kernel)
theorem w_726 : (Cond.methodLink RL 109 yX11_cost) ∈ lw_tbl := List.mem_of_getElem? (i := 726) (by decide +kernel)
set_option maxRecDepth 20000 in
theorem w_729 : (Cond.code yX11_cost cX11_cost 3 (some .int)) ∈ lw_tbl := List.mem_of_getElem? (i := 729) rfl
theorem w_727 : (Cond.instanceMethod yX11_cost) ∈ lw_tbl := List.mem_of_getElem? (i := 727) (by decide +kernel)
theorem w_728 : (Cond.selects RX11 yX11_cost yX11_cost) ∈ lw_tbl := List.mem_of_getElem? (i := 728) (by decide +kernel)
theorem w_1613 : (Cond.methodLink RL 112 yX12_cost) ∈ lw_tbl := List.mem_of_getElem? (i := 1613) (by decide +kernel)
set_option maxRecDepth 20000 in
theorem w_1616 : (Cond.code yX12_cost cX12_cost 5 (some .int)) ∈ lw_tbl := List.mem_of_getElem? (i := 1616) rfl
theorem w_1614 : (Cond.instanceMethod yX12_cost) ∈ lw_tbl := List.mem_of_getElem? (i := 1614) (by decide +kernel)
theorem w_1615 : (Cond.selects RX12 yX12_cost yX12_cost) ∈ lw_tbl := List.mem_of_getElem? (i := 1615) (by decide +kernel)
theorem w_734 : (Cond.methodLink RL 113 yX11_rate) ∈ lw_tbl := List.mem_of_getElem? (i := 734) (by decide +kernel)
set_option maxRecDepth 20000 in
theorem w_737 : (Cond.code yX11_rate cX11_rate 4 (some .int)) ∈ lw_tbl := List.mem_of_getElem? (i := 737) rfl
theorem w_735 : (Cond.instanceMethod yX11_rate) ∈ lw_tbl := List.mem_of_getElem? (i := 735) (by decide +kernel)
theorem w_736 : (Cond.selects RX11 yX11_rate yX11_rate) ∈ lw_tbl := List.mem_of_getElem? (i := 736) (by decide +kernel)
theorem w_1617 : (Cond.methodLink RL 116 yX12_rate) ∈ lw_tbl := List.mem_of_getElem? (i := 1617) (by decide +kernel)
set_option maxRecDepth 20000 in
theorem w_1620 : (Cond.code yX12_rate cX12_rate 4 (some .int)) ∈ lw_tbl := List.mem_of_getElem? (i := 1620) rfl
theorem w_1618 : (Cond.instanceMethod yX12_rate) ∈ lw_tbl := List.mem_of_getElem? (i := 1618) (by decide +kernel)
theorem w_1619 : (Cond.selects RX12 yX12_rate yX12_rate) ∈ lw_tbl := List.mem_of_getElem? (i := 1619) (by decide +kernel)
theorem w_738 : (Cond.methodLink RL 117 yX11_rule) ∈ lw_tbl := List.mem_of_getElem? (i := 738) (by decide +kernel)
set_option maxRecDepth 20000 in
theorem w_741 : (Cond.code yX11_rule cX11_rule 2 (some .int)) ∈ lw_tbl := List.mem_of_getElem? (i := 741) rfl
theorem w_739 : (Cond.instanceMethod yX11_rule) ∈ lw_tbl := List.mem_of_getElem? (i := 739) (by decide +kernel)
theorem w_740 : (Cond.selects RX11 yX11_rule yX11_rule) ∈ lw_tbl := List.mem_of_getElem? (i := 740) (by decide +kernel)
theorem w_1622 : (Cond.methodLink RL 120 yX12_rule) ∈ lw_tbl := List.mem_of_getElem? (i := 1622) (by decide +kernel)
set_option maxRecDepth 20000 in
theorem w_1625 : (Cond.code yX12_rule cX12_rule 2 (some .int)) ∈ lw_tbl := List.mem_of_getElem? (i := 1625) rfl
theorem w_1623 : (Cond.instanceMethod yX12_rule) ∈ lw_tbl := List.mem_of_getElem? (i := 1623) (by decide +kernel)
theorem w_1624 : (Cond.selects RX12 yX12_rule yX12_rule) ∈ lw_tbl := List.mem_of_getElem? (i := 1624) (by decide +kernel)
theorem w_767 : (Cond.methodLink RL 123 yX11_feed) ∈ lw_tbl := List.mem_of_getElem? (i := 767) (by decide +kernel)
set_option maxRecDepth 20000 in
theorem w_770 : (Cond.code yX11_feed cX11_feed 5 (some .int)) ∈ lw_tbl := List.mem_of_getElem? (i := 770) rfl
theorem w_768 : (Cond.instanceMethod yX11_feed) ∈ lw_tbl := List.mem_of_getElem? (i := 768) (by decide +kernel)
theorem w_769 : (Cond.selects RX11 yX11_feed yX11_feed) ∈ lw_tbl := List.mem_of_getElem? (i := 769) (by decide +kernel)
theorem w_1630 : (Cond.methodLink RL 127 yX12_feed) ∈ lw_tbl := List.mem_of_getElem? (i := 1630) (by decide +kernel)
set_option maxRecDepth 20000 in
theorem w_1633 : (Cond.code yX12_feed cX12_feed 6 (some .int)) ∈ lw_tbl := List.mem_of_getElem? (i := 1633) rfl
theorem w_1631 : (Cond.instanceMethod yX12_feed) ∈ lw_tbl := List.mem_of_getElem? (i := 1631) (by decide +kernel)
theorem w_1632 : (Cond.selects RX12 yX12_feed yX12_feed) ∈ lw_tbl := List.mem_of_getElem? (i := 1632) (by decide +kernel)
theorem w_783 : (Cond.methodLink RL 128 yX11_fault) ∈ lw_tbl := List.mem_of_getElem? (i := 783) (by decide +kernel)
set_option maxRecDepth 20000 in
theorem w_786 : (Cond.code yX11_fault cX11_fault 3 (some .int)) ∈ lw_tbl := List.mem_of_getElem? (i := 786) rfl
theorem w_784 : (Cond.instanceMethod yX11_fault) ∈ lw_tbl := List.mem_of_getElem? (i := 784) (by decide +kernel)
theorem w_785 : (Cond.selects RX11 yX11_fault yX11_fault) ∈ lw_tbl := List.mem_of_getElem? (i := 785) (by decide +kernel)
theorem w_1638 : (Cond.methodLink RL 131 yX12_fault) ∈ lw_tbl := List.mem_of_getElem? (i := 1638) (by decide +kernel)
set_option maxRecDepth 20000 in
theorem w_1641 : (Cond.code yX12_fault cX12_fault 2 (some .int)) ∈ lw_tbl := List.mem_of_getElem? (i := 1641) rfl
theorem w_1639 : (Cond.instanceMethod yX12_fault) ∈ lw_tbl := List.mem_of_getElem? (i := 1639) (by decide +kernel)
theorem w_1640 : (Cond.selects RX12 yX12_fault yX12_fault) ∈ lw_tbl := List.mem_of_getElem? (i := 1640) (by decide +kernel)
theorem w_834 : (Cond.methodLink RL 132 yX11_strike) ∈ lw_tbl := List.mem_of_getElem? (i := 834) (by decide +kernel)
set_option maxRecDepth 20000 in
theorem w_837 : (Cond.code yX11_strike cX11_strike 4 (some .int)) ∈ lw_tbl := List.mem_of_getElem? (i := 837) rfl
theorem w_835 : (Cond.instanceMethod yX11_strike) ∈ lw_tbl := List.mem_of_getElem? (i := 835) (by decide +kernel)
theorem w_836 : (Cond.selects RX11 yX11_strike yX11_strike) ∈ lw_tbl := List.mem_of_getElem? (i := 836) (by decide +kernel)
theorem w_1672 : (Cond.methodLink RL 135 yX12_strike) ∈ lw_tbl := List.mem_of_getElem? (i := 1672) (by decide +kernel)
set_option maxRecDepth 20000 in
theorem w_1675 : (Cond.code yX12_strike cX12_strike 3 (some .int)) ∈ lw_tbl := List.mem_of_getElem? (i := 1675) rfl
theorem w_1673 : (Cond.instanceMethod yX12_strike) ∈ lw_tbl := List.mem_of_getElem? (i := 1673) (by decide +kernel)
theorem w_1674 : (Cond.selects RX12 yX12_strike yX12_strike) ∈ lw_tbl := List.mem_of_getElem? (i := 1674) (by decide +kernel)
theorem w_839 : (Cond.methodLink RL 136 yX11_bars) ∈ lw_tbl := List.mem_of_getElem? (i := 839) (by decide +kernel)
set_option maxRecDepth 20000 in
theorem w_842 : (Cond.code yX11_bars cX11_bars 5 (some .int)) ∈ lw_tbl := List.mem_of_getElem? (i := 842) rfl
theorem w_840 : (Cond.instanceMethod yX11_bars) ∈ lw_tbl := List.mem_of_getElem? (i := 840) (by decide +kernel)
theorem w_841 : (Cond.selects RX11 yX11_bars yX11_bars) ∈ lw_tbl := List.mem_of_getElem? (i := 841) (by decide +kernel)
theorem w_1676 : (Cond.methodLink RL 139 yX12_bars) ∈ lw_tbl := List.mem_of_getElem? (i := 1676) (by decide +kernel)
set_option maxRecDepth 20000 in
theorem w_1679 : (Cond.code yX12_bars cX12_bars 5 (some .int)) ∈ lw_tbl := List.mem_of_getElem? (i := 1679) rfl
theorem w_1677 : (Cond.instanceMethod yX12_bars) ∈ lw_tbl := List.mem_of_getElem? (i := 1677) (by decide +kernel)
theorem w_1678 : (Cond.selects RX12 yX12_bars yX12_bars) ∈ lw_tbl := List.mem_of_getElem? (i := 1678) (by decide +kernel)
theorem w_864 : (Cond.methodLink RL 140 yX11_reserve) ∈ lw_tbl := List.mem_of_getElem? (i := 864) (by decide +kernel)
set_option maxRecDepth 20000 in
theorem w_867 : (Cond.code yX11_reserve cX11_reserve 4 (some .int)) ∈ lw_tbl := List.mem_of_getElem? (i := 867) rfl
theorem w_865 : (Cond.instanceMethod yX11_reserve) ∈ lw_tbl := List.mem_of_getElem? (i := 865) (by decide +kernel)
theorem w_866 : (Cond.selects RX11 yX11_reserve yX11_reserve) ∈ lw_tbl := List.mem_of_getElem? (i := 866) (by decide +kernel)
theorem w_1692 : (Cond.methodLink RL 143 yX12_reserve) ∈ lw_tbl := List.mem_of_getElem? (i := 1692) (by decide +kernel)
set_option maxRecDepth 20000 in
theorem w_1695 : (Cond.code yX12_reserve cX12_reserve 4 (some .int)) ∈ lw_tbl := List.mem_of_getElem? (i := 1695) rfl
theorem w_1693 : (Cond.instanceMethod yX12_reserve) ∈ lw_tbl := List.mem_of_getElem? (i := 1693) (by decide +kernel)
theorem w_1694 : (Cond.selects RX12 yX12_reserve yX12_reserve) ∈ lw_tbl := List.mem_of_getElem? (i := 1694) (by decide +kernel)
theorem w_872 : (Cond.methodLink RL 144 yX11_right) ∈ lw_tbl := List.mem_of_getElem? (i := 872) (by decide +kernel)
set_option maxRecDepth 20000 in
theorem w_875 : (Cond.code yX11_right cX11_right 6 (some .int)) ∈ lw_tbl := List.mem_of_getElem? (i := 875) rfl
theorem w_873 : (Cond.instanceMethod yX11_right) ∈ lw_tbl := List.mem_of_getElem? (i := 873) (by decide +kernel)
theorem w_874 : (Cond.selects RX11 yX11_right yX11_right) ∈ lw_tbl := List.mem_of_getElem? (i := 874) (by decide +kernel)
theorem w_1696 : (Cond.methodLink RL 148 yX12_right) ∈ lw_tbl := List.mem_of_getElem? (i := 1696) (by decide +kernel)
set_option maxRecDepth 20000 in
theorem w_1699 : (Cond.code yX12_right cX12_right 6 (some .int)) ∈ lw_tbl := List.mem_of_getElem? (i := 1699) rfl
theorem w_1697 : (Cond.instanceMethod yX12_right) ∈ lw_tbl := List.mem_of_getElem? (i := 1697) (by decide +kernel)
theorem w_1698 : (Cond.selects RX12 yX12_right yX12_right) ∈ lw_tbl := List.mem_of_getElem? (i := 1698) (by decide +kernel)
theorem w_898 : (Cond.methodLink RL 149 yX11_left) ∈ lw_tbl := List.mem_of_getElem? (i := 898) (by decide +kernel)
set_option maxRecDepth 20000 in
theorem w_901 : (Cond.code yX11_left cX11_left 2 (some .int)) ∈ lw_tbl := List.mem_of_getElem? (i := 901) rfl
theorem w_899 : (Cond.instanceMethod yX11_left) ∈ lw_tbl := List.mem_of_getElem? (i := 899) (by decide +kernel)
theorem w_900 : (Cond.selects RX11 yX11_left yX11_left) ∈ lw_tbl := List.mem_of_getElem? (i := 900) (by decide +kernel)
theorem w_1701 : (Cond.methodLink RL 152 yX12_left) ∈ lw_tbl := List.mem_of_getElem? (i := 1701) (by decide +kernel)
set_option maxRecDepth 20000 in
theorem w_1704 : (Cond.code yX12_left cX12_left 2 (some .int)) ∈ lw_tbl := List.mem_of_getElem? (i := 1704) rfl
theorem w_1702 : (Cond.instanceMethod yX12_left) ∈ lw_tbl := List.mem_of_getElem? (i := 1702) (by decide +kernel)
theorem w_1703 : (Cond.selects RX12 yX12_left yX12_left) ∈ lw_tbl := List.mem_of_getElem? (i := 1703) (by decide +kernel)
theorem w_902 : (Cond.methodLink RL 153 yX11_allowed) ∈ lw_tbl := List.mem_of_getElem? (i := 902) (by decide +kernel)
set_option maxRecDepth 20000 in
theorem w_905 : (Cond.code yX11_allowed cX11_allowed 5 (some .int)) ∈ lw_tbl := List.mem_of_getElem? (i := 905) rfl
theorem w_903 : (Cond.instanceMethod yX11_allowed) ∈ lw_tbl := List.mem_of_getElem? (i := 903) (by decide +kernel)
theorem w_904 : (Cond.selects RX11 yX11_allowed yX11_allowed) ∈ lw_tbl := List.mem_of_getElem? (i := 904) (by decide +kernel)
theorem w_1705 : (Cond.methodLink RL 156 yX12_allowed) ∈ lw_tbl := List.mem_of_getElem? (i := 1705) (by decide +kernel)
set_option maxRecDepth 20000 in
theorem w_1708 : (Cond.code yX12_allowed cX12_allowed 5 (some .int)) ∈ lw_tbl := List.mem_of_getElem? (i := 1708) rfl
theorem w_1706 : (Cond.instanceMethod yX12_allowed) ∈ lw_tbl := List.mem_of_getElem? (i := 1706) (by decide +kernel)
theorem w_1707 : (Cond.selects RX12 yX12_allowed yX12_allowed) ∈ lw_tbl := List.mem_of_getElem? (i := 1707) (by decide +kernel)
theorem w_920 : (Cond.methodLink RL 157 yX11_length) ∈ lw_tbl := List.mem_of_getElem? (i := 920) (by decide +kernel)
set_option maxRecDepth 20000 in
theorem w_923 : (Cond.code yX11_length cX11_length 3 (some .int)) ∈ lw_tbl := List.mem_of_getElem? (i := 923) rfl
theorem w_921 : (Cond.instanceMethod yX11_length) ∈ lw_tbl := List.mem_of_getElem? (i := 921) (by decide +kernel)
theorem w_922 : (Cond.selects RX11 yX11_length yX11_length) ∈ lw_tbl := List.mem_of_getElem? (i := 922) (by decide +kernel)
theorem w_1717 : (Cond.methodLink RL 161 yX12_length) ∈ lw_tbl := List.mem_of_getElem? (i := 1717) (by decide +kernel)
set_option maxRecDepth 20000 in
theorem w_1720 : (Cond.code yX12_length cX12_length 4 (some .int)) ∈ lw_tbl := List.mem_of_getElem? (i := 1720) rfl
theorem w_1718 : (Cond.instanceMethod yX12_length) ∈ lw_tbl := List.mem_of_getElem? (i := 1718) (by decide +kernel)
theorem w_1719 : (Cond.selects RX12 yX12_length yX12_length) ∈ lw_tbl := List.mem_of_getElem? (i := 1719) (by decide +kernel)
theorem w_928 : (Cond.methodLink RL 162 yX11_apart) ∈ lw_tbl := List.mem_of_getElem? (i := 928) (by decide +kernel)
set_option maxRecDepth 20000 in
theorem w_931 : (Cond.code yX11_apart cX11_apart 4 (some .int)) ∈ lw_tbl := List.mem_of_getElem? (i := 931) rfl
theorem w_929 : (Cond.instanceMethod yX11_apart) ∈ lw_tbl := List.mem_of_getElem? (i := 929) (by decide +kernel)
theorem w_930 : (Cond.selects RX11 yX11_apart yX11_apart) ∈ lw_tbl := List.mem_of_getElem? (i := 930) (by decide +kernel)
theorem w_1722 : (Cond.methodLink RL 166 yX12_apart) ∈ lw_tbl := List.mem_of_getElem? (i := 1722) (by decide +kernel)
set_option maxRecDepth 20000 in
theorem w_1725 : (Cond.code yX12_apart cX12_apart 5 (some .int)) ∈ lw_tbl := List.mem_of_getElem? (i := 1725) rfl
theorem w_1723 : (Cond.instanceMethod yX12_apart) ∈ lw_tbl := List.mem_of_getElem? (i := 1723) (by decide +kernel)
theorem w_1724 : (Cond.selects RX12 yX12_apart yX12_apart) ∈ lw_tbl := List.mem_of_getElem? (i := 1724) (by decide +kernel)
theorem w_939 : (Cond.methodLink RL 167 yX11_rival) ∈ lw_tbl := List.mem_of_getElem? (i := 939) (by decide +kernel)
set_option maxRecDepth 20000 in
theorem w_942 : (Cond.code yX11_rival cX11_rival 4 (some .int)) ∈ lw_tbl := List.mem_of_getElem? (i := 942) rfl
theorem w_940 : (Cond.instanceMethod yX11_rival) ∈ lw_tbl := List.mem_of_getElem? (i := 940) (by decide +kernel)
theorem w_941 : (Cond.selects RX11 yX11_rival yX11_rival) ∈ lw_tbl := List.mem_of_getElem? (i := 941) (by decide +kernel)
theorem w_1726 : (Cond.methodLink RL 170 yX12_rival) ∈ lw_tbl := List.mem_of_getElem? (i := 1726) (by decide +kernel)
set_option maxRecDepth 20000 in
theorem w_1729 : (Cond.code yX12_rival cX12_rival 4 (some .int)) ∈ lw_tbl := List.mem_of_getElem? (i := 1729) rfl
theorem w_1727 : (Cond.instanceMethod yX12_rival) ∈ lw_tbl := List.mem_of_getElem? (i := 1727) (by decide +kernel)
theorem w_1728 : (Cond.selects RX12 yX12_rival yX12_rival) ∈ lw_tbl := List.mem_of_getElem? (i := 1728) (by decide +kernel)
theorem w_943 : (Cond.methodLink RL 171 yX11_reel) ∈ lw_tbl := List.mem_of_getElem? (i := 943) (by decide +kernel)
set_option maxRecDepth 20000 in
theorem w_946 : (Cond.code yX11_reel cX11_reel 4 (some .int)) ∈ lw_tbl := List.mem_of_getElem? (i := 946) rfl
theorem w_944 : (Cond.instanceMethod yX11_reel) ∈ lw_tbl := List.mem_of_getElem? (i := 944) (by decide +kernel)
theorem w_945 : (Cond.selects RX11 yX11_reel yX11_reel) ∈ lw_tbl := List.mem_of_getElem? (i := 945) (by decide +kernel)
theorem w_1730 : (Cond.methodLink RL 174 yX12_reel) ∈ lw_tbl := List.mem_of_getElem? (i := 1730) (by decide +kernel)
set_option maxRecDepth 20000 in
theorem w_1733 : (Cond.code yX12_reel cX12_reel 4 (some .int)) ∈ lw_tbl := List.mem_of_getElem? (i := 1733) rfl
theorem w_1731 : (Cond.instanceMethod yX12_reel) ∈ lw_tbl := List.mem_of_getElem? (i := 1731) (by decide +kernel)
theorem w_1732 : (Cond.selects RX12 yX12_reel yX12_reel) ∈ lw_tbl := List.mem_of_getElem? (i := 1732) (by decide +kernel)
theorem w_999 : (Cond.methodLink RL 175 yX11_reelAt) ∈ lw_tbl := List.mem_of_getElem? (i := 999) (by decide +kernel)
set_option maxRecDepth 20000 in
theorem w_1002 : (Cond.code yX11_reelAt cX11_reelAt 5 (some .int)) ∈ lw_tbl := List.mem_of_getElem? (i := 1002) rfl
theorem w_1000 : (Cond.instanceMethod yX11_reelAt) ∈ lw_tbl := List.mem_of_getElem? (i := 1000) (by decide +kernel)
theorem w_1001 : (Cond.selects RX11 yX11_reelAt yX11_reelAt) ∈ lw_tbl := List.mem_of_getElem? (i := 1001) (by decide +kernel)
theorem w_1754 : (Cond.methodLink RL 178 yX12_reelAt) ∈ lw_tbl := List.mem_of_getElem? (i := 1754) (by decide +kernel)
set_option maxRecDepth 20000 in
theorem w_1757 : (Cond.code yX12_reelAt cX12_reelAt 5 (some .int)) ∈ lw_tbl := List.mem_of_getElem? (i := 1757) rfl
theorem w_1755 : (Cond.instanceMethod yX12_reelAt) ∈ lw_tbl := List.mem_of_getElem? (i := 1755) (by decide +kernel)
theorem w_1756 : (Cond.selects RX12 yX12_reelAt yX12_reelAt) ∈ lw_tbl := List.mem_of_getElem? (i := 1756) (by decide +kernel)
theorem w_1007 : (Cond.methodLink RL 179 yX11_judge) ∈ lw_tbl := List.mem_of_getElem? (i := 1007) (by decide +kernel)
set_option maxRecDepth 20000 in
theorem w_1010 : (Cond.code yX11_judge cX11_judge 6 (some .int)) ∈ lw_tbl := List.mem_of_getElem? (i := 1010) rfl
theorem w_1008 : (Cond.instanceMethod yX11_judge) ∈ lw_tbl := List.mem_of_getElem? (i := 1008) (by decide +kernel)
theorem w_1009 : (Cond.selects RX11 yX11_judge yX11_judge) ∈ lw_tbl := List.mem_of_getElem? (i := 1009) (by decide +kernel)
theorem w_1758 : (Cond.methodLink RL 183 yX12_judge) ∈ lw_tbl := List.mem_of_getElem? (i := 1758) (by decide +kernel)
set_option maxRecDepth 20000 in
theorem w_1761 : (Cond.code yX12_judge cX12_judge 13 (some .int)) ∈ lw_tbl := List.mem_of_getElem? (i := 1761) rfl
theorem w_1759 : (Cond.instanceMethod yX12_judge) ∈ lw_tbl := List.mem_of_getElem? (i := 1759) (by decide +kernel)
theorem w_1760 : (Cond.selects RX12 yX12_judge yX12_judge) ∈ lw_tbl := List.mem_of_getElem? (i := 1760) (by decide +kernel)
theorem w_1016 : (Cond.methodLink RL 184 yX11_show) ∈ lw_tbl := List.mem_of_getElem? (i := 1016) (by decide +kernel)
set_option maxRecDepth 20000 in
theorem w_1019 : (Cond.code yX11_show cX11_show 7 (some .int)) ∈ lw_tbl := List.mem_of_getElem? (i := 1019) rfl
theorem w_1017 : (Cond.instanceMethod yX11_show) ∈ lw_tbl := List.mem_of_getElem? (i := 1017) (by decide +kernel)
theorem w_1018 : (Cond.selects RX11 yX11_show yX11_show) ∈ lw_tbl := List.mem_of_getElem? (i := 1018) (by decide +kernel)
theorem w_1762 : (Cond.methodLink RL 187 yX12_show) ∈ lw_tbl := List.mem_of_getElem? (i := 1762) (by decide +kernel)
set_option maxRecDepth 20000 in
theorem w_1765 : (Cond.code yX12_show cX12_show 8 (some .int)) ∈ lw_tbl := List.mem_of_getElem? (i := 1765) rfl
theorem w_1763 : (Cond.instanceMethod yX12_show) ∈ lw_tbl := List.mem_of_getElem? (i := 1763) (by decide +kernel)
theorem w_1764 : (Cond.selects RX12 yX12_show yX12_show) ∈ lw_tbl := List.mem_of_getElem? (i := 1764) (by decide +kernel)
theorem w_1024 : (Cond.methodLink RL 188 yX11_man) ∈ lw_tbl := List.mem_of_getElem? (i := 1024) (by decide +kernel)
set_option maxRecDepth 20000 in
theorem w_1027 : (Cond.code yX11_man cX11_man 4 (some .int)) ∈ lw_tbl := List.mem_of_getElem? (i := 1027) rfl
theorem w_1025 : (Cond.instanceMethod yX11_man) ∈ lw_tbl := List.mem_of_getElem? (i := 1025) (by decide +kernel)
theorem w_1026 : (Cond.selects RX11 yX11_man yX11_man) ∈ lw_tbl := List.mem_of_getElem? (i := 1026) (by decide +kernel)
theorem w_1766 : (Cond.methodLink RL 191 yX12_man) ∈ lw_tbl := List.mem_of_getElem? (i := 1766) (by decide +kernel)
set_option maxRecDepth 20000 in
theorem w_1769 : (Cond.code yX12_man cX12_man 4 (some .int)) ∈ lw_tbl := List.mem_of_getElem? (i := 1769) rfl
theorem w_1767 : (Cond.instanceMethod yX12_man) ∈ lw_tbl := List.mem_of_getElem? (i := 1767) (by decide +kernel)
theorem w_1768 : (Cond.selects RX12 yX12_man yX12_man) ∈ lw_tbl := List.mem_of_getElem? (i := 1768) (by decide +kernel)
theorem w_1032 : (Cond.methodLink RL 192 yX11_event) ∈ lw_tbl := List.mem_of_getElem? (i := 1032) (by decide +kernel)
set_option maxRecDepth 20000 in
theorem w_1035 : (Cond.code yX11_event cX11_event 4 (some .int)) ∈ lw_tbl := List.mem_of_getElem? (i := 1035) rfl
theorem w_1033 : (Cond.instanceMethod yX11_event) ∈ lw_tbl := List.mem_of_getElem? (i := 1033) (by decide +kernel)
theorem w_1034 : (Cond.selects RX11 yX11_event yX11_event) ∈ lw_tbl := List.mem_of_getElem? (i := 1034) (by decide +kernel)
theorem w_1771 : (Cond.methodLink RL 195 yX12_event) ∈ lw_tbl := List.mem_of_getElem? (i := 1771) (by decide +kernel)
set_option maxRecDepth 20000 in
theorem w_1774 : (Cond.code yX12_event cX12_event 4 (some .int)) ∈ lw_tbl := List.mem_of_getElem? (i := 1774) rfl
theorem w_1772 : (Cond.instanceMethod yX12_event) ∈ lw_tbl := List.mem_of_getElem? (i := 1772) (by decide +kernel)
theorem w_1773 : (Cond.selects RX12 yX12_event yX12_event) ∈ lw_tbl := List.mem_of_getElem? (i := 1773) (by decide +kernel)
theorem w_1044 : (Cond.methodLink RL 196 yX11_cover) ∈ lw_tbl := List.mem_of_getElem? (i := 1044) (by decide +kernel)
set_option maxRecDepth 20000 in
theorem w_1047 : (Cond.code yX11_cover cX11_cover 1 (some .int)) ∈ lw_tbl := List.mem_of_getElem? (i := 1047) rfl
theorem w_1045 : (Cond.instanceMethod yX11_cover) ∈ lw_tbl := List.mem_of_getElem? (i := 1045) (by decide +kernel)
theorem w_1046 : (Cond.selects RX11 yX11_cover yX11_cover) ∈ lw_tbl := List.mem_of_getElem? (i := 1046) (by decide +kernel)
theorem w_1775 : (Cond.methodLink RL 199 yX12_cover) ∈ lw_tbl := List.mem_of_getElem? (i := 1775) (by decide +kernel)
set_option maxRecDepth 20000 in
theorem w_1778 : (Cond.code yX12_cover cX12_cover 1 (some .int)) ∈ lw_tbl := List.mem_of_getElem? (i := 1778) rfl
theorem w_1776 : (Cond.instanceMethod yX12_cover) ∈ lw_tbl := List.mem_of_getElem? (i := 1776) (by decide +kernel)
theorem w_1777 : (Cond.selects RX12 yX12_cover yX12_cover) ∈ lw_tbl := List.mem_of_getElem? (i := 1777) (by decide +kernel)
theorem w_1086 : (Cond.methodLink RL 200 yX11_covered) ∈ lw_tbl := List.mem_of_getElem? (i := 1086) (by decide +kernel)
set_option maxRecDepth 20000 in
theorem w_1089 : (Cond.code yX11_covered cX11_covered 2 (some .int)) ∈ lw_tbl := List.mem_of_getElem? (i := 1089) rfl
theorem w_1087 : (Cond.instanceMethod yX11_covered) ∈ lw_tbl := List.mem_of_getElem? (i := 1087) (by decide +kernel)
theorem w_1088 : (Cond.selects RX11 yX11_covered yX11_covered) ∈ lw_tbl := List.mem_of_getElem? (i := 1088) (by decide +kernel)
theorem w_1803 : (Cond.methodLink RL 203 yX12_covered) ∈ lw_tbl := List.mem_of_getElem? (i := 1803) (by decide +kernel)
set_option maxRecDepth 20000 in
theorem w_1806 : (Cond.code yX12_covered cX12_covered 7 (some .int)) ∈ lw_tbl := List.mem_of_getElem? (i := 1806) rfl
theorem w_1804 : (Cond.instanceMethod yX12_covered) ∈ lw_tbl := List.mem_of_getElem? (i := 1804) (by decide +kernel)
theorem w_1805 : (Cond.selects RX12 yX12_covered yX12_covered) ∈ lw_tbl := List.mem_of_getElem? (i := 1805) (by decide +kernel)
theorem w_1090 : (Cond.methodLink RL 204 yX11_hall) ∈ lw_tbl := List.mem_of_getElem? (i := 1090) (by decide +kernel)
set_option maxRecDepth 20000 in
theorem w_1093 : (Cond.code yX11_hall cX11_hall 5 (some .int)) ∈ lw_tbl := List.mem_of_getElem? (i := 1093) rfl
theorem w_1091 : (Cond.instanceMethod yX11_hall) ∈ lw_tbl := List.mem_of_getElem? (i := 1091) (by decide +kernel)
theorem w_1092 : (Cond.selects RX11 yX11_hall yX11_hall) ∈ lw_tbl := List.mem_of_getElem? (i := 1092) (by decide +kernel)
theorem w_1807 : (Cond.methodLink RL 207 yX12_hall) ∈ lw_tbl := List.mem_of_getElem? (i := 1807) (by decide +kernel)
set_option maxRecDepth 20000 in
theorem w_1810 : (Cond.code yX12_hall cX12_hall 5 (some .int)) ∈ lw_tbl := List.mem_of_getElem? (i := 1810) rfl
theorem w_1808 : (Cond.instanceMethod yX12_hall) ∈ lw_tbl := List.mem_of_getElem? (i := 1808) (by decide +kernel)
theorem w_1809 : (Cond.selects RX12 yX12_hall yX12_hall) ∈ lw_tbl := List.mem_of_getElem? (i := 1809) (by decide +kernel)
theorem w_1101 : (Cond.methodLink RL 208 yX11_part) ∈ lw_tbl := List.mem_of_getElem? (i := 1101) (by decide +kernel)
set_option maxRecDepth 20000 in
theorem w_1104 : (Cond.code yX11_part cX11_part 3 (some .int)) ∈ lw_tbl := List.mem_of_getElem? (i := 1104) rfl
theorem w_1102 : (Cond.instanceMethod yX11_part) ∈ lw_tbl := List.mem_of_getElem? (i := 1102) (by decide +kernel)
theorem w_1103 : (Cond.selects RX11 yX11_part yX11_part) ∈ lw_tbl := List.mem_of_getElem? (i := 1103) (by decide +kernel)
theorem w_1812 : (Cond.methodLink RL 211 yX12_part) ∈ lw_tbl := List.mem_of_getElem? (i := 1812) (by decide +kernel)
set_option maxRecDepth 20000 in
theorem w_1815 : (Cond.code yX12_part cX12_part 4 (some .int)) ∈ lw_tbl := List.mem_of_getElem? (i := 1815) rfl
theorem w_1813 : (Cond.instanceMethod yX12_part) ∈ lw_tbl := List.mem_of_getElem? (i := 1813) (by decide +kernel)
theorem w_1814 : (Cond.selects RX12 yX12_part yX12_part) ∈ lw_tbl := List.mem_of_getElem? (i := 1814) (by decide +kernel)
theorem w_1109 : (Cond.methodLink RL 212 yX11_prints) ∈ lw_tbl := List.mem_of_getElem? (i := 1109) (by decide +kernel)
set_option maxRecDepth 20000 in
theorem w_1112 : (Cond.code yX11_prints cX11_prints 2 (some .int)) ∈ lw_tbl := List.mem_of_getElem? (i := 1112) rfl
theorem w_1110 : (Cond.instanceMethod yX11_prints) ∈ lw_tbl := List.mem_of_getElem? (i := 1110) (by decide +kernel)
theorem w_1111 : (Cond.selects RX11 yX11_prints yX11_prints) ∈ lw_tbl := List.mem_of_getElem? (i := 1111) (by decide +kernel)
theorem w_1817 : (Cond.methodLink RL 215 yX12_prints) ∈ lw_tbl := List.mem_of_getElem? (i := 1817) (by decide +kernel)
set_option maxRecDepth 20000 in
theorem w_1820 : (Cond.code yX12_prints cX12_prints 3 (some .int)) ∈ lw_tbl := List.mem_of_getElem? (i := 1820) rfl
theorem w_1818 : (Cond.instanceMethod yX12_prints) ∈ lw_tbl := List.mem_of_getElem? (i := 1818) (by decide +kernel)
theorem w_1819 : (Cond.selects RX12 yX12_prints yX12_prints) ∈ lw_tbl := List.mem_of_getElem? (i := 1819) (by decide +kernel)
theorem w_1117 : (Cond.methodLink RL 216 yX11_run) ∈ lw_tbl := List.mem_of_getElem? (i := 1117) (by decide +kernel)
set_option maxRecDepth 20000 in
theorem w_1120 : (Cond.code yX11_run cX11_run 1 (some .int)) ∈ lw_tbl := List.mem_of_getElem? (i := 1120) rfl
theorem w_1118 : (Cond.instanceMethod yX11_run) ∈ lw_tbl := List.mem_of_getElem? (i := 1118) (by decide +kernel)
theorem w_1119 : (Cond.selects RX11 yX11_run yX11_run) ∈ lw_tbl := List.mem_of_getElem? (i := 1119) (by decide +kernel)
theorem w_1821 : (Cond.methodLink RL 219 yX12_run) ∈ lw_tbl := List.mem_of_getElem? (i := 1821) (by decide +kernel)
set_option maxRecDepth 20000 in
theorem w_1824 : (Cond.code yX12_run cX12_run 1 (some .int)) ∈ lw_tbl := List.mem_of_getElem? (i := 1824) rfl
theorem w_1822 : (Cond.instanceMethod yX12_run) ∈ lw_tbl := List.mem_of_getElem? (i := 1822) (by decide +kernel)
theorem w_1823 : (Cond.selects RX12 yX12_run yX12_run) ∈ lw_tbl := List.mem_of_getElem? (i := 1823) (by decide +kernel)
theorem w_1157 : (Cond.methodLink RL 220 yX11_week) ∈ lw_tbl := List.mem_of_getElem? (i := 1157) (by decide +kernel)
set_option maxRecDepth 20000 in
theorem w_1160 : (Cond.code yX11_week cX11_week 2 (some .int)) ∈ lw_tbl := List.mem_of_getElem? (i := 1160) rfl
theorem w_1158 : (Cond.instanceMethod yX11_week) ∈ lw_tbl := List.mem_of_getElem? (i := 1158) (by decide +kernel)
theorem w_1159 : (Cond.selects RX11 yX11_week yX11_week) ∈ lw_tbl := List.mem_of_getElem? (i := 1159) (by decide +kernel)
theorem w_1845 : (Cond.methodLink RL 223 yX12_week) ∈ lw_tbl := List.mem_of_getElem? (i := 1845) (by decide +kernel)
set_option maxRecDepth 20000 in
theorem w_1848 : (Cond.code yX12_week cX12_week 5 (some .int)) ∈ lw_tbl := List.mem_of_getElem? (i := 1848) rfl
theorem w_1846 : (Cond.instanceMethod yX12_week) ∈ lw_tbl := List.mem_of_getElem? (i := 1846) (by decide +kernel)
theorem w_1847 : (Cond.selects RX12 yX12_week yX12_week) ∈ lw_tbl := List.mem_of_getElem? (i := 1847) (by decide +kernel)
theorem w_1166 : (Cond.methodLink RL 224 yX11_count) ∈ lw_tbl := List.mem_of_getElem? (i := 1166) (by decide +kernel)
set_option maxRecDepth 20000 in
theorem w_1169 : (Cond.code yX11_count cX11_count 2 (some .int)) ∈ lw_tbl := List.mem_of_getElem? (i := 1169) rfl
theorem w_1167 : (Cond.instanceMethod yX11_count) ∈ lw_tbl := List.mem_of_getElem? (i := 1167) (by decide +kernel)
theorem w_1168 : (Cond.selects RX11 yX11_count yX11_count) ∈ lw_tbl := List.mem_of_getElem? (i := 1168) (by decide +kernel)
theorem w_1849 : (Cond.methodLink RL 227 yX12_count) ∈ lw_tbl := List.mem_of_getElem? (i := 1849) (by decide +kernel)
set_option maxRecDepth 20000 in
theorem w_1852 : (Cond.code yX12_count cX12_count 4 (some .int)) ∈ lw_tbl := List.mem_of_getElem? (i := 1852) rfl
theorem w_1850 : (Cond.instanceMethod yX12_count) ∈ lw_tbl := List.mem_of_getElem? (i := 1850) (by decide +kernel)
theorem w_1851 : (Cond.selects RX12 yX12_count yX12_count) ∈ lw_tbl := List.mem_of_getElem? (i := 1851) (by decide +kernel)
theorem w_1462 : (Cond.methodLink RX12 245 yX12_in) ∈ lw_tbl := List.mem_of_getElem? (i := 1462) (by decide +kernel)
set_option maxRecDepth 20000 in
theorem w_1464 : (Cond.code yX12_in cX12_in 6 (some .boolean)) ∈ lw_tbl := List.mem_of_getElem? (i := 1464) rfl
theorem w_1463 : (Cond.static yX12_in) ∈ lw_tbl := List.mem_of_getElem? (i := 1463) (by decide +kernel)
theorem w_1469 : (Cond.methodLink RX12 258 yX12_isPlace) ∈ lw_tbl := List.mem_of_getElem? (i := 1469) (by decide +kernel)
set_option maxRecDepth 20000 in
theorem w_1471 : (Cond.code yX12_isPlace cX12_isPlace 1 (some .boolean)) ∈ lw_tbl := List.mem_of_getElem? (i := 1471) rfl
theorem w_1470 : (Cond.static yX12_isPlace) ∈ lw_tbl := List.mem_of_getElem? (i := 1470) (by decide +kernel)
theorem w_1473 : (Cond.methodLink RX12 262 yX12_isHour) ∈ lw_tbl := List.mem_of_getElem? (i := 1473) (by decide +kernel)
set_option maxRecDepth 20000 in
theorem w_1475 : (Cond.code yX12_isHour cX12_isHour 1 (some .boolean)) ∈ lw_tbl := List.mem_of_getElem? (i := 1475) rfl
theorem w_1474 : (Cond.static yX12_isHour) ∈ lw_tbl := List.mem_of_getElem? (i := 1474) (by decide +kernel)
theorem w_1491 : (Cond.methodLink RX12 271 yX12_by) ∈ lw_tbl := List.mem_of_getElem? (i := 1491) (by decide +kernel)
set_option maxRecDepth 20000 in
theorem w_1494 : (Cond.code yX12_by cX12_by 5 (some .int)) ∈ lw_tbl := List.mem_of_getElem? (i := 1494) rfl
theorem w_1493 : (Cond.instanceMethod yX12_by) ∈ lw_tbl := List.mem_of_getElem? (i := 1493) (by decide +kernel)
theorem w_36 : (Cond.selects RX12 yX12_by yX12_by) ∈ lw_tbl := List.mem_of_getElem? (i := 36) (by decide +kernel)
theorem w_1486 : (Cond.methodLink RX12 275 yX12_arrives) ∈ lw_tbl := List.mem_of_getElem? (i := 1486) (by decide +kernel)
set_option maxRecDepth 20000 in
theorem w_1489 : (Cond.code yX12_arrives cX12_arrives 8 (some .int)) ∈ lw_tbl := List.mem_of_getElem? (i := 1489) rfl
theorem w_1488 : (Cond.instanceMethod yX12_arrives) ∈ lw_tbl := List.mem_of_getElem? (i := 1488) (by decide +kernel)
theorem w_35 : (Cond.selects RX12 yX12_arrives yX12_arrives) ∈ lw_tbl := List.mem_of_getElem? (i := 35) (by decide +kernel)
theorem w_1507 : (Cond.methodLink RX12 290 yX12_isShot) ∈ lw_tbl := List.mem_of_getElem? (i := 1507) (by decide +kernel)
set_option maxRecDepth 20000 in
theorem w_1510 : (Cond.code yX12_isShot cX12_isShot 2 (some .boolean)) ∈ lw_tbl := List.mem_of_getElem? (i := 1510) rfl
theorem w_1509 : (Cond.instanceMethod yX12_isShot) ∈ lw_tbl := List.mem_of_getElem? (i := 1509) (by decide +kernel)
theorem w_37 : (Cond.selects RX12 yX12_isShot yX12_isShot) ∈ lw_tbl := List.mem_of_getElem? (i := 37) (by decide +kernel)
theorem w_1519 : (Cond.methodLink RX12 293 yX12_was) ∈ lw_tbl := List.mem_of_getElem? (i := 1519) (by decide +kernel)
set_option maxRecDepth 20000 in
theorem w_1521 : (Cond.code yX12_was cX12_was 2 (some .boolean)) ∈ lw_tbl := List.mem_of_getElem? (i := 1521) rfl
theorem w_1520 : (Cond.static yX12_was) ∈ lw_tbl := List.mem_of_getElem? (i := 1520) (by decide +kernel)
theorem w_1515 : (Cond.methodLink RX12 297 yX12_whereOf) ∈ lw_tbl := List.mem_of_getElem? (i := 1515) (by decide +kernel)
set_option maxRecDepth 20000 in
theorem w_1518 : (Cond.code yX12_whereOf cX12_whereOf 3 (some .int)) ∈ lw_tbl := List.mem_of_getElem? (i := 1518) rfl
theorem w_1517 : (Cond.instanceMethod yX12_whereOf) ∈ lw_tbl := List.mem_of_getElem? (i := 1517) (by decide +kernel)
theorem w_38 : (Cond.selects RX12 yX12_whereOf yX12_whereOf) ∈ lw_tbl := List.mem_of_getElem? (i := 38) (by decide +kernel)
theorem w_1555 : (Cond.methodLink RX12 303 yX12_canBe) ∈ lw_tbl := List.mem_of_getElem? (i := 1555) (by decide +kernel)
set_option maxRecDepth 20000 in
theorem w_1558 : (Cond.code yX12_canBe cX12_canBe 6 (some .boolean)) ∈ lw_tbl := List.mem_of_getElem? (i := 1558) rfl
theorem w_1557 : (Cond.instanceMethod yX12_canBe) ∈ lw_tbl := List.mem_of_getElem? (i := 1557) (by decide +kernel)
theorem w_40 : (Cond.selects RX12 yX12_canBe yX12_canBe) ∈ lw_tbl := List.mem_of_getElem? (i := 40) (by decide +kernel)
theorem w_1551 : (Cond.methodLink RX12 307 yX12_lieOf) ∈ lw_tbl := List.mem_of_getElem? (i := 1551) (by decide +kernel)
set_option maxRecDepth 20000 in
theorem w_1554 : (Cond.code yX12_lieOf cX12_lieOf 5 (some .int)) ∈ lw_tbl := List.mem_of_getElem? (i := 1554) rfl
theorem w_1553 : (Cond.instanceMethod yX12_lieOf) ∈ lw_tbl := List.mem_of_getElem? (i := 1553) (by decide +kernel)
theorem w_39 : (Cond.selects RX12 yX12_lieOf yX12_lieOf) ∈ lw_tbl := List.mem_of_getElem? (i := 39) (by decide +kernel)
theorem w_1572 : (Cond.methodLink RX12 316 yX12_isStory) ∈ lw_tbl := List.mem_of_getElem? (i := 1572) (by decide +kernel)
set_option maxRecDepth 20000 in
theorem w_1575 : (Cond.code yX12_isStory cX12_isStory 2 (some .boolean)) ∈ lw_tbl := List.mem_of_getElem? (i := 1575) rfl
theorem w_1574 : (Cond.instanceMethod yX12_isStory) ∈ lw_tbl := List.mem_of_getElem? (i := 1574) (by decide +kernel)
theorem w_41 : (Cond.selects RX12 yX12_isStory yX12_isStory) ∈ lw_tbl := List.mem_of_getElem? (i := 41) (by decide +kernel)
theorem w_1592 : (Cond.methodLink RX12 319 yX12_feetOf) ∈ lw_tbl := List.mem_of_getElem? (i := 1592) (by decide +kernel)
set_option maxRecDepth 20000 in
theorem w_1595 : (Cond.code yX12_feetOf cX12_feetOf 4 (some .int)) ∈ lw_tbl := List.mem_of_getElem? (i := 1595) rfl
theorem w_1594 : (Cond.instanceMethod yX12_feetOf) ∈ lw_tbl := List.mem_of_getElem? (i := 1594) (by decide +kernel)
theorem w_42 : (Cond.selects RX12 yX12_feetOf yX12_feetOf) ∈ lw_tbl := List.mem_of_getElem? (i := 42) (by decide +kernel)
theorem w_1596 : (Cond.methodLink RX12 323 yX12_disorderOf) ∈ lw_tbl := List.mem_of_getElem? (i := 1596) (by decide +kernel)
set_option maxRecDepth 20000 in
theorem w_1599 : (Cond.code yX12_disorderOf cX12_disorderOf 5 (some .int)) ∈ lw_tbl := List.mem_of_getElem? (i := 1599) rfl
theorem w_1598 : (Cond.instanceMethod yX12_disorderOf) ∈ lw_tbl := List.mem_of_getElem? (i := 1598) (by decide +kernel)
theorem w_43 : (Cond.selects RX12 yX12_disorderOf yX12_disorderOf) ∈ lw_tbl := List.mem_of_getElem? (i := 43) (by decide +kernel)
theorem w_1600 : (Cond.methodLink RX12 326 yX12_manyOf) ∈ lw_tbl := List.mem_of_getElem? (i := 1600) (by decide +kernel)
set_option maxRecDepth 20000 in
theorem w_1603 : (Cond.code yX12_manyOf cX12_manyOf 7 (some .int)) ∈ lw_tbl := List.mem_of_getElem? (i := 1603) rfl
theorem w_1602 : (Cond.instanceMethod yX12_manyOf) ∈ lw_tbl := List.mem_of_getElem? (i := 1602) (by decide +kernel)
theorem w_44 : (Cond.selects RX12 yX12_manyOf yX12_manyOf) ∈ lw_tbl := List.mem_of_getElem? (i := 44) (by decide +kernel)
theorem w_1604 : (Cond.methodLink RX12 329 yX12_isReady) ∈ lw_tbl := List.mem_of_getElem? (i := 1604) (by decide +kernel)
set_option maxRecDepth 20000 in
theorem w_1607 : (Cond.code yX12_isReady cX12_isReady 4 (some .boolean)) ∈ lw_tbl := List.mem_of_getElem? (i := 1607) rfl
theorem w_1606 : (Cond.instanceMethod yX12_isReady) ∈ lw_tbl := List.mem_of_getElem? (i := 1606) (by decide +kernel)
theorem w_45 : (Cond.selects RX12 yX12_isReady yX12_isReady) ∈ lw_tbl := List.mem_of_getElem? (i := 45) (by decide +kernel)
theorem w_1626 : (Cond.methodLink RX12 339 yX12_isDay) ∈ lw_tbl := List.mem_of_getElem? (i := 1626) (by decide +kernel)
set_option maxRecDepth 20000 in
theorem w_1628 : (Cond.code yX12_isDay cX12_isDay 1 (some .boolean)) ∈ lw_tbl := List.mem_of_getElem? (i := 1628) rfl
theorem w_1627 : (Cond.static yX12_isDay) ∈ lw_tbl := List.mem_of_getElem? (i := 1627) (by decide +kernel)
theorem w_1634 : (Cond.methodLink RX12 342 yX12_isRule) ∈ lw_tbl := List.mem_of_getElem? (i := 1634) (by decide +kernel)
set_option maxRecDepth 20000 in
theorem w_1637 : (Cond.code yX12_isRule cX12_isRule 2 (some .boolean)) ∈ lw_tbl := List.mem_of_getElem? (i := 1637) rfl
theorem w_1636 : (Cond.instanceMethod yX12_isRule) ∈ lw_tbl := List.mem_of_getElem? (i := 1636) (by decide +kernel)
theorem w_46 : (Cond.selects RX12 yX12_isRule yX12_isRule) ∈ lw_tbl := List.mem_of_getElem? (i := 46) (by decide +kernel)
theorem w_1646 : (Cond.methodLink RX12 348 yX12_peek) ∈ lw_tbl := List.mem_of_getElem? (i := 1646) (by decide +kernel)
set_option maxRecDepth 20000 in
theorem w_1649 : (Cond.code yX12_peek cX12_peek 2 (some .int)) ∈ lw_tbl := List.mem_of_getElem? (i := 1649) rfl
theorem w_1648 : (Cond.instanceMethod yX12_peek) ∈ lw_tbl := List.mem_of_getElem? (i := 1648) (by decide +kernel)
theorem w_48 : (Cond.selects RX12 yX12_peek yX12_peek) ∈ lw_tbl := List.mem_of_getElem? (i := 48) (by decide +kernel)
theorem w_1658 : (Cond.methodLink RX12 351 yX12_letterValue) ∈ lw_tbl := List.mem_of_getElem? (i := 1658) (by decide +kernel)
set_option maxRecDepth 20000 in
theorem w_1660 : (Cond.code yX12_letterValue cX12_letterValue 1 (some .int)) ∈ lw_tbl := List.mem_of_getElem? (i := 1660) rfl
theorem w_1659 : (Cond.static yX12_letterValue) ∈ lw_tbl := List.mem_of_getElem? (i := 1659) (by decide +kernel)
theorem w_1669 : (Cond.methodLink RX12 368 yX12_binds) ∈ lw_tbl := List.mem_of_getElem? (i := 1669) (by decide +kernel)
set_option maxRecDepth 20000 in
theorem w_1671 : (Cond.code yX12_binds cX12_binds 1 (some .int)) ∈ lw_tbl := List.mem_of_getElem? (i := 1671) rfl
theorem w_1670 : (Cond.static yX12_binds) ∈ lw_tbl := List.mem_of_getElem? (i := 1670) (by decide +kernel)
theorem w_1650 : (Cond.methodLink RX12 371 yX12_push) ∈ lw_tbl := List.mem_of_getElem? (i := 1650) (by decide +kernel)
set_option maxRecDepth 20000 in
theorem w_1653 : (Cond.code yX12_push cX12_push 2 none) ∈ lw_tbl := List.mem_of_getElem? (i := 1653) rfl
theorem w_1652 : (Cond.instanceMethod yX12_push) ∈ lw_tbl := List.mem_of_getElem? (i := 1652) (by decide +kernel)
theorem w_49 : (Cond.selects RX12 yX12_push yX12_push) ∈ lw_tbl := List.mem_of_getElem? (i := 49) (by decide +kernel)
theorem w_1654 : (Cond.methodLink RX12 375 yX12_takeAsking) ∈ lw_tbl := List.mem_of_getElem? (i := 1654) (by decide +kernel)
set_option maxRecDepth 20000 in
theorem w_1657 : (Cond.code yX12_takeAsking cX12_takeAsking 6 (some .boolean)) ∈ lw_tbl := List.mem_of_getElem? (i := 1657) rfl
theorem w_1656 : (Cond.instanceMethod yX12_takeAsking) ∈ lw_tbl := List.mem_of_getElem? (i := 1656) (by decide +kernel)
theorem w_50 : (Cond.selects RX12 yX12_takeAsking yX12_takeAsking) ∈ lw_tbl := List.mem_of_getElem? (i := 50) (by decide +kernel)
theorem w_1665 : (Cond.methodLink RX12 378 yX12_closeTo) ∈ lw_tbl := List.mem_of_getElem? (i := 1665) (by decide +kernel)
set_option maxRecDepth 20000 in
theorem w_1668 : (Cond.code yX12_closeTo cX12_closeTo 3 none) ∈ lw_tbl := List.mem_of_getElem? (i := 1668) rfl
theorem w_1667 : (Cond.instanceMethod yX12_closeTo) ∈ lw_tbl := List.mem_of_getElem? (i := 1667) (by decide +kernel)
theorem w_51 : (Cond.selects RX12 yX12_closeTo yX12_closeTo) ∈ lw_tbl := List.mem_of_getElem? (i := 51) (by decide +kernel)
theorem w_1642 : (Cond.methodLink RX12 381 yX12_readRule) ∈ lw_tbl := List.mem_of_getElem? (i := 1642) (by decide +kernel)
set_option maxRecDepth 20000 in
theorem w_1645 : (Cond.code yX12_readRule cX12_readRule 5 (some .int)) ∈ lw_tbl := List.mem_of_getElem? (i := 1645) rfl
theorem w_1644 : (Cond.instanceMethod yX12_readRule) ∈ lw_tbl := List.mem_of_getElem? (i := 1644) (by decide +kernel)
theorem w_47 : (Cond.selects RX12 yX12_readRule yX12_readRule) ∈ lw_tbl := List.mem_of_getElem? (i := 47) (by decide +kernel)
theorem w_1684 : (Cond.methodLink RX12 386 yX12_isLand) ∈ lw_tbl := List.mem_of_getElem? (i := 1684) (by decide +kernel)
set_option maxRecDepth 20000 in
theorem w_1686 : (Cond.code yX12_isLand cX12_isLand 1 (some .boolean)) ∈ lw_tbl := List.mem_of_getElem? (i := 1686) rfl
theorem w_1685 : (Cond.static yX12_isLand) ∈ lw_tbl := List.mem_of_getElem? (i := 1685) (by decide +kernel)
theorem w_1680 : (Cond.methodLink RX12 389 yX12_mayAsk) ∈ lw_tbl := List.mem_of_getElem? (i := 1680) (by decide +kernel)
set_option maxRecDepth 20000 in
theorem w_1683 : (Cond.code yX12_mayAsk cX12_mayAsk 4 (some .int)) ∈ lw_tbl := List.mem_of_getElem? (i := 1683) rfl
theorem w_1682 : (Cond.instanceMethod yX12_mayAsk) ∈ lw_tbl := List.mem_of_getElem? (i := 1682) (by decide +kernel)
theorem w_52 : (Cond.selects RX12 yX12_mayAsk yX12_mayAsk) ∈ lw_tbl := List.mem_of_getElem? (i := 52) (by decide +kernel)
theorem w_1688 : (Cond.methodLink RX12 392 yX12_barOf) ∈ lw_tbl := List.mem_of_getElem? (i := 1688) (by decide +kernel)
set_option maxRecDepth 20000 in
theorem w_1691 : (Cond.code yX12_barOf cX12_barOf 6 (some .int)) ∈ lw_tbl := List.mem_of_getElem? (i := 1691) rfl
theorem w_1690 : (Cond.instanceMethod yX12_barOf) ∈ lw_tbl := List.mem_of_getElem? (i := 1690) (by decide +kernel)
theorem w_53 : (Cond.selects RX12 yX12_barOf yX12_barOf) ∈ lw_tbl := List.mem_of_getElem? (i := 53) (by decide +kernel)
theorem w_1713 : (Cond.methodLink RX12 400 yX12_rightTo) ∈ lw_tbl := List.mem_of_getElem? (i := 1713) (by decide +kernel)
set_option maxRecDepth 20000 in
theorem w_1716 : (Cond.code yX12_rightTo cX12_rightTo 5 (some .int)) ∈ lw_tbl := List.mem_of_getElem? (i := 1716) rfl
theorem w_1715 : (Cond.instanceMethod yX12_rightTo) ∈ lw_tbl := List.mem_of_getElem? (i := 1715) (by decide +kernel)
theorem w_55 : (Cond.selects RX12 yX12_rightTo yX12_rightTo) ∈ lw_tbl := List.mem_of_getElem? (i := 55) (by decide +kernel)
theorem w_1709 : (Cond.methodLink RX12 402 yX12_isAllowed) ∈ lw_tbl := List.mem_of_getElem? (i := 1709) (by decide +kernel)
set_option maxRecDepth 20000 in
theorem w_1712 : (Cond.code yX12_isAllowed cX12_isAllowed 5 (some .boolean)) ∈ lw_tbl := List.mem_of_getElem? (i := 1712) rfl
theorem w_1711 : (Cond.instanceMethod yX12_isAllowed) ∈ lw_tbl := List.mem_of_getElem? (i := 1711) (by decide +kernel)
theorem w_54 : (Cond.selects RX12 yX12_isAllowed yX12_isAllowed) ∈ lw_tbl := List.mem_of_getElem? (i := 54) (by decide +kernel)
theorem w_1742 : (Cond.methodLink RX12 410 yX12_layMay) ∈ lw_tbl := List.mem_of_getElem? (i := 1742) (by decide +kernel)
set_option maxRecDepth 20000 in
theorem w_1745 : (Cond.code yX12_layMay cX12_layMay 4 none) ∈ lw_tbl := List.mem_of_getElem? (i := 1745) rfl
theorem w_1744 : (Cond.instanceMethod yX12_layMay) ∈ lw_tbl := List.mem_of_getElem? (i := 1744) (by decide +kernel)
theorem w_58 : (Cond.selects RX12 yX12_layMay yX12_layMay) ∈ lw_tbl := List.mem_of_getElem? (i := 58) (by decide +kernel)
theorem w_1746 : (Cond.methodLink RX12 420 yX12_mayFollow) ∈ lw_tbl := List.mem_of_getElem? (i := 1746) (by decide +kernel)
set_option maxRecDepth 20000 in
theorem w_1749 : (Cond.code yX12_mayFollow cX12_mayFollow 6 (some .boolean)) ∈ lw_tbl := List.mem_of_getElem? (i := 1749) rfl
theorem w_1748 : (Cond.instanceMethod yX12_mayFollow) ∈ lw_tbl := List.mem_of_getElem? (i := 1748) (by decide +kernel)
theorem w_59 : (Cond.selects RX12 yX12_mayFollow yX12_mayFollow) ∈ lw_tbl := List.mem_of_getElem? (i := 59) (by decide +kernel)
theorem w_1750 : (Cond.methodLink RX12 424 yX12_keep) ∈ lw_tbl := List.mem_of_getElem? (i := 1750) (by decide +kernel)
set_option maxRecDepth 20000 in
theorem w_1753 : (Cond.code yX12_keep cX12_keep 6 none) ∈ lw_tbl := List.mem_of_getElem? (i := 1753) rfl
theorem w_1752 : (Cond.instanceMethod yX12_keep) ∈ lw_tbl := List.mem_of_getElem? (i := 1752) (by decide +kernel)
theorem w_60 : (Cond.selects RX12 yX12_keep yX12_keep) ∈ lw_tbl := List.mem_of_getElem? (i := 60) (by decide +kernel)
theorem w_1734 : (Cond.methodLink RX12 428 yX12_mayReel) ∈ lw_tbl := List.mem_of_getElem? (i := 1734) (by decide +kernel)
set_option maxRecDepth 20000 in
theorem w_1737 : (Cond.code yX12_mayReel cX12_mayReel 3 (some .int)) ∈ lw_tbl := List.mem_of_getElem? (i := 1737) rfl
theorem w_1736 : (Cond.instanceMethod yX12_mayReel) ∈ lw_tbl := List.mem_of_getElem? (i := 1736) (by decide +kernel)
theorem w_56 : (Cond.selects RX12 yX12_mayReel yX12_mayReel) ∈ lw_tbl := List.mem_of_getElem? (i := 56) (by decide +kernel)
theorem w_1738 : (Cond.methodLink RX12 431 yX12_layReel) ∈ lw_tbl := List.mem_of_getElem? (i := 1738) (by decide +kernel)
set_option maxRecDepth 20000 in
theorem w_1741 : (Cond.code yX12_layReel cX12_layReel 10 none) ∈ lw_tbl := List.mem_of_getElem? (i := 1741) rfl
theorem w_1740 : (Cond.instanceMethod yX12_layReel) ∈ lw_tbl := List.mem_of_getElem? (i := 1740) (by decide +kernel)
theorem w_57 : (Cond.selects RX12 yX12_layReel yX12_layReel) ∈ lw_tbl := List.mem_of_getElem? (i := 57) (by decide +kernel)
theorem w_1787 : (Cond.methodLink RX12 439 yX12_layOrder) ∈ lw_tbl := List.mem_of_getElem? (i := 1787) (by decide +kernel)
set_option maxRecDepth 20000 in
theorem w_1790 : (Cond.code yX12_layOrder cX12_layOrder 3 none) ∈ lw_tbl := List.mem_of_getElem? (i := 1790) rfl
theorem w_1789 : (Cond.instanceMethod yX12_layOrder) ∈ lw_tbl := List.mem_of_getElem? (i := 1789) (by decide +kernel)
theorem w_63 : (Cond.selects RX12 yX12_layOrder yX12_layOrder) ∈ lw_tbl := List.mem_of_getElem? (i := 63) (by decide +kernel)
theorem w_1791 : (Cond.methodLink RX12 442 yX12_layTimes) ∈ lw_tbl := List.mem_of_getElem? (i := 1791) (by decide +kernel)
set_option maxRecDepth 20000 in
theorem w_1794 : (Cond.code yX12_layTimes cX12_layTimes 7 none) ∈ lw_tbl := List.mem_of_getElem? (i := 1794) rfl
theorem w_1793 : (Cond.instanceMethod yX12_layTimes) ∈ lw_tbl := List.mem_of_getElem? (i := 1793) (by decide +kernel)
theorem w_64 : (Cond.selects RX12 yX12_layTimes yX12_layTimes) ∈ lw_tbl := List.mem_of_getElem? (i := 64) (by decide +kernel)
theorem w_1795 : (Cond.methodLink RX12 445 yX12_canGoTo) ∈ lw_tbl := List.mem_of_getElem? (i := 1795) (by decide +kernel)
set_option maxRecDepth 20000 in
theorem w_1798 : (Cond.code yX12_canGoTo cX12_canGoTo 6 (some .boolean)) ∈ lw_tbl := List.mem_of_getElem? (i := 1798) rfl
theorem w_1797 : (Cond.instanceMethod yX12_canGoTo) ∈ lw_tbl := List.mem_of_getElem? (i := 1797) (by decide +kernel)
theorem w_65 : (Cond.selects RX12 yX12_canGoTo yX12_canGoTo) ∈ lw_tbl := List.mem_of_getElem? (i := 65) (by decide +kernel)
theorem w_1783 : (Cond.methodLink RX12 448 yX12_layCovers) ∈ lw_tbl := List.mem_of_getElem? (i := 1783) (by decide +kernel)
set_option maxRecDepth 20000 in
theorem w_1786 : (Cond.code yX12_layCovers cX12_layCovers 5 none) ∈ lw_tbl := List.mem_of_getElem? (i := 1786) rfl
theorem w_1785 : (Cond.instanceMethod yX12_layCovers) ∈ lw_tbl := List.mem_of_getElem? (i := 1785) (by decide +kernel)
theorem w_62 : (Cond.selects RX12 yX12_layCovers yX12_layCovers) ∈ lw_tbl := List.mem_of_getElem? (i := 62) (by decide +kernel)
theorem w_1799 : (Cond.methodLink RX12 451 yX12_worthOf) ∈ lw_tbl := List.mem_of_getElem? (i := 1799) (by decide +kernel)
set_option maxRecDepth 20000 in
theorem w_1802 : (Cond.code yX12_worthOf cX12_worthOf 4 (some .int)) ∈ lw_tbl := List.mem_of_getElem? (i := 1802) rfl
theorem w_1801 : (Cond.instanceMethod yX12_worthOf) ∈ lw_tbl := List.mem_of_getElem? (i := 1801) (by decide +kernel)
theorem w_66 : (Cond.selects RX12 yX12_worthOf yX12_worthOf) ∈ lw_tbl := List.mem_of_getElem? (i := 66) (by decide +kernel)
theorem w_1779 : (Cond.methodLink RX12 454 yX12_bestCover) ∈ lw_tbl := List.mem_of_getElem? (i := 1779) (by decide +kernel)
set_option maxRecDepth 20000 in
theorem w_1782 : (Cond.code yX12_bestCover cX12_bestCover 3 (some .int)) ∈ lw_tbl := List.mem_of_getElem? (i := 1782) rfl
theorem w_1781 : (Cond.instanceMethod yX12_bestCover) ∈ lw_tbl := List.mem_of_getElem? (i := 1781) (by decide +kernel)
theorem w_61 : (Cond.selects RX12 yX12_bestCover yX12_bestCover) ∈ lw_tbl := List.mem_of_getElem? (i := 61) (by decide +kernel)
theorem w_1833 : (Cond.methodLink RX12 468 yX12_earns) ∈ lw_tbl := List.mem_of_getElem? (i := 1833) (by decide +kernel)
set_option maxRecDepth 20000 in
theorem w_1836 : (Cond.code yX12_earns cX12_earns 3 (some .int)) ∈ lw_tbl := List.mem_of_getElem? (i := 1836) rfl
theorem w_1835 : (Cond.instanceMethod yX12_earns) ∈ lw_tbl := List.mem_of_getElem? (i := 1835) (by decide +kernel)
theorem w_69 : (Cond.selects RX12 yX12_earns yX12_earns) ∈ lw_tbl := List.mem_of_getElem? (i := 69) (by decide +kernel)
theorem w_1837 : (Cond.methodLink RX12 471 yX12_edge) ∈ lw_tbl := List.mem_of_getElem? (i := 1837) (by decide +kernel)
set_option maxRecDepth 20000 in
theorem w_1840 : (Cond.code yX12_edge cX12_edge 5 none) ∈ lw_tbl := List.mem_of_getElem? (i := 1840) rfl
theorem w_1839 : (Cond.instanceMethod yX12_edge) ∈ lw_tbl := List.mem_of_getElem? (i := 1839) (by decide +kernel)
theorem w_70 : (Cond.selects RX12 yX12_edge yX12_edge) ∈ lw_tbl := List.mem_of_getElem? (i := 70) (by decide +kernel)
theorem w_1841 : (Cond.methodLink RX12 474 yX12_layFar) ∈ lw_tbl := List.mem_of_getElem? (i := 1841) (by decide +kernel)
set_option maxRecDepth 20000 in
theorem w_1844 : (Cond.code yX12_layFar cX12_layFar 4 (some .boolean)) ∈ lw_tbl := List.mem_of_getElem? (i := 1844) rfl
theorem w_1843 : (Cond.instanceMethod yX12_layFar) ∈ lw_tbl := List.mem_of_getElem? (i := 1843) (by decide +kernel)
theorem w_71 : (Cond.selects RX12 yX12_layFar yX12_layFar) ∈ lw_tbl := List.mem_of_getElem? (i := 71) (by decide +kernel)
theorem w_1829 : (Cond.methodLink RX12 478 yX12_earnsMost) ∈ lw_tbl := List.mem_of_getElem? (i := 1829) (by decide +kernel)
set_option maxRecDepth 20000 in
theorem w_1832 : (Cond.code yX12_earnsMost cX12_earnsMost 5 (some .int)) ∈ lw_tbl := List.mem_of_getElem? (i := 1832) rfl
theorem w_1831 : (Cond.instanceMethod yX12_earnsMost) ∈ lw_tbl := List.mem_of_getElem? (i := 1831) (by decide +kernel)
theorem w_68 : (Cond.selects RX12 yX12_earnsMost yX12_earnsMost) ∈ lw_tbl := List.mem_of_getElem? (i := 68) (by decide +kernel)
theorem w_1825 : (Cond.methodLink RX12 481 yX12_freeAll) ∈ lw_tbl := List.mem_of_getElem? (i := 1825) (by decide +kernel)
set_option maxRecDepth 20000 in
theorem w_1828 : (Cond.code yX12_freeAll cX12_freeAll 2 (some .int)) ∈ lw_tbl := List.mem_of_getElem? (i := 1828) rfl
theorem w_1827 : (Cond.instanceMethod yX12_freeAll) ∈ lw_tbl := List.mem_of_getElem? (i := 1827) (by decide +kernel)
theorem w_67 : (Cond.selects RX12 yX12_freeAll yX12_freeAll) ∈ lw_tbl := List.mem_of_getElem? (i := 67) (by decide +kernel)
theorem w_99 : (Cond.methodLinkNest RX11 9 yX9_init "NewsreelHouse") ∈ lw_tbl := List.mem_of_getElem? (i := 99) (by decide +kernel)
set_option maxRecDepth 20000 in
theorem w_101 : (Cond.code yX9_init cX9_init 1 none) ∈ lw_tbl := List.mem_of_getElem? (i := 101) rfl
theorem w_100 : (Cond.instanceMethod yX9_init) ∈ lw_tbl := List.mem_of_getElem? (i := 100) (by decide +kernel)
theorem w_118 : (Cond.methodLinkNest RX11 18 yX1_init "NewsreelHouse") ∈ lw_tbl := List.mem_of_getElem? (i := 118) (by decide +kernel)
set_option maxRecDepth 20000 in
theorem w_120 : (Cond.code yX1_init cX1_init 1 none) ∈ lw_tbl := List.mem_of_getElem? (i := 120) rfl
theorem w_119 : (Cond.instanceMethod yX1_init) ∈ lw_tbl := List.mem_of_getElem? (i := 119) (by decide +kernel)
theorem w_140 : (Cond.methodLinkNest RX11 51 yX3_init "NewsreelHouse") ∈ lw_tbl := List.mem_of_getElem? (i := 140) (by decide +kernel)
set_option maxRecDepth 20000 in
theorem w_142 : (Cond.code yX3_init cX3_init 1 none) ∈ lw_tbl := List.mem_of_getElem? (i := 142) rfl
theorem w_141 : (Cond.instanceMethod yX3_init) ∈ lw_tbl := List.mem_of_getElem? (i := 141) (by decide +kernel)
theorem w_180 : (Cond.methodLinkNest RX11 64 yX4_init "NewsreelHouse") ∈ lw_tbl := List.mem_of_getElem? (i := 180) (by decide +kernel)
set_option maxRecDepth 20000 in
theorem w_182 : (Cond.code yX4_init cX4_init 1 none) ∈ lw_tbl := List.mem_of_getElem? (i := 182) rfl
theorem w_181 : (Cond.instanceMethod yX4_init) ∈ lw_tbl := List.mem_of_getElem? (i := 181) (by decide +kernel)
theorem w_228 : (Cond.methodLinkNest RX11 71 yX0_init "NewsreelHouse") ∈ lw_tbl := List.mem_of_getElem? (i := 228) (by decide +kernel)
set_option maxRecDepth 20000 in
theorem w_230 : (Cond.code yX0_init cX0_init 1 none) ∈ lw_tbl := List.mem_of_getElem? (i := 230) rfl
theorem w_229 : (Cond.instanceMethod yX0_init) ∈ lw_tbl := List.mem_of_getElem? (i := 229) (by decide +kernel)
theorem w_278 : (Cond.methodLinkNest RX11 78 yX2_init "NewsreelHouse") ∈ lw_tbl := List.mem_of_getElem? (i := 278) (by decide +kernel)
set_option maxRecDepth 20000 in
theorem w_280 : (Cond.code yX2_init cX2_init 1 none) ∈ lw_tbl := List.mem_of_getElem? (i := 280) rfl
theorem w_279 : (Cond.instanceMethod yX2_init) ∈ lw_tbl := List.mem_of_getElem? (i := 279) (by decide +kernel)
theorem w_1061 : (Cond.methodLinkNest RX0 69 yX11_withMember "NewsreelHouse") ∈ lw_tbl := List.mem_of_getElem? (i := 1061) (by decide +kernel)
theorem w_1077 : (Cond.methodLinkNest RX0 80 yX11_hasMember "NewsreelHouse") ∈ lw_tbl := List.mem_of_getElem? (i := 1077) (by decide +kernel)
theorem w_600 : (Cond.methodLinkNest RX1 21 yX11_dayOf "NewsreelHouse") ∈ lw_tbl := List.mem_of_getElem? (i := 600) (by decide +kernel)
set_option maxRecDepth 20000 in
theorem w_602 : (Cond.code yX11_dayOf cX11_dayOf 1 (some .int)) ∈ lw_tbl := List.mem_of_getElem? (i := 602) rfl
theorem w_601 : (Cond.static yX11_dayOf) ∈ lw_tbl := List.mem_of_getElem? (i := 601) (by decide +kernel)
theorem w_603 : (Cond.methodLinkNest RX1 25 yX11_within "NewsreelHouse") ∈ lw_tbl := List.mem_of_getElem? (i := 603) (by decide +kernel)
theorem w_593 : (Cond.methodLinkNest RX1 29 yX11_hasMember "NewsreelHouse") ∈ lw_tbl := List.mem_of_getElem? (i := 593) (by decide +kernel)
theorem w_1143 : (Cond.methodLinkNest RX2 81 yX11_within "NewsreelHouse") ∈ lw_tbl := List.mem_of_getElem? (i := 1143) (by decide +kernel)
theorem w_1144 : (Cond.methodLinkNest RX2 85 yX11_withMember "NewsreelHouse") ∈ lw_tbl := List.mem_of_getElem? (i := 1144) (by decide +kernel)
theorem w_1153 : (Cond.methodLinkNest RX2 89 yX11_hasMember "NewsreelHouse") ∈ lw_tbl := List.mem_of_getElem? (i := 1153) (by decide +kernel)
theorem w_802 : (Cond.methodLinkNest RX3 104 yX11_within "NewsreelHouse") ∈ lw_tbl := List.mem_of_getElem? (i := 802) (by decide +kernel)
theorem w_936 : (Cond.methodLinkNest RX4 31 yX11_hasMember "NewsreelHouse") ∈ lw_tbl := List.mem_of_getElem? (i := 936) (by decide +kernel)
theorem w_937 : (Cond.methodLinkNest RX4 35 yX11_withMember "NewsreelHouse") ∈ lw_tbl := List.mem_of_getElem? (i := 937) (by decide +kernel)
theorem w_938 : (Cond.methodLinkNest RX4 39 yX11_asNumber "NewsreelHouse") ∈ lw_tbl := List.mem_of_getElem? (i := 938) (by decide +kernel)
theorem w_994 : (Cond.methodLinkNest RX4 77 yX11_within "NewsreelHouse") ∈ lw_tbl := List.mem_of_getElem? (i := 994) (by decide +kernel)
theorem w_918 : (Cond.methodLinkNest RX5 25 yX11_hasMember "NewsreelHouse") ∈ lw_tbl := List.mem_of_getElem? (i := 918) (by decide +kernel)
theorem w_919 : (Cond.methodLinkNest RX5 31 yX11_within "NewsreelHouse") ∈ lw_tbl := List.mem_of_getElem? (i := 919) (by decide +kernel)
theorem w_679 : (Cond.methodLinkNest RX8 33 yX11_within "NewsreelHouse") ∈ lw_tbl := List.mem_of_getElem? (i := 679) (by decide +kernel)
theorem w_703 : (Cond.methodLinkNest RX8 44 yX11_dayOf "NewsreelHouse") ∈ lw_tbl := List.mem_of_getElem? (i := 703) (by decide +kernel)
theorem w_432 : (Cond.methodLinkNest RX9 29 yX11_within "NewsreelHouse") ∈ lw_tbl := List.mem_of_getElem? (i := 432) (by decide +kernel)
theorem w_838 : (Jvm.Cond.constant RX11 279 (Int32.ofInt (1000000))) ∈ lw_tbl := List.mem_of_getElem? (i := 838) (by decide +kernel)
theorem w_750 : (Jvm.Cond.constant RX6 9 (Int32.ofInt (1000000))) ∈ lw_tbl := List.mem_of_getElem? (i := 750) (by decide +kernel)
theorem w_476 : (Jvm.Cond.constant RX7 9 (Int32.ofInt (1000000))) ∈ lw_tbl := List.mem_of_getElem? (i := 476) (by decide +kernel)
theorem w_445 : (Jvm.Cond.constant RX9 33 (Int32.ofInt (1000000))) ∈ lw_tbl := List.mem_of_getElem? (i := 445) (by decide +kernel)
theorem w_457 : (Jvm.Cond.constant RX10 38 (Int32.ofInt (1000000))) ∈ lw_tbl := List.mem_of_getElem? (i := 457) (by decide +kernel)
theorem w_1490 : (Jvm.Cond.constant RX12 270 (Int32.ofInt (1000000))) ∈ lw_tbl := List.mem_of_getElem? (i := 1490) (by decide +kernel)
theorem w_1076 : (Jvm.Cond.constant RJ6 264 (Int32.ofInt (65536))) ∈ lw_tbl := List.mem_of_getElem? (i := 1076) (by decide +kernel)
theorem w_983 : (Jvm.Cond.constant RJ6 265 (Int32.ofInt (1431655765))) ∈ lw_tbl := List.mem_of_getElem? (i := 983) (by decide +kernel)
theorem w_984 : (Jvm.Cond.constant RJ6 266 (Int32.ofInt (858993459))) ∈ lw_tbl := List.mem_of_getElem? (i := 984) (by decide +kernel)
theorem w_985 : (Jvm.Cond.constant RJ6 267 (Int32.ofInt (252645135))) ∈ lw_tbl := List.mem_of_getElem? (i := 985) (by decide +kernel)
theorem w_1140 : (Jvm.Cond.constantLong RX2 46 (Int64.ofInt (100000000))) ∈ lw_tbl := List.mem_of_getElem? (i := 1140) (by decide +kernel)
theorem w_1165 : (Jvm.Cond.constantLong RX2 48 (Int64.ofInt (10))) ∈ lw_tbl := List.mem_of_getElem? (i := 1165) (by decide +kernel)
theorem w_1015 : (Jvm.Cond.constantLong RX4 81 (Int64.ofInt (15))) ∈ lw_tbl := List.mem_of_getElem? (i := 1015) (by decide +kernel)
theorem w_782 : (Jvm.Cond.constantLong RX6 30 (Int64.ofInt (255))) ∈ lw_tbl := List.mem_of_getElem? (i := 782) (by decide +kernel)
theorem w_1853 : (Jvm.Cond.constantLong RL 121 (Int64.ofInt (4294967295))) ∈ lw_tbl := List.mem_of_getElem? (i := 1853) (by decide +kernel)
theorem w_1476 : (Jvm.Cond.constantLong RX12 243 (Int64.ofInt (9999))) ∈ lw_tbl := List.mem_of_getElem? (i := 1476) (by decide +kernel)
theorem w_1629 : (Jvm.Cond.constantLong RX12 249 (Int64.ofInt (416))) ∈ lw_tbl := List.mem_of_getElem? (i := 1629) (by decide +kernel)
theorem w_1472 : (Jvm.Cond.constantLong RX12 251 (Int64.ofInt (7))) ∈ lw_tbl := List.mem_of_getElem? (i := 1472) (by decide +kernel)
theorem w_1461 : (Jvm.Cond.constantLong RX12 253 (Int64.ofInt (500))) ∈ lw_tbl := List.mem_of_getElem? (i := 1461) (by decide +kernel)
theorem w_1477 : (Jvm.Cond.constantLong RX12 265 (Int64.ofInt (200))) ∈ lw_tbl := List.mem_of_getElem? (i := 1477) (by decide +kernel)
theorem w_1499 : (Jvm.Cond.constantLong RX12 282 (Int64.ofInt (900))) ∈ lw_tbl := List.mem_of_getElem? (i := 1499) (by decide +kernel)
theorem w_1500 : (Jvm.Cond.constantLong RX12 284 (Int64.ofInt (15))) ∈ lw_tbl := List.mem_of_getElem? (i := 1500) (by decide +kernel)
theorem w_1501 : (Jvm.Cond.constantLong RX12 286 (Int64.ofInt (255))) ∈ lw_tbl := List.mem_of_getElem? (i := 1501) (by decide +kernel)
theorem w_1502 : (Jvm.Cond.constantLong RX12 288 (Int64.ofInt (2))) ∈ lw_tbl := List.mem_of_getElem? (i := 1502) (by decide +kernel)
theorem w_1546 : (Jvm.Cond.constantLong RX12 301 (Int64.ofInt (364))) ∈ lw_tbl := List.mem_of_getElem? (i := 1546) (by decide +kernel)
theorem w_1567 : (Jvm.Cond.constantLong RX12 314 (Int64.ofInt (999))) ∈ lw_tbl := List.mem_of_getElem? (i := 1567) (by decide +kernel)
theorem w_1612 : (Jvm.Cond.constantLong RX12 332 (Int64.ofInt (400))) ∈ lw_tbl := List.mem_of_getElem? (i := 1612) (by decide +kernel)
theorem w_1621 : (Jvm.Cond.constantLong RX12 334 (Int64.ofInt (99))) ∈ lw_tbl := List.mem_of_getElem? (i := 1621) (by decide +kernel)
theorem w_1661 : (Jvm.Cond.constantLong RX12 354 (Int64.ofInt (60))) ∈ lw_tbl := List.mem_of_getElem? (i := 1661) (by decide +kernel)
theorem w_1662 : (Jvm.Cond.constantLong RX12 356 (Int64.ofInt (62))) ∈ lw_tbl := List.mem_of_getElem? (i := 1662) (by decide +kernel)
theorem w_1663 : (Jvm.Cond.constantLong RX12 358 (Int64.ofInt (48))) ∈ lw_tbl := List.mem_of_getElem? (i := 1663) (by decide +kernel)
theorem w_1664 : (Jvm.Cond.constantLong RX12 360 (Int64.ofInt (57))) ∈ lw_tbl := List.mem_of_getElem? (i := 1664) (by decide +kernel)
theorem w_1687 : (Jvm.Cond.constantLong RX12 384 (Int64.ofInt (4))) ∈ lw_tbl := List.mem_of_getElem? (i := 1687) (by decide +kernel)
theorem w_1700 : (Jvm.Cond.constantLong RX12 395 (Int64.ofInt (31))) ∈ lw_tbl := List.mem_of_getElem? (i := 1700) (by decide +kernel)
theorem w_1721 : (Jvm.Cond.constantLong RX12 405 (Int64.ofInt (3000))) ∈ lw_tbl := List.mem_of_getElem? (i := 1721) (by decide +kernel)
theorem w_1770 : (Jvm.Cond.constantLong RX12 434 (Int64.ofInt (3))) ∈ lw_tbl := List.mem_of_getElem? (i := 1770) (by decide +kernel)
theorem w_1811 : (Jvm.Cond.constantLong RX12 458 (Int64.ofInt (8))) ∈ lw_tbl := List.mem_of_getElem? (i := 1811) (by decide +kernel)
theorem w_1816 : (Jvm.Cond.constantLong RX12 463 (Int64.ofInt (100))) ∈ lw_tbl := List.mem_of_getElem? (i := 1816) (by decide +kernel)
theorem w_97 : (Cond.classLink RX11 7 RX9) ∈ lw_tbl := List.mem_of_getElem? (i := 97) (by decide +kernel)
theorem w_116 : (Cond.classLink RX11 16 RX1) ∈ lw_tbl := List.mem_of_getElem? (i := 116) (by decide +kernel)
theorem w_132 : (Cond.classLink RX11 23 RX7) ∈ lw_tbl := List.mem_of_getElem? (i := 132) (by decide +kernel)
theorem w_134 : (Cond.classLink RX11 29 RX8) ∈ lw_tbl := List.mem_of_getElem? (i := 134) (by decide +kernel)
theorem w_136 : (Cond.classLink RX11 43 RX6) ∈ lw_tbl := List.mem_of_getElem? (i := 136) (by decide +kernel)
theorem w_138 : (Cond.classLink RX11 49 RX3) ∈ lw_tbl := List.mem_of_getElem? (i := 138) (by decide +kernel)
theorem w_176 : (Cond.classLink RX11 56 RX5) ∈ lw_tbl := List.mem_of_getElem? (i := 176) (by decide +kernel)
theorem w_178 : (Cond.classLink RX11 62 RX4) ∈ lw_tbl := List.mem_of_getElem? (i := 178) (by decide +kernel)
theorem w_226 : (Cond.classLink RX11 69 RX0) ∈ lw_tbl := List.mem_of_getElem? (i := 226) (by decide +kernel)
theorem w_276 : (Cond.classLink RX11 76 RX2) ∈ lw_tbl := List.mem_of_getElem? (i := 276) (by decide +kernel)
theorem w_388 : (Cond.classLink RX11 101 RX10) ∈ lw_tbl := List.mem_of_getElem? (i := 388) (by decide +kernel)
theorem w_621 : (Cond.classLink RX8 9 RX7) ∈ lw_tbl := List.mem_of_getElem? (i := 621) (by decide +kernel)
theorem w_103 : (Cond.classLink RX9 9 RX10) ∈ lw_tbl := List.mem_of_getElem? (i := 103) (by decide +kernel)
theorem w_89 : (Cond.classLink RL 7 RX11) ∈ lw_tbl := List.mem_of_getElem? (i := 89) (by decide +kernel)
theorem w_1174 : (Cond.classLink RL 10 RX12) ∈ lw_tbl := List.mem_of_getElem? (i := 1174) (by decide +kernel)
theorem w_90 : (Cond.instantiable RX11 18) ∈ lw_tbl := List.mem_of_getElem? (i := 90) (by decide +kernel)
theorem w_227 : (Cond.instantiable RX0 13) ∈ lw_tbl := List.mem_of_getElem? (i := 227) (by decide +kernel)
theorem w_117 : (Cond.instantiable RX1 3) ∈ lw_tbl := List.mem_of_getElem? (i := 117) (by decide +kernel)
theorem w_277 : (Cond.instantiable RX2 9) ∈ lw_tbl := List.mem_of_getElem? (i := 277) (by decide +kernel)
theorem w_139 : (Cond.instantiable RX3 10) ∈ lw_tbl := List.mem_of_getElem? (i := 139) (by decide +kernel)
theorem w_179 : (Cond.instantiable RX4 13) ∈ lw_tbl := List.mem_of_getElem? (i := 179) (by decide +kernel)
theorem w_876 : (Cond.instantiable RX5 5) ∈ lw_tbl := List.mem_of_getElem? (i := 876) (by decide +kernel)
theorem w_745 : (Cond.instantiable RX6 4) ∈ lw_tbl := List.mem_of_getElem? (i := 745) (by decide +kernel)
theorem w_471 : (Cond.instantiable RX7 13) ∈ lw_tbl := List.mem_of_getElem? (i := 471) (by decide +kernel)
theorem w_616 : (Cond.instantiable RX8 8) ∈ lw_tbl := List.mem_of_getElem? (i := 616) (by decide +kernel)
theorem w_98 : (Cond.instantiable RX9 3) ∈ lw_tbl := List.mem_of_getElem? (i := 98) (by decide +kernel)
theorem w_389 : (Cond.instantiable RX10 7) ∈ lw_tbl := List.mem_of_getElem? (i := 389) (by decide +kernel)
theorem w_1175 : (Cond.instantiable RX12 92) ∈ lw_tbl := List.mem_of_getElem? (i := 1175) (by decide +kernel)
theorem w_72 : (Cond.initialized RL) ∈ lw_tbl := List.mem_of_getElem? (i := 72) (by decide +kernel)
theorem w_94 : (Cond.methodLink RX11 1 Lib.objectInit) ∈ lw_tbl := List.mem_of_getElem? (i := 94) (by decide +kernel)
theorem w_231 : (Cond.methodLink RX0 3 Lib.objectInit) ∈ lw_tbl := List.mem_of_getElem? (i := 231) (by decide +kernel)
theorem w_121 : (Cond.methodLink RX1 3 Lib.objectInit) ∈ lw_tbl := List.mem_of_getElem? (i := 121) (by decide +kernel)
theorem w_281 : (Cond.methodLink RX2 3 Lib.objectInit) ∈ lw_tbl := List.mem_of_getElem? (i := 281) (by decide +kernel)
theorem w_143 : (Cond.methodLink RX3 3 Lib.objectInit) ∈ lw_tbl := List.mem_of_getElem? (i := 143) (by decide +kernel)
theorem w_183 : (Cond.methodLink RX4 3 Lib.objectInit) ∈ lw_tbl := List.mem_of_getElem? (i := 183) (by decide +kernel)
theorem w_880 : (Cond.methodLink RX5 1 Lib.objectInit) ∈ lw_tbl := List.mem_of_getElem? (i := 880) (by decide +kernel)
theorem w_749 : (Cond.methodLink RX6 3 Lib.objectInit) ∈ lw_tbl := List.mem_of_getElem? (i := 749) (by decide +kernel)
theorem w_475 : (Cond.methodLink RX7 3 Lib.objectInit) ∈ lw_tbl := List.mem_of_getElem? (i := 475) (by decide +kernel)
theorem w_620 : (Cond.methodLink RX8 3 Lib.objectInit) ∈ lw_tbl := List.mem_of_getElem? (i := 620) (by decide +kernel)
theorem w_102 : (Cond.methodLink RX9 3 Lib.objectInit) ∈ lw_tbl := List.mem_of_getElem? (i := 102) (by decide +kernel)
theorem w_393 : (Cond.methodLink RX10 3 Lib.objectInit) ∈ lw_tbl := List.mem_of_getElem? (i := 393) (by decide +kernel)
theorem w_1179 : (Cond.methodLink RX12 1 Lib.objectInit) ∈ lw_tbl := List.mem_of_getElem? (i := 1179) (by decide +kernel)
theorem w_95 : (Cond.instanceMethod Lib.objectInit) ∈ lw_tbl := List.mem_of_getElem? (i := 95) (by decide +kernel)
theorem w_96 : (Cond.code Lib.objectInit ⟨#[0xb1]⟩ 1 none) ∈ lw_tbl := List.mem_of_getElem? (i := 96) (by decide +kernel)
theorem w_115 : (Cond.arrayClass .int) ∈ lw_tbl := List.mem_of_getElem? (i := 115) (by decide +kernel)
theorem w_175 : (Cond.arrayClass .boolean) ∈ lw_tbl := List.mem_of_getElem? (i := 175) (by decide +kernel)
theorem w_311 : (Cond.arrayClass .long) ∈ lw_tbl := List.mem_of_getElem? (i := 311) (by decide +kernel)
