theorem ul0 : u_ws RX0 TX0 13 = [249, 251, 253, 255, 257, 259, 261, 263, 265, 267, 269, 271, 273].filterMap (fun i => lw_tbl[i]?) := by decide +kernel
theorem uw0 : ∀ w ∈ u_ws RX0 TX0 13, w ∈ lw_u := by
  intro w hw
  have h1 : w ∈ lw_tbl := by
    rw [ul0] at hw
    obtain ⟨i, -, hi⟩ := List.mem_filterMap.mp hw
    exact List.mem_of_getElem? hi
  obtain ⟨j, -, hj⟩ := List.mem_map.mp hw
  refine lw_ug h1 ?_
  rw [← hj]
  unfold u_lay
  split <;> rfl
theorem ul1 : u_ws RX1 TX1 3 = [125, 127, 129].filterMap (fun i => lw_tbl[i]?) := by decide +kernel
theorem uw1 : ∀ w ∈ u_ws RX1 TX1 3, w ∈ lw_u := by
  intro w hw
  have h1 : w ∈ lw_tbl := by
    rw [ul1] at hw
    obtain ⟨i, -, hi⟩ := List.mem_filterMap.mp hw
    exact List.mem_of_getElem? hi
  obtain ⟨j, -, hj⟩ := List.mem_map.mp hw
  refine lw_ug h1 ?_
  rw [← hj]
  unfold u_lay
  split <;> rfl
theorem ul2 : u_ws RX2 TX2 9 = [292, 294, 296, 298, 300, 302, 304, 306, 308].filterMap (fun i => lw_tbl[i]?) := by decide +kernel
theorem uw2 : ∀ w ∈ u_ws RX2 TX2 9, w ∈ lw_u := by
  intro w hw
  have h1 : w ∈ lw_tbl := by
    rw [ul2] at hw
    obtain ⟨i, -, hi⟩ := List.mem_filterMap.mp hw
    exact List.mem_of_getElem? hi
  obtain ⟨j, -, hj⟩ := List.mem_map.mp hw
  refine lw_ug h1 ?_
  rw [← hj]
  unfold u_lay
  split <;> rfl
theorem ul3 : u_ws RX3 TX3 10 = [154, 156, 158, 160, 162, 164, 166, 168, 170, 172].filterMap (fun i => lw_tbl[i]?) := by decide +kernel
theorem uw3 : ∀ w ∈ u_ws RX3 TX3 10, w ∈ lw_u := by
  intro w hw
  have h1 : w ∈ lw_tbl := by
    rw [ul3] at hw
    obtain ⟨i, -, hi⟩ := List.mem_filterMap.mp hw
    exact List.mem_of_getElem? hi
  obtain ⟨j, -, hj⟩ := List.mem_map.mp hw
  refine lw_ug h1 ?_
  rw [← hj]
  unfold u_lay
  split <;> rfl
theorem ul4 : u_ws RX4 TX4 13 = [199, 201, 203, 205, 207, 209, 211, 213, 215, 217, 219, 221, 223].filterMap (fun i => lw_tbl[i]?) := by decide +kernel
theorem uw4 : ∀ w ∈ u_ws RX4 TX4 13, w ∈ lw_u := by
  intro w hw
  have h1 : w ∈ lw_tbl := by
    rw [ul4] at hw
    obtain ⟨i, -, hi⟩ := List.mem_filterMap.mp hw
    exact List.mem_of_getElem? hi
  obtain ⟨j, -, hj⟩ := List.mem_map.mp hw
  refine lw_ug h1 ?_
  rw [← hj]
  unfold u_lay
  split <;> rfl
theorem ul5 : u_ws RX5 TX5 5 = [887, 889, 891, 893, 895].filterMap (fun i => lw_tbl[i]?) := by decide +kernel
theorem uw5 : ∀ w ∈ u_ws RX5 TX5 5, w ∈ lw_u := by
  intro w hw
  have h1 : w ∈ lw_tbl := by
    rw [ul5] at hw
    obtain ⟨i, -, hi⟩ := List.mem_filterMap.mp hw
    exact List.mem_of_getElem? hi
  obtain ⟨j, -, hj⟩ := List.mem_map.mp hw
  refine lw_ug h1 ?_
  rw [← hj]
  unfold u_lay
  split <;> rfl
theorem ul6 : u_ws RX6 TX6 4 = [758, 760, 762, 764].filterMap (fun i => lw_tbl[i]?) := by decide +kernel
theorem uw6 : ∀ w ∈ u_ws RX6 TX6 4, w ∈ lw_u := by
  intro w hw
  have h1 : w ∈ lw_tbl := by
    rw [ul6] at hw
    obtain ⟨i, -, hi⟩ := List.mem_filterMap.mp hw
    exact List.mem_of_getElem? hi
  obtain ⟨j, -, hj⟩ := List.mem_map.mp hw
  refine lw_ug h1 ?_
  rw [← hj]
  unfold u_lay
  split <;> rfl
theorem ul7 : u_ws RX7 TX7 13 = [507, 509, 511, 513, 515, 517, 519, 521, 523, 525, 527, 529, 531].filterMap (fun i => lw_tbl[i]?) := by decide +kernel
theorem uw7 : ∀ w ∈ u_ws RX7 TX7 13, w ∈ lw_u := by
  intro w hw
  have h1 : w ∈ lw_tbl := by
    rw [ul7] at hw
    obtain ⟨i, -, hi⟩ := List.mem_filterMap.mp hw
    exact List.mem_of_getElem? hi
  obtain ⟨j, -, hj⟩ := List.mem_map.mp hw
  refine lw_ug h1 ?_
  rw [← hj]
  unfold u_lay
  split <;> rfl
theorem ul8 : u_ws RX8 TX8 8 = [638, 640, 642, 644, 646, 648, 650, 652].filterMap (fun i => lw_tbl[i]?) := by decide +kernel
theorem uw8 : ∀ w ∈ u_ws RX8 TX8 8, w ∈ lw_u := by
  intro w hw
  have h1 : w ∈ lw_tbl := by
    rw [ul8] at hw
    obtain ⟨i, -, hi⟩ := List.mem_filterMap.mp hw
    exact List.mem_of_getElem? hi
  obtain ⟨j, -, hj⟩ := List.mem_map.mp hw
  refine lw_ug h1 ?_
  rw [← hj]
  unfold u_lay
  split <;> rfl
theorem ul9 : u_ws RX9 TX9 3 = [108, 110, 112].filterMap (fun i => lw_tbl[i]?) := by decide +kernel
theorem uw9 : ∀ w ∈ u_ws RX9 TX9 3, w ∈ lw_u := by
  intro w hw
  have h1 : w ∈ lw_tbl := by
    rw [ul9] at hw
    obtain ⟨i, -, hi⟩ := List.mem_filterMap.mp hw
    exact List.mem_of_getElem? hi
  obtain ⟨j, -, hj⟩ := List.mem_map.mp hw
  refine lw_ug h1 ?_
  rw [← hj]
  unfold u_lay
  split <;> rfl
theorem ul10 : u_ws RX10 TX10 7 = [404, 406, 408, 410, 412, 414, 416].filterMap (fun i => lw_tbl[i]?) := by decide +kernel
theorem uw10 : ∀ w ∈ u_ws RX10 TX10 7, w ∈ lw_u := by
  intro w hw
  have h1 : w ∈ lw_tbl := by
    rw [ul10] at hw
    obtain ⟨i, -, hi⟩ := List.mem_filterMap.mp hw
    exact List.mem_of_getElem? hi
  obtain ⟨j, -, hj⟩ := List.mem_map.mp hw
  refine lw_ug h1 ?_
  rw [← hj]
  unfold u_lay
  split <;> rfl
theorem ul11 : u_ws RX11 TX11 18 = [330, 332, 334, 336, 338, 340, 342, 344, 346, 348, 350, 352, 354, 356, 358, 360, 362, 364].filterMap (fun i => lw_tbl[i]?) := by decide +kernel
theorem uw11 : ∀ w ∈ u_ws RX11 TX11 18, w ∈ lw_u := by
  intro w hw
  have h1 : w ∈ lw_tbl := by
    rw [ul11] at hw
    obtain ⟨i, -, hi⟩ := List.mem_filterMap.mp hw
    exact List.mem_of_getElem? hi
  obtain ⟨j, -, hj⟩ := List.mem_map.mp hw
  refine lw_ug h1 ?_
  rw [← hj]
  unfold u_lay
  split <;> rfl
theorem ul12 : u_ws RX12 TX12 92 = [1272, 1274, 1276, 1278, 1280, 1282, 1284, 1286, 1288, 1290, 1292, 1294, 1296, 1298, 1300, 1302, 1304, 1306, 1308, 1310, 1312, 1314, 1316, 1318, 1320, 1322, 1324, 1326, 1328, 1330, 1332, 1334, 1336, 1338, 1340, 1342, 1344, 1346, 1348, 1350, 1352, 1354, 1356, 1358, 1360, 1362, 1364, 1366, 1368, 1370, 1372, 1374, 1376, 1378, 1380, 1382, 1384, 1386, 1388, 1390, 1392, 1394, 1396, 1398, 1400, 1402, 1404, 1406, 1408, 1410, 1412, 1414, 1416, 1418, 1420, 1422, 1424, 1426, 1428, 1430, 1432, 1434, 1436, 1438, 1440, 1442, 1444, 1446, 1448, 1450, 1452, 1454].filterMap (fun i => lw_tbl[i]?) := by decide +kernel
theorem uw12 : ∀ w ∈ u_ws RX12 TX12 92, w ∈ lw_u := by
  intro w hw
  have h1 : w ∈ lw_tbl := by
    rw [ul12] at hw
    obtain ⟨i, -, hi⟩ := List.mem_filterMap.mp hw
    exact List.mem_of_getElem? hi
  obtain ⟨j, -, hj⟩ := List.mem_map.mp hw
  refine lw_ug h1 ?_
  rw [← hj]
  unfold u_lay
  split <;> rfl
theorem lf_X11_10 : LkF RX11 10 11 1 := ⟨RX11, TX11, 18, rfl, by decide, uw11, rfl, (Or.inl (lw_ug (List.mem_of_getElem? (i := 313) (by decide +kernel)) rfl))⟩
theorem lf_X11_19 : LkF RX11 19 11 2 := ⟨RX11, TX11, 18, rfl, by decide, uw11, rfl, (Or.inl (lw_ug (List.mem_of_getElem? (i := 314) (by decide +kernel)) rfl))⟩
theorem lf_X11_25 : LkF RX11 25 11 3 := ⟨RX11, TX11, 18, rfl, by decide, uw11, rfl, (Or.inl (lw_ug (List.mem_of_getElem? (i := 315) (by decide +kernel)) rfl))⟩
theorem lf_X11_31 : LkF RX11 31 11 5 := ⟨RX11, TX11, 18, rfl, by decide, uw11, rfl, (Or.inl (lw_ug (List.mem_of_getElem? (i := 317) (by decide +kernel)) rfl))⟩
theorem lf_X11_35 : LkF RX11 35 11 7 := ⟨RX11, TX11, 18, rfl, by decide, uw11, rfl, (Or.inl (lw_ug (List.mem_of_getElem? (i := 319) (by decide +kernel)) rfl))⟩
theorem lp_X11_35 : LkP RX11 35 11 7 0 := ⟨RX11, TX11, 18, tyX11, rfl, by decide, uw11, rfl, (Or.inl (lw_ug (List.mem_of_getElem? (i := 319) (by decide +kernel)) rfl)), tyX11_ok, nmX11, rfl, Or.inl ⟨rfl, rfl⟩⟩
theorem lf_X11_39 : LkF RX11 39 11 8 := ⟨RX11, TX11, 18, rfl, by decide, uw11, rfl, (Or.inl (lw_ug (List.mem_of_getElem? (i := 320) (by decide +kernel)) rfl))⟩
theorem lf_X11_45 : LkF RX11 45 11 9 := ⟨RX11, TX11, 18, rfl, by decide, uw11, rfl, (Or.inl (lw_ug (List.mem_of_getElem? (i := 321) (by decide +kernel)) rfl))⟩
theorem lf_X11_52 : LkF RX11 52 11 11 := ⟨RX11, TX11, 18, rfl, by decide, uw11, rfl, (Or.inl (lw_ug (List.mem_of_getElem? (i := 323) (by decide +kernel)) rfl))⟩
theorem lf_X11_58 : LkF RX11 58 11 13 := ⟨RX11, TX11, 18, rfl, by decide, uw11, rfl, (Or.inl (lw_ug (List.mem_of_getElem? (i := 325) (by decide +kernel)) rfl))⟩
theorem lf_X11_65 : LkF RX11 65 11 15 := ⟨RX11, TX11, 18, rfl, by decide, uw11, rfl, (Or.inl (lw_ug (List.mem_of_getElem? (i := 327) (by decide +kernel)) rfl))⟩
theorem lf_X11_72 : LkF RX11 72 11 16 := ⟨RX11, TX11, 18, rfl, by decide, uw11, rfl, (Or.inl (lw_ug (List.mem_of_getElem? (i := 328) (by decide +kernel)) rfl))⟩
theorem lf_X11_79 : LkF RX11 79 11 17 := ⟨RX11, TX11, 18, rfl, by decide, uw11, rfl, (Or.inl (lw_ug (List.mem_of_getElem? (i := 329) (by decide +kernel)) rfl))⟩
theorem lf_X11_87 : LkF RX11 87 11 0 := ⟨RX11, TX11, 18, rfl, by decide, uw11, rfl, (Or.inl (lw_ug (List.mem_of_getElem? (i := 312) (by decide +kernel)) rfl))⟩
theorem lp_X11_87 : LkP RX11 87 11 0 0 := ⟨RX11, TX11, 18, tyX11, rfl, by decide, uw11, rfl, (Or.inl (lw_ug (List.mem_of_getElem? (i := 312) (by decide +kernel)) rfl)), tyX11_ok, nmX11, rfl, Or.inl ⟨rfl, rfl⟩⟩
theorem lf_X11_114 : LkF RX11 114 10 6 := ⟨RX10, TX10, 7, rfl, by decide, uw10, rfl, (Or.inl (lw_ug (List.mem_of_getElem? (i := 403) (by decide +kernel)) rfl))⟩
theorem lp_X11_114 : LkP RX11 114 10 6 1 := ⟨RX10, TX10, 7, tyX10, rfl, by decide, uw10, rfl, (Or.inl (lw_ug (List.mem_of_getElem? (i := 403) (by decide +kernel)) rfl)), tyX10_ok, nmX10, rfl, Or.inr ⟨rfl, rfl⟩⟩
theorem lf_X11_131 : LkF RX11 131 11 4 := ⟨RX11, TX11, 18, rfl, by decide, uw11, rfl, (Or.inl (lw_ug (List.mem_of_getElem? (i := 316) (by decide +kernel)) rfl))⟩
theorem lp_X11_131 : LkP RX11 131 11 4 0 := ⟨RX11, TX11, 18, tyX11, rfl, by decide, uw11, rfl, (Or.inl (lw_ug (List.mem_of_getElem? (i := 316) (by decide +kernel)) rfl)), tyX11_ok, nmX11, rfl, Or.inl ⟨rfl, rfl⟩⟩
theorem lf_X11_141 : LkF RX11 141 7 0 := ⟨RX7, TX7, 13, rfl, by decide, uw7, rfl, (Or.inl (lw_ug (List.mem_of_getElem? (i := 479) (by decide +kernel)) rfl))⟩
theorem lf_X11_148 : LkF RX11 148 7 1 := ⟨RX7, TX7, 13, rfl, by decide, uw7, rfl, (Or.inl (lw_ug (List.mem_of_getElem? (i := 481) (by decide +kernel)) rfl))⟩
theorem lf_X11_151 : LkF RX11 151 7 2 := ⟨RX7, TX7, 13, rfl, by decide, uw7, rfl, (Or.inl (lw_ug (List.mem_of_getElem? (i := 484) (by decide +kernel)) rfl))⟩
theorem lf_X11_154 : LkF RX11 154 7 3 := ⟨RX7, TX7, 13, rfl, by decide, uw7, rfl, (Or.inl (lw_ug (List.mem_of_getElem? (i := 487) (by decide +kernel)) rfl))⟩
theorem lf_X11_157 : LkF RX11 157 7 4 := ⟨RX7, TX7, 13, rfl, by decide, uw7, rfl, (Or.inl (lw_ug (List.mem_of_getElem? (i := 489) (by decide +kernel)) rfl))⟩
theorem lf_X11_160 : LkF RX11 160 7 5 := ⟨RX7, TX7, 13, rfl, by decide, uw7, rfl, (Or.inl (lw_ug (List.mem_of_getElem? (i := 491) (by decide +kernel)) rfl))⟩
theorem lf_X11_163 : LkF RX11 163 7 6 := ⟨RX7, TX7, 13, rfl, by decide, uw7, rfl, (Or.inl (lw_ug (List.mem_of_getElem? (i := 494) (by decide +kernel)) rfl))⟩
theorem lf_X11_200 : LkF RX11 200 11 6 := ⟨RX11, TX11, 18, rfl, by decide, uw11, rfl, (Or.inl (lw_ug (List.mem_of_getElem? (i := 318) (by decide +kernel)) rfl))⟩
theorem lp_X11_200 : LkP RX11 200 11 6 0 := ⟨RX11, TX11, 18, tyX11, rfl, by decide, uw11, rfl, (Or.inl (lw_ug (List.mem_of_getElem? (i := 318) (by decide +kernel)) rfl)), tyX11_ok, nmX11, rfl, Or.inl ⟨rfl, rfl⟩⟩
theorem lf_X11_260 : LkF RX11 260 11 10 := ⟨RX11, TX11, 18, rfl, by decide, uw11, rfl, (Or.inl (lw_ug (List.mem_of_getElem? (i := 322) (by decide +kernel)) rfl))⟩
theorem lp_X11_260 : LkP RX11 260 11 10 0 := ⟨RX11, TX11, 18, tyX11, rfl, by decide, uw11, rfl, (Or.inl (lw_ug (List.mem_of_getElem? (i := 322) (by decide +kernel)) rfl)), tyX11_ok, nmX11, rfl, Or.inl ⟨rfl, rfl⟩⟩
theorem lf_X11_287 : LkF RX11 287 11 12 := ⟨RX11, TX11, 18, rfl, by decide, uw11, rfl, (Or.inl (lw_ug (List.mem_of_getElem? (i := 324) (by decide +kernel)) rfl))⟩
theorem lp_X11_287 : LkP RX11 287 11 12 0 := ⟨RX11, TX11, 18, tyX11, rfl, by decide, uw11, rfl, (Or.inl (lw_ug (List.mem_of_getElem? (i := 324) (by decide +kernel)) rfl)), tyX11_ok, nmX11, rfl, Or.inl ⟨rfl, rfl⟩⟩
theorem lf_X11_298 : LkF RX11 298 11 14 := ⟨RX11, TX11, 18, rfl, by decide, uw11, rfl, (Or.inl (lw_ug (List.mem_of_getElem? (i := 326) (by decide +kernel)) rfl))⟩
theorem lp_X11_298 : LkP RX11 298 11 14 0 := ⟨RX11, TX11, 18, tyX11, rfl, by decide, uw11, rfl, (Or.inl (lw_ug (List.mem_of_getElem? (i := 326) (by decide +kernel)) rfl)), tyX11_ok, nmX11, rfl, Or.inl ⟨rfl, rfl⟩⟩
theorem lf_X11_307 : LkF RX11 307 8 0 := ⟨RX8, TX8, 8, rfl, by decide, uw8, rfl, (Or.inl (lw_ug (List.mem_of_getElem? (i := 625) (by decide +kernel)) rfl))⟩
theorem lf_X0_9 : LkF RX0 9 0 0 := ⟨RX0, TX0, 13, rfl, by decide, uw0, rfl, (Or.inl (lw_ug (List.mem_of_getElem? (i := 232) (by decide +kernel)) rfl))⟩
theorem lf_X0_15 : LkF RX0 15 0 1 := ⟨RX0, TX0, 13, rfl, by decide, uw0, rfl, (Or.inl (lw_ug (List.mem_of_getElem? (i := 233) (by decide +kernel)) rfl))⟩
theorem lf_X0_18 : LkF RX0 18 0 3 := ⟨RX0, TX0, 13, rfl, by decide, uw0, rfl, (Or.inl (lw_ug (List.mem_of_getElem? (i := 236) (by decide +kernel)) rfl))⟩
theorem lf_X0_21 : LkF RX0 21 0 4 := ⟨RX0, TX0, 13, rfl, by decide, uw0, rfl, (Or.inl (lw_ug (List.mem_of_getElem? (i := 237) (by decide +kernel)) rfl))⟩
theorem lf_X0_24 : LkF RX0 24 0 5 := ⟨RX0, TX0, 13, rfl, by decide, uw0, rfl, (Or.inl (lw_ug (List.mem_of_getElem? (i := 238) (by decide +kernel)) rfl))⟩
theorem lf_X0_27 : LkF RX0 27 0 6 := ⟨RX0, TX0, 13, rfl, by decide, uw0, rfl, (Or.inl (lw_ug (List.mem_of_getElem? (i := 239) (by decide +kernel)) rfl))⟩
theorem lf_X0_30 : LkF RX0 30 0 7 := ⟨RX0, TX0, 13, rfl, by decide, uw0, rfl, (Or.inl (lw_ug (List.mem_of_getElem? (i := 240) (by decide +kernel)) rfl))⟩
theorem lf_X0_33 : LkF RX0 33 0 8 := ⟨RX0, TX0, 13, rfl, by decide, uw0, rfl, (Or.inl (lw_ug (List.mem_of_getElem? (i := 241) (by decide +kernel)) rfl))⟩
theorem lf_X0_37 : LkF RX0 37 0 9 := ⟨RX0, TX0, 13, rfl, by decide, uw0, rfl, (Or.inl (lw_ug (List.mem_of_getElem? (i := 242) (by decide +kernel)) rfl))⟩
theorem lf_X0_40 : LkF RX0 40 0 2 := ⟨RX0, TX0, 13, rfl, by decide, uw0, rfl, (Or.inl (lw_ug (List.mem_of_getElem? (i := 234) (by decide +kernel)) rfl))⟩
theorem lp_X0_40 : LkP RX0 40 0 2 0 := ⟨RX0, TX0, 13, tyX0, rfl, by decide, uw0, rfl, (Or.inl (lw_ug (List.mem_of_getElem? (i := 234) (by decide +kernel)) rfl)), tyX0_ok, nmX0, rfl, Or.inl ⟨rfl, rfl⟩⟩
theorem lf_X0_88 : LkF RX0 88 0 10 := ⟨RX0, TX0, 13, rfl, by decide, uw0, rfl, (Or.inl (lw_ug (List.mem_of_getElem? (i := 243) (by decide +kernel)) rfl))⟩
theorem lp_X0_88 : LkP RX0 88 0 10 0 := ⟨RX0, TX0, 13, tyX0, rfl, by decide, uw0, rfl, (Or.inl (lw_ug (List.mem_of_getElem? (i := 243) (by decide +kernel)) rfl)), tyX0_ok, nmX0, rfl, Or.inl ⟨rfl, rfl⟩⟩
theorem lf_X0_91 : LkF RX0 91 0 11 := ⟨RX0, TX0, 13, rfl, by decide, uw0, rfl, (Or.inl (lw_ug (List.mem_of_getElem? (i := 245) (by decide +kernel)) rfl))⟩
theorem lp_X0_91 : LkP RX0 91 0 11 0 := ⟨RX0, TX0, 13, tyX0, rfl, by decide, uw0, rfl, (Or.inl (lw_ug (List.mem_of_getElem? (i := 245) (by decide +kernel)) rfl)), tyX0_ok, nmX0, rfl, Or.inl ⟨rfl, rfl⟩⟩
theorem lf_X0_94 : LkF RX0 94 0 12 := ⟨RX0, TX0, 13, rfl, by decide, uw0, rfl, (Or.inl (lw_ug (List.mem_of_getElem? (i := 247) (by decide +kernel)) rfl))⟩
theorem lp_X0_94 : LkP RX0 94 0 12 0 := ⟨RX0, TX0, 13, tyX0, rfl, by decide, uw0, rfl, (Or.inl (lw_ug (List.mem_of_getElem? (i := 247) (by decide +kernel)) rfl)), tyX0_ok, nmX0, rfl, Or.inl ⟨rfl, rfl⟩⟩
theorem lf_X1_9 : LkF RX1 9 1 0 := ⟨RX1, TX1, 3, rfl, by decide, uw1, rfl, (Or.inl (lw_ug (List.mem_of_getElem? (i := 122) (by decide +kernel)) rfl))⟩
theorem lf_X1_15 : LkF RX1 15 1 1 := ⟨RX1, TX1, 3, rfl, by decide, uw1, rfl, (Or.inl (lw_ug (List.mem_of_getElem? (i := 123) (by decide +kernel)) rfl))⟩
theorem lf_X1_18 : LkF RX1 18 1 2 := ⟨RX1, TX1, 3, rfl, by decide, uw1, rfl, (Or.inl (lw_ug (List.mem_of_getElem? (i := 124) (by decide +kernel)) rfl))⟩
theorem lf_X2_9 : LkF RX2 9 2 1 := ⟨RX2, TX2, 9, rfl, by decide, uw2, rfl, (Or.inl (lw_ug (List.mem_of_getElem? (i := 284) (by decide +kernel)) rfl))⟩
theorem lf_X2_15 : LkF RX2 15 2 2 := ⟨RX2, TX2, 9, rfl, by decide, uw2, rfl, (Or.inl (lw_ug (List.mem_of_getElem? (i := 285) (by decide +kernel)) rfl))⟩
theorem lf_X2_18 : LkF RX2 18 2 3 := ⟨RX2, TX2, 9, rfl, by decide, uw2, rfl, (Or.inl (lw_ug (List.mem_of_getElem? (i := 286) (by decide +kernel)) rfl))⟩
theorem lf_X2_21 : LkF RX2 21 2 4 := ⟨RX2, TX2, 9, rfl, by decide, uw2, rfl, (Or.inl (lw_ug (List.mem_of_getElem? (i := 287) (by decide +kernel)) rfl))⟩
theorem lf_X2_24 : LkF RX2 24 2 5 := ⟨RX2, TX2, 9, rfl, by decide, uw2, rfl, (Or.inl (lw_ug (List.mem_of_getElem? (i := 288) (by decide +kernel)) rfl))⟩
theorem lp_X2_24 : LkP RX2 24 2 5 0 := ⟨RX2, TX2, 9, tyX2, rfl, by decide, uw2, rfl, (Or.inl (lw_ug (List.mem_of_getElem? (i := 288) (by decide +kernel)) rfl)), tyX2_ok, nmX2, rfl, Or.inl ⟨rfl, rfl⟩⟩
theorem lf_X2_28 : LkF RX2 28 2 6 := ⟨RX2, TX2, 9, rfl, by decide, uw2, rfl, (Or.inl (lw_ug (List.mem_of_getElem? (i := 289) (by decide +kernel)) rfl))⟩
theorem lf_X2_32 : LkF RX2 32 2 7 := ⟨RX2, TX2, 9, rfl, by decide, uw2, rfl, (Or.inl (lw_ug (List.mem_of_getElem? (i := 290) (by decide +kernel)) rfl))⟩
theorem lf_X2_35 : LkF RX2 35 2 0 := ⟨RX2, TX2, 9, rfl, by decide, uw2, rfl, (Or.inl (lw_ug (List.mem_of_getElem? (i := 282) (by decide +kernel)) rfl))⟩
theorem lp_X2_35 : LkP RX2 35 2 0 0 := ⟨RX2, TX2, 9, tyX2, rfl, by decide, uw2, rfl, (Or.inl (lw_ug (List.mem_of_getElem? (i := 282) (by decide +kernel)) rfl)), tyX2_ok, nmX2, rfl, Or.inl ⟨rfl, rfl⟩⟩
theorem lf_X2_38 : LkF RX2 38 2 8 := ⟨RX2, TX2, 9, rfl, by decide, uw2, rfl, (Or.inl (lw_ug (List.mem_of_getElem? (i := 291) (by decide +kernel)) rfl))⟩
theorem lp_X2_38 : LkP RX2 38 2 8 1 := ⟨RX2, TX2, 9, tyX2, rfl, by decide, uw2, rfl, (Or.inl (lw_ug (List.mem_of_getElem? (i := 291) (by decide +kernel)) rfl)), tyX2_ok, nmX2, rfl, Or.inr ⟨rfl, rfl⟩⟩
theorem lf_X3_9 : LkF RX3 9 3 0 := ⟨RX3, TX3, 10, rfl, by decide, uw3, rfl, (Or.inl (lw_ug (List.mem_of_getElem? (i := 144) (by decide +kernel)) rfl))⟩
theorem lf_X3_15 : LkF RX3 15 3 1 := ⟨RX3, TX3, 10, rfl, by decide, uw3, rfl, (Or.inl (lw_ug (List.mem_of_getElem? (i := 145) (by decide +kernel)) rfl))⟩
theorem lf_X3_19 : LkF RX3 19 3 2 := ⟨RX3, TX3, 10, rfl, by decide, uw3, rfl, (Or.inl (lw_ug (List.mem_of_getElem? (i := 146) (by decide +kernel)) rfl))⟩
theorem lf_X3_22 : LkF RX3 22 3 3 := ⟨RX3, TX3, 10, rfl, by decide, uw3, rfl, (Or.inl (lw_ug (List.mem_of_getElem? (i := 147) (by decide +kernel)) rfl))⟩
theorem lf_X3_25 : LkF RX3 25 8 0 := ⟨RX8, TX8, 8, rfl, by decide, uw8, rfl, (Or.inl (lw_ug (List.mem_of_getElem? (i := 623) (by decide +kernel)) rfl))⟩
theorem lf_X3_31 : LkF RX3 31 8 1 := ⟨RX8, TX8, 8, rfl, by decide, uw8, rfl, (Or.inl (lw_ug (List.mem_of_getElem? (i := 627) (by decide +kernel)) rfl))⟩
theorem lf_X3_45 : LkF RX3 45 3 4 := ⟨RX3, TX3, 10, rfl, by decide, uw3, rfl, (Or.inl (lw_ug (List.mem_of_getElem? (i := 148) (by decide +kernel)) rfl))⟩
theorem lp_X3_45 : LkP RX3 45 3 4 0 := ⟨RX3, TX3, 10, tyX3, rfl, by decide, uw3, rfl, (Or.inl (lw_ug (List.mem_of_getElem? (i := 148) (by decide +kernel)) rfl)), tyX3_ok, nmX3, rfl, Or.inl ⟨rfl, rfl⟩⟩
theorem lf_X3_66 : LkF RX3 66 3 5 := ⟨RX3, TX3, 10, rfl, by decide, uw3, rfl, (Or.inl (lw_ug (List.mem_of_getElem? (i := 149) (by decide +kernel)) rfl))⟩
theorem lp_X3_66 : LkP RX3 66 3 5 0 := ⟨RX3, TX3, 10, tyX3, rfl, by decide, uw3, rfl, (Or.inl (lw_ug (List.mem_of_getElem? (i := 149) (by decide +kernel)) rfl)), tyX3_ok, nmX3, rfl, Or.inl ⟨rfl, rfl⟩⟩
theorem lf_X3_72 : LkF RX3 72 3 9 := ⟨RX3, TX3, 10, rfl, by decide, uw3, rfl, (Or.inl (lw_ug (List.mem_of_getElem? (i := 153) (by decide +kernel)) rfl))⟩
theorem lp_X3_72 : LkP RX3 72 3 9 0 := ⟨RX3, TX3, 10, tyX3, rfl, by decide, uw3, rfl, (Or.inl (lw_ug (List.mem_of_getElem? (i := 153) (by decide +kernel)) rfl)), tyX3_ok, nmX3, rfl, Or.inl ⟨rfl, rfl⟩⟩
theorem lf_X3_91 : LkF RX3 91 3 6 := ⟨RX3, TX3, 10, rfl, by decide, uw3, rfl, (Or.inl (lw_ug (List.mem_of_getElem? (i := 150) (by decide +kernel)) rfl))⟩
theorem lp_X3_91 : LkP RX3 91 3 6 0 := ⟨RX3, TX3, 10, tyX3, rfl, by decide, uw3, rfl, (Or.inl (lw_ug (List.mem_of_getElem? (i := 150) (by decide +kernel)) rfl)), tyX3_ok, nmX3, rfl, Or.inl ⟨rfl, rfl⟩⟩
theorem lf_X3_94 : LkF RX3 94 3 7 := ⟨RX3, TX3, 10, rfl, by decide, uw3, rfl, (Or.inl (lw_ug (List.mem_of_getElem? (i := 151) (by decide +kernel)) rfl))⟩
theorem lp_X3_94 : LkP RX3 94 3 7 0 := ⟨RX3, TX3, 10, tyX3, rfl, by decide, uw3, rfl, (Or.inl (lw_ug (List.mem_of_getElem? (i := 151) (by decide +kernel)) rfl)), tyX3_ok, nmX3, rfl, Or.inl ⟨rfl, rfl⟩⟩
theorem lf_X3_97 : LkF RX3 97 3 8 := ⟨RX3, TX3, 10, rfl, by decide, uw3, rfl, (Or.inl (lw_ug (List.mem_of_getElem? (i := 152) (by decide +kernel)) rfl))⟩
theorem lp_X3_97 : LkP RX3 97 3 8 0 := ⟨RX3, TX3, 10, tyX3, rfl, by decide, uw3, rfl, (Or.inl (lw_ug (List.mem_of_getElem? (i := 152) (by decide +kernel)) rfl)), tyX3_ok, nmX3, rfl, Or.inl ⟨rfl, rfl⟩⟩
theorem lf_X4_9 : LkF RX4 9 4 0 := ⟨RX4, TX4, 13, rfl, by decide, uw4, rfl, (Or.inl (lw_ug (List.mem_of_getElem? (i := 184) (by decide +kernel)) rfl))⟩
theorem lp_X4_9 : LkP RX4 9 4 0 0 := ⟨RX4, TX4, 13, tyX4, rfl, by decide, uw4, rfl, (Or.inl (lw_ug (List.mem_of_getElem? (i := 184) (by decide +kernel)) rfl)), tyX4_ok, nmX4, rfl, Or.inl ⟨rfl, rfl⟩⟩
theorem lf_X4_15 : LkF RX4 15 4 1 := ⟨RX4, TX4, 13, rfl, by decide, uw4, rfl, (Or.inl (lw_ug (List.mem_of_getElem? (i := 185) (by decide +kernel)) rfl))⟩
theorem lp_X4_15 : LkP RX4 15 4 1 0 := ⟨RX4, TX4, 13, tyX4, rfl, by decide, uw4, rfl, (Or.inl (lw_ug (List.mem_of_getElem? (i := 185) (by decide +kernel)) rfl)), tyX4_ok, nmX4, rfl, Or.inl ⟨rfl, rfl⟩⟩
theorem lf_X4_18 : LkF RX4 18 4 2 := ⟨RX4, TX4, 13, rfl, by decide, uw4, rfl, (Or.inl (lw_ug (List.mem_of_getElem? (i := 186) (by decide +kernel)) rfl))⟩
theorem lf_X4_22 : LkF RX4 22 4 8 := ⟨RX4, TX4, 13, rfl, by decide, uw4, rfl, (Or.inl (lw_ug (List.mem_of_getElem? (i := 193) (by decide +kernel)) rfl))⟩
theorem lf_X4_25 : LkF RX4 25 4 9 := ⟨RX4, TX4, 13, rfl, by decide, uw4, rfl, (Or.inl (lw_ug (List.mem_of_getElem? (i := 194) (by decide +kernel)) rfl))⟩
theorem lf_X4_28 : LkF RX4 28 4 10 := ⟨RX4, TX4, 13, rfl, by decide, uw4, rfl, (Or.inl (lw_ug (List.mem_of_getElem? (i := 195) (by decide +kernel)) rfl))⟩
theorem lf_X4_43 : LkF RX4 43 4 4 := ⟨RX4, TX4, 13, rfl, by decide, uw4, rfl, (Or.inl (lw_ug (List.mem_of_getElem? (i := 189) (by decide +kernel)) rfl))⟩
theorem lp_X4_43 : LkP RX4 43 4 4 0 := ⟨RX4, TX4, 13, tyX4, rfl, by decide, uw4, rfl, (Or.inl (lw_ug (List.mem_of_getElem? (i := 189) (by decide +kernel)) rfl)), tyX4_ok, nmX4, rfl, Or.inl ⟨rfl, rfl⟩⟩
theorem lf_X4_46 : LkF RX4 46 4 5 := ⟨RX4, TX4, 13, rfl, by decide, uw4, rfl, (Or.inl (lw_ug (List.mem_of_getElem? (i := 190) (by decide +kernel)) rfl))⟩
theorem lp_X4_46 : LkP RX4 46 4 5 0 := ⟨RX4, TX4, 13, tyX4, rfl, by decide, uw4, rfl, (Or.inl (lw_ug (List.mem_of_getElem? (i := 190) (by decide +kernel)) rfl)), tyX4_ok, nmX4, rfl, Or.inl ⟨rfl, rfl⟩⟩
theorem lf_X4_49 : LkF RX4 49 4 6 := ⟨RX4, TX4, 13, rfl, by decide, uw4, rfl, (Or.inl (lw_ug (List.mem_of_getElem? (i := 191) (by decide +kernel)) rfl))⟩
theorem lp_X4_49 : LkP RX4 49 4 6 0 := ⟨RX4, TX4, 13, tyX4, rfl, by decide, uw4, rfl, (Or.inl (lw_ug (List.mem_of_getElem? (i := 191) (by decide +kernel)) rfl)), tyX4_ok, nmX4, rfl, Or.inl ⟨rfl, rfl⟩⟩
theorem lf_X4_52 : LkF RX4 52 4 7 := ⟨RX4, TX4, 13, rfl, by decide, uw4, rfl, (Or.inl (lw_ug (List.mem_of_getElem? (i := 192) (by decide +kernel)) rfl))⟩
theorem lp_X4_52 : LkP RX4 52 4 7 0 := ⟨RX4, TX4, 13, tyX4, rfl, by decide, uw4, rfl, (Or.inl (lw_ug (List.mem_of_getElem? (i := 192) (by decide +kernel)) rfl)), tyX4_ok, nmX4, rfl, Or.inl ⟨rfl, rfl⟩⟩
theorem lf_X4_65 : LkF RX4 65 4 3 := ⟨RX4, TX4, 13, rfl, by decide, uw4, rfl, (Or.inl (lw_ug (List.mem_of_getElem? (i := 187) (by decide +kernel)) rfl))⟩
theorem lp_X4_65 : LkP RX4 65 4 3 0 := ⟨RX4, TX4, 13, tyX4, rfl, by decide, uw4, rfl, (Or.inl (lw_ug (List.mem_of_getElem? (i := 187) (by decide +kernel)) rfl)), tyX4_ok, nmX4, rfl, Or.inl ⟨rfl, rfl⟩⟩
theorem lf_X4_68 : LkF RX4 68 8 0 := ⟨RX8, TX8, 8, rfl, by decide, uw8, rfl, (Or.inl (lw_ug (List.mem_of_getElem? (i := 624) (by decide +kernel)) rfl))⟩
theorem lf_X4_71 : LkF RX4 71 8 3 := ⟨RX8, TX8, 8, rfl, by decide, uw8, rfl, (Or.inl (lw_ug (List.mem_of_getElem? (i := 630) (by decide +kernel)) rfl))⟩
theorem lf_X4_87 : LkF RX4 87 4 11 := ⟨RX4, TX4, 13, rfl, by decide, uw4, rfl, (Or.inl (lw_ug (List.mem_of_getElem? (i := 196) (by decide +kernel)) rfl))⟩
theorem lp_X4_87 : LkP RX4 87 4 11 0 := ⟨RX4, TX4, 13, tyX4, rfl, by decide, uw4, rfl, (Or.inl (lw_ug (List.mem_of_getElem? (i := 196) (by decide +kernel)) rfl)), tyX4_ok, nmX4, rfl, Or.inl ⟨rfl, rfl⟩⟩
theorem lf_X4_90 : LkF RX4 90 4 12 := ⟨RX4, TX4, 13, rfl, by decide, uw4, rfl, (Or.inl (lw_ug (List.mem_of_getElem? (i := 198) (by decide +kernel)) rfl))⟩
theorem lp_X4_90 : LkP RX4 90 4 12 0 := ⟨RX4, TX4, 13, tyX4, rfl, by decide, uw4, rfl, (Or.inl (lw_ug (List.mem_of_getElem? (i := 198) (by decide +kernel)) rfl)), tyX4_ok, nmX4, rfl, Or.inl ⟨rfl, rfl⟩⟩
theorem lf_X5_7 : LkF RX5 7 5 0 := ⟨RX5, TX5, 5, rfl, by decide, uw5, rfl, (Or.inl (lw_ug (List.mem_of_getElem? (i := 881) (by decide +kernel)) rfl))⟩
theorem lf_X5_13 : LkF RX5 13 5 1 := ⟨RX5, TX5, 5, rfl, by decide, uw5, rfl, (Or.inl (lw_ug (List.mem_of_getElem? (i := 882) (by decide +kernel)) rfl))⟩
theorem lf_X5_16 : LkF RX5 16 5 2 := ⟨RX5, TX5, 5, rfl, by decide, uw5, rfl, (Or.inl (lw_ug (List.mem_of_getElem? (i := 883) (by decide +kernel)) rfl))⟩
theorem lf_X5_19 : LkF RX5 19 5 3 := ⟨RX5, TX5, 5, rfl, by decide, uw5, rfl, (Or.inl (lw_ug (List.mem_of_getElem? (i := 884) (by decide +kernel)) rfl))⟩
theorem lf_X5_22 : LkF RX5 22 5 4 := ⟨RX5, TX5, 5, rfl, by decide, uw5, rfl, (Or.inl (lw_ug (List.mem_of_getElem? (i := 885) (by decide +kernel)) rfl))⟩
theorem lp_X5_22 : LkP RX5 22 5 4 0 := ⟨RX5, TX5, 5, tyX5, rfl, by decide, uw5, rfl, (Or.inl (lw_ug (List.mem_of_getElem? (i := 885) (by decide +kernel)) rfl)), tyX5_ok, nmX5, rfl, Or.inl ⟨rfl, rfl⟩⟩
theorem lf_X6_10 : LkF RX6 10 6 1 := ⟨RX6, TX6, 4, rfl, by decide, uw6, rfl, (Or.inl (lw_ug (List.mem_of_getElem? (i := 752) (by decide +kernel)) rfl))⟩
theorem lp_X6_10 : LkP RX6 10 6 1 0 := ⟨RX6, TX6, 4, tyX6, rfl, by decide, uw6, rfl, (Or.inl (lw_ug (List.mem_of_getElem? (i := 752) (by decide +kernel)) rfl)), tyX6_ok, nmX6, rfl, Or.inl ⟨rfl, rfl⟩⟩
theorem lf_X6_16 : LkF RX6 16 6 2 := ⟨RX6, TX6, 4, rfl, by decide, uw6, rfl, (Or.inl (lw_ug (List.mem_of_getElem? (i := 754) (by decide +kernel)) rfl))⟩
theorem lf_X6_20 : LkF RX6 20 6 0 := ⟨RX6, TX6, 4, rfl, by decide, uw6, rfl, (Or.inl (lw_ug (List.mem_of_getElem? (i := 751) (by decide +kernel)) rfl))⟩
theorem lf_X6_27 : LkF RX6 27 6 3 := ⟨RX6, TX6, 4, rfl, by decide, uw6, rfl, (Or.inl (lw_ug (List.mem_of_getElem? (i := 756) (by decide +kernel)) rfl))⟩
theorem lp_X6_27 : LkP RX6 27 6 3 0 := ⟨RX6, TX6, 4, tyX6, rfl, by decide, uw6, rfl, (Or.inl (lw_ug (List.mem_of_getElem? (i := 756) (by decide +kernel)) rfl)), tyX6_ok, nmX6, rfl, Or.inl ⟨rfl, rfl⟩⟩
theorem lf_X7_10 : LkF RX7 10 7 8 := ⟨RX7, TX7, 13, rfl, by decide, uw7, rfl, (Or.inl (lw_ug (List.mem_of_getElem? (i := 497) (by decide +kernel)) rfl))⟩
theorem lp_X7_10 : LkP RX7 10 7 8 0 := ⟨RX7, TX7, 13, tyX7, rfl, by decide, uw7, rfl, (Or.inl (lw_ug (List.mem_of_getElem? (i := 497) (by decide +kernel)) rfl)), tyX7_ok, nmX7, rfl, Or.inl ⟨rfl, rfl⟩⟩
theorem lf_X7_16 : LkF RX7 16 7 9 := ⟨RX7, TX7, 13, rfl, by decide, uw7, rfl, (Or.inl (lw_ug (List.mem_of_getElem? (i := 499) (by decide +kernel)) rfl))⟩
theorem lp_X7_16 : LkP RX7 16 7 9 0 := ⟨RX7, TX7, 13, tyX7, rfl, by decide, uw7, rfl, (Or.inl (lw_ug (List.mem_of_getElem? (i := 499) (by decide +kernel)) rfl)), tyX7_ok, nmX7, rfl, Or.inl ⟨rfl, rfl⟩⟩
theorem lf_X7_19 : LkF RX7 19 7 10 := ⟨RX7, TX7, 13, rfl, by decide, uw7, rfl, (Or.inl (lw_ug (List.mem_of_getElem? (i := 501) (by decide +kernel)) rfl))⟩
theorem lp_X7_19 : LkP RX7 19 7 10 0 := ⟨RX7, TX7, 13, tyX7, rfl, by decide, uw7, rfl, (Or.inl (lw_ug (List.mem_of_getElem? (i := 501) (by decide +kernel)) rfl)), tyX7_ok, nmX7, rfl, Or.inl ⟨rfl, rfl⟩⟩
theorem lf_X7_22 : LkF RX7 22 7 11 := ⟨RX7, TX7, 13, rfl, by decide, uw7, rfl, (Or.inl (lw_ug (List.mem_of_getElem? (i := 503) (by decide +kernel)) rfl))⟩
theorem lp_X7_22 : LkP RX7 22 7 11 0 := ⟨RX7, TX7, 13, tyX7, rfl, by decide, uw7, rfl, (Or.inl (lw_ug (List.mem_of_getElem? (i := 503) (by decide +kernel)) rfl)), tyX7_ok, nmX7, rfl, Or.inl ⟨rfl, rfl⟩⟩
theorem lf_X7_25 : LkF RX7 25 7 12 := ⟨RX7, TX7, 13, rfl, by decide, uw7, rfl, (Or.inl (lw_ug (List.mem_of_getElem? (i := 505) (by decide +kernel)) rfl))⟩
theorem lp_X7_25 : LkP RX7 25 7 12 0 := ⟨RX7, TX7, 13, tyX7, rfl, by decide, uw7, rfl, (Or.inl (lw_ug (List.mem_of_getElem? (i := 505) (by decide +kernel)) rfl)), tyX7_ok, nmX7, rfl, Or.inl ⟨rfl, rfl⟩⟩
theorem lf_X7_28 : LkF RX7 28 7 0 := ⟨RX7, TX7, 13, rfl, by decide, uw7, rfl, (Or.inl (lw_ug (List.mem_of_getElem? (i := 477) (by decide +kernel)) rfl))⟩
theorem lf_X7_31 : LkF RX7 31 7 1 := ⟨RX7, TX7, 13, rfl, by decide, uw7, rfl, (Or.inl (lw_ug (List.mem_of_getElem? (i := 480) (by decide +kernel)) rfl))⟩
theorem lf_X7_34 : LkF RX7 34 7 2 := ⟨RX7, TX7, 13, rfl, by decide, uw7, rfl, (Or.inl (lw_ug (List.mem_of_getElem? (i := 482) (by decide +kernel)) rfl))⟩
theorem lf_X7_37 : LkF RX7 37 7 3 := ⟨RX7, TX7, 13, rfl, by decide, uw7, rfl, (Or.inl (lw_ug (List.mem_of_getElem? (i := 485) (by decide +kernel)) rfl))⟩
theorem lf_X7_40 : LkF RX7 40 7 4 := ⟨RX7, TX7, 13, rfl, by decide, uw7, rfl, (Or.inl (lw_ug (List.mem_of_getElem? (i := 488) (by decide +kernel)) rfl))⟩
theorem lf_X7_43 : LkF RX7 43 7 5 := ⟨RX7, TX7, 13, rfl, by decide, uw7, rfl, (Or.inl (lw_ug (List.mem_of_getElem? (i := 490) (by decide +kernel)) rfl))⟩
theorem lf_X7_46 : LkF RX7 46 7 6 := ⟨RX7, TX7, 13, rfl, by decide, uw7, rfl, (Or.inl (lw_ug (List.mem_of_getElem? (i := 493) (by decide +kernel)) rfl))⟩
theorem lf_X7_49 : LkF RX7 49 7 7 := ⟨RX7, TX7, 13, rfl, by decide, uw7, rfl, (Or.inl (lw_ug (List.mem_of_getElem? (i := 496) (by decide +kernel)) rfl))⟩
theorem lp_X7_49 : LkP RX7 49 7 7 0 := ⟨RX7, TX7, 13, tyX7, rfl, by decide, uw7, rfl, (Or.inl (lw_ug (List.mem_of_getElem? (i := 496) (by decide +kernel)) rfl)), tyX7_ok, nmX7, rfl, Or.inl ⟨rfl, rfl⟩⟩
theorem lf_X8_11 : LkF RX8 11 8 4 := ⟨RX8, TX8, 8, rfl, by decide, uw8, rfl, (Or.inl (lw_ug (List.mem_of_getElem? (i := 631) (by decide +kernel)) rfl))⟩
theorem lf_X8_17 : LkF RX8 17 8 0 := ⟨RX8, TX8, 8, rfl, by decide, uw8, rfl, (Or.inl (lw_ug (List.mem_of_getElem? (i := 622) (by decide +kernel)) rfl))⟩
theorem lf_X8_21 : LkF RX8 21 8 1 := ⟨RX8, TX8, 8, rfl, by decide, uw8, rfl, (Or.inl (lw_ug (List.mem_of_getElem? (i := 626) (by decide +kernel)) rfl))⟩
theorem lf_X8_24 : LkF RX8 24 8 2 := ⟨RX8, TX8, 8, rfl, by decide, uw8, rfl, (Or.inl (lw_ug (List.mem_of_getElem? (i := 628) (by decide +kernel)) rfl))⟩
theorem lf_X8_27 : LkF RX8 27 8 3 := ⟨RX8, TX8, 8, rfl, by decide, uw8, rfl, (Or.inl (lw_ug (List.mem_of_getElem? (i := 629) (by decide +kernel)) rfl))⟩
theorem lf_X8_30 : LkF RX8 30 8 5 := ⟨RX8, TX8, 8, rfl, by decide, uw8, rfl, (Or.inl (lw_ug (List.mem_of_getElem? (i := 632) (by decide +kernel)) rfl))⟩
theorem lp_X8_30 : LkP RX8 30 8 5 0 := ⟨RX8, TX8, 8, tyX8, rfl, by decide, uw8, rfl, (Or.inl (lw_ug (List.mem_of_getElem? (i := 632) (by decide +kernel)) rfl)), tyX8_ok, nmX8, rfl, Or.inl ⟨rfl, rfl⟩⟩
theorem lf_X8_37 : LkF RX8 37 7 0 := ⟨RX7, TX7, 13, rfl, by decide, uw7, rfl, (Or.inl (lw_ug (List.mem_of_getElem? (i := 478) (by decide +kernel)) rfl))⟩
theorem lf_X8_40 : LkF RX8 40 7 3 := ⟨RX7, TX7, 13, rfl, by decide, uw7, rfl, (Or.inl (lw_ug (List.mem_of_getElem? (i := 486) (by decide +kernel)) rfl))⟩
theorem lf_X8_43 : LkF RX8 43 7 2 := ⟨RX7, TX7, 13, rfl, by decide, uw7, rfl, (Or.inl (lw_ug (List.mem_of_getElem? (i := 483) (by decide +kernel)) rfl))⟩
theorem lf_X8_48 : LkF RX8 48 7 5 := ⟨RX7, TX7, 13, rfl, by decide, uw7, rfl, (Or.inl (lw_ug (List.mem_of_getElem? (i := 492) (by decide +kernel)) rfl))⟩
theorem lf_X8_57 : LkF RX8 57 7 6 := ⟨RX7, TX7, 13, rfl, by decide, uw7, rfl, (Or.inl (lw_ug (List.mem_of_getElem? (i := 495) (by decide +kernel)) rfl))⟩
theorem lf_X9_11 : LkF RX9 11 9 0 := ⟨RX9, TX9, 3, rfl, by decide, uw9, rfl, (Or.inl (lw_ug (List.mem_of_getElem? (i := 105) (by decide +kernel)) rfl))⟩
theorem lf_X9_17 : LkF RX9 17 9 2 := ⟨RX9, TX9, 3, rfl, by decide, uw9, rfl, (Or.inl (lw_ug (List.mem_of_getElem? (i := 107) (by decide +kernel)) rfl))⟩
theorem lf_X9_21 : LkF RX9 21 9 1 := ⟨RX9, TX9, 3, rfl, by decide, uw9, rfl, (Or.inl (lw_ug (List.mem_of_getElem? (i := 106) (by decide +kernel)) rfl))⟩
theorem lp_X9_21 : LkP RX9 21 9 1 0 := ⟨RX9, TX9, 3, tyX9, rfl, by decide, uw9, rfl, (Or.inl (lw_ug (List.mem_of_getElem? (i := 106) (by decide +kernel)) rfl)), tyX9_ok, nmX9, rfl, Or.inl ⟨rfl, rfl⟩⟩
theorem lf_X9_40 : LkF RX9 40 10 0 := ⟨RX10, TX10, 7, rfl, by decide, uw10, rfl, (Or.inl (lw_ug (List.mem_of_getElem? (i := 395) (by decide +kernel)) rfl))⟩
theorem lf_X9_47 : LkF RX9 47 10 1 := ⟨RX10, TX10, 7, rfl, by decide, uw10, rfl, (Or.inl (lw_ug (List.mem_of_getElem? (i := 397) (by decide +kernel)) rfl))⟩
theorem lf_X10_9 : LkF RX10 9 10 0 := ⟨RX10, TX10, 7, rfl, by decide, uw10, rfl, (Or.inl (lw_ug (List.mem_of_getElem? (i := 394) (by decide +kernel)) rfl))⟩
theorem lf_X10_15 : LkF RX10 15 10 1 := ⟨RX10, TX10, 7, rfl, by decide, uw10, rfl, (Or.inl (lw_ug (List.mem_of_getElem? (i := 396) (by decide +kernel)) rfl))⟩
theorem lf_X10_18 : LkF RX10 18 10 2 := ⟨RX10, TX10, 7, rfl, by decide, uw10, rfl, (Or.inl (lw_ug (List.mem_of_getElem? (i := 398) (by decide +kernel)) rfl))⟩
theorem lf_X10_21 : LkF RX10 21 10 3 := ⟨RX10, TX10, 7, rfl, by decide, uw10, rfl, (Or.inl (lw_ug (List.mem_of_getElem? (i := 399) (by decide +kernel)) rfl))⟩
theorem lf_X10_24 : LkF RX10 24 10 4 := ⟨RX10, TX10, 7, rfl, by decide, uw10, rfl, (Or.inl (lw_ug (List.mem_of_getElem? (i := 400) (by decide +kernel)) rfl))⟩
theorem lf_X10_27 : LkF RX10 27 10 5 := ⟨RX10, TX10, 7, rfl, by decide, uw10, rfl, (Or.inl (lw_ug (List.mem_of_getElem? (i := 401) (by decide +kernel)) rfl))⟩
theorem lf_X10_30 : LkF RX10 30 10 6 := ⟨RX10, TX10, 7, rfl, by decide, uw10, rfl, (Or.inl (lw_ug (List.mem_of_getElem? (i := 402) (by decide +kernel)) rfl))⟩
theorem lp_X10_30 : LkP RX10 30 10 6 1 := ⟨RX10, TX10, 7, tyX10, rfl, by decide, uw10, rfl, (Or.inl (lw_ug (List.mem_of_getElem? (i := 402) (by decide +kernel)) rfl)), tyX10_ok, nmX10, rfl, Or.inr ⟨rfl, rfl⟩⟩
theorem lf_X12_7 : LkF RX12 7 12 2 := ⟨RX12, TX12, 92, rfl, by decide, uw12, rfl, (Or.inl (lw_ug (List.mem_of_getElem? (i := 1182) (by decide +kernel)) rfl))⟩
theorem lf_X12_13 : LkF RX12 13 12 3 := ⟨RX12, TX12, 92, rfl, by decide, uw12, rfl, (Or.inl (lw_ug (List.mem_of_getElem? (i := 1183) (by decide +kernel)) rfl))⟩
theorem lf_X12_16 : LkF RX12 16 12 4 := ⟨RX12, TX12, 92, rfl, by decide, uw12, rfl, (Or.inl (lw_ug (List.mem_of_getElem? (i := 1184) (by decide +kernel)) rfl))⟩
theorem lf_X12_19 : LkF RX12 19 12 5 := ⟨RX12, TX12, 92, rfl, by decide, uw12, rfl, (Or.inl (lw_ug (List.mem_of_getElem? (i := 1185) (by decide +kernel)) rfl))⟩
theorem lf_X12_22 : LkF RX12 22 12 6 := ⟨RX12, TX12, 92, rfl, by decide, uw12, rfl, (Or.inl (lw_ug (List.mem_of_getElem? (i := 1186) (by decide +kernel)) rfl))⟩
theorem lf_X12_25 : LkF RX12 25 12 7 := ⟨RX12, TX12, 92, rfl, by decide, uw12, rfl, (Or.inl (lw_ug (List.mem_of_getElem? (i := 1187) (by decide +kernel)) rfl))⟩
theorem lf_X12_28 : LkF RX12 28 12 8 := ⟨RX12, TX12, 92, rfl, by decide, uw12, rfl, (Or.inl (lw_ug (List.mem_of_getElem? (i := 1188) (by decide +kernel)) rfl))⟩
theorem lf_X12_32 : LkF RX12 32 12 9 := ⟨RX12, TX12, 92, rfl, by decide, uw12, rfl, (Or.inl (lw_ug (List.mem_of_getElem? (i := 1189) (by decide +kernel)) rfl))⟩
theorem lf_X12_35 : LkF RX12 35 12 11 := ⟨RX12, TX12, 92, rfl, by decide, uw12, rfl, (Or.inl (lw_ug (List.mem_of_getElem? (i := 1191) (by decide +kernel)) rfl))⟩
theorem lf_X12_38 : LkF RX12 38 12 12 := ⟨RX12, TX12, 92, rfl, by decide, uw12, rfl, (Or.inl (lw_ug (List.mem_of_getElem? (i := 1192) (by decide +kernel)) rfl))⟩
theorem lf_X12_41 : LkF RX12 41 12 13 := ⟨RX12, TX12, 92, rfl, by decide, uw12, rfl, (Or.inl (lw_ug (List.mem_of_getElem? (i := 1193) (by decide +kernel)) rfl))⟩
theorem lf_X12_44 : LkF RX12 44 12 14 := ⟨RX12, TX12, 92, rfl, by decide, uw12, rfl, (Or.inl (lw_ug (List.mem_of_getElem? (i := 1194) (by decide +kernel)) rfl))⟩
theorem lf_X12_47 : LkF RX12 47 12 15 := ⟨RX12, TX12, 92, rfl, by decide, uw12, rfl, (Or.inl (lw_ug (List.mem_of_getElem? (i := 1195) (by decide +kernel)) rfl))⟩
theorem lf_X12_50 : LkF RX12 50 12 16 := ⟨RX12, TX12, 92, rfl, by decide, uw12, rfl, (Or.inl (lw_ug (List.mem_of_getElem? (i := 1196) (by decide +kernel)) rfl))⟩
theorem lf_X12_53 : LkF RX12 53 12 17 := ⟨RX12, TX12, 92, rfl, by decide, uw12, rfl, (Or.inl (lw_ug (List.mem_of_getElem? (i := 1197) (by decide +kernel)) rfl))⟩
theorem lf_X12_56 : LkF RX12 56 12 18 := ⟨RX12, TX12, 92, rfl, by decide, uw12, rfl, (Or.inl (lw_ug (List.mem_of_getElem? (i := 1198) (by decide +kernel)) rfl))⟩
theorem lf_X12_59 : LkF RX12 59 12 19 := ⟨RX12, TX12, 92, rfl, by decide, uw12, rfl, (Or.inl (lw_ug (List.mem_of_getElem? (i := 1199) (by decide +kernel)) rfl))⟩
theorem lf_X12_62 : LkF RX12 62 12 20 := ⟨RX12, TX12, 92, rfl, by decide, uw12, rfl, (Or.inl (lw_ug (List.mem_of_getElem? (i := 1200) (by decide +kernel)) rfl))⟩
theorem lf_X12_65 : LkF RX12 65 12 21 := ⟨RX12, TX12, 92, rfl, by decide, uw12, rfl, (Or.inl (lw_ug (List.mem_of_getElem? (i := 1201) (by decide +kernel)) rfl))⟩
theorem lf_X12_68 : LkF RX12 68 12 22 := ⟨RX12, TX12, 92, rfl, by decide, uw12, rfl, (Or.inl (lw_ug (List.mem_of_getElem? (i := 1202) (by decide +kernel)) rfl))⟩
theorem lf_X12_71 : LkF RX12 71 12 23 := ⟨RX12, TX12, 92, rfl, by decide, uw12, rfl, (Or.inl (lw_ug (List.mem_of_getElem? (i := 1203) (by decide +kernel)) rfl))⟩
theorem lf_X12_74 : LkF RX12 74 12 24 := ⟨RX12, TX12, 92, rfl, by decide, uw12, rfl, (Or.inl (lw_ug (List.mem_of_getElem? (i := 1204) (by decide +kernel)) rfl))⟩
theorem lf_X12_77 : LkF RX12 77 12 25 := ⟨RX12, TX12, 92, rfl, by decide, uw12, rfl, (Or.inl (lw_ug (List.mem_of_getElem? (i := 1205) (by decide +kernel)) rfl))⟩
theorem lf_X12_80 : LkF RX12 80 12 27 := ⟨RX12, TX12, 92, rfl, by decide, uw12, rfl, (Or.inl (lw_ug (List.mem_of_getElem? (i := 1207) (by decide +kernel)) rfl))⟩
theorem lf_X12_83 : LkF RX12 83 12 28 := ⟨RX12, TX12, 92, rfl, by decide, uw12, rfl, (Or.inl (lw_ug (List.mem_of_getElem? (i := 1208) (by decide +kernel)) rfl))⟩
theorem lf_X12_86 : LkF RX12 86 12 29 := ⟨RX12, TX12, 92, rfl, by decide, uw12, rfl, (Or.inl (lw_ug (List.mem_of_getElem? (i := 1209) (by decide +kernel)) rfl))⟩
theorem lf_X12_89 : LkF RX12 89 12 30 := ⟨RX12, TX12, 92, rfl, by decide, uw12, rfl, (Or.inl (lw_ug (List.mem_of_getElem? (i := 1210) (by decide +kernel)) rfl))⟩
theorem lf_X12_92 : LkF RX12 92 12 31 := ⟨RX12, TX12, 92, rfl, by decide, uw12, rfl, (Or.inl (lw_ug (List.mem_of_getElem? (i := 1211) (by decide +kernel)) rfl))⟩
theorem lf_X12_95 : LkF RX12 95 12 32 := ⟨RX12, TX12, 92, rfl, by decide, uw12, rfl, (Or.inl (lw_ug (List.mem_of_getElem? (i := 1212) (by decide +kernel)) rfl))⟩
theorem lf_X12_98 : LkF RX12 98 12 33 := ⟨RX12, TX12, 92, rfl, by decide, uw12, rfl, (Or.inl (lw_ug (List.mem_of_getElem? (i := 1213) (by decide +kernel)) rfl))⟩
theorem lf_X12_101 : LkF RX12 101 12 34 := ⟨RX12, TX12, 92, rfl, by decide, uw12, rfl, (Or.inl (lw_ug (List.mem_of_getElem? (i := 1214) (by decide +kernel)) rfl))⟩
theorem lf_X12_104 : LkF RX12 104 12 35 := ⟨RX12, TX12, 92, rfl, by decide, uw12, rfl, (Or.inl (lw_ug (List.mem_of_getElem? (i := 1215) (by decide +kernel)) rfl))⟩
theorem lp_X12_104 : LkP RX12 104 12 35 0 := ⟨RX12, TX12, 92, tyX12, rfl, by decide, uw12, rfl, (Or.inl (lw_ug (List.mem_of_getElem? (i := 1215) (by decide +kernel)) rfl)), tyX12_ok, nmX12, rfl, Or.inl ⟨rfl, rfl⟩⟩
theorem lf_X12_108 : LkF RX12 108 12 36 := ⟨RX12, TX12, 92, rfl, by decide, uw12, rfl, (Or.inl (lw_ug (List.mem_of_getElem? (i := 1216) (by decide +kernel)) rfl))⟩
theorem lf_X12_111 : LkF RX12 111 12 38 := ⟨RX12, TX12, 92, rfl, by decide, uw12, rfl, (Or.inl (lw_ug (List.mem_of_getElem? (i := 1218) (by decide +kernel)) rfl))⟩
theorem lf_X12_114 : LkF RX12 114 12 39 := ⟨RX12, TX12, 92, rfl, by decide, uw12, rfl, (Or.inl (lw_ug (List.mem_of_getElem? (i := 1219) (by decide +kernel)) rfl))⟩
theorem lf_X12_117 : LkF RX12 117 12 40 := ⟨RX12, TX12, 92, rfl, by decide, uw12, rfl, (Or.inl (lw_ug (List.mem_of_getElem? (i := 1220) (by decide +kernel)) rfl))⟩
theorem lf_X12_120 : LkF RX12 120 12 41 := ⟨RX12, TX12, 92, rfl, by decide, uw12, rfl, (Or.inl (lw_ug (List.mem_of_getElem? (i := 1221) (by decide +kernel)) rfl))⟩
theorem lf_X12_123 : LkF RX12 123 12 44 := ⟨RX12, TX12, 92, rfl, by decide, uw12, rfl, (Or.inl (lw_ug (List.mem_of_getElem? (i := 1224) (by decide +kernel)) rfl))⟩
theorem lf_X12_126 : LkF RX12 126 12 46 := ⟨RX12, TX12, 92, rfl, by decide, uw12, rfl, (Or.inl (lw_ug (List.mem_of_getElem? (i := 1226) (by decide +kernel)) rfl))⟩
theorem lf_X12_129 : LkF RX12 129 12 47 := ⟨RX12, TX12, 92, rfl, by decide, uw12, rfl, (Or.inl (lw_ug (List.mem_of_getElem? (i := 1227) (by decide +kernel)) rfl))⟩
theorem lf_X12_132 : LkF RX12 132 12 48 := ⟨RX12, TX12, 92, rfl, by decide, uw12, rfl, (Or.inl (lw_ug (List.mem_of_getElem? (i := 1228) (by decide +kernel)) rfl))⟩
theorem lf_X12_135 : LkF RX12 135 12 50 := ⟨RX12, TX12, 92, rfl, by decide, uw12, rfl, (Or.inl (lw_ug (List.mem_of_getElem? (i := 1230) (by decide +kernel)) rfl))⟩
theorem lf_X12_138 : LkF RX12 138 12 51 := ⟨RX12, TX12, 92, rfl, by decide, uw12, rfl, (Or.inl (lw_ug (List.mem_of_getElem? (i := 1231) (by decide +kernel)) rfl))⟩
theorem lf_X12_141 : LkF RX12 141 12 52 := ⟨RX12, TX12, 92, rfl, by decide, uw12, rfl, (Or.inl (lw_ug (List.mem_of_getElem? (i := 1232) (by decide +kernel)) rfl))⟩
theorem lf_X12_144 : LkF RX12 144 12 53 := ⟨RX12, TX12, 92, rfl, by decide, uw12, rfl, (Or.inl (lw_ug (List.mem_of_getElem? (i := 1233) (by decide +kernel)) rfl))⟩
theorem lf_X12_147 : LkF RX12 147 12 54 := ⟨RX12, TX12, 92, rfl, by decide, uw12, rfl, (Or.inl (lw_ug (List.mem_of_getElem? (i := 1234) (by decide +kernel)) rfl))⟩
theorem lf_X12_150 : LkF RX12 150 12 55 := ⟨RX12, TX12, 92, rfl, by decide, uw12, rfl, (Or.inl (lw_ug (List.mem_of_getElem? (i := 1235) (by decide +kernel)) rfl))⟩
theorem lp_X12_150 : LkP RX12 150 12 55 0 := ⟨RX12, TX12, 92, tyX12, rfl, by decide, uw12, rfl, (Or.inl (lw_ug (List.mem_of_getElem? (i := 1235) (by decide +kernel)) rfl)), tyX12_ok, nmX12, rfl, Or.inl ⟨rfl, rfl⟩⟩
theorem lf_X12_153 : LkF RX12 153 12 56 := ⟨RX12, TX12, 92, rfl, by decide, uw12, rfl, (Or.inl (lw_ug (List.mem_of_getElem? (i := 1236) (by decide +kernel)) rfl))⟩
theorem lp_X12_153 : LkP RX12 153 12 56 0 := ⟨RX12, TX12, 92, tyX12, rfl, by decide, uw12, rfl, (Or.inl (lw_ug (List.mem_of_getElem? (i := 1236) (by decide +kernel)) rfl)), tyX12_ok, nmX12, rfl, Or.inl ⟨rfl, rfl⟩⟩
theorem lf_X12_156 : LkF RX12 156 12 57 := ⟨RX12, TX12, 92, rfl, by decide, uw12, rfl, (Or.inl (lw_ug (List.mem_of_getElem? (i := 1237) (by decide +kernel)) rfl))⟩
theorem lf_X12_159 : LkF RX12 159 12 58 := ⟨RX12, TX12, 92, rfl, by decide, uw12, rfl, (Or.inl (lw_ug (List.mem_of_getElem? (i := 1238) (by decide +kernel)) rfl))⟩
theorem lf_X12_162 : LkF RX12 162 12 59 := ⟨RX12, TX12, 92, rfl, by decide, uw12, rfl, (Or.inl (lw_ug (List.mem_of_getElem? (i := 1239) (by decide +kernel)) rfl))⟩
theorem lf_X12_165 : LkF RX12 165 12 60 := ⟨RX12, TX12, 92, rfl, by decide, uw12, rfl, (Or.inl (lw_ug (List.mem_of_getElem? (i := 1240) (by decide +kernel)) rfl))⟩
theorem lf_X12_168 : LkF RX12 168 12 61 := ⟨RX12, TX12, 92, rfl, by decide, uw12, rfl, (Or.inl (lw_ug (List.mem_of_getElem? (i := 1241) (by decide +kernel)) rfl))⟩
theorem lf_X12_171 : LkF RX12 171 12 63 := ⟨RX12, TX12, 92, rfl, by decide, uw12, rfl, (Or.inl (lw_ug (List.mem_of_getElem? (i := 1243) (by decide +kernel)) rfl))⟩
theorem lf_X12_174 : LkF RX12 174 12 64 := ⟨RX12, TX12, 92, rfl, by decide, uw12, rfl, (Or.inl (lw_ug (List.mem_of_getElem? (i := 1244) (by decide +kernel)) rfl))⟩
theorem lf_X12_177 : LkF RX12 177 12 67 := ⟨RX12, TX12, 92, rfl, by decide, uw12, rfl, (Or.inl (lw_ug (List.mem_of_getElem? (i := 1247) (by decide +kernel)) rfl))⟩
theorem lf_X12_180 : LkF RX12 180 12 68 := ⟨RX12, TX12, 92, rfl, by decide, uw12, rfl, (Or.inl (lw_ug (List.mem_of_getElem? (i := 1248) (by decide +kernel)) rfl))⟩
theorem lf_X12_183 : LkF RX12 183 12 70 := ⟨RX12, TX12, 92, rfl, by decide, uw12, rfl, (Or.inl (lw_ug (List.mem_of_getElem? (i := 1250) (by decide +kernel)) rfl))⟩
theorem lf_X12_186 : LkF RX12 186 12 71 := ⟨RX12, TX12, 92, rfl, by decide, uw12, rfl, (Or.inl (lw_ug (List.mem_of_getElem? (i := 1251) (by decide +kernel)) rfl))⟩
theorem lf_X12_189 : LkF RX12 189 12 72 := ⟨RX12, TX12, 92, rfl, by decide, uw12, rfl, (Or.inl (lw_ug (List.mem_of_getElem? (i := 1252) (by decide +kernel)) rfl))⟩
theorem lf_X12_192 : LkF RX12 192 12 73 := ⟨RX12, TX12, 92, rfl, by decide, uw12, rfl, (Or.inl (lw_ug (List.mem_of_getElem? (i := 1253) (by decide +kernel)) rfl))⟩
theorem lf_X12_195 : LkF RX12 195 12 74 := ⟨RX12, TX12, 92, rfl, by decide, uw12, rfl, (Or.inl (lw_ug (List.mem_of_getElem? (i := 1254) (by decide +kernel)) rfl))⟩
theorem lf_X12_198 : LkF RX12 198 12 75 := ⟨RX12, TX12, 92, rfl, by decide, uw12, rfl, (Or.inl (lw_ug (List.mem_of_getElem? (i := 1255) (by decide +kernel)) rfl))⟩
theorem lf_X12_201 : LkF RX12 201 12 76 := ⟨RX12, TX12, 92, rfl, by decide, uw12, rfl, (Or.inl (lw_ug (List.mem_of_getElem? (i := 1256) (by decide +kernel)) rfl))⟩
theorem lf_X12_204 : LkF RX12 204 12 77 := ⟨RX12, TX12, 92, rfl, by decide, uw12, rfl, (Or.inl (lw_ug (List.mem_of_getElem? (i := 1257) (by decide +kernel)) rfl))⟩
theorem lf_X12_207 : LkF RX12 207 12 79 := ⟨RX12, TX12, 92, rfl, by decide, uw12, rfl, (Or.inl (lw_ug (List.mem_of_getElem? (i := 1259) (by decide +kernel)) rfl))⟩
theorem lf_X12_210 : LkF RX12 210 12 80 := ⟨RX12, TX12, 92, rfl, by decide, uw12, rfl, (Or.inl (lw_ug (List.mem_of_getElem? (i := 1260) (by decide +kernel)) rfl))⟩
theorem lf_X12_213 : LkF RX12 213 12 81 := ⟨RX12, TX12, 92, rfl, by decide, uw12, rfl, (Or.inl (lw_ug (List.mem_of_getElem? (i := 1261) (by decide +kernel)) rfl))⟩
theorem lf_X12_216 : LkF RX12 216 12 82 := ⟨RX12, TX12, 92, rfl, by decide, uw12, rfl, (Or.inl (lw_ug (List.mem_of_getElem? (i := 1262) (by decide +kernel)) rfl))⟩
theorem lf_X12_219 : LkF RX12 219 12 83 := ⟨RX12, TX12, 92, rfl, by decide, uw12, rfl, (Or.inl (lw_ug (List.mem_of_getElem? (i := 1263) (by decide +kernel)) rfl))⟩
theorem lp_X12_219 : LkP RX12 219 12 83 0 := ⟨RX12, TX12, 92, tyX12, rfl, by decide, uw12, rfl, (Or.inl (lw_ug (List.mem_of_getElem? (i := 1263) (by decide +kernel)) rfl)), tyX12_ok, nmX12, rfl, Or.inl ⟨rfl, rfl⟩⟩
theorem lf_X12_222 : LkF RX12 222 12 85 := ⟨RX12, TX12, 92, rfl, by decide, uw12, rfl, (Or.inl (lw_ug (List.mem_of_getElem? (i := 1265) (by decide +kernel)) rfl))⟩
theorem lf_X12_225 : LkF RX12 225 12 86 := ⟨RX12, TX12, 92, rfl, by decide, uw12, rfl, (Or.inl (lw_ug (List.mem_of_getElem? (i := 1266) (by decide +kernel)) rfl))⟩
theorem lf_X12_228 : LkF RX12 228 12 87 := ⟨RX12, TX12, 92, rfl, by decide, uw12, rfl, (Or.inl (lw_ug (List.mem_of_getElem? (i := 1267) (by decide +kernel)) rfl))⟩
theorem lf_X12_231 : LkF RX12 231 12 88 := ⟨RX12, TX12, 92, rfl, by decide, uw12, rfl, (Or.inl (lw_ug (List.mem_of_getElem? (i := 1268) (by decide +kernel)) rfl))⟩
theorem lf_X12_234 : LkF RX12 234 12 89 := ⟨RX12, TX12, 92, rfl, by decide, uw12, rfl, (Or.inl (lw_ug (List.mem_of_getElem? (i := 1269) (by decide +kernel)) rfl))⟩
theorem lf_X12_237 : LkF RX12 237 12 90 := ⟨RX12, TX12, 92, rfl, by decide, uw12, rfl, (Or.inl (lw_ug (List.mem_of_getElem? (i := 1270) (by decide +kernel)) rfl))⟩
theorem lf_X12_240 : LkF RX12 240 12 91 := ⟨RX12, TX12, 92, rfl, by decide, uw12, rfl, (Or.inl (lw_ug (List.mem_of_getElem? (i := 1271) (by decide +kernel)) rfl))⟩
theorem lf_X12_255 : LkF RX12 255 12 0 := ⟨RX12, TX12, 92, rfl, by decide, uw12, rfl, (Or.inl (lw_ug (List.mem_of_getElem? (i := 1180) (by decide +kernel)) rfl))⟩
theorem lp_X12_255 : LkP RX12 255 12 0 0 := ⟨RX12, TX12, 92, tyX12, rfl, by decide, uw12, rfl, (Or.inl (lw_ug (List.mem_of_getElem? (i := 1180) (by decide +kernel)) rfl)), tyX12_ok, nmX12, rfl, Or.inl ⟨rfl, rfl⟩⟩
theorem lf_X12_267 : LkF RX12 267 12 1 := ⟨RX12, TX12, 92, rfl, by decide, uw12, rfl, (Or.inl (lw_ug (List.mem_of_getElem? (i := 1181) (by decide +kernel)) rfl))⟩
theorem lp_X12_267 : LkP RX12 267 12 1 0 := ⟨RX12, TX12, 92, tyX12, rfl, by decide, uw12, rfl, (Or.inl (lw_ug (List.mem_of_getElem? (i := 1181) (by decide +kernel)) rfl)), tyX12_ok, nmX12, rfl, Or.inl ⟨rfl, rfl⟩⟩
theorem lf_X12_279 : LkF RX12 279 12 10 := ⟨RX12, TX12, 92, rfl, by decide, uw12, rfl, (Or.inl (lw_ug (List.mem_of_getElem? (i := 1190) (by decide +kernel)) rfl))⟩
theorem lp_X12_279 : LkP RX12 279 12 10 0 := ⟨RX12, TX12, 92, tyX12, rfl, by decide, uw12, rfl, (Or.inl (lw_ug (List.mem_of_getElem? (i := 1190) (by decide +kernel)) rfl)), tyX12_ok, nmX12, rfl, Or.inl ⟨rfl, rfl⟩⟩
theorem lf_X12_311 : LkF RX12 311 12 26 := ⟨RX12, TX12, 92, rfl, by decide, uw12, rfl, (Or.inl (lw_ug (List.mem_of_getElem? (i := 1206) (by decide +kernel)) rfl))⟩
theorem lp_X12_311 : LkP RX12 311 12 26 0 := ⟨RX12, TX12, 92, tyX12, rfl, by decide, uw12, rfl, (Or.inl (lw_ug (List.mem_of_getElem? (i := 1206) (by decide +kernel)) rfl)), tyX12_ok, nmX12, rfl, Or.inl ⟨rfl, rfl⟩⟩
theorem lf_X12_336 : LkF RX12 336 12 37 := ⟨RX12, TX12, 92, rfl, by decide, uw12, rfl, (Or.inl (lw_ug (List.mem_of_getElem? (i := 1217) (by decide +kernel)) rfl))⟩
theorem lp_X12_336 : LkP RX12 336 12 37 0 := ⟨RX12, TX12, 92, tyX12, rfl, by decide, uw12, rfl, (Or.inl (lw_ug (List.mem_of_getElem? (i := 1217) (by decide +kernel)) rfl)), tyX12_ok, nmX12, rfl, Or.inl ⟨rfl, rfl⟩⟩
theorem lf_X12_345 : LkF RX12 345 12 42 := ⟨RX12, TX12, 92, rfl, by decide, uw12, rfl, (Or.inl (lw_ug (List.mem_of_getElem? (i := 1222) (by decide +kernel)) rfl))⟩
theorem lp_X12_345 : LkP RX12 345 12 42 0 := ⟨RX12, TX12, 92, tyX12, rfl, by decide, uw12, rfl, (Or.inl (lw_ug (List.mem_of_getElem? (i := 1222) (by decide +kernel)) rfl)), tyX12_ok, nmX12, rfl, Or.inl ⟨rfl, rfl⟩⟩
theorem lf_X12_362 : LkF RX12 362 12 45 := ⟨RX12, TX12, 92, rfl, by decide, uw12, rfl, (Or.inl (lw_ug (List.mem_of_getElem? (i := 1225) (by decide +kernel)) rfl))⟩
theorem lp_X12_362 : LkP RX12 362 12 45 0 := ⟨RX12, TX12, 92, tyX12, rfl, by decide, uw12, rfl, (Or.inl (lw_ug (List.mem_of_getElem? (i := 1225) (by decide +kernel)) rfl)), tyX12_ok, nmX12, rfl, Or.inl ⟨rfl, rfl⟩⟩
theorem lf_X12_365 : LkF RX12 365 12 43 := ⟨RX12, TX12, 92, rfl, by decide, uw12, rfl, (Or.inl (lw_ug (List.mem_of_getElem? (i := 1223) (by decide +kernel)) rfl))⟩
theorem lp_X12_365 : LkP RX12 365 12 43 0 := ⟨RX12, TX12, 92, tyX12, rfl, by decide, uw12, rfl, (Or.inl (lw_ug (List.mem_of_getElem? (i := 1223) (by decide +kernel)) rfl)), tyX12_ok, nmX12, rfl, Or.inl ⟨rfl, rfl⟩⟩
theorem lf_X12_397 : LkF RX12 397 12 49 := ⟨RX12, TX12, 92, rfl, by decide, uw12, rfl, (Or.inl (lw_ug (List.mem_of_getElem? (i := 1229) (by decide +kernel)) rfl))⟩
theorem lp_X12_397 : LkP RX12 397 12 49 0 := ⟨RX12, TX12, 92, tyX12, rfl, by decide, uw12, rfl, (Or.inl (lw_ug (List.mem_of_getElem? (i := 1229) (by decide +kernel)) rfl)), tyX12_ok, nmX12, rfl, Or.inl ⟨rfl, rfl⟩⟩
theorem lf_X12_407 : LkF RX12 407 12 62 := ⟨RX12, TX12, 92, rfl, by decide, uw12, rfl, (Or.inl (lw_ug (List.mem_of_getElem? (i := 1242) (by decide +kernel)) rfl))⟩
theorem lp_X12_407 : LkP RX12 407 12 62 0 := ⟨RX12, TX12, 92, tyX12, rfl, by decide, uw12, rfl, (Or.inl (lw_ug (List.mem_of_getElem? (i := 1242) (by decide +kernel)) rfl)), tyX12_ok, nmX12, rfl, Or.inl ⟨rfl, rfl⟩⟩
theorem lf_X12_414 : LkF RX12 414 12 66 := ⟨RX12, TX12, 92, rfl, by decide, uw12, rfl, (Or.inl (lw_ug (List.mem_of_getElem? (i := 1246) (by decide +kernel)) rfl))⟩
theorem lp_X12_414 : LkP RX12 414 12 66 0 := ⟨RX12, TX12, 92, tyX12, rfl, by decide, uw12, rfl, (Or.inl (lw_ug (List.mem_of_getElem? (i := 1246) (by decide +kernel)) rfl)), tyX12_ok, nmX12, rfl, Or.inl ⟨rfl, rfl⟩⟩
theorem lf_X12_417 : LkF RX12 417 12 65 := ⟨RX12, TX12, 92, rfl, by decide, uw12, rfl, (Or.inl (lw_ug (List.mem_of_getElem? (i := 1245) (by decide +kernel)) rfl))⟩
theorem lp_X12_417 : LkP RX12 417 12 65 0 := ⟨RX12, TX12, 92, tyX12, rfl, by decide, uw12, rfl, (Or.inl (lw_ug (List.mem_of_getElem? (i := 1245) (by decide +kernel)) rfl)), tyX12_ok, nmX12, rfl, Or.inl ⟨rfl, rfl⟩⟩
theorem lf_X12_436 : LkF RX12 436 12 69 := ⟨RX12, TX12, 92, rfl, by decide, uw12, rfl, (Or.inl (lw_ug (List.mem_of_getElem? (i := 1249) (by decide +kernel)) rfl))⟩
theorem lp_X12_436 : LkP RX12 436 12 69 0 := ⟨RX12, TX12, 92, tyX12, rfl, by decide, uw12, rfl, (Or.inl (lw_ug (List.mem_of_getElem? (i := 1249) (by decide +kernel)) rfl)), tyX12_ok, nmX12, rfl, Or.inl ⟨rfl, rfl⟩⟩
theorem lf_X12_460 : LkF RX12 460 12 78 := ⟨RX12, TX12, 92, rfl, by decide, uw12, rfl, (Or.inl (lw_ug (List.mem_of_getElem? (i := 1258) (by decide +kernel)) rfl))⟩
theorem lp_X12_460 : LkP RX12 460 12 78 0 := ⟨RX12, TX12, 92, tyX12, rfl, by decide, uw12, rfl, (Or.inl (lw_ug (List.mem_of_getElem? (i := 1258) (by decide +kernel)) rfl)), tyX12_ok, nmX12, rfl, Or.inl ⟨rfl, rfl⟩⟩
theorem lf_X12_465 : LkF RX12 465 12 84 := ⟨RX12, TX12, 92, rfl, by decide, uw12, rfl, (Or.inl (lw_ug (List.mem_of_getElem? (i := 1264) (by decide +kernel)) rfl))⟩
theorem lp_X12_465 : LkP RX12 465 12 84 0 := ⟨RX12, TX12, 92, tyX12, rfl, by decide, uw12, rfl, (Or.inl (lw_ug (List.mem_of_getElem? (i := 1264) (by decide +kernel)) rfl)), tyX12_ok, nmX12, rfl, Or.inl ⟨rfl, rfl⟩⟩
theorem lf_X11_170 : LkF RX11 170 7 8 := ⟨RX7, TX7, 13, rfl, by decide, uw7, rfl, (Or.inr ⟨"NewsreelHouse", (lw_un (List.mem_of_getElem? (i := 498) (by decide +kernel)) rfl)⟩)⟩
theorem lp_X11_170 : LkP RX11 170 7 8 0 := ⟨RX7, TX7, 13, tyX7, rfl, by decide, uw7, rfl, (Or.inr ⟨"NewsreelHouse", (lw_un (List.mem_of_getElem? (i := 498) (by decide +kernel)) rfl)⟩), tyX7_ok, nmX7, rfl, Or.inl ⟨rfl, rfl⟩⟩
theorem lf_X11_173 : LkF RX11 173 7 11 := ⟨RX7, TX7, 13, rfl, by decide, uw7, rfl, (Or.inr ⟨"NewsreelHouse", (lw_un (List.mem_of_getElem? (i := 504) (by decide +kernel)) rfl)⟩)⟩
theorem lp_X11_173 : LkP RX11 173 7 11 0 := ⟨RX7, TX7, 13, tyX7, rfl, by decide, uw7, rfl, (Or.inr ⟨"NewsreelHouse", (lw_un (List.mem_of_getElem? (i := 504) (by decide +kernel)) rfl)⟩), tyX7_ok, nmX7, rfl, Or.inl ⟨rfl, rfl⟩⟩
theorem lf_X11_176 : LkF RX11 176 7 12 := ⟨RX7, TX7, 13, rfl, by decide, uw7, rfl, (Or.inr ⟨"NewsreelHouse", (lw_un (List.mem_of_getElem? (i := 506) (by decide +kernel)) rfl)⟩)⟩
theorem lp_X11_176 : LkP RX11 176 7 12 0 := ⟨RX7, TX7, 13, tyX7, rfl, by decide, uw7, rfl, (Or.inr ⟨"NewsreelHouse", (lw_un (List.mem_of_getElem? (i := 506) (by decide +kernel)) rfl)⟩), tyX7_ok, nmX7, rfl, Or.inl ⟨rfl, rfl⟩⟩
theorem lf_X11_179 : LkF RX11 179 7 9 := ⟨RX7, TX7, 13, rfl, by decide, uw7, rfl, (Or.inr ⟨"NewsreelHouse", (lw_un (List.mem_of_getElem? (i := 500) (by decide +kernel)) rfl)⟩)⟩
theorem lp_X11_179 : LkP RX11 179 7 9 0 := ⟨RX7, TX7, 13, tyX7, rfl, by decide, uw7, rfl, (Or.inr ⟨"NewsreelHouse", (lw_un (List.mem_of_getElem? (i := 500) (by decide +kernel)) rfl)⟩), tyX7_ok, nmX7, rfl, Or.inl ⟨rfl, rfl⟩⟩
theorem lf_X11_182 : LkF RX11 182 7 10 := ⟨RX7, TX7, 13, rfl, by decide, uw7, rfl, (Or.inr ⟨"NewsreelHouse", (lw_un (List.mem_of_getElem? (i := 502) (by decide +kernel)) rfl)⟩)⟩
theorem lp_X11_182 : LkP RX11 182 7 10 0 := ⟨RX7, TX7, 13, tyX7, rfl, by decide, uw7, rfl, (Or.inr ⟨"NewsreelHouse", (lw_un (List.mem_of_getElem? (i := 502) (by decide +kernel)) rfl)⟩), tyX7_ok, nmX7, rfl, Or.inl ⟨rfl, rfl⟩⟩
theorem lf_X11_220 : LkF RX11 220 8 6 := ⟨RX8, TX8, 8, rfl, by decide, uw8, rfl, (Or.inr ⟨"NewsreelHouse", (lw_un (List.mem_of_getElem? (i := 635) (by decide +kernel)) rfl)⟩)⟩
theorem lp_X11_220 : LkP RX11 220 8 6 1 := ⟨RX8, TX8, 8, tyX8, rfl, by decide, uw8, rfl, (Or.inr ⟨"NewsreelHouse", (lw_un (List.mem_of_getElem? (i := 635) (by decide +kernel)) rfl)⟩), tyX8_ok, nmX8, rfl, Or.inr ⟨rfl, rfl⟩⟩
theorem lf_X11_227 : LkF RX11 227 8 7 := ⟨RX8, TX8, 8, rfl, by decide, uw8, rfl, (Or.inr ⟨"NewsreelHouse", (lw_un (List.mem_of_getElem? (i := 637) (by decide +kernel)) rfl)⟩)⟩
theorem lp_X11_227 : LkP RX11 227 8 7 1 := ⟨RX8, TX8, 8, tyX8, rfl, by decide, uw8, rfl, (Or.inr ⟨"NewsreelHouse", (lw_un (List.mem_of_getElem? (i := 637) (by decide +kernel)) rfl)⟩), tyX8_ok, nmX8, rfl, Or.inr ⟨rfl, rfl⟩⟩
theorem lf_X11_230 : LkF RX11 230 8 5 := ⟨RX8, TX8, 8, rfl, by decide, uw8, rfl, (Or.inr ⟨"NewsreelHouse", (lw_un (List.mem_of_getElem? (i := 633) (by decide +kernel)) rfl)⟩)⟩
theorem lp_X11_230 : LkP RX11 230 8 5 0 := ⟨RX8, TX8, 8, tyX8, rfl, by decide, uw8, rfl, (Or.inr ⟨"NewsreelHouse", (lw_un (List.mem_of_getElem? (i := 633) (by decide +kernel)) rfl)⟩), tyX8_ok, nmX8, rfl, Or.inl ⟨rfl, rfl⟩⟩
theorem lf_X11_276 : LkF RX11 276 6 1 := ⟨RX6, TX6, 4, rfl, by decide, uw6, rfl, (Or.inr ⟨"NewsreelHouse", (lw_un (List.mem_of_getElem? (i := 753) (by decide +kernel)) rfl)⟩)⟩
theorem lp_X11_276 : LkP RX11 276 6 1 0 := ⟨RX6, TX6, 4, tyX6, rfl, by decide, uw6, rfl, (Or.inr ⟨"NewsreelHouse", (lw_un (List.mem_of_getElem? (i := 753) (by decide +kernel)) rfl)⟩), tyX6_ok, nmX6, rfl, Or.inl ⟨rfl, rfl⟩⟩
theorem lf_X11_304 : LkF RX11 304 5 4 := ⟨RX5, TX5, 5, rfl, by decide, uw5, rfl, (Or.inr ⟨"NewsreelHouse", (lw_un (List.mem_of_getElem? (i := 886) (by decide +kernel)) rfl)⟩)⟩
theorem lp_X11_304 : LkP RX11 304 5 4 0 := ⟨RX5, TX5, 5, tyX5, rfl, by decide, uw5, rfl, (Or.inr ⟨"NewsreelHouse", (lw_un (List.mem_of_getElem? (i := 886) (by decide +kernel)) rfl)⟩), tyX5_ok, nmX5, rfl, Or.inl ⟨rfl, rfl⟩⟩
theorem lf_X11_318 : LkF RX11 318 4 3 := ⟨RX4, TX4, 13, rfl, by decide, uw4, rfl, (Or.inr ⟨"NewsreelHouse", (lw_un (List.mem_of_getElem? (i := 188) (by decide +kernel)) rfl)⟩)⟩
theorem lp_X11_318 : LkP RX11 318 4 3 0 := ⟨RX4, TX4, 13, tyX4, rfl, by decide, uw4, rfl, (Or.inr ⟨"NewsreelHouse", (lw_un (List.mem_of_getElem? (i := 188) (by decide +kernel)) rfl)⟩), tyX4_ok, nmX4, rfl, Or.inl ⟨rfl, rfl⟩⟩
theorem lf_X11_332 : LkF RX11 332 4 11 := ⟨RX4, TX4, 13, rfl, by decide, uw4, rfl, (Or.inr ⟨"NewsreelHouse", (lw_un (List.mem_of_getElem? (i := 197) (by decide +kernel)) rfl)⟩)⟩
theorem lp_X11_332 : LkP RX11 332 4 11 0 := ⟨RX4, TX4, 13, tyX4, rfl, by decide, uw4, rfl, (Or.inr ⟨"NewsreelHouse", (lw_un (List.mem_of_getElem? (i := 197) (by decide +kernel)) rfl)⟩), tyX4_ok, nmX4, rfl, Or.inl ⟨rfl, rfl⟩⟩
theorem lf_X11_355 : LkF RX11 355 0 10 := ⟨RX0, TX0, 13, rfl, by decide, uw0, rfl, (Or.inr ⟨"NewsreelHouse", (lw_un (List.mem_of_getElem? (i := 244) (by decide +kernel)) rfl)⟩)⟩
theorem lp_X11_355 : LkP RX11 355 0 10 0 := ⟨RX0, TX0, 13, tyX0, rfl, by decide, uw0, rfl, (Or.inr ⟨"NewsreelHouse", (lw_un (List.mem_of_getElem? (i := 244) (by decide +kernel)) rfl)⟩), tyX0_ok, nmX0, rfl, Or.inl ⟨rfl, rfl⟩⟩
theorem lf_X11_356 : LkF RX11 356 0 2 := ⟨RX0, TX0, 13, rfl, by decide, uw0, rfl, (Or.inr ⟨"NewsreelHouse", (lw_un (List.mem_of_getElem? (i := 235) (by decide +kernel)) rfl)⟩)⟩
theorem lp_X11_356 : LkP RX11 356 0 2 0 := ⟨RX0, TX0, 13, tyX0, rfl, by decide, uw0, rfl, (Or.inr ⟨"NewsreelHouse", (lw_un (List.mem_of_getElem? (i := 235) (by decide +kernel)) rfl)⟩), tyX0_ok, nmX0, rfl, Or.inl ⟨rfl, rfl⟩⟩
theorem lf_X11_359 : LkF RX11 359 0 11 := ⟨RX0, TX0, 13, rfl, by decide, uw0, rfl, (Or.inr ⟨"NewsreelHouse", (lw_un (List.mem_of_getElem? (i := 246) (by decide +kernel)) rfl)⟩)⟩
theorem lp_X11_359 : LkP RX11 359 0 11 0 := ⟨RX0, TX0, 13, tyX0, rfl, by decide, uw0, rfl, (Or.inr ⟨"NewsreelHouse", (lw_un (List.mem_of_getElem? (i := 246) (by decide +kernel)) rfl)⟩), tyX0_ok, nmX0, rfl, Or.inl ⟨rfl, rfl⟩⟩
theorem lf_X11_362 : LkF RX11 362 0 12 := ⟨RX0, TX0, 13, rfl, by decide, uw0, rfl, (Or.inr ⟨"NewsreelHouse", (lw_un (List.mem_of_getElem? (i := 248) (by decide +kernel)) rfl)⟩)⟩
theorem lp_X11_362 : LkP RX11 362 0 12 0 := ⟨RX0, TX0, 13, tyX0, rfl, by decide, uw0, rfl, (Or.inr ⟨"NewsreelHouse", (lw_un (List.mem_of_getElem? (i := 248) (by decide +kernel)) rfl)⟩), tyX0_ok, nmX0, rfl, Or.inl ⟨rfl, rfl⟩⟩
theorem lf_X11_379 : LkF RX11 379 2 0 := ⟨RX2, TX2, 9, rfl, by decide, uw2, rfl, (Or.inr ⟨"NewsreelHouse", (lw_un (List.mem_of_getElem? (i := 283) (by decide +kernel)) rfl)⟩)⟩
theorem lp_X11_379 : LkP RX11 379 2 0 0 := ⟨RX2, TX2, 9, tyX2, rfl, by decide, uw2, rfl, (Or.inr ⟨"NewsreelHouse", (lw_un (List.mem_of_getElem? (i := 283) (by decide +kernel)) rfl)⟩), tyX2_ok, nmX2, rfl, Or.inl ⟨rfl, rfl⟩⟩
theorem lf_X3_38 : LkF RX3 38 8 6 := ⟨RX8, TX8, 8, rfl, by decide, uw8, rfl, (Or.inr ⟨"NewsreelHouse", (lw_un (List.mem_of_getElem? (i := 634) (by decide +kernel)) rfl)⟩)⟩
theorem lp_X3_38 : LkP RX3 38 8 6 1 := ⟨RX8, TX8, 8, tyX8, rfl, by decide, uw8, rfl, (Or.inr ⟨"NewsreelHouse", (lw_un (List.mem_of_getElem? (i := 634) (by decide +kernel)) rfl)⟩), tyX8_ok, nmX8, rfl, Or.inr ⟨rfl, rfl⟩⟩
theorem lf_X3_51 : LkF RX3 51 6 3 := ⟨RX6, TX6, 4, rfl, by decide, uw6, rfl, (Or.inr ⟨"NewsreelHouse", (lw_un (List.mem_of_getElem? (i := 757) (by decide +kernel)) rfl)⟩)⟩
theorem lp_X3_51 : LkP RX3 51 6 3 0 := ⟨RX6, TX6, 4, tyX6, rfl, by decide, uw6, rfl, (Or.inr ⟨"NewsreelHouse", (lw_un (List.mem_of_getElem? (i := 757) (by decide +kernel)) rfl)⟩), tyX6_ok, nmX6, rfl, Or.inl ⟨rfl, rfl⟩⟩
theorem lf_X3_56 : LkF RX3 56 6 2 := ⟨RX6, TX6, 4, rfl, by decide, uw6, rfl, (Or.inr ⟨"NewsreelHouse", (lw_un (List.mem_of_getElem? (i := 755) (by decide +kernel)) rfl)⟩)⟩
theorem lf_X4_55 : LkF RX4 55 8 7 := ⟨RX8, TX8, 8, rfl, by decide, uw8, rfl, (Or.inr ⟨"NewsreelHouse", (lw_un (List.mem_of_getElem? (i := 636) (by decide +kernel)) rfl)⟩)⟩
theorem lp_X4_55 : LkP RX4 55 8 7 1 := ⟨RX8, TX8, 8, tyX8, rfl, by decide, uw8, rfl, (Or.inr ⟨"NewsreelHouse", (lw_un (List.mem_of_getElem? (i := 636) (by decide +kernel)) rfl)⟩), tyX8_ok, nmX8, rfl, Or.inr ⟨rfl, rfl⟩⟩
set_option maxRecDepth 20000 in
theorem cw_X11_within : Cond.code yX11_within cX11_within 3 (some .boolean) ∈ lw_u := (lw_ug (List.mem_of_getElem? (i := 373) rfl) rfl)
theorem lm_X11_83 : LkM RX11 83 yX11_within cX11_within 3 (some .boolean) 3 := ⟨cw_X11_within, (lw_ug (List.mem_of_getElem? (i := 73) (by decide +kernel)) rfl), ⟨by decide, by decide, by decide +kernel⟩, by decide, (Or.inl (lw_ug (List.mem_of_getElem? (i := 371) (by decide +kernel)) rfl))⟩
theorem ls_X11_within : Cond.static yX11_within ∈ lw_u := (lw_ug (List.mem_of_getElem? (i := 372) (by decide +kernel)) rfl)
set_option maxRecDepth 20000 in
theorem cw_X11_isPlace : Cond.code yX11_isPlace cX11_isPlace 1 (some .boolean) ∈ lw_u := (lw_ug (List.mem_of_getElem? (i := 380) rfl) rfl)
theorem lm_X11_90 : LkM RX11 90 yX11_isPlace cX11_isPlace 1 (some .boolean) 1 := ⟨cw_X11_isPlace, (lw_ug (List.mem_of_getElem? (i := 73) (by decide +kernel)) rfl), ⟨by decide, by decide, by decide +kernel⟩, by decide, (Or.inl (lw_ug (List.mem_of_getElem? (i := 378) (by decide +kernel)) rfl))⟩
theorem ls_X11_isPlace : Cond.static yX11_isPlace ∈ lw_u := (lw_ug (List.mem_of_getElem? (i := 379) (by decide +kernel)) rfl)
set_option maxRecDepth 20000 in
theorem cw_X11_isHour : Cond.code yX11_isHour cX11_isHour 1 (some .boolean) ∈ lw_u := (lw_ug (List.mem_of_getElem? (i := 383) rfl) rfl)
theorem lm_X11_94 : LkM RX11 94 yX11_isHour cX11_isHour 1 (some .boolean) 1 := ⟨cw_X11_isHour, (lw_ug (List.mem_of_getElem? (i := 73) (by decide +kernel)) rfl), ⟨by decide, by decide, by decide +kernel⟩, by decide, (Or.inl (lw_ug (List.mem_of_getElem? (i := 381) (by decide +kernel)) rfl))⟩
theorem ls_X11_isHour : Cond.static yX11_isHour ∈ lw_u := (lw_ug (List.mem_of_getElem? (i := 382) (by decide +kernel)) rfl)
set_option maxRecDepth 20000 in
theorem cw_X9_isFull : Cond.code yX9_isFull cX9_isFull 1 (some .boolean) ∈ lw_u := (lw_ug (List.mem_of_getElem? (i := 387) rfl) rfl)
theorem lm_X11_97 : LkM RX11 97 yX9_isFull cX9_isFull 1 (some .boolean) 0 := ⟨cw_X9_isFull, (lw_ug (List.mem_of_getElem? (i := 74) (by decide +kernel)) rfl), ⟨by decide, by decide, by decide +kernel⟩, by decide, (Or.inl (lw_ug (List.mem_of_getElem? (i := 384) (by decide +kernel)) rfl))⟩
theorem lv_vX9_isFull : LkV yX9_isFull := ⟨(lw_ug (List.mem_of_getElem? (i := 385) (by decide +kernel)) rfl), (lw_ug (List.mem_of_getElem? (i := 386) (by decide +kernel)) rfl)⟩
set_option maxRecDepth 20000 in
theorem cw_X10_init : Cond.code yX10_init cX10_init 7 none ∈ lw_u := (lw_ug (List.mem_of_getElem? (i := 392) rfl) rfl)
theorem lm_X11_103 : LkM RX11 103 yX10_init cX10_init 7 none 6 := ⟨cw_X10_init, (lw_ug (List.mem_of_getElem? (i := 81) (by decide +kernel)) rfl), ⟨by decide, by decide, by decide +kernel⟩, by decide, (Or.inl (lw_ug (List.mem_of_getElem? (i := 390) (by decide +kernel)) rfl))⟩
set_option maxRecDepth 20000 in
theorem cw_X9_add : Cond.code yX9_add cX9_add 2 (some .int) ∈ lw_u := (lw_ug (List.mem_of_getElem? (i := 422) rfl) rfl)
theorem lm_X11_106 : LkM RX11 106 yX9_add cX9_add 2 (some .int) 1 := ⟨cw_X9_add, (lw_ug (List.mem_of_getElem? (i := 74) (by decide +kernel)) rfl), ⟨by decide, by decide, by decide +kernel⟩, by decide, (Or.inl (lw_ug (List.mem_of_getElem? (i := 419) (by decide +kernel)) rfl))⟩
theorem lv_vX9_add : LkV yX9_add := ⟨(lw_ug (List.mem_of_getElem? (i := 420) (by decide +kernel)) rfl), (lw_ug (List.mem_of_getElem? (i := 421) (by decide +kernel)) rfl)⟩
set_option maxRecDepth 20000 in
theorem cw_X9_numbered : Cond.code yX9_numbered cX9_numbered 2 (some (.object RX10)) ∈ lw_u := (lw_ug (List.mem_of_getElem? (i := 431) rfl) rfl)
theorem lm_X11_110 : LkM RX11 110 yX9_numbered cX9_numbered 2 (some (.object RX10)) 1 := ⟨cw_X9_numbered, (lw_ug (List.mem_of_getElem? (i := 74) (by decide +kernel)) rfl), ⟨by decide, by decide, by decide +kernel⟩, by decide, (Or.inl (lw_ug (List.mem_of_getElem? (i := 428) (by decide +kernel)) rfl))⟩
theorem lv_vX9_numbered : LkV yX9_numbered := ⟨(lw_ug (List.mem_of_getElem? (i := 429) (by decide +kernel)) rfl), (lw_ug (List.mem_of_getElem? (i := 430) (by decide +kernel)) rfl)⟩
set_option maxRecDepth 20000 in
theorem cw_X9_earliest : Cond.code yX9_earliest cX9_earliest 5 (some .int) ∈ lw_u := (lw_ug (List.mem_of_getElem? (i := 440) rfl) rfl)
theorem lm_X11_118 : LkM RX11 118 yX9_earliest cX9_earliest 5 (some .int) 4 := ⟨cw_X9_earliest, (lw_ug (List.mem_of_getElem? (i := 74) (by decide +kernel)) rfl), ⟨by decide, by decide, by decide +kernel⟩, by decide, (Or.inl (lw_ug (List.mem_of_getElem? (i := 437) (by decide +kernel)) rfl))⟩
theorem lv_vX9_earliest : LkV yX9_earliest := ⟨(lw_ug (List.mem_of_getElem? (i := 438) (by decide +kernel)) rfl), (lw_ug (List.mem_of_getElem? (i := 439) (by decide +kernel)) rfl)⟩
set_option maxRecDepth 20000 in
theorem cw_X11_isSubject : Cond.code yX11_isSubject cX11_isSubject 1 (some .boolean) ∈ lw_u := (lw_ug (List.mem_of_getElem? (i := 464) rfl) rfl)
theorem lm_X11_122 : LkM RX11 122 yX11_isSubject cX11_isSubject 1 (some .boolean) 1 := ⟨cw_X11_isSubject, (lw_ug (List.mem_of_getElem? (i := 73) (by decide +kernel)) rfl), ⟨by decide, by decide, by decide +kernel⟩, by decide, (Or.inl (lw_ug (List.mem_of_getElem? (i := 462) (by decide +kernel)) rfl))⟩
theorem ls_X11_isSubject : Cond.static yX11_isSubject ∈ lw_u := (lw_ug (List.mem_of_getElem? (i := 463) (by decide +kernel)) rfl)
set_option maxRecDepth 20000 in
theorem cw_X11_isMarkSet : Cond.code yX11_isMarkSet cX11_isMarkSet 1 (some .boolean) ∈ lw_u := (lw_ug (List.mem_of_getElem? (i := 467) rfl) rfl)
theorem lm_X11_125 : LkM RX11 125 yX11_isMarkSet cX11_isMarkSet 1 (some .boolean) 1 := ⟨cw_X11_isMarkSet, (lw_ug (List.mem_of_getElem? (i := 73) (by decide +kernel)) rfl), ⟨by decide, by decide, by decide +kernel⟩, by decide, (Or.inl (lw_ug (List.mem_of_getElem? (i := 465) (by decide +kernel)) rfl))⟩
theorem ls_X11_isMarkSet : Cond.static yX11_isMarkSet ∈ lw_u := (lw_ug (List.mem_of_getElem? (i := 466) (by decide +kernel)) rfl)
set_option maxRecDepth 20000 in
theorem cw_X11_isKind : Cond.code yX11_isKind cX11_isKind 1 (some .boolean) ∈ lw_u := (lw_ug (List.mem_of_getElem? (i := 470) rfl) rfl)
theorem lm_X11_128 : LkM RX11 128 yX11_isKind cX11_isKind 1 (some .boolean) 1 := ⟨cw_X11_isKind, (lw_ug (List.mem_of_getElem? (i := 73) (by decide +kernel)) rfl), ⟨by decide, by decide, by decide +kernel⟩, by decide, (Or.inl (lw_ug (List.mem_of_getElem? (i := 468) (by decide +kernel)) rfl))⟩
theorem ls_X11_isKind : Cond.static yX11_isKind ∈ lw_u := (lw_ug (List.mem_of_getElem? (i := 469) (by decide +kernel)) rfl)
set_option maxRecDepth 20000 in
theorem cw_X7_init : Cond.code yX7_init cX7_init 8 none ∈ lw_u := (lw_ug (List.mem_of_getElem? (i := 474) rfl) rfl)
theorem lm_X11_134 : LkM RX11 134 yX7_init cX7_init 8 none 7 := ⟨cw_X7_init, (lw_ug (List.mem_of_getElem? (i := 83) (by decide +kernel)) rfl), ⟨by decide, by decide, by decide +kernel⟩, by decide, (Or.inl (lw_ug (List.mem_of_getElem? (i := 472) (by decide +kernel)) rfl))⟩
set_option maxRecDepth 20000 in
theorem cw_X7_tell : Cond.code yX7_tell cX7_tell 2 none ∈ lw_u := (lw_ug (List.mem_of_getElem? (i := 537) rfl) rfl)
theorem lm_X11_137 : LkM RX11 137 yX7_tell cX7_tell 2 none 1 := ⟨cw_X7_tell, (lw_ug (List.mem_of_getElem? (i := 83) (by decide +kernel)) rfl), ⟨by decide, by decide, by decide +kernel⟩, by decide, (Or.inl (lw_ug (List.mem_of_getElem? (i := 534) (by decide +kernel)) rfl))⟩
theorem lv_vX7_tell : LkV yX7_tell := ⟨(lw_ug (List.mem_of_getElem? (i := 535) (by decide +kernel)) rfl), (lw_ug (List.mem_of_getElem? (i := 536) (by decide +kernel)) rfl)⟩
set_option maxRecDepth 20000 in
theorem cw_X11_shotNumbered : Cond.code yX11_shotNumbered cX11_shotNumbered 2 (some (.object RX7)) ∈ lw_u := (lw_ug (List.mem_of_getElem? (i := 545) rfl) rfl)
theorem lm_X11_144 : LkM RX11 144 yX11_shotNumbered cX11_shotNumbered 2 (some (.object RX7)) 1 := ⟨cw_X11_shotNumbered, (lw_ug (List.mem_of_getElem? (i := 73) (by decide +kernel)) rfl), ⟨by decide, by decide, by decide +kernel⟩, by decide, (Or.inl (lw_ug (List.mem_of_getElem? (i := 542) (by decide +kernel)) rfl))⟩
theorem lv_vX11_shotNumbered : LkV yX11_shotNumbered := ⟨(lw_ug (List.mem_of_getElem? (i := 544) (by decide +kernel)) rfl), (lw_ug (List.mem_of_getElem? (i := 0) (by decide +kernel)) rfl)⟩
set_option maxRecDepth 20000 in
theorem cw_X7_whereAt : Cond.code yX7_whereAt cX7_whereAt 2 (some .int) ∈ lw_u := (lw_ug (List.mem_of_getElem? (i := 553) rfl) rfl)
theorem lm_X11_166 : LkM RX11 166 yX7_whereAt cX7_whereAt 2 (some .int) 1 := ⟨cw_X7_whereAt, (lw_ug (List.mem_of_getElem? (i := 83) (by decide +kernel)) rfl), ⟨by decide, by decide, by decide +kernel⟩, by decide, (Or.inl (lw_ug (List.mem_of_getElem? (i := 550) (by decide +kernel)) rfl))⟩
theorem lv_vX7_whereAt : LkV yX7_whereAt := ⟨(lw_ug (List.mem_of_getElem? (i := 551) (by decide +kernel)) rfl), (lw_ug (List.mem_of_getElem? (i := 552) (by decide +kernel)) rfl)⟩
set_option maxRecDepth 20000 in
theorem cw_X11_isDayOfYear : Cond.code yX11_isDayOfYear cX11_isDayOfYear 1 (some .boolean) ∈ lw_u := (lw_ug (List.mem_of_getElem? (i := 580) rfl) rfl)
theorem lm_X11_185 : LkM RX11 185 yX11_isDayOfYear cX11_isDayOfYear 1 (some .boolean) 1 := ⟨cw_X11_isDayOfYear, (lw_ug (List.mem_of_getElem? (i := 73) (by decide +kernel)) rfl), ⟨by decide, by decide, by decide +kernel⟩, by decide, (Or.inl (lw_ug (List.mem_of_getElem? (i := 578) (by decide +kernel)) rfl))⟩
theorem ls_X11_isDayOfYear : Cond.static yX11_isDayOfYear ∈ lw_u := (lw_ug (List.mem_of_getElem? (i := 579) (by decide +kernel)) rfl)
set_option maxRecDepth 20000 in
theorem cw_X1_learn : Cond.code yX1_learn cX1_learn 5 none ∈ lw_u := (lw_ug (List.mem_of_getElem? (i := 584) rfl) rfl)
theorem lm_X11_188 : LkM RX11 188 yX1_learn cX1_learn 5 none 4 := ⟨cw_X1_learn, (lw_ug (List.mem_of_getElem? (i := 75) (by decide +kernel)) rfl), ⟨by decide, by decide, by decide +kernel⟩, by decide, (Or.inl (lw_ug (List.mem_of_getElem? (i := 581) (by decide +kernel)) rfl))⟩
theorem lv_vX1_learn : LkV yX1_learn := ⟨(lw_ug (List.mem_of_getElem? (i := 582) (by decide +kernel)) rfl), (lw_ug (List.mem_of_getElem? (i := 583) (by decide +kernel)) rfl)⟩
set_option maxRecDepth 20000 in
theorem cw_X1_firstLie : Cond.code yX1_firstLie cX1_firstLie 5 (some .int) ∈ lw_u := (lw_ug (List.mem_of_getElem? (i := 592) rfl) rfl)
theorem lm_X11_192 : LkM RX11 192 yX1_firstLie cX1_firstLie 5 (some .int) 3 := ⟨cw_X1_firstLie, (lw_ug (List.mem_of_getElem? (i := 75) (by decide +kernel)) rfl), ⟨by decide, by decide, by decide +kernel⟩, by decide, (Or.inl (lw_ug (List.mem_of_getElem? (i := 589) (by decide +kernel)) rfl))⟩
theorem lv_vX1_firstLie : LkV yX1_firstLie := ⟨(lw_ug (List.mem_of_getElem? (i := 590) (by decide +kernel)) rfl), (lw_ug (List.mem_of_getElem? (i := 591) (by decide +kernel)) rfl)⟩
set_option maxRecDepth 20000 in
theorem cw_X11_isCard : Cond.code yX11_isCard cX11_isCard 4 (some .boolean) ∈ lw_u := (lw_ug (List.mem_of_getElem? (i := 611) rfl) rfl)
theorem lm_X11_196 : LkM RX11 196 yX11_isCard cX11_isCard 4 (some .boolean) 3 := ⟨cw_X11_isCard, (lw_ug (List.mem_of_getElem? (i := 73) (by decide +kernel)) rfl), ⟨by decide, by decide, by decide +kernel⟩, by decide, (Or.inl (lw_ug (List.mem_of_getElem? (i := 608) (by decide +kernel)) rfl))⟩
theorem lv_vX11_isCard : LkV yX11_isCard := ⟨(lw_ug (List.mem_of_getElem? (i := 610) (by decide +kernel)) rfl), (lw_ug (List.mem_of_getElem? (i := 2) (by decide +kernel)) rfl)⟩
set_option maxRecDepth 20000 in
theorem cw_X8_init : Cond.code yX8_init cX8_init 5 none ∈ lw_u := (lw_ug (List.mem_of_getElem? (i := 619) rfl) rfl)
theorem lm_X11_203 : LkM RX11 203 yX8_init cX8_init 5 none 4 := ⟨cw_X8_init, (lw_ug (List.mem_of_getElem? (i := 84) (by decide +kernel)) rfl), ⟨by decide, by decide, by decide +kernel⟩, by decide, (Or.inl (lw_ug (List.mem_of_getElem? (i := 617) (by decide +kernel)) rfl))⟩
set_option maxRecDepth 20000 in
theorem cw_X11_storyNumbered : Cond.code yX11_storyNumbered cX11_storyNumbered 2 (some (.object RX8)) ∈ lw_u := (lw_ug (List.mem_of_getElem? (i := 662) rfl) rfl)
theorem lm_X11_205 : LkM RX11 205 yX11_storyNumbered cX11_storyNumbered 2 (some (.object RX8)) 1 := ⟨cw_X11_storyNumbered, (lw_ug (List.mem_of_getElem? (i := 73) (by decide +kernel)) rfl), ⟨by decide, by decide, by decide +kernel⟩, by decide, (Or.inl (lw_ug (List.mem_of_getElem? (i := 659) (by decide +kernel)) rfl))⟩
theorem lv_vX11_storyNumbered : LkV yX11_storyNumbered := ⟨(lw_ug (List.mem_of_getElem? (i := 661) (by decide +kernel)) rfl), (lw_ug (List.mem_of_getElem? (i := 3) (by decide +kernel)) rfl)⟩
set_option maxRecDepth 20000 in
theorem cw_X8_has : Cond.code yX8_has cX8_has 3 (some .boolean) ∈ lw_u := (lw_ug (List.mem_of_getElem? (i := 666) rfl) rfl)
theorem lm_X11_209 : LkM RX11 209 yX8_has cX8_has 3 (some .boolean) 1 := ⟨cw_X8_has, (lw_ug (List.mem_of_getElem? (i := 84) (by decide +kernel)) rfl), ⟨by decide, by decide, by decide +kernel⟩, by decide, (Or.inl (lw_ug (List.mem_of_getElem? (i := 663) (by decide +kernel)) rfl))⟩
theorem lv_vX8_has : LkV yX8_has := ⟨(lw_ug (List.mem_of_getElem? (i := 664) (by decide +kernel)) rfl), (lw_ug (List.mem_of_getElem? (i := 665) (by decide +kernel)) rfl)⟩
set_option maxRecDepth 20000 in
theorem cw_X8_append : Cond.code yX8_append cX8_append 2 (some .int) ∈ lw_u := (lw_ug (List.mem_of_getElem? (i := 670) rfl) rfl)
theorem lm_X11_213 : LkM RX11 213 yX8_append cX8_append 2 (some .int) 1 := ⟨cw_X8_append, (lw_ug (List.mem_of_getElem? (i := 84) (by decide +kernel)) rfl), ⟨by decide, by decide, by decide +kernel⟩, by decide, (Or.inl (lw_ug (List.mem_of_getElem? (i := 667) (by decide +kernel)) rfl))⟩
theorem lv_vX8_append : LkV yX8_append := ⟨(lw_ug (List.mem_of_getElem? (i := 668) (by decide +kernel)) rfl), (lw_ug (List.mem_of_getElem? (i := 669) (by decide +kernel)) rfl)⟩
set_option maxRecDepth 20000 in
theorem cw_X8_remove : Cond.code yX8_remove cX8_remove 4 (some .int) ∈ lw_u := (lw_ug (List.mem_of_getElem? (i := 678) rfl) rfl)
theorem lm_X11_217 : LkM RX11 217 yX8_remove cX8_remove 4 (some .int) 1 := ⟨cw_X8_remove, (lw_ug (List.mem_of_getElem? (i := 84) (by decide +kernel)) rfl), ⟨by decide, by decide, by decide +kernel⟩, by decide, (Or.inl (lw_ug (List.mem_of_getElem? (i := 675) (by decide +kernel)) rfl))⟩
theorem lv_vX8_remove : LkV yX8_remove := ⟨(lw_ug (List.mem_of_getElem? (i := 676) (by decide +kernel)) rfl), (lw_ug (List.mem_of_getElem? (i := 677) (by decide +kernel)) rfl)⟩
set_option maxRecDepth 20000 in
theorem cw_X11_asNumber : Cond.code yX11_asNumber cX11_asNumber 1 (some .int) ∈ lw_u := (lw_ug (List.mem_of_getElem? (i := 686) rfl) rfl)
theorem lm_X11_223 : LkM RX11 223 yX11_asNumber cX11_asNumber 1 (some .int) 1 := ⟨cw_X11_asNumber, (lw_ug (List.mem_of_getElem? (i := 73) (by decide +kernel)) rfl), ⟨by decide, by decide, by decide +kernel⟩, by decide, (Or.inl (lw_ug (List.mem_of_getElem? (i := 684) (by decide +kernel)) rfl))⟩
theorem ls_X11_asNumber : Cond.static yX11_asNumber ∈ lw_u := (lw_ug (List.mem_of_getElem? (i := 685) (by decide +kernel)) rfl)
set_option maxRecDepth 20000 in
theorem cw_X8_allFeet : Cond.code yX8_allFeet cX8_allFeet 3 (some .int) ∈ lw_u := (lw_ug (List.mem_of_getElem? (i := 698) rfl) rfl)
theorem lm_X11_233 : LkM RX11 233 yX8_allFeet cX8_allFeet 3 (some .int) 0 := ⟨cw_X8_allFeet, (lw_ug (List.mem_of_getElem? (i := 84) (by decide +kernel)) rfl), ⟨by decide, by decide, by decide +kernel⟩, by decide, (Or.inl (lw_ug (List.mem_of_getElem? (i := 695) (by decide +kernel)) rfl))⟩
theorem lv_vX8_allFeet : LkV yX8_allFeet := ⟨(lw_ug (List.mem_of_getElem? (i := 696) (by decide +kernel)) rfl), (lw_ug (List.mem_of_getElem? (i := 697) (by decide +kernel)) rfl)⟩
set_option maxRecDepth 20000 in
theorem cw_X8_disorder : Cond.code yX8_disorder cX8_disorder 4 (some .int) ∈ lw_u := (lw_ug (List.mem_of_getElem? (i := 702) rfl) rfl)
theorem lm_X11_237 : LkM RX11 237 yX8_disorder cX8_disorder 4 (some .int) 0 := ⟨cw_X8_disorder, (lw_ug (List.mem_of_getElem? (i := 84) (by decide +kernel)) rfl), ⟨by decide, by decide, by decide +kernel⟩, by decide, (Or.inl (lw_ug (List.mem_of_getElem? (i := 699) (by decide +kernel)) rfl))⟩
theorem lv_vX8_disorder : LkV yX8_disorder := ⟨(lw_ug (List.mem_of_getElem? (i := 700) (by decide +kernel)) rfl), (lw_ug (List.mem_of_getElem? (i := 701) (by decide +kernel)) rfl)⟩
set_option maxRecDepth 20000 in
theorem cw_X8_oldOnes : Cond.code yX8_oldOnes cX8_oldOnes 4 (some .int) ∈ lw_u := (lw_ug (List.mem_of_getElem? (i := 707) rfl) rfl)
theorem lm_X11_240 : LkM RX11 240 yX8_oldOnes cX8_oldOnes 4 (some .int) 1 := ⟨cw_X8_oldOnes, (lw_ug (List.mem_of_getElem? (i := 84) (by decide +kernel)) rfl), ⟨by decide, by decide, by decide +kernel⟩, by decide, (Or.inl (lw_ug (List.mem_of_getElem? (i := 704) (by decide +kernel)) rfl))⟩
theorem lv_vX8_oldOnes : LkV yX8_oldOnes := ⟨(lw_ug (List.mem_of_getElem? (i := 705) (by decide +kernel)) rfl), (lw_ug (List.mem_of_getElem? (i := 706) (by decide +kernel)) rfl)⟩
set_option maxRecDepth 20000 in
theorem cw_X8_falseOnes : Cond.code yX8_falseOnes cX8_falseOnes 4 (some .int) ∈ lw_u := (lw_ug (List.mem_of_getElem? (i := 711) rfl) rfl)
theorem lm_X11_243 : LkM RX11 243 yX8_falseOnes cX8_falseOnes 4 (some .int) 1 := ⟨cw_X8_falseOnes, (lw_ug (List.mem_of_getElem? (i := 84) (by decide +kernel)) rfl), ⟨by decide, by decide, by decide +kernel⟩, by decide, (Or.inl (lw_ug (List.mem_of_getElem? (i := 708) (by decide +kernel)) rfl))⟩
theorem lv_vX8_falseOnes : LkV yX8_falseOnes := ⟨(lw_ug (List.mem_of_getElem? (i := 709) (by decide +kernel)) rfl), (lw_ug (List.mem_of_getElem? (i := 710) (by decide +kernel)) rfl)⟩
set_option maxRecDepth 20000 in
theorem cw_X8_lentOnes : Cond.code yX8_lentOnes cX8_lentOnes 3 (some .int) ∈ lw_u := (lw_ug (List.mem_of_getElem? (i := 716) rfl) rfl)
theorem lm_X11_247 : LkM RX11 247 yX8_lentOnes cX8_lentOnes 3 (some .int) 0 := ⟨cw_X8_lentOnes, (lw_ug (List.mem_of_getElem? (i := 84) (by decide +kernel)) rfl), ⟨by decide, by decide, by decide +kernel⟩, by decide, (Or.inl (lw_ug (List.mem_of_getElem? (i := 713) (by decide +kernel)) rfl))⟩
theorem lv_vX8_lentOnes : LkV yX8_lentOnes := ⟨(lw_ug (List.mem_of_getElem? (i := 714) (by decide +kernel)) rfl), (lw_ug (List.mem_of_getElem? (i := 715) (by decide +kernel)) rfl)⟩
set_option maxRecDepth 20000 in
theorem cw_X8_isReady : Cond.code yX8_isReady cX8_isReady 3 (some .boolean) ∈ lw_u := (lw_ug (List.mem_of_getElem? (i := 720) rfl) rfl)
theorem lm_X11_250 : LkM RX11 250 yX8_isReady cX8_isReady 3 (some .boolean) 1 := ⟨cw_X8_isReady, (lw_ug (List.mem_of_getElem? (i := 84) (by decide +kernel)) rfl), ⟨by decide, by decide, by decide +kernel⟩, by decide, (Or.inl (lw_ug (List.mem_of_getElem? (i := 717) (by decide +kernel)) rfl))⟩
theorem lv_vX8_isReady : LkV yX8_isReady := ⟨(lw_ug (List.mem_of_getElem? (i := 718) (by decide +kernel)) rfl), (lw_ug (List.mem_of_getElem? (i := 719) (by decide +kernel)) rfl)⟩
set_option maxRecDepth 20000 in
theorem cw_X8_price : Cond.code yX8_price cX8_price 4 (some .int) ∈ lw_u := (lw_ug (List.mem_of_getElem? (i := 733) rfl) rfl)
theorem lm_X11_253 : LkM RX11 253 yX8_price cX8_price 4 (some .int) 1 := ⟨cw_X8_price, (lw_ug (List.mem_of_getElem? (i := 84) (by decide +kernel)) rfl), ⟨by decide, by decide, by decide +kernel⟩, by decide, (Or.inl (lw_ug (List.mem_of_getElem? (i := 730) (by decide +kernel)) rfl))⟩
theorem lv_vX8_price : LkV yX8_price := ⟨(lw_ug (List.mem_of_getElem? (i := 731) (by decide +kernel)) rfl), (lw_ug (List.mem_of_getElem? (i := 732) (by decide +kernel)) rfl)⟩
set_option maxRecDepth 20000 in
theorem cw_X11_isDay : Cond.code yX11_isDay cX11_isDay 1 (some .boolean) ∈ lw_u := (lw_ug (List.mem_of_getElem? (i := 744) rfl) rfl)
theorem lm_X11_257 : LkM RX11 257 yX11_isDay cX11_isDay 1 (some .boolean) 1 := ⟨cw_X11_isDay, (lw_ug (List.mem_of_getElem? (i := 73) (by decide +kernel)) rfl), ⟨by decide, by decide, by decide +kernel⟩, by decide, (Or.inl (lw_ug (List.mem_of_getElem? (i := 742) (by decide +kernel)) rfl))⟩
theorem ls_X11_isDay : Cond.static yX11_isDay ∈ lw_u := (lw_ug (List.mem_of_getElem? (i := 743) (by decide +kernel)) rfl)
set_option maxRecDepth 20000 in
theorem cw_X6_init : Cond.code yX6_init cX6_init 2 none ∈ lw_u := (lw_ug (List.mem_of_getElem? (i := 748) rfl) rfl)
theorem lm_X11_263 : LkM RX11 263 yX6_init cX6_init 2 none 1 := ⟨cw_X6_init, (lw_ug (List.mem_of_getElem? (i := 85) (by decide +kernel)) rfl), ⟨by decide, by decide, by decide +kernel⟩, by decide, (Or.inl (lw_ug (List.mem_of_getElem? (i := 746) (by decide +kernel)) rfl))⟩
set_option maxRecDepth 20000 in
theorem cw_X11_ruleNumbered : Cond.code yX11_ruleNumbered cX11_ruleNumbered 2 (some (.object RX6)) ∈ lw_u := (lw_ug (List.mem_of_getElem? (i := 774) rfl) rfl)
theorem lm_X11_265 : LkM RX11 265 yX11_ruleNumbered cX11_ruleNumbered 2 (some (.object RX6)) 1 := ⟨cw_X11_ruleNumbered, (lw_ug (List.mem_of_getElem? (i := 73) (by decide +kernel)) rfl), ⟨by decide, by decide, by decide +kernel⟩, by decide, (Or.inl (lw_ug (List.mem_of_getElem? (i := 771) (by decide +kernel)) rfl))⟩
theorem lv_vX11_ruleNumbered : LkV yX11_ruleNumbered := ⟨(lw_ug (List.mem_of_getElem? (i := 773) (by decide +kernel)) rfl), (lw_ug (List.mem_of_getElem? (i := 4) (by decide +kernel)) rfl)⟩
set_option maxRecDepth 20000 in
theorem cw_X6_append : Cond.code yX6_append cX6_append 5 (some .int) ∈ lw_u := (lw_ug (List.mem_of_getElem? (i := 778) rfl) rfl)
theorem lm_X11_269 : LkM RX11 269 yX6_append cX6_append 5 (some .int) 1 := ⟨cw_X6_append, (lw_ug (List.mem_of_getElem? (i := 85) (by decide +kernel)) rfl), ⟨by decide, by decide, by decide +kernel⟩, by decide, (Or.inl (lw_ug (List.mem_of_getElem? (i := 775) (by decide +kernel)) rfl))⟩
theorem lv_vX6_append : LkV yX6_append := ⟨(lw_ug (List.mem_of_getElem? (i := 776) (by decide +kernel)) rfl), (lw_ug (List.mem_of_getElem? (i := 777) (by decide +kernel)) rfl)⟩
set_option maxRecDepth 20000 in
theorem cw_X3_read : Cond.code yX3_read cX3_read 3 (some .int) ∈ lw_u := (lw_ug (List.mem_of_getElem? (i := 790) rfl) rfl)
theorem lm_X11_272 : LkM RX11 272 yX3_read cX3_read 3 (some .int) 1 := ⟨cw_X3_read, (lw_ug (List.mem_of_getElem? (i := 76) (by decide +kernel)) rfl), ⟨by decide, by decide, by decide +kernel⟩, by decide, (Or.inl (lw_ug (List.mem_of_getElem? (i := 787) (by decide +kernel)) rfl))⟩
theorem lv_vX3_read : LkV yX3_read := ⟨(lw_ug (List.mem_of_getElem? (i := 788) (by decide +kernel)) rfl), (lw_ug (List.mem_of_getElem? (i := 789) (by decide +kernel)) rfl)⟩
set_option maxRecDepth 20000 in
theorem cw_X11_isLand : Cond.code yX11_isLand cX11_isLand 1 (some .boolean) ∈ lw_u := (lw_ug (List.mem_of_getElem? (i := 845) rfl) rfl)
theorem lm_X11_280 : LkM RX11 280 yX11_isLand cX11_isLand 1 (some .boolean) 1 := ⟨cw_X11_isLand, (lw_ug (List.mem_of_getElem? (i := 73) (by decide +kernel)) rfl), ⟨by decide, by decide, by decide +kernel⟩, by decide, (Or.inl (lw_ug (List.mem_of_getElem? (i := 843) (by decide +kernel)) rfl))⟩
theorem ls_X11_isLand : Cond.static yX11_isLand ∈ lw_u := (lw_ug (List.mem_of_getElem? (i := 844) (by decide +kernel)) rfl)
set_option maxRecDepth 20000 in
theorem cw_X11_firstBar : Cond.code yX11_firstBar cX11_firstBar 5 (some .int) ∈ lw_u := (lw_ug (List.mem_of_getElem? (i := 849) rfl) rfl)
theorem lm_X11_283 : LkM RX11 283 yX11_firstBar cX11_firstBar 5 (some .int) 3 := ⟨cw_X11_firstBar, (lw_ug (List.mem_of_getElem? (i := 73) (by decide +kernel)) rfl), ⟨by decide, by decide, by decide +kernel⟩, by decide, (Or.inl (lw_ug (List.mem_of_getElem? (i := 846) (by decide +kernel)) rfl))⟩
theorem lv_vX11_firstBar : LkV yX11_firstBar := ⟨(lw_ug (List.mem_of_getElem? (i := 848) (by decide +kernel)) rfl), (lw_ug (List.mem_of_getElem? (i := 14) (by decide +kernel)) rfl)⟩
set_option maxRecDepth 20000 in
theorem cw_X11_hasMember : Cond.code yX11_hasMember cX11_hasMember 2 (some .boolean) ∈ lw_u := (lw_ug (List.mem_of_getElem? (i := 595) rfl) rfl)
theorem lm_X11_290 : LkM RX11 290 yX11_hasMember cX11_hasMember 2 (some .boolean) 2 := ⟨cw_X11_hasMember, (lw_ug (List.mem_of_getElem? (i := 73) (by decide +kernel)) rfl), ⟨by decide, by decide, by decide +kernel⟩, by decide, (Or.inl (lw_ug (List.mem_of_getElem? (i := 868) (by decide +kernel)) rfl))⟩
theorem ls_X11_hasMember : Cond.static yX11_hasMember ∈ lw_u := (lw_ug (List.mem_of_getElem? (i := 594) (by decide +kernel)) rfl)
set_option maxRecDepth 20000 in
theorem cw_X11_withMember : Cond.code yX11_withMember cX11_withMember 3 (some .int) ∈ lw_u := (lw_ug (List.mem_of_getElem? (i := 871) rfl) rfl)
theorem lm_X11_294 : LkM RX11 294 yX11_withMember cX11_withMember 3 (some .int) 3 := ⟨cw_X11_withMember, (lw_ug (List.mem_of_getElem? (i := 73) (by decide +kernel)) rfl), ⟨by decide, by decide, by decide +kernel⟩, by decide, (Or.inl (lw_ug (List.mem_of_getElem? (i := 869) (by decide +kernel)) rfl))⟩
theorem ls_X11_withMember : Cond.static yX11_withMember ∈ lw_u := (lw_ug (List.mem_of_getElem? (i := 870) (by decide +kernel)) rfl)
set_option maxRecDepth 20000 in
theorem cw_X5_init : Cond.code yX5_init cX5_init 6 none ∈ lw_u := (lw_ug (List.mem_of_getElem? (i := 879) rfl) rfl)
theorem lm_X11_301 : LkM RX11 301 yX5_init cX5_init 6 none 5 := ⟨cw_X5_init, (lw_ug (List.mem_of_getElem? (i := 86) (by decide +kernel)) rfl), ⟨by decide, by decide, by decide +kernel⟩, by decide, (Or.inl (lw_ug (List.mem_of_getElem? (i := 877) (by decide +kernel)) rfl))⟩
set_option maxRecDepth 20000 in
theorem cw_X11_isLicensed : Cond.code yX11_isLicensed cX11_isLicensed 4 (some .boolean) ∈ lw_u := (lw_ug (List.mem_of_getElem? (i := 909) rfl) rfl)
theorem lm_X11_308 : LkM RX11 308 yX11_isLicensed cX11_isLicensed 4 (some .boolean) 3 := ⟨cw_X11_isLicensed, (lw_ug (List.mem_of_getElem? (i := 73) (by decide +kernel)) rfl), ⟨by decide, by decide, by decide +kernel⟩, by decide, (Or.inl (lw_ug (List.mem_of_getElem? (i := 906) (by decide +kernel)) rfl))⟩
theorem lv_vX11_isLicensed : LkV yX11_isLicensed := ⟨(lw_ug (List.mem_of_getElem? (i := 908) (by decide +kernel)) rfl), (lw_ug (List.mem_of_getElem? (i := 15) (by decide +kernel)) rfl)⟩
set_option maxRecDepth 20000 in
theorem cw_X4_changeLength : Cond.code yX4_changeLength cX4_changeLength 4 (some .int) ∈ lw_u := (lw_ug (List.mem_of_getElem? (i := 927) rfl) rfl)
theorem lm_X11_311 : LkM RX11 311 yX4_changeLength cX4_changeLength 4 (some .int) 2 := ⟨cw_X4_changeLength, (lw_ug (List.mem_of_getElem? (i := 77) (by decide +kernel)) rfl), ⟨by decide, by decide, by decide +kernel⟩, by decide, (Or.inl (lw_ug (List.mem_of_getElem? (i := 924) (by decide +kernel)) rfl))⟩
theorem lv_vX4_changeLength : LkV yX4_changeLength := ⟨(lw_ug (List.mem_of_getElem? (i := 925) (by decide +kernel)) rfl), (lw_ug (List.mem_of_getElem? (i := 926) (by decide +kernel)) rfl)⟩
set_option maxRecDepth 20000 in
theorem cw_X4_keepApart : Cond.code yX4_keepApart cX4_keepApart 5 (some .int) ∈ lw_u := (lw_ug (List.mem_of_getElem? (i := 935) rfl) rfl)
theorem lm_X11_315 : LkM RX11 315 yX4_keepApart cX4_keepApart 5 (some .int) 3 := ⟨cw_X4_keepApart, (lw_ug (List.mem_of_getElem? (i := 77) (by decide +kernel)) rfl), ⟨by decide, by decide, by decide +kernel⟩, by decide, (Or.inl (lw_ug (List.mem_of_getElem? (i := 932) (by decide +kernel)) rfl))⟩
theorem lv_vX4_keepApart : LkV yX4_keepApart := ⟨(lw_ug (List.mem_of_getElem? (i := 933) (by decide +kernel)) rfl), (lw_ug (List.mem_of_getElem? (i := 934) (by decide +kernel)) rfl)⟩
set_option maxRecDepth 20000 in
theorem cw_X11_refuseLandDay : Cond.code yX11_refuseLandDay cX11_refuseLandDay 2 (some .int) ∈ lw_u := (lw_ug (List.mem_of_getElem? (i := 949) rfl) rfl)
theorem lm_X11_321 : LkM RX11 321 yX11_refuseLandDay cX11_refuseLandDay 2 (some .int) 2 := ⟨cw_X11_refuseLandDay, (lw_ug (List.mem_of_getElem? (i := 73) (by decide +kernel)) rfl), ⟨by decide, by decide, by decide +kernel⟩, by decide, (Or.inl (lw_ug (List.mem_of_getElem? (i := 947) (by decide +kernel)) rfl))⟩
theorem ls_X11_refuseLandDay : Cond.static yX11_refuseLandDay ∈ lw_u := (lw_ug (List.mem_of_getElem? (i := 948) (by decide +kernel)) rfl)
set_option maxRecDepth 20000 in
theorem cw_X11_listStories : Cond.code yX11_listStories cX11_listStories 6 none ∈ lw_u := (lw_ug (List.mem_of_getElem? (i := 953) rfl) rfl)
theorem lm_X11_325 : LkM RX11 325 yX11_listStories cX11_listStories 6 none 2 := ⟨cw_X11_listStories, (lw_ug (List.mem_of_getElem? (i := 73) (by decide +kernel)) rfl), ⟨by decide, by decide, by decide +kernel⟩, by decide, (Or.inl (lw_ug (List.mem_of_getElem? (i := 950) (by decide +kernel)) rfl))⟩
theorem lv_vX11_listStories : LkV yX11_listStories := ⟨(lw_ug (List.mem_of_getElem? (i := 952) (by decide +kernel)) rfl), (lw_ug (List.mem_of_getElem? (i := 17) (by decide +kernel)) rfl)⟩
set_option maxRecDepth 20000 in
theorem cw_X4_search : Cond.code yX4_search cX4_search 4 none ∈ lw_u := (lw_ug (List.mem_of_getElem? (i := 966) rfl) rfl)
theorem lm_X11_329 : LkM RX11 329 yX4_search cX4_search 4 none 0 := ⟨cw_X4_search, (lw_ug (List.mem_of_getElem? (i := 77) (by decide +kernel)) rfl), ⟨by decide, by decide, by decide +kernel⟩, by decide, (Or.inl (lw_ug (List.mem_of_getElem? (i := 963) (by decide +kernel)) rfl))⟩
theorem lv_vX4_search : LkV yX4_search := ⟨(lw_ug (List.mem_of_getElem? (i := 964) (by decide +kernel)) rfl), (lw_ug (List.mem_of_getElem? (i := 965) (by decide +kernel)) rfl)⟩
set_option maxRecDepth 20000 in
theorem cw_X4_bestStory : Cond.code yX4_bestStory cX4_bestStory 3 (some .int) ∈ lw_u := (lw_ug (List.mem_of_getElem? (i := 1006) rfl) rfl)
theorem lm_X11_335 : LkM RX11 335 yX4_bestStory cX4_bestStory 3 (some .int) 1 := ⟨cw_X4_bestStory, (lw_ug (List.mem_of_getElem? (i := 77) (by decide +kernel)) rfl), ⟨by decide, by decide, by decide +kernel⟩, by decide, (Or.inl (lw_ug (List.mem_of_getElem? (i := 1003) (by decide +kernel)) rfl))⟩
theorem lv_vX4_bestStory : LkV yX4_bestStory := ⟨(lw_ug (List.mem_of_getElem? (i := 1004) (by decide +kernel)) rfl), (lw_ug (List.mem_of_getElem? (i := 1005) (by decide +kernel)) rfl)⟩
set_option maxRecDepth 20000 in
theorem cw_X4_lack : Cond.code yX4_lack cX4_lack 8 (some .int) ∈ lw_u := (lw_ug (List.mem_of_getElem? (i := 1014) rfl) rfl)
theorem lm_X11_338 : LkM RX11 338 yX4_lack cX4_lack 8 (some .int) 1 := ⟨cw_X4_lack, (lw_ug (List.mem_of_getElem? (i := 77) (by decide +kernel)) rfl), ⟨by decide, by decide, by decide +kernel⟩, by decide, (Or.inl (lw_ug (List.mem_of_getElem? (i := 1011) (by decide +kernel)) rfl))⟩
theorem lv_vX4_lack : LkV yX4_lack := ⟨(lw_ug (List.mem_of_getElem? (i := 1012) (by decide +kernel)) rfl), (lw_ug (List.mem_of_getElem? (i := 1013) (by decide +kernel)) rfl)⟩
set_option maxRecDepth 20000 in
theorem cw_X11_takeShowing : Cond.code yX11_takeShowing cX11_takeShowing 5 (some .int) ∈ lw_u := (lw_ug (List.mem_of_getElem? (i := 1023) rfl) rfl)
theorem lm_X11_341 : LkM RX11 341 yX11_takeShowing cX11_takeShowing 5 (some .int) 3 := ⟨cw_X11_takeShowing, (lw_ug (List.mem_of_getElem? (i := 73) (by decide +kernel)) rfl), ⟨by decide, by decide, by decide +kernel⟩, by decide, (Or.inl (lw_ug (List.mem_of_getElem? (i := 1020) (by decide +kernel)) rfl))⟩
theorem lv_vX11_takeShowing : LkV yX11_takeShowing := ⟨(lw_ug (List.mem_of_getElem? (i := 1022) (by decide +kernel)) rfl), (lw_ug (List.mem_of_getElem? (i := 23) (by decide +kernel)) rfl)⟩
set_option maxRecDepth 20000 in
theorem cw_X0_station : Cond.code yX0_station cX0_station 4 none ∈ lw_u := (lw_ug (List.mem_of_getElem? (i := 1031) rfl) rfl)
theorem lm_X11_344 : LkM RX11 344 yX0_station cX0_station 4 none 3 := ⟨cw_X0_station, (lw_ug (List.mem_of_getElem? (i := 78) (by decide +kernel)) rfl), ⟨by decide, by decide, by decide +kernel⟩, by decide, (Or.inl (lw_ug (List.mem_of_getElem? (i := 1028) (by decide +kernel)) rfl))⟩
theorem lv_vX0_station : LkV yX0_station := ⟨(lw_ug (List.mem_of_getElem? (i := 1029) (by decide +kernel)) rfl), (lw_ug (List.mem_of_getElem? (i := 1030) (by decide +kernel)) rfl)⟩
set_option maxRecDepth 20000 in
theorem cw_X0_announce : Cond.code yX0_announce cX0_announce 4 (some .int) ∈ lw_u := (lw_ug (List.mem_of_getElem? (i := 1039) rfl) rfl)
theorem lm_X11_348 : LkM RX11 348 yX0_announce cX0_announce 4 (some .int) 3 := ⟨cw_X0_announce, (lw_ug (List.mem_of_getElem? (i := 78) (by decide +kernel)) rfl), ⟨by decide, by decide, by decide +kernel⟩, by decide, (Or.inl (lw_ug (List.mem_of_getElem? (i := 1036) (by decide +kernel)) rfl))⟩
theorem lv_vX0_announce : LkV yX0_announce := ⟨(lw_ug (List.mem_of_getElem? (i := 1037) (by decide +kernel)) rfl), (lw_ug (List.mem_of_getElem? (i := 1038) (by decide +kernel)) rfl)⟩
set_option maxRecDepth 20000 in
theorem cw_X0_plan : Cond.code yX0_plan cX0_plan 4 none ∈ lw_u := (lw_ug (List.mem_of_getElem? (i := 1051) rfl) rfl)
theorem lm_X11_351 : LkM RX11 351 yX0_plan cX0_plan 4 none 1 := ⟨cw_X0_plan, (lw_ug (List.mem_of_getElem? (i := 78) (by decide +kernel)) rfl), ⟨by decide, by decide, by decide +kernel⟩, by decide, (Or.inl (lw_ug (List.mem_of_getElem? (i := 1048) (by decide +kernel)) rfl))⟩
theorem lv_vX0_plan : LkV yX0_plan := ⟨(lw_ug (List.mem_of_getElem? (i := 1049) (by decide +kernel)) rfl), (lw_ug (List.mem_of_getElem? (i := 1050) (by decide +kernel)) rfl)⟩
set_option maxRecDepth 20000 in
theorem cw_X11_isWeek : Cond.code yX11_isWeek cX11_isWeek 1 (some .boolean) ∈ lw_u := (lw_ug (List.mem_of_getElem? (i := 1096) rfl) rfl)
theorem lm_X11_365 : LkM RX11 365 yX11_isWeek cX11_isWeek 1 (some .boolean) 1 := ⟨cw_X11_isWeek, (lw_ug (List.mem_of_getElem? (i := 73) (by decide +kernel)) rfl), ⟨by decide, by decide, by decide +kernel⟩, by decide, (Or.inl (lw_ug (List.mem_of_getElem? (i := 1094) (by decide +kernel)) rfl))⟩
theorem ls_X11_isWeek : Cond.static yX11_isWeek ∈ lw_u := (lw_ug (List.mem_of_getElem? (i := 1095) (by decide +kernel)) rfl)
set_option maxRecDepth 20000 in
theorem cw_X2_add : Cond.code yX2_add cX2_add 4 (some .int) ∈ lw_u := (lw_ug (List.mem_of_getElem? (i := 1100) rfl) rfl)
theorem lm_X11_368 : LkM RX11 368 yX2_add cX2_add 4 (some .int) 3 := ⟨cw_X2_add, (lw_ug (List.mem_of_getElem? (i := 79) (by decide +kernel)) rfl), ⟨by decide, by decide, by decide +kernel⟩, by decide, (Or.inl (lw_ug (List.mem_of_getElem? (i := 1097) (by decide +kernel)) rfl))⟩
theorem lv_vX2_add : LkV yX2_add := ⟨(lw_ug (List.mem_of_getElem? (i := 1098) (by decide +kernel)) rfl), (lw_ug (List.mem_of_getElem? (i := 1099) (by decide +kernel)) rfl)⟩
set_option maxRecDepth 20000 in
theorem cw_X2_changePart : Cond.code yX2_changePart cX2_changePart 4 (some .int) ∈ lw_u := (lw_ug (List.mem_of_getElem? (i := 1108) rfl) rfl)
theorem lm_X11_370 : LkM RX11 370 yX2_changePart cX2_changePart 4 (some .int) 2 := ⟨cw_X2_changePart, (lw_ug (List.mem_of_getElem? (i := 79) (by decide +kernel)) rfl), ⟨by decide, by decide, by decide +kernel⟩, by decide, (Or.inl (lw_ug (List.mem_of_getElem? (i := 1105) (by decide +kernel)) rfl))⟩
theorem lv_vX2_changePart : LkV yX2_changePart := ⟨(lw_ug (List.mem_of_getElem? (i := 1106) (by decide +kernel)) rfl), (lw_ug (List.mem_of_getElem? (i := 1107) (by decide +kernel)) rfl)⟩
set_option maxRecDepth 20000 in
theorem cw_X2_changePrints : Cond.code yX2_changePrints cX2_changePrints 3 (some .int) ∈ lw_u := (lw_ug (List.mem_of_getElem? (i := 1116) rfl) rfl)
theorem lm_X11_373 : LkM RX11 373 yX2_changePrints cX2_changePrints 3 (some .int) 1 := ⟨cw_X2_changePrints, (lw_ug (List.mem_of_getElem? (i := 79) (by decide +kernel)) rfl), ⟨by decide, by decide, by decide +kernel⟩, by decide, (Or.inl (lw_ug (List.mem_of_getElem? (i := 1113) (by decide +kernel)) rfl))⟩
theorem lv_vX2_changePrints : LkV yX2_changePrints := ⟨(lw_ug (List.mem_of_getElem? (i := 1114) (by decide +kernel)) rfl), (lw_ug (List.mem_of_getElem? (i := 1115) (by decide +kernel)) rfl)⟩
set_option maxRecDepth 20000 in
theorem cw_X2_earnings : Cond.code yX2_earnings cX2_earnings 1 (some .int) ∈ lw_u := (lw_ug (List.mem_of_getElem? (i := 1124) rfl) rfl)
theorem lm_X11_376 : LkM RX11 376 yX2_earnings cX2_earnings 1 (some .int) 0 := ⟨cw_X2_earnings, (lw_ug (List.mem_of_getElem? (i := 79) (by decide +kernel)) rfl), ⟨by decide, by decide, by decide +kernel⟩, by decide, (Or.inl (lw_ug (List.mem_of_getElem? (i := 1121) (by decide +kernel)) rfl))⟩
theorem lv_vX2_earnings : LkV yX2_earnings := ⟨(lw_ug (List.mem_of_getElem? (i := 1122) (by decide +kernel)) rfl), (lw_ug (List.mem_of_getElem? (i := 1123) (by decide +kernel)) rfl)⟩
set_option maxRecDepth 20000 in
theorem cw_X2_bestWeek : Cond.code yX2_bestWeek cX2_bestWeek 3 (some .int) ∈ lw_u := (lw_ug (List.mem_of_getElem? (i := 1164) rfl) rfl)
theorem lm_X11_382 : LkM RX11 382 yX2_bestWeek cX2_bestWeek 3 (some .int) 1 := ⟨cw_X2_bestWeek, (lw_ug (List.mem_of_getElem? (i := 79) (by decide +kernel)) rfl), ⟨by decide, by decide, by decide +kernel⟩, by decide, (Or.inl (lw_ug (List.mem_of_getElem? (i := 1161) (by decide +kernel)) rfl))⟩
theorem lv_vX2_bestWeek : LkV yX2_bestWeek := ⟨(lw_ug (List.mem_of_getElem? (i := 1162) (by decide +kernel)) rfl), (lw_ug (List.mem_of_getElem? (i := 1163) (by decide +kernel)) rfl)⟩
set_option maxRecDepth 20000 in
theorem cw_X11_shotsIn : Cond.code yX11_shotsIn cX11_shotsIn 3 (some .int) ∈ lw_u := (lw_ug (List.mem_of_getElem? (i := 1173) rfl) rfl)
theorem lm_X11_385 : LkM RX11 385 yX11_shotsIn cX11_shotsIn 3 (some .int) 0 := ⟨cw_X11_shotsIn, (lw_ug (List.mem_of_getElem? (i := 73) (by decide +kernel)) rfl), ⟨by decide, by decide, by decide +kernel⟩, by decide, (Or.inl (lw_ug (List.mem_of_getElem? (i := 1170) (by decide +kernel)) rfl))⟩
theorem lv_vX11_shotsIn : LkV yX11_shotsIn := ⟨(lw_ug (List.mem_of_getElem? (i := 1172) (by decide +kernel)) rfl), (lw_ug (List.mem_of_getElem? (i := 34) (by decide +kernel)) rfl)⟩
set_option maxRecDepth 20000 in
theorem cw_X3_look : Cond.code yX3_look cX3_look 5 none ∈ lw_u := (lw_ug (List.mem_of_getElem? (i := 853) rfl) rfl)
theorem lm_X11_388 : LkM RX11 388 yX3_look cX3_look 5 none 4 := ⟨cw_X3_look, (lw_ug (List.mem_of_getElem? (i := 76) (by decide +kernel)) rfl), ⟨by decide, by decide, by decide +kernel⟩, by decide, (Or.inl (lw_ug (List.mem_of_getElem? (i := 850) (by decide +kernel)) rfl))⟩
theorem lv_vX3_look : LkV yX3_look := ⟨(lw_ug (List.mem_of_getElem? (i := 851) (by decide +kernel)) rfl), (lw_ug (List.mem_of_getElem? (i := 852) (by decide +kernel)) rfl)⟩
set_option maxRecDepth 20000 in
theorem cw_X6_isInForce : Cond.code yX6_isInForce cX6_isInForce 2 (some .boolean) ∈ lw_u := (lw_ug (List.mem_of_getElem? (i := 859) rfl) rfl)
theorem lm_X11_392 : LkM RX11 392 yX6_isInForce cX6_isInForce 2 (some .boolean) 1 := ⟨cw_X6_isInForce, (lw_ug (List.mem_of_getElem? (i := 85) (by decide +kernel)) rfl), ⟨by decide, by decide, by decide +kernel⟩, by decide, (Or.inl (lw_ug (List.mem_of_getElem? (i := 856) (by decide +kernel)) rfl))⟩
theorem lv_vX6_isInForce : LkV yX6_isInForce := ⟨(lw_ug (List.mem_of_getElem? (i := 857) (by decide +kernel)) rfl), (lw_ug (List.mem_of_getElem? (i := 858) (by decide +kernel)) rfl)⟩
set_option maxRecDepth 20000 in
theorem cw_X3_held : Cond.code yX3_held cX3_held 1 (some .boolean) ∈ lw_u := (lw_ug (List.mem_of_getElem? (i := 863) rfl) rfl)
theorem lm_X11_395 : LkM RX11 395 yX3_held cX3_held 1 (some .boolean) 0 := ⟨cw_X3_held, (lw_ug (List.mem_of_getElem? (i := 76) (by decide +kernel)) rfl), ⟨by decide, by decide, by decide +kernel⟩, by decide, (Or.inl (lw_ug (List.mem_of_getElem? (i := 860) (by decide +kernel)) rfl))⟩
theorem lv_vX3_held : LkV yX3_held := ⟨(lw_ug (List.mem_of_getElem? (i := 861) (by decide +kernel)) rfl), (lw_ug (List.mem_of_getElem? (i := 862) (by decide +kernel)) rfl)⟩
set_option maxRecDepth 20000 in
theorem cw_X5_serves : Cond.code yX5_serves cX5_serves 4 (some .boolean) ∈ lw_u := (lw_ug (List.mem_of_getElem? (i := 917) rfl) rfl)
theorem lm_X11_398 : LkM RX11 398 yX5_serves cX5_serves 4 (some .boolean) 3 := ⟨cw_X5_serves, (lw_ug (List.mem_of_getElem? (i := 86) (by decide +kernel)) rfl), ⟨by decide, by decide, by decide +kernel⟩, by decide, (Or.inl (lw_ug (List.mem_of_getElem? (i := 914) (by decide +kernel)) rfl))⟩
theorem lv_vX5_serves : LkV yX5_serves := ⟨(lw_ug (List.mem_of_getElem? (i := 915) (by decide +kernel)) rfl), (lw_ug (List.mem_of_getElem? (i := 916) (by decide +kernel)) rfl)⟩
set_option maxRecDepth 20000 in
theorem cw_X11_firstRight : Cond.code yX11_firstRight cX11_firstRight 5 (some (.object RX5)) ∈ lw_u := (lw_ug (List.mem_of_getElem? (i := 913) rfl) rfl)
theorem lm_X11_401 : LkM RX11 401 yX11_firstRight cX11_firstRight 5 (some (.object RX5)) 3 := ⟨cw_X11_firstRight, (lw_ug (List.mem_of_getElem? (i := 73) (by decide +kernel)) rfl), ⟨by decide, by decide, by decide +kernel⟩, by decide, (Or.inl (lw_ug (List.mem_of_getElem? (i := 910) (by decide +kernel)) rfl))⟩
theorem lv_vX11_firstRight : LkV yX11_firstRight := ⟨(lw_ug (List.mem_of_getElem? (i := 912) (by decide +kernel)) rfl), (lw_ug (List.mem_of_getElem? (i := 16) (by decide +kernel)) rfl)⟩
set_option maxRecDepth 20000 in
theorem cw_X4_clearList : Cond.code yX4_clearList cX4_clearList 1 none ∈ lw_u := (lw_ug (List.mem_of_getElem? (i := 957) rfl) rfl)
theorem lm_X11_405 : LkM RX11 405 yX4_clearList cX4_clearList 1 none 0 := ⟨cw_X4_clearList, (lw_ug (List.mem_of_getElem? (i := 77) (by decide +kernel)) rfl), ⟨by decide, by decide, by decide +kernel⟩, by decide, (Or.inl (lw_ug (List.mem_of_getElem? (i := 954) (by decide +kernel)) rfl))⟩
theorem lv_vX4_clearList : LkV yX4_clearList := ⟨(lw_ug (List.mem_of_getElem? (i := 955) (by decide +kernel)) rfl), (lw_ug (List.mem_of_getElem? (i := 956) (by decide +kernel)) rfl)⟩
set_option maxRecDepth 20000 in
theorem cw_X4_list : Cond.code yX4_list cX4_list 4 none ∈ lw_u := (lw_ug (List.mem_of_getElem? (i := 961) rfl) rfl)
theorem lm_X11_408 : LkM RX11 408 yX4_list cX4_list 4 none 3 := ⟨cw_X4_list, (lw_ug (List.mem_of_getElem? (i := 77) (by decide +kernel)) rfl), ⟨by decide, by decide, by decide +kernel⟩, by decide, (Or.inl (lw_ug (List.mem_of_getElem? (i := 958) (by decide +kernel)) rfl))⟩
theorem lv_vX4_list : LkV yX4_list := ⟨(lw_ug (List.mem_of_getElem? (i := 959) (by decide +kernel)) rfl), (lw_ug (List.mem_of_getElem? (i := 960) (by decide +kernel)) rfl)⟩
set_option maxRecDepth 20000 in
theorem cw_X0_insertByHour : Cond.code yX0_insertByHour cX0_insertByHour 4 none ∈ lw_u := (lw_ug (List.mem_of_getElem? (i := 1043) rfl) rfl)
theorem lm_X0_44 : LkM RX0 44 yX0_insertByHour cX0_insertByHour 4 none 2 := ⟨cw_X0_insertByHour, (lw_ug (List.mem_of_getElem? (i := 78) (by decide +kernel)) rfl), ⟨by decide, by decide, by decide +kernel⟩, by decide, (Or.inl (lw_ug (List.mem_of_getElem? (i := 1040) (by decide +kernel)) rfl))⟩
theorem lv_vX0_insertByHour : LkV yX0_insertByHour := ⟨(lw_ug (List.mem_of_getElem? (i := 1042) (by decide +kernel)) rfl), (lw_ug (List.mem_of_getElem? (i := 24) (by decide +kernel)) rfl)⟩
set_option maxRecDepth 20000 in
theorem cw_X0_reachable : Cond.code yX0_reachable cX0_reachable 7 (some .int) ∈ lw_u := (lw_ug (List.mem_of_getElem? (i := 1055) rfl) rfl)
theorem lm_X0_48 : LkM RX0 48 yX0_reachable cX0_reachable 7 (some .int) 3 := ⟨cw_X0_reachable, (lw_ug (List.mem_of_getElem? (i := 78) (by decide +kernel)) rfl), ⟨by decide, by decide, by decide +kernel⟩, by decide, (Or.inl (lw_ug (List.mem_of_getElem? (i := 1052) (by decide +kernel)) rfl))⟩
theorem lv_vX0_reachable : LkV yX0_reachable := ⟨(lw_ug (List.mem_of_getElem? (i := 1054) (by decide +kernel)) rfl), (lw_ug (List.mem_of_getElem? (i := 25) (by decide +kernel)) rfl)⟩
set_option maxRecDepth 20000 in
theorem cw_X0_addMan : Cond.code yX0_addMan cX0_addMan 4 none ∈ lw_u := (lw_ug (List.mem_of_getElem? (i := 1065) rfl) rfl)
theorem lm_X0_52 : LkM RX0 52 yX0_addMan cX0_addMan 4 none 1 := ⟨cw_X0_addMan, (lw_ug (List.mem_of_getElem? (i := 78) (by decide +kernel)) rfl), ⟨by decide, by decide, by decide +kernel⟩, by decide, (Or.inl (lw_ug (List.mem_of_getElem? (i := 1062) (by decide +kernel)) rfl))⟩
theorem lv_vX0_addMan : LkV yX0_addMan := ⟨(lw_ug (List.mem_of_getElem? (i := 1064) (by decide +kernel)) rfl), (lw_ug (List.mem_of_getElem? (i := 26) (by decide +kernel)) rfl)⟩
set_option maxRecDepth 20000 in
theorem cw_X0_chooseBest : Cond.code yX0_chooseBest cX0_chooseBest 2 none ∈ lw_u := (lw_ug (List.mem_of_getElem? (i := 1081) rfl) rfl)
theorem lm_X0_56 : LkM RX0 56 yX0_chooseBest cX0_chooseBest 2 none 0 := ⟨cw_X0_chooseBest, (lw_ug (List.mem_of_getElem? (i := 78) (by decide +kernel)) rfl), ⟨by decide, by decide, by decide +kernel⟩, by decide, (Or.inl (lw_ug (List.mem_of_getElem? (i := 1078) (by decide +kernel)) rfl))⟩
theorem lv_vX0_chooseBest : LkV yX0_chooseBest := ⟨(lw_ug (List.mem_of_getElem? (i := 1080) (by decide +kernel)) rfl), (lw_ug (List.mem_of_getElem? (i := 28) (by decide +kernel)) rfl)⟩
set_option maxRecDepth 20000 in
theorem cw_X9_travel : Cond.code yX9_travel cX9_travel 9 none ∈ lw_u := (lw_ug (List.mem_of_getElem? (i := 444) rfl) rfl)
theorem lm_X0_59 : LkM RX0 59 yX9_travel cX9_travel 9 none 3 := ⟨cw_X9_travel, (lw_ug (List.mem_of_getElem? (i := 74) (by decide +kernel)) rfl), ⟨by decide, by decide, by decide +kernel⟩, by decide, (Or.inl (lw_ug (List.mem_of_getElem? (i := 1056) (by decide +kernel)) rfl))⟩
theorem lv_vX9_travel : LkV yX9_travel := ⟨(lw_ug (List.mem_of_getElem? (i := 442) (by decide +kernel)) rfl), (lw_ug (List.mem_of_getElem? (i := 443) (by decide +kernel)) rfl)⟩
set_option maxRecDepth 20000 in
theorem cw_X9_isThereBy : Cond.code yX9_isThereBy cX9_isThereBy 3 (some .boolean) ∈ lw_u := (lw_ug (List.mem_of_getElem? (i := 1060) rfl) rfl)
theorem lm_X0_65 : LkM RX0 65 yX9_isThereBy cX9_isThereBy 3 (some .boolean) 2 := ⟨cw_X9_isThereBy, (lw_ug (List.mem_of_getElem? (i := 74) (by decide +kernel)) rfl), ⟨by decide, by decide, by decide +kernel⟩, by decide, (Or.inl (lw_ug (List.mem_of_getElem? (i := 1057) (by decide +kernel)) rfl))⟩
theorem lv_vX9_isThereBy : LkV yX9_isThereBy := ⟨(lw_ug (List.mem_of_getElem? (i := 1058) (by decide +kernel)) rfl), (lw_ug (List.mem_of_getElem? (i := 1059) (by decide +kernel)) rfl)⟩
set_option maxRecDepth 20000 in
theorem cw_X0_canDo : Cond.code yX0_canDo cX0_canDo 5 (some .boolean) ∈ lw_u := (lw_ug (List.mem_of_getElem? (i := 1069) rfl) rfl)
theorem lm_X0_73 : LkM RX0 73 yX0_canDo cX0_canDo 5 (some .boolean) 2 := ⟨cw_X0_canDo, (lw_ug (List.mem_of_getElem? (i := 78) (by decide +kernel)) rfl), ⟨by decide, by decide, by decide +kernel⟩, by decide, (Or.inl (lw_ug (List.mem_of_getElem? (i := 1066) (by decide +kernel)) rfl))⟩
theorem lv_vX0_canDo : LkV yX0_canDo := ⟨(lw_ug (List.mem_of_getElem? (i := 1068) (by decide +kernel)) rfl), (lw_ug (List.mem_of_getElem? (i := 27) (by decide +kernel)) rfl)⟩
set_option maxRecDepth 20000 in
theorem cw_X0_highest : Cond.code yX0_highest cX0_highest 1 (some .int) ∈ lw_u := (lw_ug (List.mem_of_getElem? (i := 1072) rfl) rfl)
theorem lm_X0_76 : LkM RX0 76 yX0_highest cX0_highest 1 (some .int) 1 := ⟨cw_X0_highest, (lw_ug (List.mem_of_getElem? (i := 78) (by decide +kernel)) rfl), ⟨by decide, by decide, by decide +kernel⟩, by decide, (Or.inl (lw_ug (List.mem_of_getElem? (i := 1070) (by decide +kernel)) rfl))⟩
theorem ls_X0_highest : Cond.static yX0_highest ∈ lw_u := (lw_ug (List.mem_of_getElem? (i := 1071) (by decide +kernel)) rfl)
set_option maxRecDepth 20000 in
theorem cw_J6_numberOfLeadingZeros_0f7a4 : Cond.code yJ6_numberOfLeadingZeros_0f7a4 cJ6_numberOfLeadingZeros_0f7a4 2 (some .int) ∈ lw_u := (lw_ug (List.mem_of_getElem? (i := 1075) rfl) rfl)
theorem lm_X0_83 : LkM RX0 83 yJ6_numberOfLeadingZeros_0f7a4 cJ6_numberOfLeadingZeros_0f7a4 2 (some .int) 1 := ⟨cw_J6_numberOfLeadingZeros_0f7a4, (lw_ug (List.mem_of_getElem? (i := 88) (by decide +kernel)) rfl), ⟨by decide, by decide, by decide +kernel⟩, by decide, (Or.inl (lw_ug (List.mem_of_getElem? (i := 1073) (by decide +kernel)) rfl))⟩
theorem ls_J6_numberOfLeadingZeros_0f7a4 : Cond.static yJ6_numberOfLeadingZeros_0f7a4 ∈ lw_u := (lw_ug (List.mem_of_getElem? (i := 1074) (by decide +kernel)) rfl)
set_option maxRecDepth 20000 in
theorem cw_X0_offer : Cond.code yX0_offer cX0_offer 5 none ∈ lw_u := (lw_ug (List.mem_of_getElem? (i := 1085) rfl) rfl)
theorem lm_X0_97 : LkM RX0 97 yX0_offer cX0_offer 5 none 1 := ⟨cw_X0_offer, (lw_ug (List.mem_of_getElem? (i := 78) (by decide +kernel)) rfl), ⟨by decide, by decide, by decide +kernel⟩, by decide, (Or.inl (lw_ug (List.mem_of_getElem? (i := 1082) (by decide +kernel)) rfl))⟩
theorem lv_vX0_offer : LkV yX0_offer := ⟨(lw_ug (List.mem_of_getElem? (i := 1084) (by decide +kernel)) rfl), (lw_ug (List.mem_of_getElem? (i := 29) (by decide +kernel)) rfl)⟩
set_option maxRecDepth 20000 in
theorem cw_X1_canBe : Cond.code yX1_canBe cX1_canBe 8 (some .boolean) ∈ lw_u := (lw_ug (List.mem_of_getElem? (i := 599) rfl) rfl)
theorem lm_X1_33 : LkM RX1 33 yX1_canBe cX1_canBe 8 (some .boolean) 3 := ⟨cw_X1_canBe, (lw_ug (List.mem_of_getElem? (i := 75) (by decide +kernel)) rfl), ⟨by decide, by decide, by decide +kernel⟩, by decide, (Or.inl (lw_ug (List.mem_of_getElem? (i := 596) (by decide +kernel)) rfl))⟩
theorem lv_vX1_canBe : LkV yX1_canBe := ⟨(lw_ug (List.mem_of_getElem? (i := 598) (by decide +kernel)) rfl), (lw_ug (List.mem_of_getElem? (i := 1) (by decide +kernel)) rfl)⟩
set_option maxRecDepth 20000 in
theorem cw_X2_bestRun : Cond.code yX2_bestRun cX2_bestRun 1 (some .long) ∈ lw_u := (lw_ug (List.mem_of_getElem? (i := 1128) rfl) rfl)
theorem lm_X2_42 : LkM RX2 42 yX2_bestRun cX2_bestRun 1 (some .long) 0 := ⟨cw_X2_bestRun, (lw_ug (List.mem_of_getElem? (i := 79) (by decide +kernel)) rfl), ⟨by decide, by decide, by decide +kernel⟩, by decide, (Or.inl (lw_ug (List.mem_of_getElem? (i := 1125) (by decide +kernel)) rfl))⟩
theorem lv_vX2_bestRun : LkV yX2_bestRun := ⟨(lw_ug (List.mem_of_getElem? (i := 1127) (by decide +kernel)) rfl), (lw_ug (List.mem_of_getElem? (i := 30) (by decide +kernel)) rfl)⟩
set_option maxRecDepth 20000 in
theorem cw_X2_search : Cond.code yX2_search cX2_search 5 none ∈ lw_u := (lw_ug (List.mem_of_getElem? (i := 1132) rfl) rfl)
theorem lm_X2_53 : LkM RX2 53 yX2_search cX2_search 5 none 0 := ⟨cw_X2_search, (lw_ug (List.mem_of_getElem? (i := 79) (by decide +kernel)) rfl), ⟨by decide, by decide, by decide +kernel⟩, by decide, (Or.inl (lw_ug (List.mem_of_getElem? (i := 1129) (by decide +kernel)) rfl))⟩
theorem lv_vX2_search : LkV yX2_search := ⟨(lw_ug (List.mem_of_getElem? (i := 1131) (by decide +kernel)) rfl), (lw_ug (List.mem_of_getElem? (i := 31) (by decide +kernel)) rfl)⟩
set_option maxRecDepth 20000 in
theorem cw_J7_fill_d0a16 : Cond.code yJ7_fill_d0a16 cJ7_fill_d0a16 5 none ∈ lw_u := (lw_ug (List.mem_of_getElem? (i := 1135) rfl) rfl)
theorem lm_X2_56 : LkM RX2 56 yJ7_fill_d0a16 cJ7_fill_d0a16 5 none 2 := ⟨cw_J7_fill_d0a16, (lw_ug (List.mem_of_getElem? (i := 82) (by decide +kernel)) rfl), ⟨by decide, by decide, by decide +kernel⟩, by decide, (Or.inl (lw_ug (List.mem_of_getElem? (i := 1133) (by decide +kernel)) rfl))⟩
theorem ls_J7_fill_d0a16 : Cond.static yJ7_fill_d0a16 ∈ lw_u := (lw_ug (List.mem_of_getElem? (i := 1134) (by decide +kernel)) rfl)
set_option maxRecDepth 20000 in
theorem cw_X2_openIn : Cond.code yX2_openIn cX2_openIn 6 (some .int) ∈ lw_u := (lw_ug (List.mem_of_getElem? (i := 1139) rfl) rfl)
theorem lm_X2_62 : LkM RX2 62 yX2_openIn cX2_openIn 6 (some .int) 1 := ⟨cw_X2_openIn, (lw_ug (List.mem_of_getElem? (i := 79) (by decide +kernel)) rfl), ⟨by decide, by decide, by decide +kernel⟩, by decide, (Or.inl (lw_ug (List.mem_of_getElem? (i := 1136) (by decide +kernel)) rfl))⟩
theorem lv_vX2_openIn : LkV yX2_openIn := ⟨(lw_ug (List.mem_of_getElem? (i := 1138) (by decide +kernel)) rfl), (lw_ug (List.mem_of_getElem? (i := 32) (by decide +kernel)) rfl)⟩
set_option maxRecDepth 20000 in
theorem cw_J6_bitCount_0f7a4 : Cond.code yJ6_bitCount_0f7a4 cJ6_bitCount_0f7a4 1 (some .int) ∈ lw_u := (lw_ug (List.mem_of_getElem? (i := 982) rfl) rfl)
theorem lm_X2_66 : LkM RX2 66 yJ6_bitCount_0f7a4 cJ6_bitCount_0f7a4 1 (some .int) 1 := ⟨cw_J6_bitCount_0f7a4, (lw_ug (List.mem_of_getElem? (i := 88) (by decide +kernel)) rfl), ⟨by decide, by decide, by decide +kernel⟩, by decide, (Or.inl (lw_ug (List.mem_of_getElem? (i := 1145) (by decide +kernel)) rfl))⟩
theorem ls_J6_bitCount_0f7a4 : Cond.static yJ6_bitCount_0f7a4 ∈ lw_u := (lw_ug (List.mem_of_getElem? (i := 981) (by decide +kernel)) rfl)
set_option maxRecDepth 20000 in
theorem cw_J9_min_7cf53 : Cond.code yJ9_min_7cf53 cJ9_min_7cf53 2 (some .int) ∈ lw_u := (lw_ug (List.mem_of_getElem? (i := 1148) rfl) rfl)
theorem lm_X2_71 : LkM RX2 71 yJ9_min_7cf53 cJ9_min_7cf53 2 (some .int) 2 := ⟨cw_J9_min_7cf53, (lw_ug (List.mem_of_getElem? (i := 87) (by decide +kernel)) rfl), ⟨by decide, by decide, by decide +kernel⟩, by decide, (Or.inl (lw_ug (List.mem_of_getElem? (i := 1146) (by decide +kernel)) rfl))⟩
theorem ls_J9_min_7cf53 : Cond.static yJ9_min_7cf53 ∈ lw_u := (lw_ug (List.mem_of_getElem? (i := 1147) (by decide +kernel)) rfl)
set_option maxRecDepth 20000 in
theorem cw_X2_addPrint : Cond.code yX2_addPrint cX2_addPrint 4 none ∈ lw_u := (lw_ug (List.mem_of_getElem? (i := 1152) rfl) rfl)
theorem lm_X2_77 : LkM RX2 77 yX2_addPrint cX2_addPrint 4 none 1 := ⟨cw_X2_addPrint, (lw_ug (List.mem_of_getElem? (i := 79) (by decide +kernel)) rfl), ⟨by decide, by decide, by decide +kernel⟩, by decide, (Or.inl (lw_ug (List.mem_of_getElem? (i := 1149) (by decide +kernel)) rfl))⟩
theorem lv_vX2_addPrint : LkV yX2_addPrint := ⟨(lw_ug (List.mem_of_getElem? (i := 1151) (by decide +kernel)) rfl), (lw_ug (List.mem_of_getElem? (i := 33) (by decide +kernel)) rfl)⟩
set_option maxRecDepth 20000 in
theorem cw_J9_max_f86c9 : Cond.code yJ9_max_f86c9 cJ9_max_f86c9 4 (some .long) ∈ lw_u := (lw_ug (List.mem_of_getElem? (i := 1156) rfl) rfl)
theorem lm_X2_93 : LkM RX2 93 yJ9_max_f86c9 cJ9_max_f86c9 4 (some .long) 2 := ⟨cw_J9_max_f86c9, (lw_ug (List.mem_of_getElem? (i := 87) (by decide +kernel)) rfl), ⟨by decide, by decide, by decide +kernel⟩, by decide, (Or.inl (lw_ug (List.mem_of_getElem? (i := 1154) (by decide +kernel)) rfl))⟩
theorem ls_J9_max_f86c9 : Cond.static yJ9_max_f86c9 ∈ lw_u := (lw_ug (List.mem_of_getElem? (i := 1155) (by decide +kernel)) rfl)
theorem lm_X3_34 : LkM RX3 34 yX8_allFeet cX8_allFeet 3 (some .int) 0 := ⟨cw_X8_allFeet, (lw_ug (List.mem_of_getElem? (i := 84) (by decide +kernel)) rfl), ⟨by decide, by decide, by decide +kernel⟩, by decide, (Or.inl (lw_ug (List.mem_of_getElem? (i := 854) (by decide +kernel)) rfl))⟩
theorem lm_X3_42 : LkM RX3 42 yX8_lentOnes cX8_lentOnes 3 (some .int) 0 := ⟨cw_X8_lentOnes, (lw_ug (List.mem_of_getElem? (i := 84) (by decide +kernel)) rfl), ⟨by decide, by decide, by decide +kernel⟩, by decide, (Or.inl (lw_ug (List.mem_of_getElem? (i := 855) (by decide +kernel)) rfl))⟩
set_option maxRecDepth 20000 in
theorem cw_X3_openLevel : Cond.code yX3_openLevel cX3_openLevel 1 none ∈ lw_u := (lw_ug (List.mem_of_getElem? (i := 794) rfl) rfl)
theorem lm_X3_48 : LkM RX3 48 yX3_openLevel cX3_openLevel 1 none 0 := ⟨cw_X3_openLevel, (lw_ug (List.mem_of_getElem? (i := 76) (by decide +kernel)) rfl), ⟨by decide, by decide, by decide +kernel⟩, by decide, (Or.inl (lw_ug (List.mem_of_getElem? (i := 791) (by decide +kernel)) rfl))⟩
theorem lv_vX3_openLevel : LkV yX3_openLevel := ⟨(lw_ug (List.mem_of_getElem? (i := 793) (by decide +kernel)) rfl), (lw_ug (List.mem_of_getElem? (i := 5) (by decide +kernel)) rfl)⟩
set_option maxRecDepth 20000 in
theorem cw_X3_take : Cond.code yX3_take cX3_take 2 (some .boolean) ∈ lw_u := (lw_ug (List.mem_of_getElem? (i := 798) rfl) rfl)
theorem lm_X3_59 : LkM RX3 59 yX3_take cX3_take 2 (some .boolean) 1 := ⟨cw_X3_take, (lw_ug (List.mem_of_getElem? (i := 76) (by decide +kernel)) rfl), ⟨by decide, by decide, by decide +kernel⟩, by decide, (Or.inl (lw_ug (List.mem_of_getElem? (i := 795) (by decide +kernel)) rfl))⟩
theorem lv_vX3_take : LkV yX3_take := ⟨(lw_ug (List.mem_of_getElem? (i := 797) (by decide +kernel)) rfl), (lw_ug (List.mem_of_getElem? (i := 6) (by decide +kernel)) rfl)⟩
set_option maxRecDepth 20000 in
theorem cw_X3_endNumber : Cond.code yX3_endNumber cX3_endNumber 1 none ∈ lw_u := (lw_ug (List.mem_of_getElem? (i := 810) rfl) rfl)
theorem lm_X3_63 : LkM RX3 63 yX3_endNumber cX3_endNumber 1 none 0 := ⟨cw_X3_endNumber, (lw_ug (List.mem_of_getElem? (i := 76) (by decide +kernel)) rfl), ⟨by decide, by decide, by decide +kernel⟩, by decide, (Or.inl (lw_ug (List.mem_of_getElem? (i := 807) (by decide +kernel)) rfl))⟩
theorem lv_vX3_endNumber : LkV yX3_endNumber := ⟨(lw_ug (List.mem_of_getElem? (i := 809) (by decide +kernel)) rfl), (lw_ug (List.mem_of_getElem? (i := 8) (by decide +kernel)) rfl)⟩
set_option maxRecDepth 20000 in
theorem cw_X3_isDigit : Cond.code yX3_isDigit cX3_isDigit 1 (some .boolean) ∈ lw_u := (lw_ug (List.mem_of_getElem? (i := 801) rfl) rfl)
theorem lm_X3_69 : LkM RX3 69 yX3_isDigit cX3_isDigit 1 (some .boolean) 1 := ⟨cw_X3_isDigit, (lw_ug (List.mem_of_getElem? (i := 76) (by decide +kernel)) rfl), ⟨by decide, by decide, by decide +kernel⟩, by decide, (Or.inl (lw_ug (List.mem_of_getElem? (i := 799) (by decide +kernel)) rfl))⟩
theorem ls_X3_isDigit : Cond.static yX3_isDigit ∈ lw_u := (lw_ug (List.mem_of_getElem? (i := 800) (by decide +kernel)) rfl)
set_option maxRecDepth 20000 in
theorem cw_X3_takeDigit : Cond.code yX3_takeDigit cX3_takeDigit 2 (some .boolean) ∈ lw_u := (lw_ug (List.mem_of_getElem? (i := 806) rfl) rfl)
theorem lm_X3_75 : LkM RX3 75 yX3_takeDigit cX3_takeDigit 2 (some .boolean) 1 := ⟨cw_X3_takeDigit, (lw_ug (List.mem_of_getElem? (i := 76) (by decide +kernel)) rfl), ⟨by decide, by decide, by decide +kernel⟩, by decide, (Or.inl (lw_ug (List.mem_of_getElem? (i := 803) (by decide +kernel)) rfl))⟩
theorem lv_vX3_takeDigit : LkV yX3_takeDigit := ⟨(lw_ug (List.mem_of_getElem? (i := 805) (by decide +kernel)) rfl), (lw_ug (List.mem_of_getElem? (i := 7) (by decide +kernel)) rfl)⟩
set_option maxRecDepth 20000 in
theorem cw_X3_takeOne : Cond.code yX3_takeOne cX3_takeOne 2 (some .boolean) ∈ lw_u := (lw_ug (List.mem_of_getElem? (i := 822) rfl) rfl)
theorem lm_X3_78 : LkM RX3 78 yX3_takeOne cX3_takeOne 2 (some .boolean) 1 := ⟨cw_X3_takeOne, (lw_ug (List.mem_of_getElem? (i := 76) (by decide +kernel)) rfl), ⟨by decide, by decide, by decide +kernel⟩, by decide, (Or.inl (lw_ug (List.mem_of_getElem? (i := 819) (by decide +kernel)) rfl))⟩
theorem lv_vX3_takeOne : LkV yX3_takeOne := ⟨(lw_ug (List.mem_of_getElem? (i := 821) (by decide +kernel)) rfl), (lw_ug (List.mem_of_getElem? (i := 11) (by decide +kernel)) rfl)⟩
set_option maxRecDepth 20000 in
theorem cw_X3_takeSign : Cond.code yX3_takeSign cX3_takeSign 2 (some .boolean) ∈ lw_u := (lw_ug (List.mem_of_getElem? (i := 829) rfl) rfl)
theorem lm_X3_81 : LkM RX3 81 yX3_takeSign cX3_takeSign 2 (some .boolean) 1 := ⟨cw_X3_takeSign, (lw_ug (List.mem_of_getElem? (i := 76) (by decide +kernel)) rfl), ⟨by decide, by decide, by decide +kernel⟩, by decide, (Or.inl (lw_ug (List.mem_of_getElem? (i := 826) (by decide +kernel)) rfl))⟩
theorem lv_vX3_takeSign : LkV yX3_takeSign := ⟨(lw_ug (List.mem_of_getElem? (i := 828) (by decide +kernel)) rfl), (lw_ug (List.mem_of_getElem? (i := 12) (by decide +kernel)) rfl)⟩
set_option maxRecDepth 20000 in
theorem cw_X3_takeJoint : Cond.code yX3_takeJoint cX3_takeJoint 3 (some .boolean) ∈ lw_u := (lw_ug (List.mem_of_getElem? (i := 833) rfl) rfl)
theorem lm_X3_84 : LkM RX3 84 yX3_takeJoint cX3_takeJoint 3 (some .boolean) 1 := ⟨cw_X3_takeJoint, (lw_ug (List.mem_of_getElem? (i := 76) (by decide +kernel)) rfl), ⟨by decide, by decide, by decide +kernel⟩, by decide, (Or.inl (lw_ug (List.mem_of_getElem? (i := 830) (by decide +kernel)) rfl))⟩
theorem lv_vX3_takeJoint : LkV yX3_takeJoint := ⟨(lw_ug (List.mem_of_getElem? (i := 832) (by decide +kernel)) rfl), (lw_ug (List.mem_of_getElem? (i := 13) (by decide +kernel)) rfl)⟩
set_option maxRecDepth 20000 in
theorem cw_X3_letterIndex : Cond.code yX3_letterIndex cX3_letterIndex 1 (some .int) ∈ lw_u := (lw_ug (List.mem_of_getElem? (i := 825) rfl) rfl)
theorem lm_X3_87 : LkM RX3 87 yX3_letterIndex cX3_letterIndex 1 (some .int) 1 := ⟨cw_X3_letterIndex, (lw_ug (List.mem_of_getElem? (i := 76) (by decide +kernel)) rfl), ⟨by decide, by decide, by decide +kernel⟩, by decide, (Or.inl (lw_ug (List.mem_of_getElem? (i := 823) (by decide +kernel)) rfl))⟩
theorem ls_X3_letterIndex : Cond.static yX3_letterIndex ∈ lw_u := (lw_ug (List.mem_of_getElem? (i := 824) (by decide +kernel)) rfl)
set_option maxRecDepth 20000 in
theorem cw_X3_endOne : Cond.code yX3_endOne cX3_endOne 2 none ∈ lw_u := (lw_ug (List.mem_of_getElem? (i := 818) rfl) rfl)
theorem lm_X3_100 : LkM RX3 100 yX3_endOne cX3_endOne 2 none 1 := ⟨cw_X3_endOne, (lw_ug (List.mem_of_getElem? (i := 76) (by decide +kernel)) rfl), ⟨by decide, by decide, by decide +kernel⟩, by decide, (Or.inl (lw_ug (List.mem_of_getElem? (i := 815) (by decide +kernel)) rfl))⟩
theorem lv_vX3_endOne : LkV yX3_endOne := ⟨(lw_ug (List.mem_of_getElem? (i := 817) (by decide +kernel)) rfl), (lw_ug (List.mem_of_getElem? (i := 10) (by decide +kernel)) rfl)⟩
set_option maxRecDepth 20000 in
theorem cw_X3_compares : Cond.code yX3_compares cX3_compares 2 (some .boolean) ∈ lw_u := (lw_ug (List.mem_of_getElem? (i := 814) rfl) rfl)
theorem lm_X3_108 : LkM RX3 108 yX3_compares cX3_compares 2 (some .boolean) 0 := ⟨cw_X3_compares, (lw_ug (List.mem_of_getElem? (i := 76) (by decide +kernel)) rfl), ⟨by decide, by decide, by decide +kernel⟩, by decide, (Or.inl (lw_ug (List.mem_of_getElem? (i := 811) (by decide +kernel)) rfl))⟩
theorem lv_vX3_compares : LkV yX3_compares := ⟨(lw_ug (List.mem_of_getElem? (i := 813) (by decide +kernel)) rfl), (lw_ug (List.mem_of_getElem? (i := 9) (by decide +kernel)) rfl)⟩
theorem lm_X4_61 : LkM RX4 61 yX8_allFeet cX8_allFeet 3 (some .int) 0 := ⟨cw_X8_allFeet, (lw_ug (List.mem_of_getElem? (i := 84) (by decide +kernel)) rfl), ⟨by decide, by decide, by decide +kernel⟩, by decide, (Or.inl (lw_ug (List.mem_of_getElem? (i := 962) (by decide +kernel)) rfl))⟩
set_option maxRecDepth 20000 in
theorem cw_X4_sumOver : Cond.code yX4_sumOver cX4_sumOver 5 (some .int) ∈ lw_u := (lw_ug (List.mem_of_getElem? (i := 993) rfl) rfl)
theorem lm_X4_73 : LkM RX4 73 yX4_sumOver cX4_sumOver 5 (some .int) 2 := ⟨cw_X4_sumOver, (lw_ug (List.mem_of_getElem? (i := 77) (by decide +kernel)) rfl), ⟨by decide, by decide, by decide +kernel⟩, by decide, (Or.inl (lw_ug (List.mem_of_getElem? (i := 990) (by decide +kernel)) rfl))⟩
theorem lv_vX4_sumOver : LkV yX4_sumOver := ⟨(lw_ug (List.mem_of_getElem? (i := 992) (by decide +kernel)) rfl), (lw_ug (List.mem_of_getElem? (i := 21) (by decide +kernel)) rfl)⟩
set_option maxRecDepth 20000 in
theorem cw_X4_hasLength : Cond.code yX4_hasLength cX4_hasLength 2 (some .boolean) ∈ lw_u := (lw_ug (List.mem_of_getElem? (i := 989) rfl) rfl)
theorem lm_X4_83 : LkM RX4 83 yX4_hasLength cX4_hasLength 2 (some .boolean) 1 := ⟨cw_X4_hasLength, (lw_ug (List.mem_of_getElem? (i := 77) (by decide +kernel)) rfl), ⟨by decide, by decide, by decide +kernel⟩, by decide, (Or.inl (lw_ug (List.mem_of_getElem? (i := 986) (by decide +kernel)) rfl))⟩
theorem lv_vX4_hasLength : LkV yX4_hasLength := ⟨(lw_ug (List.mem_of_getElem? (i := 988) (by decide +kernel)) rfl), (lw_ug (List.mem_of_getElem? (i := 20) (by decide +kernel)) rfl)⟩
set_option maxRecDepth 20000 in
theorem cw_X4_greatestRow : Cond.code yX4_greatestRow cX4_greatestRow 5 (some .int) ∈ lw_u := (lw_ug (List.mem_of_getElem? (i := 970) rfl) rfl)
theorem lm_X4_93 : LkM RX4 93 yX4_greatestRow cX4_greatestRow 5 (some .int) 1 := ⟨cw_X4_greatestRow, (lw_ug (List.mem_of_getElem? (i := 77) (by decide +kernel)) rfl), ⟨by decide, by decide, by decide +kernel⟩, by decide, (Or.inl (lw_ug (List.mem_of_getElem? (i := 967) (by decide +kernel)) rfl))⟩
theorem lv_vX4_greatestRow : LkV yX4_greatestRow := ⟨(lw_ug (List.mem_of_getElem? (i := 969) (by decide +kernel)) rfl), (lw_ug (List.mem_of_getElem? (i := 18) (by decide +kernel)) rfl)⟩
theorem lm_X4_100 : LkM RX4 100 yJ6_bitCount_0f7a4 cJ6_bitCount_0f7a4 1 (some .int) 1 := ⟨cw_J6_bitCount_0f7a4, (lw_ug (List.mem_of_getElem? (i := 88) (by decide +kernel)) rfl), ⟨by decide, by decide, by decide +kernel⟩, by decide, (Or.inl (lw_ug (List.mem_of_getElem? (i := 980) (by decide +kernel)) rfl))⟩
set_option maxRecDepth 20000 in
theorem cw_X4_offer : Cond.code yX4_offer cX4_offer 3 none ∈ lw_u := (lw_ug (List.mem_of_getElem? (i := 998) rfl) rfl)
theorem lm_X4_105 : LkM RX4 105 yX4_offer cX4_offer 3 none 2 := ⟨cw_X4_offer, (lw_ug (List.mem_of_getElem? (i := 77) (by decide +kernel)) rfl), ⟨by decide, by decide, by decide +kernel⟩, by decide, (Or.inl (lw_ug (List.mem_of_getElem? (i := 995) (by decide +kernel)) rfl))⟩
theorem lv_vX4_offer : LkV yX4_offer := ⟨(lw_ug (List.mem_of_getElem? (i := 997) (by decide +kernel)) rfl), (lw_ug (List.mem_of_getElem? (i := 22) (by decide +kernel)) rfl)⟩
set_option maxRecDepth 20000 in
theorem cw_X4_greatestRowTo : Cond.code yX4_greatestRowTo cX4_greatestRowTo 6 (some .int) ∈ lw_u := (lw_ug (List.mem_of_getElem? (i := 974) rfl) rfl)
theorem lm_X4_109 : LkM RX4 109 yX4_greatestRowTo cX4_greatestRowTo 6 (some .int) 2 := ⟨cw_X4_greatestRowTo, (lw_ug (List.mem_of_getElem? (i := 77) (by decide +kernel)) rfl), ⟨by decide, by decide, by decide +kernel⟩, by decide, (Or.inl (lw_ug (List.mem_of_getElem? (i := 971) (by decide +kernel)) rfl))⟩
theorem lv_vX4_greatestRowTo : LkV yX4_greatestRowTo := ⟨(lw_ug (List.mem_of_getElem? (i := 973) (by decide +kernel)) rfl), (lw_ug (List.mem_of_getElem? (i := 19) (by decide +kernel)) rfl)⟩
set_option maxRecDepth 20000 in
theorem cw_J9_max_7cf53 : Cond.code yJ9_max_7cf53 cJ9_max_7cf53 2 (some .int) ∈ lw_u := (lw_ug (List.mem_of_getElem? (i := 977) rfl) rfl)
theorem lm_X4_113 : LkM RX4 113 yJ9_max_7cf53 cJ9_max_7cf53 2 (some .int) 2 := ⟨cw_J9_max_7cf53, (lw_ug (List.mem_of_getElem? (i := 87) (by decide +kernel)) rfl), ⟨by decide, by decide, by decide +kernel⟩, by decide, (Or.inl (lw_ug (List.mem_of_getElem? (i := 975) (by decide +kernel)) rfl))⟩
theorem ls_J9_max_7cf53 : Cond.static yJ9_max_7cf53 ∈ lw_u := (lw_ug (List.mem_of_getElem? (i := 976) (by decide +kernel)) rfl)
set_option maxRecDepth 20000 in
theorem cw_X6_byteAt : Cond.code yX6_byteAt cX6_byteAt 3 (some .int) ∈ lw_u := (lw_ug (List.mem_of_getElem? (i := 781) rfl) rfl)
theorem lm_X6_23 : LkM RX6 23 yX6_byteAt cX6_byteAt 3 (some .int) 2 := ⟨cw_X6_byteAt, (lw_ug (List.mem_of_getElem? (i := 85) (by decide +kernel)) rfl), ⟨by decide, by decide, by decide +kernel⟩, by decide, (Or.inl (lw_ug (List.mem_of_getElem? (i := 779) (by decide +kernel)) rfl))⟩
theorem ls_X6_byteAt : Cond.static yX6_byteAt ∈ lw_u := (lw_ug (List.mem_of_getElem? (i := 780) (by decide +kernel)) rfl)
theorem lm_X8_51 : LkM RX8 51 yX1_firstLie cX1_firstLie 5 (some .int) 3 := ⟨cw_X1_firstLie, (lw_ug (List.mem_of_getElem? (i := 75) (by decide +kernel)) rfl), ⟨by decide, by decide, by decide +kernel⟩, by decide, (Or.inl (lw_ug (List.mem_of_getElem? (i := 712) (by decide +kernel)) rfl))⟩
theorem lm_X8_60 : LkM RX8 60 yX7_whereAt cX7_whereAt 2 (some .int) 1 := ⟨cw_X7_whereAt, (lw_ug (List.mem_of_getElem? (i := 83) (by decide +kernel)) rfl), ⟨by decide, by decide, by decide +kernel⟩, by decide, (Or.inl (lw_ug (List.mem_of_getElem? (i := 721) (by decide +kernel)) rfl))⟩
theorem lm_X9_25 : LkM RX9 25 yX9_isFull cX9_isFull 1 (some .boolean) 0 := ⟨cw_X9_isFull, (lw_ug (List.mem_of_getElem? (i := 74) (by decide +kernel)) rfl), ⟨by decide, by decide, by decide +kernel⟩, by decide, (Or.inl (lw_ug (List.mem_of_getElem? (i := 423) (by decide +kernel)) rfl))⟩
set_option maxRecDepth 20000 in
theorem cw_J7_fill_53178 : Cond.code yJ7_fill_53178 cJ7_fill_53178 4 none ∈ lw_u := (lw_ug (List.mem_of_getElem? (i := 448) rfl) rfl)
theorem lm_X9_34 : LkM RX9 34 yJ7_fill_53178 cJ7_fill_53178 4 none 2 := ⟨cw_J7_fill_53178, (lw_ug (List.mem_of_getElem? (i := 82) (by decide +kernel)) rfl), ⟨by decide, by decide, by decide +kernel⟩, by decide, (Or.inl (lw_ug (List.mem_of_getElem? (i := 446) (by decide +kernel)) rfl))⟩
theorem ls_J7_fill_53178 : Cond.static yJ7_fill_53178 ∈ lw_u := (lw_ug (List.mem_of_getElem? (i := 447) (by decide +kernel)) rfl)
set_option maxRecDepth 20000 in
theorem cw_X10_arrives : Cond.code yX10_arrives cX10_arrives 3 (some .int) ∈ lw_u := (lw_ug (List.mem_of_getElem? (i := 452) rfl) rfl)
theorem lm_X9_43 : LkM RX9 43 yX10_arrives cX10_arrives 3 (some .int) 2 := ⟨cw_X10_arrives, (lw_ug (List.mem_of_getElem? (i := 81) (by decide +kernel)) rfl), ⟨by decide, by decide, by decide +kernel⟩, by decide, (Or.inl (lw_ug (List.mem_of_getElem? (i := 449) (by decide +kernel)) rfl))⟩
theorem lv_vX10_arrives : LkV yX10_arrives := ⟨(lw_ug (List.mem_of_getElem? (i := 450) (by decide +kernel)) rfl), (lw_ug (List.mem_of_getElem? (i := 451) (by decide +kernel)) rfl)⟩
theorem lm_X9_50 : LkM RX9 50 yX9_travel cX9_travel 9 none 3 := ⟨cw_X9_travel, (lw_ug (List.mem_of_getElem? (i := 74) (by decide +kernel)) rfl), ⟨by decide, by decide, by decide +kernel⟩, by decide, (Or.inl (lw_ug (List.mem_of_getElem? (i := 441) (by decide +kernel)) rfl))⟩
set_option maxRecDepth 20000 in
theorem cw_X10_leaves : Cond.code yX10_leaves cX10_leaves 3 (some .int) ∈ lw_u := (lw_ug (List.mem_of_getElem? (i := 456) rfl) rfl)
theorem lm_X10_34 : LkM RX10 34 yX10_leaves cX10_leaves 3 (some .int) 1 := ⟨cw_X10_leaves, (lw_ug (List.mem_of_getElem? (i := 81) (by decide +kernel)) rfl), ⟨by decide, by decide, by decide +kernel⟩, by decide, (Or.inl (lw_ug (List.mem_of_getElem? (i := 453) (by decide +kernel)) rfl))⟩
theorem lv_vX10_leaves : LkV yX10_leaves := ⟨(lw_ug (List.mem_of_getElem? (i := 454) (by decide +kernel)) rfl), (lw_ug (List.mem_of_getElem? (i := 455) (by decide +kernel)) rfl)⟩
set_option maxRecDepth 20000 in
theorem cw_X11_init : Cond.code yX11_init cX11_init 1 none ∈ lw_u := (lw_ug (List.mem_of_getElem? (i := 93) rfl) rfl)
theorem lm_L_9 : LkM RL 9 yX11_init cX11_init 1 none 0 := ⟨cw_X11_init, (lw_ug (List.mem_of_getElem? (i := 73) (by decide +kernel)) rfl), ⟨by decide, by decide, by decide +kernel⟩, by decide, (Or.inl (lw_ug (List.mem_of_getElem? (i := 91) (by decide +kernel)) rfl))⟩
set_option maxRecDepth 20000 in
theorem cw_X12_init : Cond.code yX12_init cX12_init 2 none ∈ lw_u := (lw_ug (List.mem_of_getElem? (i := 1178) rfl) rfl)
theorem lm_L_12 : LkM RL 12 yX12_init cX12_init 2 none 0 := ⟨cw_X12_init, (lw_ug (List.mem_of_getElem? (i := 80) (by decide +kernel)) rfl), ⟨by decide, by decide, by decide +kernel⟩, by decide, (Or.inl (lw_ug (List.mem_of_getElem? (i := 1176) (by decide +kernel)) rfl))⟩
set_option maxRecDepth 20000 in
theorem cw_X11_pass : Cond.code yX11_pass cX11_pass 2 (some .int) ∈ lw_u := (lw_ug (List.mem_of_getElem? (i := 370) rfl) rfl)
theorem lm_L_13 : LkM RL 13 yX11_pass cX11_pass 2 (some .int) 1 := ⟨cw_X11_pass, (lw_ug (List.mem_of_getElem? (i := 73) (by decide +kernel)) rfl), ⟨by decide, by decide, by decide +kernel⟩, by decide, (Or.inl (lw_ug (List.mem_of_getElem? (i := 367) (by decide +kernel)) rfl))⟩
theorem lv_vX11_pass : LkV yX11_pass := ⟨(lw_ug (List.mem_of_getElem? (i := 368) (by decide +kernel)) rfl), (lw_ug (List.mem_of_getElem? (i := 369) (by decide +kernel)) rfl)⟩
set_option maxRecDepth 20000 in
theorem cw_X12_pass : Cond.code yX12_pass cX12_pass 2 (some .int) ∈ lw_u := (lw_ug (List.mem_of_getElem? (i := 1460) rfl) rfl)
theorem lm_L_17 : LkM RL 17 yX12_pass cX12_pass 2 (some .int) 1 := ⟨cw_X12_pass, (lw_ug (List.mem_of_getElem? (i := 80) (by decide +kernel)) rfl), ⟨by decide, by decide, by decide +kernel⟩, by decide, (Or.inl (lw_ug (List.mem_of_getElem? (i := 1457) (by decide +kernel)) rfl))⟩
theorem lv_vX12_pass : LkV yX12_pass := ⟨(lw_ug (List.mem_of_getElem? (i := 1458) (by decide +kernel)) rfl), (lw_ug (List.mem_of_getElem? (i := 1459) (by decide +kernel)) rfl)⟩
set_option maxRecDepth 20000 in
theorem cw_X11_way : Cond.code yX11_way cX11_way 7 (some .int) ∈ lw_u := (lw_ug (List.mem_of_getElem? (i := 377) rfl) rfl)
theorem lm_L_18 : LkM RL 18 yX11_way cX11_way 7 (some .int) 6 := ⟨cw_X11_way, (lw_ug (List.mem_of_getElem? (i := 73) (by decide +kernel)) rfl), ⟨by decide, by decide, by decide +kernel⟩, by decide, (Or.inl (lw_ug (List.mem_of_getElem? (i := 374) (by decide +kernel)) rfl))⟩
theorem lv_vX11_way : LkV yX11_way := ⟨(lw_ug (List.mem_of_getElem? (i := 375) (by decide +kernel)) rfl), (lw_ug (List.mem_of_getElem? (i := 376) (by decide +kernel)) rfl)⟩
set_option maxRecDepth 20000 in
theorem cw_X12_way : Cond.code yX12_way cX12_way 7 (some .int) ∈ lw_u := (lw_ug (List.mem_of_getElem? (i := 1468) rfl) rfl)
theorem lm_L_22 : LkM RL 22 yX12_way cX12_way 7 (some .int) 6 := ⟨cw_X12_way, (lw_ug (List.mem_of_getElem? (i := 80) (by decide +kernel)) rfl), ⟨by decide, by decide, by decide +kernel⟩, by decide, (Or.inl (lw_ug (List.mem_of_getElem? (i := 1465) (by decide +kernel)) rfl))⟩
theorem lv_vX12_way : LkV yX12_way := ⟨(lw_ug (List.mem_of_getElem? (i := 1466) (by decide +kernel)) rfl), (lw_ug (List.mem_of_getElem? (i := 1467) (by decide +kernel)) rfl)⟩
set_option maxRecDepth 20000 in
theorem cw_X11_shut : Cond.code yX11_shut cX11_shut 3 (some .int) ∈ lw_u := (lw_ug (List.mem_of_getElem? (i := 427) rfl) rfl)
theorem lm_L_23 : LkM RL 23 yX11_shut cX11_shut 3 (some .int) 1 := ⟨cw_X11_shut, (lw_ug (List.mem_of_getElem? (i := 73) (by decide +kernel)) rfl), ⟨by decide, by decide, by decide +kernel⟩, by decide, (Or.inl (lw_ug (List.mem_of_getElem? (i := 424) (by decide +kernel)) rfl))⟩
theorem lv_vX11_shut : LkV yX11_shut := ⟨(lw_ug (List.mem_of_getElem? (i := 425) (by decide +kernel)) rfl), (lw_ug (List.mem_of_getElem? (i := 426) (by decide +kernel)) rfl)⟩
set_option maxRecDepth 20000 in
theorem cw_X12_shut : Cond.code yX12_shut cX12_shut 2 (some .int) ∈ lw_u := (lw_ug (List.mem_of_getElem? (i := 1481) rfl) rfl)
theorem lm_L_26 : LkM RL 26 yX12_shut cX12_shut 2 (some .int) 1 := ⟨cw_X12_shut, (lw_ug (List.mem_of_getElem? (i := 80) (by decide +kernel)) rfl), ⟨by decide, by decide, by decide +kernel⟩, by decide, (Or.inl (lw_ug (List.mem_of_getElem? (i := 1478) (by decide +kernel)) rfl))⟩
theorem lv_vX12_shut : LkV yX12_shut := ⟨(lw_ug (List.mem_of_getElem? (i := 1479) (by decide +kernel)) rfl), (lw_ug (List.mem_of_getElem? (i := 1480) (by decide +kernel)) rfl)⟩
set_option maxRecDepth 20000 in
theorem cw_X11_arrival : Cond.code yX11_arrival cX11_arrival 5 (some .int) ∈ lw_u := (lw_ug (List.mem_of_getElem? (i := 436) rfl) rfl)
theorem lm_L_27 : LkM RL 27 yX11_arrival cX11_arrival 5 (some .int) 4 := ⟨cw_X11_arrival, (lw_ug (List.mem_of_getElem? (i := 73) (by decide +kernel)) rfl), ⟨by decide, by decide, by decide +kernel⟩, by decide, (Or.inl (lw_ug (List.mem_of_getElem? (i := 433) (by decide +kernel)) rfl))⟩
theorem lv_vX11_arrival : LkV yX11_arrival := ⟨(lw_ug (List.mem_of_getElem? (i := 434) (by decide +kernel)) rfl), (lw_ug (List.mem_of_getElem? (i := 435) (by decide +kernel)) rfl)⟩
set_option maxRecDepth 20000 in
theorem cw_X12_arrival : Cond.code yX12_arrival cX12_arrival 6 (some .int) ∈ lw_u := (lw_ug (List.mem_of_getElem? (i := 1485) rfl) rfl)
theorem lm_L_31 : LkM RL 31 yX12_arrival cX12_arrival 6 (some .int) 4 := ⟨cw_X12_arrival, (lw_ug (List.mem_of_getElem? (i := 80) (by decide +kernel)) rfl), ⟨by decide, by decide, by decide +kernel⟩, by decide, (Or.inl (lw_ug (List.mem_of_getElem? (i := 1482) (by decide +kernel)) rfl))⟩
theorem lv_vX12_arrival : LkV yX12_arrival := ⟨(lw_ug (List.mem_of_getElem? (i := 1483) (by decide +kernel)) rfl), (lw_ug (List.mem_of_getElem? (i := 1484) (by decide +kernel)) rfl)⟩
set_option maxRecDepth 20000 in
theorem cw_X11_shot : Cond.code yX11_shot cX11_shot 8 (some .int) ∈ lw_u := (lw_ug (List.mem_of_getElem? (i := 461) rfl) rfl)
theorem lm_L_32 : LkM RL 32 yX11_shot cX11_shot 8 (some .int) 6 := ⟨cw_X11_shot, (lw_ug (List.mem_of_getElem? (i := 73) (by decide +kernel)) rfl), ⟨by decide, by decide, by decide +kernel⟩, by decide, (Or.inl (lw_ug (List.mem_of_getElem? (i := 458) (by decide +kernel)) rfl))⟩
theorem lv_vX11_shot : LkV yX11_shot := ⟨(lw_ug (List.mem_of_getElem? (i := 459) (by decide +kernel)) rfl), (lw_ug (List.mem_of_getElem? (i := 460) (by decide +kernel)) rfl)⟩
set_option maxRecDepth 20000 in
theorem cw_X12_shot : Cond.code yX12_shot cX12_shot 7 (some .int) ∈ lw_u := (lw_ug (List.mem_of_getElem? (i := 1498) rfl) rfl)
theorem lm_L_35 : LkM RL 35 yX12_shot cX12_shot 7 (some .int) 6 := ⟨cw_X12_shot, (lw_ug (List.mem_of_getElem? (i := 80) (by decide +kernel)) rfl), ⟨by decide, by decide, by decide +kernel⟩, by decide, (Or.inl (lw_ug (List.mem_of_getElem? (i := 1495) (by decide +kernel)) rfl))⟩
theorem lv_vX12_shot : LkV yX12_shot := ⟨(lw_ug (List.mem_of_getElem? (i := 1496) (by decide +kernel)) rfl), (lw_ug (List.mem_of_getElem? (i := 1497) (by decide +kernel)) rfl)⟩
set_option maxRecDepth 20000 in
theorem cw_X11_about : Cond.code yX11_about cX11_about 4 (some .int) ∈ lw_u := (lw_ug (List.mem_of_getElem? (i := 541) rfl) rfl)
theorem lm_L_36 : LkM RL 36 yX11_about cX11_about 4 (some .int) 2 := ⟨cw_X11_about, (lw_ug (List.mem_of_getElem? (i := 73) (by decide +kernel)) rfl), ⟨by decide, by decide, by decide +kernel⟩, by decide, (Or.inl (lw_ug (List.mem_of_getElem? (i := 538) (by decide +kernel)) rfl))⟩
theorem lv_vX11_about : LkV yX11_about := ⟨(lw_ug (List.mem_of_getElem? (i := 539) (by decide +kernel)) rfl), (lw_ug (List.mem_of_getElem? (i := 540) (by decide +kernel)) rfl)⟩
set_option maxRecDepth 20000 in
theorem cw_X12_about : Cond.code yX12_about cX12_about 3 (some .int) ∈ lw_u := (lw_ug (List.mem_of_getElem? (i := 1506) rfl) rfl)
theorem lm_L_40 : LkM RL 40 yX12_about cX12_about 3 (some .int) 2 := ⟨cw_X12_about, (lw_ug (List.mem_of_getElem? (i := 80) (by decide +kernel)) rfl), ⟨by decide, by decide, by decide +kernel⟩, by decide, (Or.inl (lw_ug (List.mem_of_getElem? (i := 1503) (by decide +kernel)) rfl))⟩
theorem lv_vX12_about : LkV yX12_about := ⟨(lw_ug (List.mem_of_getElem? (i := 1504) (by decide +kernel)) rfl), (lw_ug (List.mem_of_getElem? (i := 1505) (by decide +kernel)) rfl)⟩
set_option maxRecDepth 20000 in
theorem cw_X11_send : Cond.code yX11_send cX11_send 5 (some .int) ∈ lw_u := (lw_ug (List.mem_of_getElem? (i := 549) rfl) rfl)
theorem lm_L_41 : LkM RL 41 yX11_send cX11_send 5 (some .int) 1 := ⟨cw_X11_send, (lw_ug (List.mem_of_getElem? (i := 73) (by decide +kernel)) rfl), ⟨by decide, by decide, by decide +kernel⟩, by decide, (Or.inl (lw_ug (List.mem_of_getElem? (i := 546) (by decide +kernel)) rfl))⟩
theorem lv_vX11_send : LkV yX11_send := ⟨(lw_ug (List.mem_of_getElem? (i := 547) (by decide +kernel)) rfl), (lw_ug (List.mem_of_getElem? (i := 548) (by decide +kernel)) rfl)⟩
set_option maxRecDepth 20000 in
theorem cw_X12_send : Cond.code yX12_send cX12_send 4 (some .int) ∈ lw_u := (lw_ug (List.mem_of_getElem? (i := 1514) rfl) rfl)
theorem lm_L_44 : LkM RL 44 yX12_send cX12_send 4 (some .int) 1 := ⟨cw_X12_send, (lw_ug (List.mem_of_getElem? (i := 80) (by decide +kernel)) rfl), ⟨by decide, by decide, by decide +kernel⟩, by decide, (Or.inl (lw_ug (List.mem_of_getElem? (i := 1511) (by decide +kernel)) rfl))⟩
theorem lv_vX12_send : LkV yX12_send := ⟨(lw_ug (List.mem_of_getElem? (i := 1512) (by decide +kernel)) rfl), (lw_ug (List.mem_of_getElem? (i := 1513) (by decide +kernel)) rfl)⟩
set_option maxRecDepth 20000 in
theorem cw_X11_expected : Cond.code yX11_expected cX11_expected 4 (some .int) ∈ lw_u := (lw_ug (List.mem_of_getElem? (i := 557) rfl) rfl)
theorem lm_L_45 : LkM RL 45 yX11_expected cX11_expected 4 (some .int) 2 := ⟨cw_X11_expected, (lw_ug (List.mem_of_getElem? (i := 73) (by decide +kernel)) rfl), ⟨by decide, by decide, by decide +kernel⟩, by decide, (Or.inl (lw_ug (List.mem_of_getElem? (i := 554) (by decide +kernel)) rfl))⟩
theorem lv_vX11_expected : LkV yX11_expected := ⟨(lw_ug (List.mem_of_getElem? (i := 555) (by decide +kernel)) rfl), (lw_ug (List.mem_of_getElem? (i := 556) (by decide +kernel)) rfl)⟩
set_option maxRecDepth 20000 in
theorem cw_X12_expected : Cond.code yX12_expected cX12_expected 3 (some .int) ∈ lw_u := (lw_ug (List.mem_of_getElem? (i := 1525) rfl) rfl)
theorem lm_L_49 : LkM RL 49 yX12_expected cX12_expected 3 (some .int) 2 := ⟨cw_X12_expected, (lw_ug (List.mem_of_getElem? (i := 80) (by decide +kernel)) rfl), ⟨by decide, by decide, by decide +kernel⟩, by decide, (Or.inl (lw_ug (List.mem_of_getElem? (i := 1522) (by decide +kernel)) rfl))⟩
theorem lv_vX12_expected : LkV yX12_expected := ⟨(lw_ug (List.mem_of_getElem? (i := 1523) (by decide +kernel)) rfl), (lw_ug (List.mem_of_getElem? (i := 1524) (by decide +kernel)) rfl)⟩
set_option maxRecDepth 20000 in
theorem cw_X11_come : Cond.code yX11_come cX11_come 3 (some .int) ∈ lw_u := (lw_ug (List.mem_of_getElem? (i := 561) rfl) rfl)
theorem lm_L_50 : LkM RL 50 yX11_come cX11_come 3 (some .int) 1 := ⟨cw_X11_come, (lw_ug (List.mem_of_getElem? (i := 73) (by decide +kernel)) rfl), ⟨by decide, by decide, by decide +kernel⟩, by decide, (Or.inl (lw_ug (List.mem_of_getElem? (i := 558) (by decide +kernel)) rfl))⟩
theorem lv_vX11_come : LkV yX11_come := ⟨(lw_ug (List.mem_of_getElem? (i := 559) (by decide +kernel)) rfl), (lw_ug (List.mem_of_getElem? (i := 560) (by decide +kernel)) rfl)⟩
set_option maxRecDepth 20000 in
theorem cw_X12_come : Cond.code yX12_come cX12_come 2 (some .int) ∈ lw_u := (lw_ug (List.mem_of_getElem? (i := 1529) rfl) rfl)
theorem lm_L_53 : LkM RL 53 yX12_come cX12_come 2 (some .int) 1 := ⟨cw_X12_come, (lw_ug (List.mem_of_getElem? (i := 80) (by decide +kernel)) rfl), ⟨by decide, by decide, by decide +kernel⟩, by decide, (Or.inl (lw_ug (List.mem_of_getElem? (i := 1526) (by decide +kernel)) rfl))⟩
theorem lv_vX12_come : LkV yX12_come := ⟨(lw_ug (List.mem_of_getElem? (i := 1527) (by decide +kernel)) rfl), (lw_ug (List.mem_of_getElem? (i := 1528) (by decide +kernel)) rfl)⟩
set_option maxRecDepth 20000 in
theorem cw_X11_lose : Cond.code yX11_lose cX11_lose 4 (some .int) ∈ lw_u := (lw_ug (List.mem_of_getElem? (i := 565) rfl) rfl)
theorem lm_L_54 : LkM RL 54 yX11_lose cX11_lose 4 (some .int) 1 := ⟨cw_X11_lose, (lw_ug (List.mem_of_getElem? (i := 73) (by decide +kernel)) rfl), ⟨by decide, by decide, by decide +kernel⟩, by decide, (Or.inl (lw_ug (List.mem_of_getElem? (i := 562) (by decide +kernel)) rfl))⟩
theorem lv_vX11_lose : LkV yX11_lose := ⟨(lw_ug (List.mem_of_getElem? (i := 563) (by decide +kernel)) rfl), (lw_ug (List.mem_of_getElem? (i := 564) (by decide +kernel)) rfl)⟩
set_option maxRecDepth 20000 in
theorem cw_X12_lose : Cond.code yX12_lose cX12_lose 3 (some .int) ∈ lw_u := (lw_ug (List.mem_of_getElem? (i := 1533) rfl) rfl)
theorem lm_L_57 : LkM RL 57 yX12_lose cX12_lose 3 (some .int) 1 := ⟨cw_X12_lose, (lw_ug (List.mem_of_getElem? (i := 80) (by decide +kernel)) rfl), ⟨by decide, by decide, by decide +kernel⟩, by decide, (Or.inl (lw_ug (List.mem_of_getElem? (i := 1530) (by decide +kernel)) rfl))⟩
theorem lv_vX12_lose : LkV yX12_lose := ⟨(lw_ug (List.mem_of_getElem? (i := 1531) (by decide +kernel)) rfl), (lw_ug (List.mem_of_getElem? (i := 1532) (by decide +kernel)) rfl)⟩
set_option maxRecDepth 20000 in
theorem cw_X11_where : Cond.code yX11_where cX11_where 4 (some .int) ∈ lw_u := (lw_ug (List.mem_of_getElem? (i := 569) rfl) rfl)
theorem lm_L_58 : LkM RL 58 yX11_where cX11_where 4 (some .int) 2 := ⟨cw_X11_where, (lw_ug (List.mem_of_getElem? (i := 73) (by decide +kernel)) rfl), ⟨by decide, by decide, by decide +kernel⟩, by decide, (Or.inl (lw_ug (List.mem_of_getElem? (i := 566) (by decide +kernel)) rfl))⟩
theorem lv_vX11_where : LkV yX11_where := ⟨(lw_ug (List.mem_of_getElem? (i := 567) (by decide +kernel)) rfl), (lw_ug (List.mem_of_getElem? (i := 568) (by decide +kernel)) rfl)⟩
set_option maxRecDepth 20000 in
theorem cw_X12_where : Cond.code yX12_where cX12_where 3 (some .int) ∈ lw_u := (lw_ug (List.mem_of_getElem? (i := 1537) rfl) rfl)
theorem lm_L_61 : LkM RL 61 yX12_where cX12_where 3 (some .int) 2 := ⟨cw_X12_where, (lw_ug (List.mem_of_getElem? (i := 80) (by decide +kernel)) rfl), ⟨by decide, by decide, by decide +kernel⟩, by decide, (Or.inl (lw_ug (List.mem_of_getElem? (i := 1534) (by decide +kernel)) rfl))⟩
theorem lv_vX12_where : LkV yX12_where := ⟨(lw_ug (List.mem_of_getElem? (i := 1535) (by decide +kernel)) rfl), (lw_ug (List.mem_of_getElem? (i := 1536) (by decide +kernel)) rfl)⟩
set_option maxRecDepth 20000 in
theorem cw_X11_overdue : Cond.code yX11_overdue cX11_overdue 3 (some .int) ∈ lw_u := (lw_ug (List.mem_of_getElem? (i := 573) rfl) rfl)
theorem lm_L_62 : LkM RL 62 yX11_overdue cX11_overdue 3 (some .int) 0 := ⟨cw_X11_overdue, (lw_ug (List.mem_of_getElem? (i := 73) (by decide +kernel)) rfl), ⟨by decide, by decide, by decide +kernel⟩, by decide, (Or.inl (lw_ug (List.mem_of_getElem? (i := 570) (by decide +kernel)) rfl))⟩
theorem lv_vX11_overdue : LkV yX11_overdue := ⟨(lw_ug (List.mem_of_getElem? (i := 571) (by decide +kernel)) rfl), (lw_ug (List.mem_of_getElem? (i := 572) (by decide +kernel)) rfl)⟩
set_option maxRecDepth 20000 in
theorem cw_X12_overdue : Cond.code yX12_overdue cX12_overdue 3 (some .int) ∈ lw_u := (lw_ug (List.mem_of_getElem? (i := 1541) rfl) rfl)
theorem lm_L_66 : LkM RL 66 yX12_overdue cX12_overdue 3 (some .int) 0 := ⟨cw_X12_overdue, (lw_ug (List.mem_of_getElem? (i := 80) (by decide +kernel)) rfl), ⟨by decide, by decide, by decide +kernel⟩, by decide, (Or.inl (lw_ug (List.mem_of_getElem? (i := 1538) (by decide +kernel)) rfl))⟩
theorem lv_vX12_overdue : LkV yX12_overdue := ⟨(lw_ug (List.mem_of_getElem? (i := 1539) (by decide +kernel)) rfl), (lw_ug (List.mem_of_getElem? (i := 1540) (by decide +kernel)) rfl)⟩
set_option maxRecDepth 20000 in
theorem cw_X11_fact : Cond.code yX11_fact cX11_fact 5 (some .int) ∈ lw_u := (lw_ug (List.mem_of_getElem? (i := 577) rfl) rfl)
theorem lm_L_67 : LkM RL 67 yX11_fact cX11_fact 5 (some .int) 4 := ⟨cw_X11_fact, (lw_ug (List.mem_of_getElem? (i := 73) (by decide +kernel)) rfl), ⟨by decide, by decide, by decide +kernel⟩, by decide, (Or.inl (lw_ug (List.mem_of_getElem? (i := 574) (by decide +kernel)) rfl))⟩
theorem lv_vX11_fact : LkV yX11_fact := ⟨(lw_ug (List.mem_of_getElem? (i := 575) (by decide +kernel)) rfl), (lw_ug (List.mem_of_getElem? (i := 576) (by decide +kernel)) rfl)⟩
set_option maxRecDepth 20000 in
theorem cw_X12_fact : Cond.code yX12_fact cX12_fact 5 (some .int) ∈ lw_u := (lw_ug (List.mem_of_getElem? (i := 1545) rfl) rfl)
theorem lm_L_71 : LkM RL 71 yX12_fact cX12_fact 5 (some .int) 4 := ⟨cw_X12_fact, (lw_ug (List.mem_of_getElem? (i := 80) (by decide +kernel)) rfl), ⟨by decide, by decide, by decide +kernel⟩, by decide, (Or.inl (lw_ug (List.mem_of_getElem? (i := 1542) (by decide +kernel)) rfl))⟩
theorem lv_vX12_fact : LkV yX12_fact := ⟨(lw_ug (List.mem_of_getElem? (i := 1543) (by decide +kernel)) rfl), (lw_ug (List.mem_of_getElem? (i := 1544) (by decide +kernel)) rfl)⟩
set_option maxRecDepth 20000 in
theorem cw_X11_lie : Cond.code yX11_lie cX11_lie 5 (some .int) ∈ lw_u := (lw_ug (List.mem_of_getElem? (i := 588) rfl) rfl)
theorem lm_L_72 : LkM RL 72 yX11_lie cX11_lie 5 (some .int) 3 := ⟨cw_X11_lie, (lw_ug (List.mem_of_getElem? (i := 73) (by decide +kernel)) rfl), ⟨by decide, by decide, by decide +kernel⟩, by decide, (Or.inl (lw_ug (List.mem_of_getElem? (i := 585) (by decide +kernel)) rfl))⟩
theorem lv_vX11_lie : LkV yX11_lie := ⟨(lw_ug (List.mem_of_getElem? (i := 586) (by decide +kernel)) rfl), (lw_ug (List.mem_of_getElem? (i := 587) (by decide +kernel)) rfl)⟩
set_option maxRecDepth 20000 in
theorem cw_X12_lie : Cond.code yX12_lie cX12_lie 4 (some .int) ∈ lw_u := (lw_ug (List.mem_of_getElem? (i := 1550) rfl) rfl)
theorem lm_L_76 : LkM RL 76 yX12_lie cX12_lie 4 (some .int) 3 := ⟨cw_X12_lie, (lw_ug (List.mem_of_getElem? (i := 80) (by decide +kernel)) rfl), ⟨by decide, by decide, by decide +kernel⟩, by decide, (Or.inl (lw_ug (List.mem_of_getElem? (i := 1547) (by decide +kernel)) rfl))⟩
theorem lv_vX12_lie : LkV yX12_lie := ⟨(lw_ug (List.mem_of_getElem? (i := 1548) (by decide +kernel)) rfl), (lw_ug (List.mem_of_getElem? (i := 1549) (by decide +kernel)) rfl)⟩
set_option maxRecDepth 20000 in
theorem cw_X11_find : Cond.code yX11_find cX11_find 6 (some .int) ∈ lw_u := (lw_ug (List.mem_of_getElem? (i := 607) rfl) rfl)
theorem lm_L_77 : LkM RL 77 yX11_find cX11_find 6 (some .int) 3 := ⟨cw_X11_find, (lw_ug (List.mem_of_getElem? (i := 73) (by decide +kernel)) rfl), ⟨by decide, by decide, by decide +kernel⟩, by decide, (Or.inl (lw_ug (List.mem_of_getElem? (i := 604) (by decide +kernel)) rfl))⟩
theorem lv_vX11_find : LkV yX11_find := ⟨(lw_ug (List.mem_of_getElem? (i := 605) (by decide +kernel)) rfl), (lw_ug (List.mem_of_getElem? (i := 606) (by decide +kernel)) rfl)⟩
set_option maxRecDepth 20000 in
theorem cw_X12_find : Cond.code yX12_find cX12_find 6 (some .int) ∈ lw_u := (lw_ug (List.mem_of_getElem? (i := 1562) rfl) rfl)
theorem lm_L_80 : LkM RL 80 yX12_find cX12_find 6 (some .int) 3 := ⟨cw_X12_find, (lw_ug (List.mem_of_getElem? (i := 80) (by decide +kernel)) rfl), ⟨by decide, by decide, by decide +kernel⟩, by decide, (Or.inl (lw_ug (List.mem_of_getElem? (i := 1559) (by decide +kernel)) rfl))⟩
theorem lv_vX12_find : LkV yX12_find := ⟨(lw_ug (List.mem_of_getElem? (i := 1560) (by decide +kernel)) rfl), (lw_ug (List.mem_of_getElem? (i := 1561) (by decide +kernel)) rfl)⟩
set_option maxRecDepth 20000 in
theorem cw_X11_story : Cond.code yX11_story cX11_story 5 (some .int) ∈ lw_u := (lw_ug (List.mem_of_getElem? (i := 615) rfl) rfl)
theorem lm_L_81 : LkM RL 81 yX11_story cX11_story 5 (some .int) 4 := ⟨cw_X11_story, (lw_ug (List.mem_of_getElem? (i := 73) (by decide +kernel)) rfl), ⟨by decide, by decide, by decide +kernel⟩, by decide, (Or.inl (lw_ug (List.mem_of_getElem? (i := 612) (by decide +kernel)) rfl))⟩
theorem lv_vX11_story : LkV yX11_story := ⟨(lw_ug (List.mem_of_getElem? (i := 613) (by decide +kernel)) rfl), (lw_ug (List.mem_of_getElem? (i := 614) (by decide +kernel)) rfl)⟩
set_option maxRecDepth 20000 in
theorem cw_X12_story : Cond.code yX12_story cX12_story 5 (some .int) ∈ lw_u := (lw_ug (List.mem_of_getElem? (i := 1566) rfl) rfl)
theorem lm_L_84 : LkM RL 84 yX12_story cX12_story 5 (some .int) 4 := ⟨cw_X12_story, (lw_ug (List.mem_of_getElem? (i := 80) (by decide +kernel)) rfl), ⟨by decide, by decide, by decide +kernel⟩, by decide, (Or.inl (lw_ug (List.mem_of_getElem? (i := 1563) (by decide +kernel)) rfl))⟩
theorem lv_vX12_story : LkV yX12_story := ⟨(lw_ug (List.mem_of_getElem? (i := 1564) (by decide +kernel)) rfl), (lw_ug (List.mem_of_getElem? (i := 1565) (by decide +kernel)) rfl)⟩
set_option maxRecDepth 20000 in
theorem cw_X11_put : Cond.code yX11_put cX11_put 5 (some .int) ∈ lw_u := (lw_ug (List.mem_of_getElem? (i := 658) rfl) rfl)
theorem lm_L_85 : LkM RL 85 yX11_put cX11_put 5 (some .int) 2 := ⟨cw_X11_put, (lw_ug (List.mem_of_getElem? (i := 73) (by decide +kernel)) rfl), ⟨by decide, by decide, by decide +kernel⟩, by decide, (Or.inl (lw_ug (List.mem_of_getElem? (i := 655) (by decide +kernel)) rfl))⟩
theorem lv_vX11_put : LkV yX11_put := ⟨(lw_ug (List.mem_of_getElem? (i := 656) (by decide +kernel)) rfl), (lw_ug (List.mem_of_getElem? (i := 657) (by decide +kernel)) rfl)⟩
set_option maxRecDepth 20000 in
theorem cw_X12_put : Cond.code yX12_put cX12_put 5 (some .int) ∈ lw_u := (lw_ug (List.mem_of_getElem? (i := 1571) rfl) rfl)
theorem lm_L_88 : LkM RL 88 yX12_put cX12_put 5 (some .int) 2 := ⟨cw_X12_put, (lw_ug (List.mem_of_getElem? (i := 80) (by decide +kernel)) rfl), ⟨by decide, by decide, by decide +kernel⟩, by decide, (Or.inl (lw_ug (List.mem_of_getElem? (i := 1568) (by decide +kernel)) rfl))⟩
theorem lv_vX12_put : LkV yX12_put := ⟨(lw_ug (List.mem_of_getElem? (i := 1569) (by decide +kernel)) rfl), (lw_ug (List.mem_of_getElem? (i := 1570) (by decide +kernel)) rfl)⟩
set_option maxRecDepth 20000 in
theorem cw_X11_cut : Cond.code yX11_cut cX11_cut 4 (some .int) ∈ lw_u := (lw_ug (List.mem_of_getElem? (i := 674) rfl) rfl)
theorem lm_L_89 : LkM RL 89 yX11_cut cX11_cut 4 (some .int) 2 := ⟨cw_X11_cut, (lw_ug (List.mem_of_getElem? (i := 73) (by decide +kernel)) rfl), ⟨by decide, by decide, by decide +kernel⟩, by decide, (Or.inl (lw_ug (List.mem_of_getElem? (i := 671) (by decide +kernel)) rfl))⟩
theorem lv_vX11_cut : LkV yX11_cut := ⟨(lw_ug (List.mem_of_getElem? (i := 672) (by decide +kernel)) rfl), (lw_ug (List.mem_of_getElem? (i := 673) (by decide +kernel)) rfl)⟩
set_option maxRecDepth 20000 in
theorem cw_X12_cut : Cond.code yX12_cut cX12_cut 5 (some .int) ∈ lw_u := (lw_ug (List.mem_of_getElem? (i := 1579) rfl) rfl)
theorem lm_L_92 : LkM RL 92 yX12_cut cX12_cut 5 (some .int) 2 := ⟨cw_X12_cut, (lw_ug (List.mem_of_getElem? (i := 80) (by decide +kernel)) rfl), ⟨by decide, by decide, by decide +kernel⟩, by decide, (Or.inl (lw_ug (List.mem_of_getElem? (i := 1576) (by decide +kernel)) rfl))⟩
theorem lv_vX12_cut : LkV yX12_cut := ⟨(lw_ug (List.mem_of_getElem? (i := 1577) (by decide +kernel)) rfl), (lw_ug (List.mem_of_getElem? (i := 1578) (by decide +kernel)) rfl)⟩
set_option maxRecDepth 20000 in
theorem cw_X11_say : Cond.code yX11_say cX11_say 5 (some .int) ∈ lw_u := (lw_ug (List.mem_of_getElem? (i := 683) rfl) rfl)
theorem lm_L_93 : LkM RL 93 yX11_say cX11_say 5 (some .int) 2 := ⟨cw_X11_say, (lw_ug (List.mem_of_getElem? (i := 73) (by decide +kernel)) rfl), ⟨by decide, by decide, by decide +kernel⟩, by decide, (Or.inl (lw_ug (List.mem_of_getElem? (i := 680) (by decide +kernel)) rfl))⟩
theorem lv_vX11_say : LkV yX11_say := ⟨(lw_ug (List.mem_of_getElem? (i := 681) (by decide +kernel)) rfl), (lw_ug (List.mem_of_getElem? (i := 682) (by decide +kernel)) rfl)⟩
set_option maxRecDepth 20000 in
theorem cw_X12_say : Cond.code yX12_say cX12_say 4 (some .int) ∈ lw_u := (lw_ug (List.mem_of_getElem? (i := 1583) rfl) rfl)
theorem lm_L_96 : LkM RL 96 yX12_say cX12_say 4 (some .int) 2 := ⟨cw_X12_say, (lw_ug (List.mem_of_getElem? (i := 80) (by decide +kernel)) rfl), ⟨by decide, by decide, by decide +kernel⟩, by decide, (Or.inl (lw_ug (List.mem_of_getElem? (i := 1580) (by decide +kernel)) rfl))⟩
theorem lv_vX12_say : LkV yX12_say := ⟨(lw_ug (List.mem_of_getElem? (i := 1581) (by decide +kernel)) rfl), (lw_ug (List.mem_of_getElem? (i := 1582) (by decide +kernel)) rfl)⟩
set_option maxRecDepth 20000 in
theorem cw_X11_must : Cond.code yX11_must cX11_must 5 (some .int) ∈ lw_u := (lw_ug (List.mem_of_getElem? (i := 690) rfl) rfl)
theorem lm_L_97 : LkM RL 97 yX11_must cX11_must 5 (some .int) 2 := ⟨cw_X11_must, (lw_ug (List.mem_of_getElem? (i := 73) (by decide +kernel)) rfl), ⟨by decide, by decide, by decide +kernel⟩, by decide, (Or.inl (lw_ug (List.mem_of_getElem? (i := 687) (by decide +kernel)) rfl))⟩
theorem lv_vX11_must : LkV yX11_must := ⟨(lw_ug (List.mem_of_getElem? (i := 688) (by decide +kernel)) rfl), (lw_ug (List.mem_of_getElem? (i := 689) (by decide +kernel)) rfl)⟩
set_option maxRecDepth 20000 in
theorem cw_X12_must : Cond.code yX12_must cX12_must 4 (some .int) ∈ lw_u := (lw_ug (List.mem_of_getElem? (i := 1587) rfl) rfl)
theorem lm_L_100 : LkM RL 100 yX12_must cX12_must 4 (some .int) 2 := ⟨cw_X12_must, (lw_ug (List.mem_of_getElem? (i := 80) (by decide +kernel)) rfl), ⟨by decide, by decide, by decide +kernel⟩, by decide, (Or.inl (lw_ug (List.mem_of_getElem? (i := 1584) (by decide +kernel)) rfl))⟩
theorem lv_vX12_must : LkV yX12_must := ⟨(lw_ug (List.mem_of_getElem? (i := 1585) (by decide +kernel)) rfl), (lw_ug (List.mem_of_getElem? (i := 1586) (by decide +kernel)) rfl)⟩
set_option maxRecDepth 20000 in
theorem cw_X11_of : Cond.code yX11_of cX11_of 4 (some .int) ∈ lw_u := (lw_ug (List.mem_of_getElem? (i := 694) rfl) rfl)
theorem lm_L_101 : LkM RL 101 yX11_of cX11_of 4 (some .int) 2 := ⟨cw_X11_of, (lw_ug (List.mem_of_getElem? (i := 73) (by decide +kernel)) rfl), ⟨by decide, by decide, by decide +kernel⟩, by decide, (Or.inl (lw_ug (List.mem_of_getElem? (i := 691) (by decide +kernel)) rfl))⟩
theorem lv_vX11_of : LkV yX11_of := ⟨(lw_ug (List.mem_of_getElem? (i := 692) (by decide +kernel)) rfl), (lw_ug (List.mem_of_getElem? (i := 693) (by decide +kernel)) rfl)⟩
set_option maxRecDepth 20000 in
theorem cw_X12_of : Cond.code yX12_of cX12_of 3 (some .int) ∈ lw_u := (lw_ug (List.mem_of_getElem? (i := 1591) rfl) rfl)
theorem lm_L_104 : LkM RL 104 yX12_of cX12_of 3 (some .int) 2 := ⟨cw_X12_of, (lw_ug (List.mem_of_getElem? (i := 80) (by decide +kernel)) rfl), ⟨by decide, by decide, by decide +kernel⟩, by decide, (Or.inl (lw_ug (List.mem_of_getElem? (i := 1588) (by decide +kernel)) rfl))⟩
theorem lv_vX12_of : LkV yX12_of := ⟨(lw_ug (List.mem_of_getElem? (i := 1589) (by decide +kernel)) rfl), (lw_ug (List.mem_of_getElem? (i := 1590) (by decide +kernel)) rfl)⟩
set_option maxRecDepth 20000 in
theorem cw_X11_age : Cond.code yX11_age cX11_age 3 (some .int) ∈ lw_u := (lw_ug (List.mem_of_getElem? (i := 725) rfl) rfl)
theorem lm_L_105 : LkM RL 105 yX11_age cX11_age 3 (some .int) 1 := ⟨cw_X11_age, (lw_ug (List.mem_of_getElem? (i := 73) (by decide +kernel)) rfl), ⟨by decide, by decide, by decide +kernel⟩, by decide, (Or.inl (lw_ug (List.mem_of_getElem? (i := 722) (by decide +kernel)) rfl))⟩
theorem lv_vX11_age : LkV yX11_age := ⟨(lw_ug (List.mem_of_getElem? (i := 723) (by decide +kernel)) rfl), (lw_ug (List.mem_of_getElem? (i := 724) (by decide +kernel)) rfl)⟩
set_option maxRecDepth 20000 in
theorem cw_X12_age : Cond.code yX12_age cX12_age 3 (some .int) ∈ lw_u := (lw_ug (List.mem_of_getElem? (i := 1611) rfl) rfl)
theorem lm_L_108 : LkM RL 108 yX12_age cX12_age 3 (some .int) 1 := ⟨cw_X12_age, (lw_ug (List.mem_of_getElem? (i := 80) (by decide +kernel)) rfl), ⟨by decide, by decide, by decide +kernel⟩, by decide, (Or.inl (lw_ug (List.mem_of_getElem? (i := 1608) (by decide +kernel)) rfl))⟩
theorem lv_vX12_age : LkV yX12_age := ⟨(lw_ug (List.mem_of_getElem? (i := 1609) (by decide +kernel)) rfl), (lw_ug (List.mem_of_getElem? (i := 1610) (by decide +kernel)) rfl)⟩
set_option maxRecDepth 20000 in
theorem cw_X11_cost : Cond.code yX11_cost cX11_cost 3 (some .int) ∈ lw_u := (lw_ug (List.mem_of_getElem? (i := 729) rfl) rfl)
theorem lm_L_109 : LkM RL 109 yX11_cost cX11_cost 3 (some .int) 1 := ⟨cw_X11_cost, (lw_ug (List.mem_of_getElem? (i := 73) (by decide +kernel)) rfl), ⟨by decide, by decide, by decide +kernel⟩, by decide, (Or.inl (lw_ug (List.mem_of_getElem? (i := 726) (by decide +kernel)) rfl))⟩
theorem lv_vX11_cost : LkV yX11_cost := ⟨(lw_ug (List.mem_of_getElem? (i := 727) (by decide +kernel)) rfl), (lw_ug (List.mem_of_getElem? (i := 728) (by decide +kernel)) rfl)⟩
set_option maxRecDepth 20000 in
theorem cw_X12_cost : Cond.code yX12_cost cX12_cost 5 (some .int) ∈ lw_u := (lw_ug (List.mem_of_getElem? (i := 1616) rfl) rfl)
theorem lm_L_112 : LkM RL 112 yX12_cost cX12_cost 5 (some .int) 1 := ⟨cw_X12_cost, (lw_ug (List.mem_of_getElem? (i := 80) (by decide +kernel)) rfl), ⟨by decide, by decide, by decide +kernel⟩, by decide, (Or.inl (lw_ug (List.mem_of_getElem? (i := 1613) (by decide +kernel)) rfl))⟩
theorem lv_vX12_cost : LkV yX12_cost := ⟨(lw_ug (List.mem_of_getElem? (i := 1614) (by decide +kernel)) rfl), (lw_ug (List.mem_of_getElem? (i := 1615) (by decide +kernel)) rfl)⟩
set_option maxRecDepth 20000 in
theorem cw_X11_rate : Cond.code yX11_rate cX11_rate 4 (some .int) ∈ lw_u := (lw_ug (List.mem_of_getElem? (i := 737) rfl) rfl)
theorem lm_L_113 : LkM RL 113 yX11_rate cX11_rate 4 (some .int) 2 := ⟨cw_X11_rate, (lw_ug (List.mem_of_getElem? (i := 73) (by decide +kernel)) rfl), ⟨by decide, by decide, by decide +kernel⟩, by decide, (Or.inl (lw_ug (List.mem_of_getElem? (i := 734) (by decide +kernel)) rfl))⟩
theorem lv_vX11_rate : LkV yX11_rate := ⟨(lw_ug (List.mem_of_getElem? (i := 735) (by decide +kernel)) rfl), (lw_ug (List.mem_of_getElem? (i := 736) (by decide +kernel)) rfl)⟩
set_option maxRecDepth 20000 in
theorem cw_X12_rate : Cond.code yX12_rate cX12_rate 4 (some .int) ∈ lw_u := (lw_ug (List.mem_of_getElem? (i := 1620) rfl) rfl)
theorem lm_L_116 : LkM RL 116 yX12_rate cX12_rate 4 (some .int) 2 := ⟨cw_X12_rate, (lw_ug (List.mem_of_getElem? (i := 80) (by decide +kernel)) rfl), ⟨by decide, by decide, by decide +kernel⟩, by decide, (Or.inl (lw_ug (List.mem_of_getElem? (i := 1617) (by decide +kernel)) rfl))⟩
theorem lv_vX12_rate : LkV yX12_rate := ⟨(lw_ug (List.mem_of_getElem? (i := 1618) (by decide +kernel)) rfl), (lw_ug (List.mem_of_getElem? (i := 1619) (by decide +kernel)) rfl)⟩
set_option maxRecDepth 20000 in
theorem cw_X11_rule : Cond.code yX11_rule cX11_rule 2 (some .int) ∈ lw_u := (lw_ug (List.mem_of_getElem? (i := 741) rfl) rfl)
theorem lm_L_117 : LkM RL 117 yX11_rule cX11_rule 2 (some .int) 1 := ⟨cw_X11_rule, (lw_ug (List.mem_of_getElem? (i := 73) (by decide +kernel)) rfl), ⟨by decide, by decide, by decide +kernel⟩, by decide, (Or.inl (lw_ug (List.mem_of_getElem? (i := 738) (by decide +kernel)) rfl))⟩
theorem lv_vX11_rule : LkV yX11_rule := ⟨(lw_ug (List.mem_of_getElem? (i := 739) (by decide +kernel)) rfl), (lw_ug (List.mem_of_getElem? (i := 740) (by decide +kernel)) rfl)⟩
set_option maxRecDepth 20000 in
theorem cw_X12_rule : Cond.code yX12_rule cX12_rule 2 (some .int) ∈ lw_u := (lw_ug (List.mem_of_getElem? (i := 1625) rfl) rfl)
theorem lm_L_120 : LkM RL 120 yX12_rule cX12_rule 2 (some .int) 1 := ⟨cw_X12_rule, (lw_ug (List.mem_of_getElem? (i := 80) (by decide +kernel)) rfl), ⟨by decide, by decide, by decide +kernel⟩, by decide, (Or.inl (lw_ug (List.mem_of_getElem? (i := 1622) (by decide +kernel)) rfl))⟩
theorem lv_vX12_rule : LkV yX12_rule := ⟨(lw_ug (List.mem_of_getElem? (i := 1623) (by decide +kernel)) rfl), (lw_ug (List.mem_of_getElem? (i := 1624) (by decide +kernel)) rfl)⟩
set_option maxRecDepth 20000 in
theorem cw_X11_feed : Cond.code yX11_feed cX11_feed 5 (some .int) ∈ lw_u := (lw_ug (List.mem_of_getElem? (i := 770) rfl) rfl)
theorem lm_L_123 : LkM RL 123 yX11_feed cX11_feed 5 (some .int) 2 := ⟨cw_X11_feed, (lw_ug (List.mem_of_getElem? (i := 73) (by decide +kernel)) rfl), ⟨by decide, by decide, by decide +kernel⟩, by decide, (Or.inl (lw_ug (List.mem_of_getElem? (i := 767) (by decide +kernel)) rfl))⟩
theorem lv_vX11_feed : LkV yX11_feed := ⟨(lw_ug (List.mem_of_getElem? (i := 768) (by decide +kernel)) rfl), (lw_ug (List.mem_of_getElem? (i := 769) (by decide +kernel)) rfl)⟩
set_option maxRecDepth 20000 in
theorem cw_X12_feed : Cond.code yX12_feed cX12_feed 6 (some .int) ∈ lw_u := (lw_ug (List.mem_of_getElem? (i := 1633) rfl) rfl)
theorem lm_L_127 : LkM RL 127 yX12_feed cX12_feed 6 (some .int) 2 := ⟨cw_X12_feed, (lw_ug (List.mem_of_getElem? (i := 80) (by decide +kernel)) rfl), ⟨by decide, by decide, by decide +kernel⟩, by decide, (Or.inl (lw_ug (List.mem_of_getElem? (i := 1630) (by decide +kernel)) rfl))⟩
theorem lv_vX12_feed : LkV yX12_feed := ⟨(lw_ug (List.mem_of_getElem? (i := 1631) (by decide +kernel)) rfl), (lw_ug (List.mem_of_getElem? (i := 1632) (by decide +kernel)) rfl)⟩
set_option maxRecDepth 20000 in
theorem cw_X11_fault : Cond.code yX11_fault cX11_fault 3 (some .int) ∈ lw_u := (lw_ug (List.mem_of_getElem? (i := 786) rfl) rfl)
theorem lm_L_128 : LkM RL 128 yX11_fault cX11_fault 3 (some .int) 1 := ⟨cw_X11_fault, (lw_ug (List.mem_of_getElem? (i := 73) (by decide +kernel)) rfl), ⟨by decide, by decide, by decide +kernel⟩, by decide, (Or.inl (lw_ug (List.mem_of_getElem? (i := 783) (by decide +kernel)) rfl))⟩
theorem lv_vX11_fault : LkV yX11_fault := ⟨(lw_ug (List.mem_of_getElem? (i := 784) (by decide +kernel)) rfl), (lw_ug (List.mem_of_getElem? (i := 785) (by decide +kernel)) rfl)⟩
set_option maxRecDepth 20000 in
theorem cw_X12_fault : Cond.code yX12_fault cX12_fault 2 (some .int) ∈ lw_u := (lw_ug (List.mem_of_getElem? (i := 1641) rfl) rfl)
theorem lm_L_131 : LkM RL 131 yX12_fault cX12_fault 2 (some .int) 1 := ⟨cw_X12_fault, (lw_ug (List.mem_of_getElem? (i := 80) (by decide +kernel)) rfl), ⟨by decide, by decide, by decide +kernel⟩, by decide, (Or.inl (lw_ug (List.mem_of_getElem? (i := 1638) (by decide +kernel)) rfl))⟩
theorem lv_vX12_fault : LkV yX12_fault := ⟨(lw_ug (List.mem_of_getElem? (i := 1639) (by decide +kernel)) rfl), (lw_ug (List.mem_of_getElem? (i := 1640) (by decide +kernel)) rfl)⟩
set_option maxRecDepth 20000 in
theorem cw_X11_strike : Cond.code yX11_strike cX11_strike 4 (some .int) ∈ lw_u := (lw_ug (List.mem_of_getElem? (i := 837) rfl) rfl)
theorem lm_L_132 : LkM RL 132 yX11_strike cX11_strike 4 (some .int) 2 := ⟨cw_X11_strike, (lw_ug (List.mem_of_getElem? (i := 73) (by decide +kernel)) rfl), ⟨by decide, by decide, by decide +kernel⟩, by decide, (Or.inl (lw_ug (List.mem_of_getElem? (i := 834) (by decide +kernel)) rfl))⟩
theorem lv_vX11_strike : LkV yX11_strike := ⟨(lw_ug (List.mem_of_getElem? (i := 835) (by decide +kernel)) rfl), (lw_ug (List.mem_of_getElem? (i := 836) (by decide +kernel)) rfl)⟩
set_option maxRecDepth 20000 in
theorem cw_X12_strike : Cond.code yX12_strike cX12_strike 3 (some .int) ∈ lw_u := (lw_ug (List.mem_of_getElem? (i := 1675) rfl) rfl)
theorem lm_L_135 : LkM RL 135 yX12_strike cX12_strike 3 (some .int) 2 := ⟨cw_X12_strike, (lw_ug (List.mem_of_getElem? (i := 80) (by decide +kernel)) rfl), ⟨by decide, by decide, by decide +kernel⟩, by decide, (Or.inl (lw_ug (List.mem_of_getElem? (i := 1672) (by decide +kernel)) rfl))⟩
theorem lv_vX12_strike : LkV yX12_strike := ⟨(lw_ug (List.mem_of_getElem? (i := 1673) (by decide +kernel)) rfl), (lw_ug (List.mem_of_getElem? (i := 1674) (by decide +kernel)) rfl)⟩
set_option maxRecDepth 20000 in
theorem cw_X11_bars : Cond.code yX11_bars cX11_bars 5 (some .int) ∈ lw_u := (lw_ug (List.mem_of_getElem? (i := 842) rfl) rfl)
theorem lm_L_136 : LkM RL 136 yX11_bars cX11_bars 5 (some .int) 3 := ⟨cw_X11_bars, (lw_ug (List.mem_of_getElem? (i := 73) (by decide +kernel)) rfl), ⟨by decide, by decide, by decide +kernel⟩, by decide, (Or.inl (lw_ug (List.mem_of_getElem? (i := 839) (by decide +kernel)) rfl))⟩
theorem lv_vX11_bars : LkV yX11_bars := ⟨(lw_ug (List.mem_of_getElem? (i := 840) (by decide +kernel)) rfl), (lw_ug (List.mem_of_getElem? (i := 841) (by decide +kernel)) rfl)⟩
set_option maxRecDepth 20000 in
theorem cw_X12_bars : Cond.code yX12_bars cX12_bars 5 (some .int) ∈ lw_u := (lw_ug (List.mem_of_getElem? (i := 1679) rfl) rfl)
theorem lm_L_139 : LkM RL 139 yX12_bars cX12_bars 5 (some .int) 3 := ⟨cw_X12_bars, (lw_ug (List.mem_of_getElem? (i := 80) (by decide +kernel)) rfl), ⟨by decide, by decide, by decide +kernel⟩, by decide, (Or.inl (lw_ug (List.mem_of_getElem? (i := 1676) (by decide +kernel)) rfl))⟩
theorem lv_vX12_bars : LkV yX12_bars := ⟨(lw_ug (List.mem_of_getElem? (i := 1677) (by decide +kernel)) rfl), (lw_ug (List.mem_of_getElem? (i := 1678) (by decide +kernel)) rfl)⟩
set_option maxRecDepth 20000 in
theorem cw_X11_reserve : Cond.code yX11_reserve cX11_reserve 4 (some .int) ∈ lw_u := (lw_ug (List.mem_of_getElem? (i := 867) rfl) rfl)
theorem lm_L_140 : LkM RL 140 yX11_reserve cX11_reserve 4 (some .int) 2 := ⟨cw_X11_reserve, (lw_ug (List.mem_of_getElem? (i := 73) (by decide +kernel)) rfl), ⟨by decide, by decide, by decide +kernel⟩, by decide, (Or.inl (lw_ug (List.mem_of_getElem? (i := 864) (by decide +kernel)) rfl))⟩
theorem lv_vX11_reserve : LkV yX11_reserve := ⟨(lw_ug (List.mem_of_getElem? (i := 865) (by decide +kernel)) rfl), (lw_ug (List.mem_of_getElem? (i := 866) (by decide +kernel)) rfl)⟩
set_option maxRecDepth 20000 in
theorem cw_X12_reserve : Cond.code yX12_reserve cX12_reserve 4 (some .int) ∈ lw_u := (lw_ug (List.mem_of_getElem? (i := 1695) rfl) rfl)
theorem lm_L_143 : LkM RL 143 yX12_reserve cX12_reserve 4 (some .int) 2 := ⟨cw_X12_reserve, (lw_ug (List.mem_of_getElem? (i := 80) (by decide +kernel)) rfl), ⟨by decide, by decide, by decide +kernel⟩, by decide, (Or.inl (lw_ug (List.mem_of_getElem? (i := 1692) (by decide +kernel)) rfl))⟩
theorem lv_vX12_reserve : LkV yX12_reserve := ⟨(lw_ug (List.mem_of_getElem? (i := 1693) (by decide +kernel)) rfl), (lw_ug (List.mem_of_getElem? (i := 1694) (by decide +kernel)) rfl)⟩
set_option maxRecDepth 20000 in
theorem cw_X11_right : Cond.code yX11_right cX11_right 6 (some .int) ∈ lw_u := (lw_ug (List.mem_of_getElem? (i := 875) rfl) rfl)
theorem lm_L_144 : LkM RL 144 yX11_right cX11_right 6 (some .int) 5 := ⟨cw_X11_right, (lw_ug (List.mem_of_getElem? (i := 73) (by decide +kernel)) rfl), ⟨by decide, by decide, by decide +kernel⟩, by decide, (Or.inl (lw_ug (List.mem_of_getElem? (i := 872) (by decide +kernel)) rfl))⟩
theorem lv_vX11_right : LkV yX11_right := ⟨(lw_ug (List.mem_of_getElem? (i := 873) (by decide +kernel)) rfl), (lw_ug (List.mem_of_getElem? (i := 874) (by decide +kernel)) rfl)⟩
set_option maxRecDepth 20000 in
theorem cw_X12_right : Cond.code yX12_right cX12_right 6 (some .int) ∈ lw_u := (lw_ug (List.mem_of_getElem? (i := 1699) rfl) rfl)
theorem lm_L_148 : LkM RL 148 yX12_right cX12_right 6 (some .int) 5 := ⟨cw_X12_right, (lw_ug (List.mem_of_getElem? (i := 80) (by decide +kernel)) rfl), ⟨by decide, by decide, by decide +kernel⟩, by decide, (Or.inl (lw_ug (List.mem_of_getElem? (i := 1696) (by decide +kernel)) rfl))⟩
theorem lv_vX12_right : LkV yX12_right := ⟨(lw_ug (List.mem_of_getElem? (i := 1697) (by decide +kernel)) rfl), (lw_ug (List.mem_of_getElem? (i := 1698) (by decide +kernel)) rfl)⟩
set_option maxRecDepth 20000 in
theorem cw_X11_left : Cond.code yX11_left cX11_left 2 (some .int) ∈ lw_u := (lw_ug (List.mem_of_getElem? (i := 901) rfl) rfl)
theorem lm_L_149 : LkM RL 149 yX11_left cX11_left 2 (some .int) 1 := ⟨cw_X11_left, (lw_ug (List.mem_of_getElem? (i := 73) (by decide +kernel)) rfl), ⟨by decide, by decide, by decide +kernel⟩, by decide, (Or.inl (lw_ug (List.mem_of_getElem? (i := 898) (by decide +kernel)) rfl))⟩
theorem lv_vX11_left : LkV yX11_left := ⟨(lw_ug (List.mem_of_getElem? (i := 899) (by decide +kernel)) rfl), (lw_ug (List.mem_of_getElem? (i := 900) (by decide +kernel)) rfl)⟩
set_option maxRecDepth 20000 in
theorem cw_X12_left : Cond.code yX12_left cX12_left 2 (some .int) ∈ lw_u := (lw_ug (List.mem_of_getElem? (i := 1704) rfl) rfl)
theorem lm_L_152 : LkM RL 152 yX12_left cX12_left 2 (some .int) 1 := ⟨cw_X12_left, (lw_ug (List.mem_of_getElem? (i := 80) (by decide +kernel)) rfl), ⟨by decide, by decide, by decide +kernel⟩, by decide, (Or.inl (lw_ug (List.mem_of_getElem? (i := 1701) (by decide +kernel)) rfl))⟩
theorem lv_vX12_left : LkV yX12_left := ⟨(lw_ug (List.mem_of_getElem? (i := 1702) (by decide +kernel)) rfl), (lw_ug (List.mem_of_getElem? (i := 1703) (by decide +kernel)) rfl)⟩
set_option maxRecDepth 20000 in
theorem cw_X11_allowed : Cond.code yX11_allowed cX11_allowed 5 (some .int) ∈ lw_u := (lw_ug (List.mem_of_getElem? (i := 905) rfl) rfl)
theorem lm_L_153 : LkM RL 153 yX11_allowed cX11_allowed 5 (some .int) 3 := ⟨cw_X11_allowed, (lw_ug (List.mem_of_getElem? (i := 73) (by decide +kernel)) rfl), ⟨by decide, by decide, by decide +kernel⟩, by decide, (Or.inl (lw_ug (List.mem_of_getElem? (i := 902) (by decide +kernel)) rfl))⟩
theorem lv_vX11_allowed : LkV yX11_allowed := ⟨(lw_ug (List.mem_of_getElem? (i := 903) (by decide +kernel)) rfl), (lw_ug (List.mem_of_getElem? (i := 904) (by decide +kernel)) rfl)⟩
set_option maxRecDepth 20000 in
theorem cw_X12_allowed : Cond.code yX12_allowed cX12_allowed 5 (some .int) ∈ lw_u := (lw_ug (List.mem_of_getElem? (i := 1708) rfl) rfl)
theorem lm_L_156 : LkM RL 156 yX12_allowed cX12_allowed 5 (some .int) 3 := ⟨cw_X12_allowed, (lw_ug (List.mem_of_getElem? (i := 80) (by decide +kernel)) rfl), ⟨by decide, by decide, by decide +kernel⟩, by decide, (Or.inl (lw_ug (List.mem_of_getElem? (i := 1705) (by decide +kernel)) rfl))⟩
theorem lv_vX12_allowed : LkV yX12_allowed := ⟨(lw_ug (List.mem_of_getElem? (i := 1706) (by decide +kernel)) rfl), (lw_ug (List.mem_of_getElem? (i := 1707) (by decide +kernel)) rfl)⟩
set_option maxRecDepth 20000 in
theorem cw_X11_length : Cond.code yX11_length cX11_length 3 (some .int) ∈ lw_u := (lw_ug (List.mem_of_getElem? (i := 923) rfl) rfl)
theorem lm_L_157 : LkM RL 157 yX11_length cX11_length 3 (some .int) 2 := ⟨cw_X11_length, (lw_ug (List.mem_of_getElem? (i := 73) (by decide +kernel)) rfl), ⟨by decide, by decide, by decide +kernel⟩, by decide, (Or.inl (lw_ug (List.mem_of_getElem? (i := 920) (by decide +kernel)) rfl))⟩
theorem lv_vX11_length : LkV yX11_length := ⟨(lw_ug (List.mem_of_getElem? (i := 921) (by decide +kernel)) rfl), (lw_ug (List.mem_of_getElem? (i := 922) (by decide +kernel)) rfl)⟩
set_option maxRecDepth 20000 in
theorem cw_X12_length : Cond.code yX12_length cX12_length 4 (some .int) ∈ lw_u := (lw_ug (List.mem_of_getElem? (i := 1720) rfl) rfl)
theorem lm_L_161 : LkM RL 161 yX12_length cX12_length 4 (some .int) 2 := ⟨cw_X12_length, (lw_ug (List.mem_of_getElem? (i := 80) (by decide +kernel)) rfl), ⟨by decide, by decide, by decide +kernel⟩, by decide, (Or.inl (lw_ug (List.mem_of_getElem? (i := 1717) (by decide +kernel)) rfl))⟩
theorem lv_vX12_length : LkV yX12_length := ⟨(lw_ug (List.mem_of_getElem? (i := 1718) (by decide +kernel)) rfl), (lw_ug (List.mem_of_getElem? (i := 1719) (by decide +kernel)) rfl)⟩
set_option maxRecDepth 20000 in
theorem cw_X11_apart : Cond.code yX11_apart cX11_apart 4 (some .int) ∈ lw_u := (lw_ug (List.mem_of_getElem? (i := 931) rfl) rfl)
theorem lm_L_162 : LkM RL 162 yX11_apart cX11_apart 4 (some .int) 3 := ⟨cw_X11_apart, (lw_ug (List.mem_of_getElem? (i := 73) (by decide +kernel)) rfl), ⟨by decide, by decide, by decide +kernel⟩, by decide, (Or.inl (lw_ug (List.mem_of_getElem? (i := 928) (by decide +kernel)) rfl))⟩
theorem lv_vX11_apart : LkV yX11_apart := ⟨(lw_ug (List.mem_of_getElem? (i := 929) (by decide +kernel)) rfl), (lw_ug (List.mem_of_getElem? (i := 930) (by decide +kernel)) rfl)⟩
set_option maxRecDepth 20000 in
theorem cw_X12_apart : Cond.code yX12_apart cX12_apart 5 (some .int) ∈ lw_u := (lw_ug (List.mem_of_getElem? (i := 1725) rfl) rfl)
theorem lm_L_166 : LkM RL 166 yX12_apart cX12_apart 5 (some .int) 3 := ⟨cw_X12_apart, (lw_ug (List.mem_of_getElem? (i := 80) (by decide +kernel)) rfl), ⟨by decide, by decide, by decide +kernel⟩, by decide, (Or.inl (lw_ug (List.mem_of_getElem? (i := 1722) (by decide +kernel)) rfl))⟩
theorem lv_vX12_apart : LkV yX12_apart := ⟨(lw_ug (List.mem_of_getElem? (i := 1723) (by decide +kernel)) rfl), (lw_ug (List.mem_of_getElem? (i := 1724) (by decide +kernel)) rfl)⟩
set_option maxRecDepth 20000 in
theorem cw_X11_rival : Cond.code yX11_rival cX11_rival 4 (some .int) ∈ lw_u := (lw_ug (List.mem_of_getElem? (i := 942) rfl) rfl)
theorem lm_L_167 : LkM RL 167 yX11_rival cX11_rival 4 (some .int) 2 := ⟨cw_X11_rival, (lw_ug (List.mem_of_getElem? (i := 73) (by decide +kernel)) rfl), ⟨by decide, by decide, by decide +kernel⟩, by decide, (Or.inl (lw_ug (List.mem_of_getElem? (i := 939) (by decide +kernel)) rfl))⟩
theorem lv_vX11_rival : LkV yX11_rival := ⟨(lw_ug (List.mem_of_getElem? (i := 940) (by decide +kernel)) rfl), (lw_ug (List.mem_of_getElem? (i := 941) (by decide +kernel)) rfl)⟩
set_option maxRecDepth 20000 in
theorem cw_X12_rival : Cond.code yX12_rival cX12_rival 4 (some .int) ∈ lw_u := (lw_ug (List.mem_of_getElem? (i := 1729) rfl) rfl)
theorem lm_L_170 : LkM RL 170 yX12_rival cX12_rival 4 (some .int) 2 := ⟨cw_X12_rival, (lw_ug (List.mem_of_getElem? (i := 80) (by decide +kernel)) rfl), ⟨by decide, by decide, by decide +kernel⟩, by decide, (Or.inl (lw_ug (List.mem_of_getElem? (i := 1726) (by decide +kernel)) rfl))⟩
theorem lv_vX12_rival : LkV yX12_rival := ⟨(lw_ug (List.mem_of_getElem? (i := 1727) (by decide +kernel)) rfl), (lw_ug (List.mem_of_getElem? (i := 1728) (by decide +kernel)) rfl)⟩
set_option maxRecDepth 20000 in
theorem cw_X11_reel : Cond.code yX11_reel cX11_reel 4 (some .int) ∈ lw_u := (lw_ug (List.mem_of_getElem? (i := 946) rfl) rfl)
theorem lm_L_171 : LkM RL 171 yX11_reel cX11_reel 4 (some .int) 2 := ⟨cw_X11_reel, (lw_ug (List.mem_of_getElem? (i := 73) (by decide +kernel)) rfl), ⟨by decide, by decide, by decide +kernel⟩, by decide, (Or.inl (lw_ug (List.mem_of_getElem? (i := 943) (by decide +kernel)) rfl))⟩
theorem lv_vX11_reel : LkV yX11_reel := ⟨(lw_ug (List.mem_of_getElem? (i := 944) (by decide +kernel)) rfl), (lw_ug (List.mem_of_getElem? (i := 945) (by decide +kernel)) rfl)⟩
set_option maxRecDepth 20000 in
theorem cw_X12_reel : Cond.code yX12_reel cX12_reel 4 (some .int) ∈ lw_u := (lw_ug (List.mem_of_getElem? (i := 1733) rfl) rfl)
theorem lm_L_174 : LkM RL 174 yX12_reel cX12_reel 4 (some .int) 2 := ⟨cw_X12_reel, (lw_ug (List.mem_of_getElem? (i := 80) (by decide +kernel)) rfl), ⟨by decide, by decide, by decide +kernel⟩, by decide, (Or.inl (lw_ug (List.mem_of_getElem? (i := 1730) (by decide +kernel)) rfl))⟩
theorem lv_vX12_reel : LkV yX12_reel := ⟨(lw_ug (List.mem_of_getElem? (i := 1731) (by decide +kernel)) rfl), (lw_ug (List.mem_of_getElem? (i := 1732) (by decide +kernel)) rfl)⟩
set_option maxRecDepth 20000 in
theorem cw_X11_reelAt : Cond.code yX11_reelAt cX11_reelAt 5 (some .int) ∈ lw_u := (lw_ug (List.mem_of_getElem? (i := 1002) rfl) rfl)
theorem lm_L_175 : LkM RL 175 yX11_reelAt cX11_reelAt 5 (some .int) 3 := ⟨cw_X11_reelAt, (lw_ug (List.mem_of_getElem? (i := 73) (by decide +kernel)) rfl), ⟨by decide, by decide, by decide +kernel⟩, by decide, (Or.inl (lw_ug (List.mem_of_getElem? (i := 999) (by decide +kernel)) rfl))⟩
theorem lv_vX11_reelAt : LkV yX11_reelAt := ⟨(lw_ug (List.mem_of_getElem? (i := 1000) (by decide +kernel)) rfl), (lw_ug (List.mem_of_getElem? (i := 1001) (by decide +kernel)) rfl)⟩
set_option maxRecDepth 20000 in
theorem cw_X12_reelAt : Cond.code yX12_reelAt cX12_reelAt 5 (some .int) ∈ lw_u := (lw_ug (List.mem_of_getElem? (i := 1757) rfl) rfl)
theorem lm_L_178 : LkM RL 178 yX12_reelAt cX12_reelAt 5 (some .int) 3 := ⟨cw_X12_reelAt, (lw_ug (List.mem_of_getElem? (i := 80) (by decide +kernel)) rfl), ⟨by decide, by decide, by decide +kernel⟩, by decide, (Or.inl (lw_ug (List.mem_of_getElem? (i := 1754) (by decide +kernel)) rfl))⟩
theorem lv_vX12_reelAt : LkV yX12_reelAt := ⟨(lw_ug (List.mem_of_getElem? (i := 1755) (by decide +kernel)) rfl), (lw_ug (List.mem_of_getElem? (i := 1756) (by decide +kernel)) rfl)⟩
set_option maxRecDepth 20000 in
theorem cw_X11_judge : Cond.code yX11_judge cX11_judge 6 (some .int) ∈ lw_u := (lw_ug (List.mem_of_getElem? (i := 1010) rfl) rfl)
theorem lm_L_179 : LkM RL 179 yX11_judge cX11_judge 6 (some .int) 3 := ⟨cw_X11_judge, (lw_ug (List.mem_of_getElem? (i := 73) (by decide +kernel)) rfl), ⟨by decide, by decide, by decide +kernel⟩, by decide, (Or.inl (lw_ug (List.mem_of_getElem? (i := 1007) (by decide +kernel)) rfl))⟩
theorem lv_vX11_judge : LkV yX11_judge := ⟨(lw_ug (List.mem_of_getElem? (i := 1008) (by decide +kernel)) rfl), (lw_ug (List.mem_of_getElem? (i := 1009) (by decide +kernel)) rfl)⟩
set_option maxRecDepth 20000 in
theorem cw_X12_judge : Cond.code yX12_judge cX12_judge 13 (some .int) ∈ lw_u := (lw_ug (List.mem_of_getElem? (i := 1761) rfl) rfl)
theorem lm_L_183 : LkM RL 183 yX12_judge cX12_judge 13 (some .int) 3 := ⟨cw_X12_judge, (lw_ug (List.mem_of_getElem? (i := 80) (by decide +kernel)) rfl), ⟨by decide, by decide, by decide +kernel⟩, by decide, (Or.inl (lw_ug (List.mem_of_getElem? (i := 1758) (by decide +kernel)) rfl))⟩
theorem lv_vX12_judge : LkV yX12_judge := ⟨(lw_ug (List.mem_of_getElem? (i := 1759) (by decide +kernel)) rfl), (lw_ug (List.mem_of_getElem? (i := 1760) (by decide +kernel)) rfl)⟩
set_option maxRecDepth 20000 in
theorem cw_X11_show : Cond.code yX11_show cX11_show 7 (some .int) ∈ lw_u := (lw_ug (List.mem_of_getElem? (i := 1019) rfl) rfl)
theorem lm_L_184 : LkM RL 184 yX11_show cX11_show 7 (some .int) 2 := ⟨cw_X11_show, (lw_ug (List.mem_of_getElem? (i := 73) (by decide +kernel)) rfl), ⟨by decide, by decide, by decide +kernel⟩, by decide, (Or.inl (lw_ug (List.mem_of_getElem? (i := 1016) (by decide +kernel)) rfl))⟩
theorem lv_vX11_show : LkV yX11_show := ⟨(lw_ug (List.mem_of_getElem? (i := 1017) (by decide +kernel)) rfl), (lw_ug (List.mem_of_getElem? (i := 1018) (by decide +kernel)) rfl)⟩
set_option maxRecDepth 20000 in
theorem cw_X12_show : Cond.code yX12_show cX12_show 8 (some .int) ∈ lw_u := (lw_ug (List.mem_of_getElem? (i := 1765) rfl) rfl)
theorem lm_L_187 : LkM RL 187 yX12_show cX12_show 8 (some .int) 2 := ⟨cw_X12_show, (lw_ug (List.mem_of_getElem? (i := 80) (by decide +kernel)) rfl), ⟨by decide, by decide, by decide +kernel⟩, by decide, (Or.inl (lw_ug (List.mem_of_getElem? (i := 1762) (by decide +kernel)) rfl))⟩
theorem lv_vX12_show : LkV yX12_show := ⟨(lw_ug (List.mem_of_getElem? (i := 1763) (by decide +kernel)) rfl), (lw_ug (List.mem_of_getElem? (i := 1764) (by decide +kernel)) rfl)⟩
set_option maxRecDepth 20000 in
theorem cw_X11_man : Cond.code yX11_man cX11_man 4 (some .int) ∈ lw_u := (lw_ug (List.mem_of_getElem? (i := 1027) rfl) rfl)
theorem lm_L_188 : LkM RL 188 yX11_man cX11_man 4 (some .int) 3 := ⟨cw_X11_man, (lw_ug (List.mem_of_getElem? (i := 73) (by decide +kernel)) rfl), ⟨by decide, by decide, by decide +kernel⟩, by decide, (Or.inl (lw_ug (List.mem_of_getElem? (i := 1024) (by decide +kernel)) rfl))⟩
theorem lv_vX11_man : LkV yX11_man := ⟨(lw_ug (List.mem_of_getElem? (i := 1025) (by decide +kernel)) rfl), (lw_ug (List.mem_of_getElem? (i := 1026) (by decide +kernel)) rfl)⟩
set_option maxRecDepth 20000 in
theorem cw_X12_man : Cond.code yX12_man cX12_man 4 (some .int) ∈ lw_u := (lw_ug (List.mem_of_getElem? (i := 1769) rfl) rfl)
theorem lm_L_191 : LkM RL 191 yX12_man cX12_man 4 (some .int) 3 := ⟨cw_X12_man, (lw_ug (List.mem_of_getElem? (i := 80) (by decide +kernel)) rfl), ⟨by decide, by decide, by decide +kernel⟩, by decide, (Or.inl (lw_ug (List.mem_of_getElem? (i := 1766) (by decide +kernel)) rfl))⟩
theorem lv_vX12_man : LkV yX12_man := ⟨(lw_ug (List.mem_of_getElem? (i := 1767) (by decide +kernel)) rfl), (lw_ug (List.mem_of_getElem? (i := 1768) (by decide +kernel)) rfl)⟩
set_option maxRecDepth 20000 in
theorem cw_X11_event : Cond.code yX11_event cX11_event 4 (some .int) ∈ lw_u := (lw_ug (List.mem_of_getElem? (i := 1035) rfl) rfl)
theorem lm_L_192 : LkM RL 192 yX11_event cX11_event 4 (some .int) 3 := ⟨cw_X11_event, (lw_ug (List.mem_of_getElem? (i := 73) (by decide +kernel)) rfl), ⟨by decide, by decide, by decide +kernel⟩, by decide, (Or.inl (lw_ug (List.mem_of_getElem? (i := 1032) (by decide +kernel)) rfl))⟩
theorem lv_vX11_event : LkV yX11_event := ⟨(lw_ug (List.mem_of_getElem? (i := 1033) (by decide +kernel)) rfl), (lw_ug (List.mem_of_getElem? (i := 1034) (by decide +kernel)) rfl)⟩
set_option maxRecDepth 20000 in
theorem cw_X12_event : Cond.code yX12_event cX12_event 4 (some .int) ∈ lw_u := (lw_ug (List.mem_of_getElem? (i := 1774) rfl) rfl)
theorem lm_L_195 : LkM RL 195 yX12_event cX12_event 4 (some .int) 3 := ⟨cw_X12_event, (lw_ug (List.mem_of_getElem? (i := 80) (by decide +kernel)) rfl), ⟨by decide, by decide, by decide +kernel⟩, by decide, (Or.inl (lw_ug (List.mem_of_getElem? (i := 1771) (by decide +kernel)) rfl))⟩
theorem lv_vX12_event : LkV yX12_event := ⟨(lw_ug (List.mem_of_getElem? (i := 1772) (by decide +kernel)) rfl), (lw_ug (List.mem_of_getElem? (i := 1773) (by decide +kernel)) rfl)⟩
set_option maxRecDepth 20000 in
theorem cw_X11_cover : Cond.code yX11_cover cX11_cover 1 (some .int) ∈ lw_u := (lw_ug (List.mem_of_getElem? (i := 1047) rfl) rfl)
theorem lm_L_196 : LkM RL 196 yX11_cover cX11_cover 1 (some .int) 0 := ⟨cw_X11_cover, (lw_ug (List.mem_of_getElem? (i := 73) (by decide +kernel)) rfl), ⟨by decide, by decide, by decide +kernel⟩, by decide, (Or.inl (lw_ug (List.mem_of_getElem? (i := 1044) (by decide +kernel)) rfl))⟩
theorem lv_vX11_cover : LkV yX11_cover := ⟨(lw_ug (List.mem_of_getElem? (i := 1045) (by decide +kernel)) rfl), (lw_ug (List.mem_of_getElem? (i := 1046) (by decide +kernel)) rfl)⟩
set_option maxRecDepth 20000 in
theorem cw_X12_cover : Cond.code yX12_cover cX12_cover 1 (some .int) ∈ lw_u := (lw_ug (List.mem_of_getElem? (i := 1778) rfl) rfl)
theorem lm_L_199 : LkM RL 199 yX12_cover cX12_cover 1 (some .int) 0 := ⟨cw_X12_cover, (lw_ug (List.mem_of_getElem? (i := 80) (by decide +kernel)) rfl), ⟨by decide, by decide, by decide +kernel⟩, by decide, (Or.inl (lw_ug (List.mem_of_getElem? (i := 1775) (by decide +kernel)) rfl))⟩
theorem lv_vX12_cover : LkV yX12_cover := ⟨(lw_ug (List.mem_of_getElem? (i := 1776) (by decide +kernel)) rfl), (lw_ug (List.mem_of_getElem? (i := 1777) (by decide +kernel)) rfl)⟩
set_option maxRecDepth 20000 in
theorem cw_X11_covered : Cond.code yX11_covered cX11_covered 2 (some .int) ∈ lw_u := (lw_ug (List.mem_of_getElem? (i := 1089) rfl) rfl)
theorem lm_L_200 : LkM RL 200 yX11_covered cX11_covered 2 (some .int) 1 := ⟨cw_X11_covered, (lw_ug (List.mem_of_getElem? (i := 73) (by decide +kernel)) rfl), ⟨by decide, by decide, by decide +kernel⟩, by decide, (Or.inl (lw_ug (List.mem_of_getElem? (i := 1086) (by decide +kernel)) rfl))⟩
theorem lv_vX11_covered : LkV yX11_covered := ⟨(lw_ug (List.mem_of_getElem? (i := 1087) (by decide +kernel)) rfl), (lw_ug (List.mem_of_getElem? (i := 1088) (by decide +kernel)) rfl)⟩
set_option maxRecDepth 20000 in
theorem cw_X12_covered : Cond.code yX12_covered cX12_covered 7 (some .int) ∈ lw_u := (lw_ug (List.mem_of_getElem? (i := 1806) rfl) rfl)
theorem lm_L_203 : LkM RL 203 yX12_covered cX12_covered 7 (some .int) 1 := ⟨cw_X12_covered, (lw_ug (List.mem_of_getElem? (i := 80) (by decide +kernel)) rfl), ⟨by decide, by decide, by decide +kernel⟩, by decide, (Or.inl (lw_ug (List.mem_of_getElem? (i := 1803) (by decide +kernel)) rfl))⟩
theorem lv_vX12_covered : LkV yX12_covered := ⟨(lw_ug (List.mem_of_getElem? (i := 1804) (by decide +kernel)) rfl), (lw_ug (List.mem_of_getElem? (i := 1805) (by decide +kernel)) rfl)⟩
set_option maxRecDepth 20000 in
theorem cw_X11_hall : Cond.code yX11_hall cX11_hall 5 (some .int) ∈ lw_u := (lw_ug (List.mem_of_getElem? (i := 1093) rfl) rfl)
theorem lm_L_204 : LkM RL 204 yX11_hall cX11_hall 5 (some .int) 4 := ⟨cw_X11_hall, (lw_ug (List.mem_of_getElem? (i := 73) (by decide +kernel)) rfl), ⟨by decide, by decide, by decide +kernel⟩, by decide, (Or.inl (lw_ug (List.mem_of_getElem? (i := 1090) (by decide +kernel)) rfl))⟩
theorem lv_vX11_hall : LkV yX11_hall := ⟨(lw_ug (List.mem_of_getElem? (i := 1091) (by decide +kernel)) rfl), (lw_ug (List.mem_of_getElem? (i := 1092) (by decide +kernel)) rfl)⟩
set_option maxRecDepth 20000 in
theorem cw_X12_hall : Cond.code yX12_hall cX12_hall 5 (some .int) ∈ lw_u := (lw_ug (List.mem_of_getElem? (i := 1810) rfl) rfl)
theorem lm_L_207 : LkM RL 207 yX12_hall cX12_hall 5 (some .int) 4 := ⟨cw_X12_hall, (lw_ug (List.mem_of_getElem? (i := 80) (by decide +kernel)) rfl), ⟨by decide, by decide, by decide +kernel⟩, by decide, (Or.inl (lw_ug (List.mem_of_getElem? (i := 1807) (by decide +kernel)) rfl))⟩
theorem lv_vX12_hall : LkV yX12_hall := ⟨(lw_ug (List.mem_of_getElem? (i := 1808) (by decide +kernel)) rfl), (lw_ug (List.mem_of_getElem? (i := 1809) (by decide +kernel)) rfl)⟩
set_option maxRecDepth 20000 in
theorem cw_X11_part : Cond.code yX11_part cX11_part 3 (some .int) ∈ lw_u := (lw_ug (List.mem_of_getElem? (i := 1104) rfl) rfl)
theorem lm_L_208 : LkM RL 208 yX11_part cX11_part 3 (some .int) 2 := ⟨cw_X11_part, (lw_ug (List.mem_of_getElem? (i := 73) (by decide +kernel)) rfl), ⟨by decide, by decide, by decide +kernel⟩, by decide, (Or.inl (lw_ug (List.mem_of_getElem? (i := 1101) (by decide +kernel)) rfl))⟩
theorem lv_vX11_part : LkV yX11_part := ⟨(lw_ug (List.mem_of_getElem? (i := 1102) (by decide +kernel)) rfl), (lw_ug (List.mem_of_getElem? (i := 1103) (by decide +kernel)) rfl)⟩
set_option maxRecDepth 20000 in
theorem cw_X12_part : Cond.code yX12_part cX12_part 4 (some .int) ∈ lw_u := (lw_ug (List.mem_of_getElem? (i := 1815) rfl) rfl)
theorem lm_L_211 : LkM RL 211 yX12_part cX12_part 4 (some .int) 2 := ⟨cw_X12_part, (lw_ug (List.mem_of_getElem? (i := 80) (by decide +kernel)) rfl), ⟨by decide, by decide, by decide +kernel⟩, by decide, (Or.inl (lw_ug (List.mem_of_getElem? (i := 1812) (by decide +kernel)) rfl))⟩
theorem lv_vX12_part : LkV yX12_part := ⟨(lw_ug (List.mem_of_getElem? (i := 1813) (by decide +kernel)) rfl), (lw_ug (List.mem_of_getElem? (i := 1814) (by decide +kernel)) rfl)⟩
set_option maxRecDepth 20000 in
theorem cw_X11_prints : Cond.code yX11_prints cX11_prints 2 (some .int) ∈ lw_u := (lw_ug (List.mem_of_getElem? (i := 1112) rfl) rfl)
theorem lm_L_212 : LkM RL 212 yX11_prints cX11_prints 2 (some .int) 1 := ⟨cw_X11_prints, (lw_ug (List.mem_of_getElem? (i := 73) (by decide +kernel)) rfl), ⟨by decide, by decide, by decide +kernel⟩, by decide, (Or.inl (lw_ug (List.mem_of_getElem? (i := 1109) (by decide +kernel)) rfl))⟩
theorem lv_vX11_prints : LkV yX11_prints := ⟨(lw_ug (List.mem_of_getElem? (i := 1110) (by decide +kernel)) rfl), (lw_ug (List.mem_of_getElem? (i := 1111) (by decide +kernel)) rfl)⟩
set_option maxRecDepth 20000 in
theorem cw_X12_prints : Cond.code yX12_prints cX12_prints 3 (some .int) ∈ lw_u := (lw_ug (List.mem_of_getElem? (i := 1820) rfl) rfl)
theorem lm_L_215 : LkM RL 215 yX12_prints cX12_prints 3 (some .int) 1 := ⟨cw_X12_prints, (lw_ug (List.mem_of_getElem? (i := 80) (by decide +kernel)) rfl), ⟨by decide, by decide, by decide +kernel⟩, by decide, (Or.inl (lw_ug (List.mem_of_getElem? (i := 1817) (by decide +kernel)) rfl))⟩
theorem lv_vX12_prints : LkV yX12_prints := ⟨(lw_ug (List.mem_of_getElem? (i := 1818) (by decide +kernel)) rfl), (lw_ug (List.mem_of_getElem? (i := 1819) (by decide +kernel)) rfl)⟩
set_option maxRecDepth 20000 in
theorem cw_X11_run : Cond.code yX11_run cX11_run 1 (some .int) ∈ lw_u := (lw_ug (List.mem_of_getElem? (i := 1120) rfl) rfl)
theorem lm_L_216 : LkM RL 216 yX11_run cX11_run 1 (some .int) 0 := ⟨cw_X11_run, (lw_ug (List.mem_of_getElem? (i := 73) (by decide +kernel)) rfl), ⟨by decide, by decide, by decide +kernel⟩, by decide, (Or.inl (lw_ug (List.mem_of_getElem? (i := 1117) (by decide +kernel)) rfl))⟩
theorem lv_vX11_run : LkV yX11_run := ⟨(lw_ug (List.mem_of_getElem? (i := 1118) (by decide +kernel)) rfl), (lw_ug (List.mem_of_getElem? (i := 1119) (by decide +kernel)) rfl)⟩
set_option maxRecDepth 20000 in
theorem cw_X12_run : Cond.code yX12_run cX12_run 1 (some .int) ∈ lw_u := (lw_ug (List.mem_of_getElem? (i := 1824) rfl) rfl)
theorem lm_L_219 : LkM RL 219 yX12_run cX12_run 1 (some .int) 0 := ⟨cw_X12_run, (lw_ug (List.mem_of_getElem? (i := 80) (by decide +kernel)) rfl), ⟨by decide, by decide, by decide +kernel⟩, by decide, (Or.inl (lw_ug (List.mem_of_getElem? (i := 1821) (by decide +kernel)) rfl))⟩
theorem lv_vX12_run : LkV yX12_run := ⟨(lw_ug (List.mem_of_getElem? (i := 1822) (by decide +kernel)) rfl), (lw_ug (List.mem_of_getElem? (i := 1823) (by decide +kernel)) rfl)⟩
set_option maxRecDepth 20000 in
theorem cw_X11_week : Cond.code yX11_week cX11_week 2 (some .int) ∈ lw_u := (lw_ug (List.mem_of_getElem? (i := 1160) rfl) rfl)
theorem lm_L_220 : LkM RL 220 yX11_week cX11_week 2 (some .int) 1 := ⟨cw_X11_week, (lw_ug (List.mem_of_getElem? (i := 73) (by decide +kernel)) rfl), ⟨by decide, by decide, by decide +kernel⟩, by decide, (Or.inl (lw_ug (List.mem_of_getElem? (i := 1157) (by decide +kernel)) rfl))⟩
theorem lv_vX11_week : LkV yX11_week := ⟨(lw_ug (List.mem_of_getElem? (i := 1158) (by decide +kernel)) rfl), (lw_ug (List.mem_of_getElem? (i := 1159) (by decide +kernel)) rfl)⟩
set_option maxRecDepth 20000 in
theorem cw_X12_week : Cond.code yX12_week cX12_week 5 (some .int) ∈ lw_u := (lw_ug (List.mem_of_getElem? (i := 1848) rfl) rfl)
theorem lm_L_223 : LkM RL 223 yX12_week cX12_week 5 (some .int) 1 := ⟨cw_X12_week, (lw_ug (List.mem_of_getElem? (i := 80) (by decide +kernel)) rfl), ⟨by decide, by decide, by decide +kernel⟩, by decide, (Or.inl (lw_ug (List.mem_of_getElem? (i := 1845) (by decide +kernel)) rfl))⟩
theorem lv_vX12_week : LkV yX12_week := ⟨(lw_ug (List.mem_of_getElem? (i := 1846) (by decide +kernel)) rfl), (lw_ug (List.mem_of_getElem? (i := 1847) (by decide +kernel)) rfl)⟩
set_option maxRecDepth 20000 in
theorem cw_X11_count : Cond.code yX11_count cX11_count 2 (some .int) ∈ lw_u := (lw_ug (List.mem_of_getElem? (i := 1169) rfl) rfl)
theorem lm_L_224 : LkM RL 224 yX11_count cX11_count 2 (some .int) 1 := ⟨cw_X11_count, (lw_ug (List.mem_of_getElem? (i := 73) (by decide +kernel)) rfl), ⟨by decide, by decide, by decide +kernel⟩, by decide, (Or.inl (lw_ug (List.mem_of_getElem? (i := 1166) (by decide +kernel)) rfl))⟩
theorem lv_vX11_count : LkV yX11_count := ⟨(lw_ug (List.mem_of_getElem? (i := 1167) (by decide +kernel)) rfl), (lw_ug (List.mem_of_getElem? (i := 1168) (by decide +kernel)) rfl)⟩
set_option maxRecDepth 20000 in
theorem cw_X12_count : Cond.code yX12_count cX12_count 4 (some .int) ∈ lw_u := (lw_ug (List.mem_of_getElem? (i := 1852) rfl) rfl)
theorem lm_L_227 : LkM RL 227 yX12_count cX12_count 4 (some .int) 1 := ⟨cw_X12_count, (lw_ug (List.mem_of_getElem? (i := 80) (by decide +kernel)) rfl), ⟨by decide, by decide, by decide +kernel⟩, by decide, (Or.inl (lw_ug (List.mem_of_getElem? (i := 1849) (by decide +kernel)) rfl))⟩
theorem lv_vX12_count : LkV yX12_count := ⟨(lw_ug (List.mem_of_getElem? (i := 1850) (by decide +kernel)) rfl), (lw_ug (List.mem_of_getElem? (i := 1851) (by decide +kernel)) rfl)⟩
set_option maxRecDepth 20000 in
theorem cw_X12_in : Cond.code yX12_in cX12_in 6 (some .boolean) ∈ lw_u := (lw_ug (List.mem_of_getElem? (i := 1464) rfl) rfl)
theorem lm_X12_245 : LkM RX12 245 yX12_in cX12_in 6 (some .boolean) 3 := ⟨cw_X12_in, (lw_ug (List.mem_of_getElem? (i := 80) (by decide +kernel)) rfl), ⟨by decide, by decide, by decide +kernel⟩, by decide, (Or.inl (lw_ug (List.mem_of_getElem? (i := 1462) (by decide +kernel)) rfl))⟩
theorem ls_X12_in : Cond.static yX12_in ∈ lw_u := (lw_ug (List.mem_of_getElem? (i := 1463) (by decide +kernel)) rfl)
set_option maxRecDepth 20000 in
theorem cw_X12_isPlace : Cond.code yX12_isPlace cX12_isPlace 1 (some .boolean) ∈ lw_u := (lw_ug (List.mem_of_getElem? (i := 1471) rfl) rfl)
theorem lm_X12_258 : LkM RX12 258 yX12_isPlace cX12_isPlace 1 (some .boolean) 1 := ⟨cw_X12_isPlace, (lw_ug (List.mem_of_getElem? (i := 80) (by decide +kernel)) rfl), ⟨by decide, by decide, by decide +kernel⟩, by decide, (Or.inl (lw_ug (List.mem_of_getElem? (i := 1469) (by decide +kernel)) rfl))⟩
theorem ls_X12_isPlace : Cond.static yX12_isPlace ∈ lw_u := (lw_ug (List.mem_of_getElem? (i := 1470) (by decide +kernel)) rfl)
set_option maxRecDepth 20000 in
theorem cw_X12_isHour : Cond.code yX12_isHour cX12_isHour 1 (some .boolean) ∈ lw_u := (lw_ug (List.mem_of_getElem? (i := 1475) rfl) rfl)
theorem lm_X12_262 : LkM RX12 262 yX12_isHour cX12_isHour 1 (some .boolean) 1 := ⟨cw_X12_isHour, (lw_ug (List.mem_of_getElem? (i := 80) (by decide +kernel)) rfl), ⟨by decide, by decide, by decide +kernel⟩, by decide, (Or.inl (lw_ug (List.mem_of_getElem? (i := 1473) (by decide +kernel)) rfl))⟩
theorem ls_X12_isHour : Cond.static yX12_isHour ∈ lw_u := (lw_ug (List.mem_of_getElem? (i := 1474) (by decide +kernel)) rfl)
set_option maxRecDepth 20000 in
theorem cw_X12_by : Cond.code yX12_by cX12_by 5 (some .int) ∈ lw_u := (lw_ug (List.mem_of_getElem? (i := 1494) rfl) rfl)
theorem lm_X12_271 : LkM RX12 271 yX12_by cX12_by 5 (some .int) 3 := ⟨cw_X12_by, (lw_ug (List.mem_of_getElem? (i := 80) (by decide +kernel)) rfl), ⟨by decide, by decide, by decide +kernel⟩, by decide, (Or.inl (lw_ug (List.mem_of_getElem? (i := 1491) (by decide +kernel)) rfl))⟩
theorem lv_vX12_by : LkV yX12_by := ⟨(lw_ug (List.mem_of_getElem? (i := 1493) (by decide +kernel)) rfl), (lw_ug (List.mem_of_getElem? (i := 36) (by decide +kernel)) rfl)⟩
set_option maxRecDepth 20000 in
theorem cw_X12_arrives : Cond.code yX12_arrives cX12_arrives 8 (some .int) ∈ lw_u := (lw_ug (List.mem_of_getElem? (i := 1489) rfl) rfl)
theorem lm_X12_275 : LkM RX12 275 yX12_arrives cX12_arrives 8 (some .int) 4 := ⟨cw_X12_arrives, (lw_ug (List.mem_of_getElem? (i := 80) (by decide +kernel)) rfl), ⟨by decide, by decide, by decide +kernel⟩, by decide, (Or.inl (lw_ug (List.mem_of_getElem? (i := 1486) (by decide +kernel)) rfl))⟩
theorem lv_vX12_arrives : LkV yX12_arrives := ⟨(lw_ug (List.mem_of_getElem? (i := 1488) (by decide +kernel)) rfl), (lw_ug (List.mem_of_getElem? (i := 35) (by decide +kernel)) rfl)⟩
set_option maxRecDepth 20000 in
theorem cw_X12_isShot : Cond.code yX12_isShot cX12_isShot 2 (some .boolean) ∈ lw_u := (lw_ug (List.mem_of_getElem? (i := 1510) rfl) rfl)
theorem lm_X12_290 : LkM RX12 290 yX12_isShot cX12_isShot 2 (some .boolean) 1 := ⟨cw_X12_isShot, (lw_ug (List.mem_of_getElem? (i := 80) (by decide +kernel)) rfl), ⟨by decide, by decide, by decide +kernel⟩, by decide, (Or.inl (lw_ug (List.mem_of_getElem? (i := 1507) (by decide +kernel)) rfl))⟩
theorem lv_vX12_isShot : LkV yX12_isShot := ⟨(lw_ug (List.mem_of_getElem? (i := 1509) (by decide +kernel)) rfl), (lw_ug (List.mem_of_getElem? (i := 37) (by decide +kernel)) rfl)⟩
set_option maxRecDepth 20000 in
theorem cw_X12_was : Cond.code yX12_was cX12_was 2 (some .boolean) ∈ lw_u := (lw_ug (List.mem_of_getElem? (i := 1521) rfl) rfl)
theorem lm_X12_293 : LkM RX12 293 yX12_was cX12_was 2 (some .boolean) 2 := ⟨cw_X12_was, (lw_ug (List.mem_of_getElem? (i := 80) (by decide +kernel)) rfl), ⟨by decide, by decide, by decide +kernel⟩, by decide, (Or.inl (lw_ug (List.mem_of_getElem? (i := 1519) (by decide +kernel)) rfl))⟩
theorem ls_X12_was : Cond.static yX12_was ∈ lw_u := (lw_ug (List.mem_of_getElem? (i := 1520) (by decide +kernel)) rfl)
set_option maxRecDepth 20000 in
theorem cw_X12_whereOf : Cond.code yX12_whereOf cX12_whereOf 3 (some .int) ∈ lw_u := (lw_ug (List.mem_of_getElem? (i := 1518) rfl) rfl)
theorem lm_X12_297 : LkM RX12 297 yX12_whereOf cX12_whereOf 3 (some .int) 2 := ⟨cw_X12_whereOf, (lw_ug (List.mem_of_getElem? (i := 80) (by decide +kernel)) rfl), ⟨by decide, by decide, by decide +kernel⟩, by decide, (Or.inl (lw_ug (List.mem_of_getElem? (i := 1515) (by decide +kernel)) rfl))⟩
theorem lv_vX12_whereOf : LkV yX12_whereOf := ⟨(lw_ug (List.mem_of_getElem? (i := 1517) (by decide +kernel)) rfl), (lw_ug (List.mem_of_getElem? (i := 38) (by decide +kernel)) rfl)⟩
set_option maxRecDepth 20000 in
theorem cw_X12_canBe : Cond.code yX12_canBe cX12_canBe 6 (some .boolean) ∈ lw_u := (lw_ug (List.mem_of_getElem? (i := 1558) rfl) rfl)
theorem lm_X12_303 : LkM RX12 303 yX12_canBe cX12_canBe 6 (some .boolean) 3 := ⟨cw_X12_canBe, (lw_ug (List.mem_of_getElem? (i := 80) (by decide +kernel)) rfl), ⟨by decide, by decide, by decide +kernel⟩, by decide, (Or.inl (lw_ug (List.mem_of_getElem? (i := 1555) (by decide +kernel)) rfl))⟩
theorem lv_vX12_canBe : LkV yX12_canBe := ⟨(lw_ug (List.mem_of_getElem? (i := 1557) (by decide +kernel)) rfl), (lw_ug (List.mem_of_getElem? (i := 40) (by decide +kernel)) rfl)⟩
set_option maxRecDepth 20000 in
theorem cw_X12_lieOf : Cond.code yX12_lieOf cX12_lieOf 5 (some .int) ∈ lw_u := (lw_ug (List.mem_of_getElem? (i := 1554) rfl) rfl)
theorem lm_X12_307 : LkM RX12 307 yX12_lieOf cX12_lieOf 5 (some .int) 3 := ⟨cw_X12_lieOf, (lw_ug (List.mem_of_getElem? (i := 80) (by decide +kernel)) rfl), ⟨by decide, by decide, by decide +kernel⟩, by decide, (Or.inl (lw_ug (List.mem_of_getElem? (i := 1551) (by decide +kernel)) rfl))⟩
theorem lv_vX12_lieOf : LkV yX12_lieOf := ⟨(lw_ug (List.mem_of_getElem? (i := 1553) (by decide +kernel)) rfl), (lw_ug (List.mem_of_getElem? (i := 39) (by decide +kernel)) rfl)⟩
set_option maxRecDepth 20000 in
theorem cw_X12_isStory : Cond.code yX12_isStory cX12_isStory 2 (some .boolean) ∈ lw_u := (lw_ug (List.mem_of_getElem? (i := 1575) rfl) rfl)
theorem lm_X12_316 : LkM RX12 316 yX12_isStory cX12_isStory 2 (some .boolean) 1 := ⟨cw_X12_isStory, (lw_ug (List.mem_of_getElem? (i := 80) (by decide +kernel)) rfl), ⟨by decide, by decide, by decide +kernel⟩, by decide, (Or.inl (lw_ug (List.mem_of_getElem? (i := 1572) (by decide +kernel)) rfl))⟩
theorem lv_vX12_isStory : LkV yX12_isStory := ⟨(lw_ug (List.mem_of_getElem? (i := 1574) (by decide +kernel)) rfl), (lw_ug (List.mem_of_getElem? (i := 41) (by decide +kernel)) rfl)⟩
set_option maxRecDepth 20000 in
theorem cw_X12_feetOf : Cond.code yX12_feetOf cX12_feetOf 4 (some .int) ∈ lw_u := (lw_ug (List.mem_of_getElem? (i := 1595) rfl) rfl)
theorem lm_X12_319 : LkM RX12 319 yX12_feetOf cX12_feetOf 4 (some .int) 1 := ⟨cw_X12_feetOf, (lw_ug (List.mem_of_getElem? (i := 80) (by decide +kernel)) rfl), ⟨by decide, by decide, by decide +kernel⟩, by decide, (Or.inl (lw_ug (List.mem_of_getElem? (i := 1592) (by decide +kernel)) rfl))⟩
theorem lv_vX12_feetOf : LkV yX12_feetOf := ⟨(lw_ug (List.mem_of_getElem? (i := 1594) (by decide +kernel)) rfl), (lw_ug (List.mem_of_getElem? (i := 42) (by decide +kernel)) rfl)⟩
set_option maxRecDepth 20000 in
theorem cw_X12_disorderOf : Cond.code yX12_disorderOf cX12_disorderOf 5 (some .int) ∈ lw_u := (lw_ug (List.mem_of_getElem? (i := 1599) rfl) rfl)
theorem lm_X12_323 : LkM RX12 323 yX12_disorderOf cX12_disorderOf 5 (some .int) 1 := ⟨cw_X12_disorderOf, (lw_ug (List.mem_of_getElem? (i := 80) (by decide +kernel)) rfl), ⟨by decide, by decide, by decide +kernel⟩, by decide, (Or.inl (lw_ug (List.mem_of_getElem? (i := 1596) (by decide +kernel)) rfl))⟩
theorem lv_vX12_disorderOf : LkV yX12_disorderOf := ⟨(lw_ug (List.mem_of_getElem? (i := 1598) (by decide +kernel)) rfl), (lw_ug (List.mem_of_getElem? (i := 43) (by decide +kernel)) rfl)⟩
set_option maxRecDepth 20000 in
theorem cw_X12_manyOf : Cond.code yX12_manyOf cX12_manyOf 7 (some .int) ∈ lw_u := (lw_ug (List.mem_of_getElem? (i := 1603) rfl) rfl)
theorem lm_X12_326 : LkM RX12 326 yX12_manyOf cX12_manyOf 7 (some .int) 2 := ⟨cw_X12_manyOf, (lw_ug (List.mem_of_getElem? (i := 80) (by decide +kernel)) rfl), ⟨by decide, by decide, by decide +kernel⟩, by decide, (Or.inl (lw_ug (List.mem_of_getElem? (i := 1600) (by decide +kernel)) rfl))⟩
theorem lv_vX12_manyOf : LkV yX12_manyOf := ⟨(lw_ug (List.mem_of_getElem? (i := 1602) (by decide +kernel)) rfl), (lw_ug (List.mem_of_getElem? (i := 44) (by decide +kernel)) rfl)⟩
set_option maxRecDepth 20000 in
theorem cw_X12_isReady : Cond.code yX12_isReady cX12_isReady 4 (some .boolean) ∈ lw_u := (lw_ug (List.mem_of_getElem? (i := 1607) rfl) rfl)
theorem lm_X12_329 : LkM RX12 329 yX12_isReady cX12_isReady 4 (some .boolean) 1 := ⟨cw_X12_isReady, (lw_ug (List.mem_of_getElem? (i := 80) (by decide +kernel)) rfl), ⟨by decide, by decide, by decide +kernel⟩, by decide, (Or.inl (lw_ug (List.mem_of_getElem? (i := 1604) (by decide +kernel)) rfl))⟩
theorem lv_vX12_isReady : LkV yX12_isReady := ⟨(lw_ug (List.mem_of_getElem? (i := 1606) (by decide +kernel)) rfl), (lw_ug (List.mem_of_getElem? (i := 45) (by decide +kernel)) rfl)⟩
set_option maxRecDepth 20000 in
theorem cw_X12_isDay : Cond.code yX12_isDay cX12_isDay 1 (some .boolean) ∈ lw_u := (lw_ug (List.mem_of_getElem? (i := 1628) rfl) rfl)
theorem lm_X12_339 : LkM RX12 339 yX12_isDay cX12_isDay 1 (some .boolean) 1 := ⟨cw_X12_isDay, (lw_ug (List.mem_of_getElem? (i := 80) (by decide +kernel)) rfl), ⟨by decide, by decide, by decide +kernel⟩, by decide, (Or.inl (lw_ug (List.mem_of_getElem? (i := 1626) (by decide +kernel)) rfl))⟩
theorem ls_X12_isDay : Cond.static yX12_isDay ∈ lw_u := (lw_ug (List.mem_of_getElem? (i := 1627) (by decide +kernel)) rfl)
set_option maxRecDepth 20000 in
theorem cw_X12_isRule : Cond.code yX12_isRule cX12_isRule 2 (some .boolean) ∈ lw_u := (lw_ug (List.mem_of_getElem? (i := 1637) rfl) rfl)
theorem lm_X12_342 : LkM RX12 342 yX12_isRule cX12_isRule 2 (some .boolean) 1 := ⟨cw_X12_isRule, (lw_ug (List.mem_of_getElem? (i := 80) (by decide +kernel)) rfl), ⟨by decide, by decide, by decide +kernel⟩, by decide, (Or.inl (lw_ug (List.mem_of_getElem? (i := 1634) (by decide +kernel)) rfl))⟩
theorem lv_vX12_isRule : LkV yX12_isRule := ⟨(lw_ug (List.mem_of_getElem? (i := 1636) (by decide +kernel)) rfl), (lw_ug (List.mem_of_getElem? (i := 46) (by decide +kernel)) rfl)⟩
set_option maxRecDepth 20000 in
theorem cw_X12_peek : Cond.code yX12_peek cX12_peek 2 (some .int) ∈ lw_u := (lw_ug (List.mem_of_getElem? (i := 1649) rfl) rfl)
theorem lm_X12_348 : LkM RX12 348 yX12_peek cX12_peek 2 (some .int) 1 := ⟨cw_X12_peek, (lw_ug (List.mem_of_getElem? (i := 80) (by decide +kernel)) rfl), ⟨by decide, by decide, by decide +kernel⟩, by decide, (Or.inl (lw_ug (List.mem_of_getElem? (i := 1646) (by decide +kernel)) rfl))⟩
theorem lv_vX12_peek : LkV yX12_peek := ⟨(lw_ug (List.mem_of_getElem? (i := 1648) (by decide +kernel)) rfl), (lw_ug (List.mem_of_getElem? (i := 48) (by decide +kernel)) rfl)⟩
set_option maxRecDepth 20000 in
theorem cw_X12_letterValue : Cond.code yX12_letterValue cX12_letterValue 1 (some .int) ∈ lw_u := (lw_ug (List.mem_of_getElem? (i := 1660) rfl) rfl)
theorem lm_X12_351 : LkM RX12 351 yX12_letterValue cX12_letterValue 1 (some .int) 1 := ⟨cw_X12_letterValue, (lw_ug (List.mem_of_getElem? (i := 80) (by decide +kernel)) rfl), ⟨by decide, by decide, by decide +kernel⟩, by decide, (Or.inl (lw_ug (List.mem_of_getElem? (i := 1658) (by decide +kernel)) rfl))⟩
theorem ls_X12_letterValue : Cond.static yX12_letterValue ∈ lw_u := (lw_ug (List.mem_of_getElem? (i := 1659) (by decide +kernel)) rfl)
set_option maxRecDepth 20000 in
theorem cw_X12_binds : Cond.code yX12_binds cX12_binds 1 (some .int) ∈ lw_u := (lw_ug (List.mem_of_getElem? (i := 1671) rfl) rfl)
theorem lm_X12_368 : LkM RX12 368 yX12_binds cX12_binds 1 (some .int) 1 := ⟨cw_X12_binds, (lw_ug (List.mem_of_getElem? (i := 80) (by decide +kernel)) rfl), ⟨by decide, by decide, by decide +kernel⟩, by decide, (Or.inl (lw_ug (List.mem_of_getElem? (i := 1669) (by decide +kernel)) rfl))⟩
theorem ls_X12_binds : Cond.static yX12_binds ∈ lw_u := (lw_ug (List.mem_of_getElem? (i := 1670) (by decide +kernel)) rfl)
set_option maxRecDepth 20000 in
theorem cw_X12_push : Cond.code yX12_push cX12_push 2 none ∈ lw_u := (lw_ug (List.mem_of_getElem? (i := 1653) rfl) rfl)
theorem lm_X12_371 : LkM RX12 371 yX12_push cX12_push 2 none 1 := ⟨cw_X12_push, (lw_ug (List.mem_of_getElem? (i := 80) (by decide +kernel)) rfl), ⟨by decide, by decide, by decide +kernel⟩, by decide, (Or.inl (lw_ug (List.mem_of_getElem? (i := 1650) (by decide +kernel)) rfl))⟩
theorem lv_vX12_push : LkV yX12_push := ⟨(lw_ug (List.mem_of_getElem? (i := 1652) (by decide +kernel)) rfl), (lw_ug (List.mem_of_getElem? (i := 49) (by decide +kernel)) rfl)⟩
set_option maxRecDepth 20000 in
theorem cw_X12_takeAsking : Cond.code yX12_takeAsking cX12_takeAsking 6 (some .boolean) ∈ lw_u := (lw_ug (List.mem_of_getElem? (i := 1657) rfl) rfl)
theorem lm_X12_375 : LkM RX12 375 yX12_takeAsking cX12_takeAsking 6 (some .boolean) 1 := ⟨cw_X12_takeAsking, (lw_ug (List.mem_of_getElem? (i := 80) (by decide +kernel)) rfl), ⟨by decide, by decide, by decide +kernel⟩, by decide, (Or.inl (lw_ug (List.mem_of_getElem? (i := 1654) (by decide +kernel)) rfl))⟩
theorem lv_vX12_takeAsking : LkV yX12_takeAsking := ⟨(lw_ug (List.mem_of_getElem? (i := 1656) (by decide +kernel)) rfl), (lw_ug (List.mem_of_getElem? (i := 50) (by decide +kernel)) rfl)⟩
set_option maxRecDepth 20000 in
theorem cw_X12_closeTo : Cond.code yX12_closeTo cX12_closeTo 3 none ∈ lw_u := (lw_ug (List.mem_of_getElem? (i := 1668) rfl) rfl)
theorem lm_X12_378 : LkM RX12 378 yX12_closeTo cX12_closeTo 3 none 1 := ⟨cw_X12_closeTo, (lw_ug (List.mem_of_getElem? (i := 80) (by decide +kernel)) rfl), ⟨by decide, by decide, by decide +kernel⟩, by decide, (Or.inl (lw_ug (List.mem_of_getElem? (i := 1665) (by decide +kernel)) rfl))⟩
theorem lv_vX12_closeTo : LkV yX12_closeTo := ⟨(lw_ug (List.mem_of_getElem? (i := 1667) (by decide +kernel)) rfl), (lw_ug (List.mem_of_getElem? (i := 51) (by decide +kernel)) rfl)⟩
set_option maxRecDepth 20000 in
theorem cw_X12_readRule : Cond.code yX12_readRule cX12_readRule 5 (some .int) ∈ lw_u := (lw_ug (List.mem_of_getElem? (i := 1645) rfl) rfl)
theorem lm_X12_381 : LkM RX12 381 yX12_readRule cX12_readRule 5 (some .int) 1 := ⟨cw_X12_readRule, (lw_ug (List.mem_of_getElem? (i := 80) (by decide +kernel)) rfl), ⟨by decide, by decide, by decide +kernel⟩, by decide, (Or.inl (lw_ug (List.mem_of_getElem? (i := 1642) (by decide +kernel)) rfl))⟩
theorem lv_vX12_readRule : LkV yX12_readRule := ⟨(lw_ug (List.mem_of_getElem? (i := 1644) (by decide +kernel)) rfl), (lw_ug (List.mem_of_getElem? (i := 47) (by decide +kernel)) rfl)⟩
set_option maxRecDepth 20000 in
theorem cw_X12_isLand : Cond.code yX12_isLand cX12_isLand 1 (some .boolean) ∈ lw_u := (lw_ug (List.mem_of_getElem? (i := 1686) rfl) rfl)
theorem lm_X12_386 : LkM RX12 386 yX12_isLand cX12_isLand 1 (some .boolean) 1 := ⟨cw_X12_isLand, (lw_ug (List.mem_of_getElem? (i := 80) (by decide +kernel)) rfl), ⟨by decide, by decide, by decide +kernel⟩, by decide, (Or.inl (lw_ug (List.mem_of_getElem? (i := 1684) (by decide +kernel)) rfl))⟩
theorem ls_X12_isLand : Cond.static yX12_isLand ∈ lw_u := (lw_ug (List.mem_of_getElem? (i := 1685) (by decide +kernel)) rfl)
set_option maxRecDepth 20000 in
theorem cw_X12_mayAsk : Cond.code yX12_mayAsk cX12_mayAsk 4 (some .int) ∈ lw_u := (lw_ug (List.mem_of_getElem? (i := 1683) rfl) rfl)
theorem lm_X12_389 : LkM RX12 389 yX12_mayAsk cX12_mayAsk 4 (some .int) 3 := ⟨cw_X12_mayAsk, (lw_ug (List.mem_of_getElem? (i := 80) (by decide +kernel)) rfl), ⟨by decide, by decide, by decide +kernel⟩, by decide, (Or.inl (lw_ug (List.mem_of_getElem? (i := 1680) (by decide +kernel)) rfl))⟩
theorem lv_vX12_mayAsk : LkV yX12_mayAsk := ⟨(lw_ug (List.mem_of_getElem? (i := 1682) (by decide +kernel)) rfl), (lw_ug (List.mem_of_getElem? (i := 52) (by decide +kernel)) rfl)⟩
set_option maxRecDepth 20000 in
theorem cw_X12_barOf : Cond.code yX12_barOf cX12_barOf 6 (some .int) ∈ lw_u := (lw_ug (List.mem_of_getElem? (i := 1691) rfl) rfl)
theorem lm_X12_392 : LkM RX12 392 yX12_barOf cX12_barOf 6 (some .int) 3 := ⟨cw_X12_barOf, (lw_ug (List.mem_of_getElem? (i := 80) (by decide +kernel)) rfl), ⟨by decide, by decide, by decide +kernel⟩, by decide, (Or.inl (lw_ug (List.mem_of_getElem? (i := 1688) (by decide +kernel)) rfl))⟩
theorem lv_vX12_barOf : LkV yX12_barOf := ⟨(lw_ug (List.mem_of_getElem? (i := 1690) (by decide +kernel)) rfl), (lw_ug (List.mem_of_getElem? (i := 53) (by decide +kernel)) rfl)⟩
set_option maxRecDepth 20000 in
theorem cw_X12_rightTo : Cond.code yX12_rightTo cX12_rightTo 5 (some .int) ∈ lw_u := (lw_ug (List.mem_of_getElem? (i := 1716) rfl) rfl)
theorem lm_X12_400 : LkM RX12 400 yX12_rightTo cX12_rightTo 5 (some .int) 3 := ⟨cw_X12_rightTo, (lw_ug (List.mem_of_getElem? (i := 80) (by decide +kernel)) rfl), ⟨by decide, by decide, by decide +kernel⟩, by decide, (Or.inl (lw_ug (List.mem_of_getElem? (i := 1713) (by decide +kernel)) rfl))⟩
theorem lv_vX12_rightTo : LkV yX12_rightTo := ⟨(lw_ug (List.mem_of_getElem? (i := 1715) (by decide +kernel)) rfl), (lw_ug (List.mem_of_getElem? (i := 55) (by decide +kernel)) rfl)⟩
set_option maxRecDepth 20000 in
theorem cw_X12_isAllowed : Cond.code yX12_isAllowed cX12_isAllowed 5 (some .boolean) ∈ lw_u := (lw_ug (List.mem_of_getElem? (i := 1712) rfl) rfl)
theorem lm_X12_402 : LkM RX12 402 yX12_isAllowed cX12_isAllowed 5 (some .boolean) 3 := ⟨cw_X12_isAllowed, (lw_ug (List.mem_of_getElem? (i := 80) (by decide +kernel)) rfl), ⟨by decide, by decide, by decide +kernel⟩, by decide, (Or.inl (lw_ug (List.mem_of_getElem? (i := 1709) (by decide +kernel)) rfl))⟩
theorem lv_vX12_isAllowed : LkV yX12_isAllowed := ⟨(lw_ug (List.mem_of_getElem? (i := 1711) (by decide +kernel)) rfl), (lw_ug (List.mem_of_getElem? (i := 54) (by decide +kernel)) rfl)⟩
set_option maxRecDepth 20000 in
theorem cw_X12_layMay : Cond.code yX12_layMay cX12_layMay 4 none ∈ lw_u := (lw_ug (List.mem_of_getElem? (i := 1745) rfl) rfl)
theorem lm_X12_410 : LkM RX12 410 yX12_layMay cX12_layMay 4 none 2 := ⟨cw_X12_layMay, (lw_ug (List.mem_of_getElem? (i := 80) (by decide +kernel)) rfl), ⟨by decide, by decide, by decide +kernel⟩, by decide, (Or.inl (lw_ug (List.mem_of_getElem? (i := 1742) (by decide +kernel)) rfl))⟩
theorem lv_vX12_layMay : LkV yX12_layMay := ⟨(lw_ug (List.mem_of_getElem? (i := 1744) (by decide +kernel)) rfl), (lw_ug (List.mem_of_getElem? (i := 58) (by decide +kernel)) rfl)⟩
set_option maxRecDepth 20000 in
theorem cw_X12_mayFollow : Cond.code yX12_mayFollow cX12_mayFollow 6 (some .boolean) ∈ lw_u := (lw_ug (List.mem_of_getElem? (i := 1749) rfl) rfl)
theorem lm_X12_420 : LkM RX12 420 yX12_mayFollow cX12_mayFollow 6 (some .boolean) 4 := ⟨cw_X12_mayFollow, (lw_ug (List.mem_of_getElem? (i := 80) (by decide +kernel)) rfl), ⟨by decide, by decide, by decide +kernel⟩, by decide, (Or.inl (lw_ug (List.mem_of_getElem? (i := 1746) (by decide +kernel)) rfl))⟩
theorem lv_vX12_mayFollow : LkV yX12_mayFollow := ⟨(lw_ug (List.mem_of_getElem? (i := 1748) (by decide +kernel)) rfl), (lw_ug (List.mem_of_getElem? (i := 59) (by decide +kernel)) rfl)⟩
set_option maxRecDepth 20000 in
theorem cw_X12_keep : Cond.code yX12_keep cX12_keep 6 none ∈ lw_u := (lw_ug (List.mem_of_getElem? (i := 1753) rfl) rfl)
theorem lm_X12_424 : LkM RX12 424 yX12_keep cX12_keep 6 none 4 := ⟨cw_X12_keep, (lw_ug (List.mem_of_getElem? (i := 80) (by decide +kernel)) rfl), ⟨by decide, by decide, by decide +kernel⟩, by decide, (Or.inl (lw_ug (List.mem_of_getElem? (i := 1750) (by decide +kernel)) rfl))⟩
theorem lv_vX12_keep : LkV yX12_keep := ⟨(lw_ug (List.mem_of_getElem? (i := 1752) (by decide +kernel)) rfl), (lw_ug (List.mem_of_getElem? (i := 60) (by decide +kernel)) rfl)⟩
set_option maxRecDepth 20000 in
theorem cw_X12_mayReel : Cond.code yX12_mayReel cX12_mayReel 3 (some .int) ∈ lw_u := (lw_ug (List.mem_of_getElem? (i := 1737) rfl) rfl)
theorem lm_X12_428 : LkM RX12 428 yX12_mayReel cX12_mayReel 3 (some .int) 2 := ⟨cw_X12_mayReel, (lw_ug (List.mem_of_getElem? (i := 80) (by decide +kernel)) rfl), ⟨by decide, by decide, by decide +kernel⟩, by decide, (Or.inl (lw_ug (List.mem_of_getElem? (i := 1734) (by decide +kernel)) rfl))⟩
theorem lv_vX12_mayReel : LkV yX12_mayReel := ⟨(lw_ug (List.mem_of_getElem? (i := 1736) (by decide +kernel)) rfl), (lw_ug (List.mem_of_getElem? (i := 56) (by decide +kernel)) rfl)⟩
set_option maxRecDepth 20000 in
theorem cw_X12_layReel : Cond.code yX12_layReel cX12_layReel 10 none ∈ lw_u := (lw_ug (List.mem_of_getElem? (i := 1741) rfl) rfl)
theorem lm_X12_431 : LkM RX12 431 yX12_layReel cX12_layReel 10 none 2 := ⟨cw_X12_layReel, (lw_ug (List.mem_of_getElem? (i := 80) (by decide +kernel)) rfl), ⟨by decide, by decide, by decide +kernel⟩, by decide, (Or.inl (lw_ug (List.mem_of_getElem? (i := 1738) (by decide +kernel)) rfl))⟩
theorem lv_vX12_layReel : LkV yX12_layReel := ⟨(lw_ug (List.mem_of_getElem? (i := 1740) (by decide +kernel)) rfl), (lw_ug (List.mem_of_getElem? (i := 57) (by decide +kernel)) rfl)⟩
set_option maxRecDepth 20000 in
theorem cw_X12_layOrder : Cond.code yX12_layOrder cX12_layOrder 3 none ∈ lw_u := (lw_ug (List.mem_of_getElem? (i := 1790) rfl) rfl)
theorem lm_X12_439 : LkM RX12 439 yX12_layOrder cX12_layOrder 3 none 0 := ⟨cw_X12_layOrder, (lw_ug (List.mem_of_getElem? (i := 80) (by decide +kernel)) rfl), ⟨by decide, by decide, by decide +kernel⟩, by decide, (Or.inl (lw_ug (List.mem_of_getElem? (i := 1787) (by decide +kernel)) rfl))⟩
theorem lv_vX12_layOrder : LkV yX12_layOrder := ⟨(lw_ug (List.mem_of_getElem? (i := 1789) (by decide +kernel)) rfl), (lw_ug (List.mem_of_getElem? (i := 63) (by decide +kernel)) rfl)⟩
set_option maxRecDepth 20000 in
theorem cw_X12_layTimes : Cond.code yX12_layTimes cX12_layTimes 7 none ∈ lw_u := (lw_ug (List.mem_of_getElem? (i := 1794) rfl) rfl)
theorem lm_X12_442 : LkM RX12 442 yX12_layTimes cX12_layTimes 7 none 0 := ⟨cw_X12_layTimes, (lw_ug (List.mem_of_getElem? (i := 80) (by decide +kernel)) rfl), ⟨by decide, by decide, by decide +kernel⟩, by decide, (Or.inl (lw_ug (List.mem_of_getElem? (i := 1791) (by decide +kernel)) rfl))⟩
theorem lv_vX12_layTimes : LkV yX12_layTimes := ⟨(lw_ug (List.mem_of_getElem? (i := 1793) (by decide +kernel)) rfl), (lw_ug (List.mem_of_getElem? (i := 64) (by decide +kernel)) rfl)⟩
set_option maxRecDepth 20000 in
theorem cw_X12_canGoTo : Cond.code yX12_canGoTo cX12_canGoTo 6 (some .boolean) ∈ lw_u := (lw_ug (List.mem_of_getElem? (i := 1798) rfl) rfl)
theorem lm_X12_445 : LkM RX12 445 yX12_canGoTo cX12_canGoTo 6 (some .boolean) 2 := ⟨cw_X12_canGoTo, (lw_ug (List.mem_of_getElem? (i := 80) (by decide +kernel)) rfl), ⟨by decide, by decide, by decide +kernel⟩, by decide, (Or.inl (lw_ug (List.mem_of_getElem? (i := 1795) (by decide +kernel)) rfl))⟩
theorem lv_vX12_canGoTo : LkV yX12_canGoTo := ⟨(lw_ug (List.mem_of_getElem? (i := 1797) (by decide +kernel)) rfl), (lw_ug (List.mem_of_getElem? (i := 65) (by decide +kernel)) rfl)⟩
set_option maxRecDepth 20000 in
theorem cw_X12_layCovers : Cond.code yX12_layCovers cX12_layCovers 5 none ∈ lw_u := (lw_ug (List.mem_of_getElem? (i := 1786) rfl) rfl)
theorem lm_X12_448 : LkM RX12 448 yX12_layCovers cX12_layCovers 5 none 0 := ⟨cw_X12_layCovers, (lw_ug (List.mem_of_getElem? (i := 80) (by decide +kernel)) rfl), ⟨by decide, by decide, by decide +kernel⟩, by decide, (Or.inl (lw_ug (List.mem_of_getElem? (i := 1783) (by decide +kernel)) rfl))⟩
theorem lv_vX12_layCovers : LkV yX12_layCovers := ⟨(lw_ug (List.mem_of_getElem? (i := 1785) (by decide +kernel)) rfl), (lw_ug (List.mem_of_getElem? (i := 62) (by decide +kernel)) rfl)⟩
set_option maxRecDepth 20000 in
theorem cw_X12_worthOf : Cond.code yX12_worthOf cX12_worthOf 4 (some .int) ∈ lw_u := (lw_ug (List.mem_of_getElem? (i := 1802) rfl) rfl)
theorem lm_X12_451 : LkM RX12 451 yX12_worthOf cX12_worthOf 4 (some .int) 1 := ⟨cw_X12_worthOf, (lw_ug (List.mem_of_getElem? (i := 80) (by decide +kernel)) rfl), ⟨by decide, by decide, by decide +kernel⟩, by decide, (Or.inl (lw_ug (List.mem_of_getElem? (i := 1799) (by decide +kernel)) rfl))⟩
theorem lv_vX12_worthOf : LkV yX12_worthOf := ⟨(lw_ug (List.mem_of_getElem? (i := 1801) (by decide +kernel)) rfl), (lw_ug (List.mem_of_getElem? (i := 66) (by decide +kernel)) rfl)⟩
set_option maxRecDepth 20000 in
theorem cw_X12_bestCover : Cond.code yX12_bestCover cX12_bestCover 3 (some .int) ∈ lw_u := (lw_ug (List.mem_of_getElem? (i := 1782) rfl) rfl)
theorem lm_X12_454 : LkM RX12 454 yX12_bestCover cX12_bestCover 3 (some .int) 0 := ⟨cw_X12_bestCover, (lw_ug (List.mem_of_getElem? (i := 80) (by decide +kernel)) rfl), ⟨by decide, by decide, by decide +kernel⟩, by decide, (Or.inl (lw_ug (List.mem_of_getElem? (i := 1779) (by decide +kernel)) rfl))⟩
theorem lv_vX12_bestCover : LkV yX12_bestCover := ⟨(lw_ug (List.mem_of_getElem? (i := 1781) (by decide +kernel)) rfl), (lw_ug (List.mem_of_getElem? (i := 61) (by decide +kernel)) rfl)⟩
set_option maxRecDepth 20000 in
theorem cw_X12_earns : Cond.code yX12_earns cX12_earns 3 (some .int) ∈ lw_u := (lw_ug (List.mem_of_getElem? (i := 1836) rfl) rfl)
theorem lm_X12_468 : LkM RX12 468 yX12_earns cX12_earns 3 (some .int) 2 := ⟨cw_X12_earns, (lw_ug (List.mem_of_getElem? (i := 80) (by decide +kernel)) rfl), ⟨by decide, by decide, by decide +kernel⟩, by decide, (Or.inl (lw_ug (List.mem_of_getElem? (i := 1833) (by decide +kernel)) rfl))⟩
theorem lv_vX12_earns : LkV yX12_earns := ⟨(lw_ug (List.mem_of_getElem? (i := 1835) (by decide +kernel)) rfl), (lw_ug (List.mem_of_getElem? (i := 69) (by decide +kernel)) rfl)⟩
set_option maxRecDepth 20000 in
theorem cw_X12_edge : Cond.code yX12_edge cX12_edge 5 none ∈ lw_u := (lw_ug (List.mem_of_getElem? (i := 1840) rfl) rfl)
theorem lm_X12_471 : LkM RX12 471 yX12_edge cX12_edge 5 none 4 := ⟨cw_X12_edge, (lw_ug (List.mem_of_getElem? (i := 80) (by decide +kernel)) rfl), ⟨by decide, by decide, by decide +kernel⟩, by decide, (Or.inl (lw_ug (List.mem_of_getElem? (i := 1837) (by decide +kernel)) rfl))⟩
theorem lv_vX12_edge : LkV yX12_edge := ⟨(lw_ug (List.mem_of_getElem? (i := 1839) (by decide +kernel)) rfl), (lw_ug (List.mem_of_getElem? (i := 70) (by decide +kernel)) rfl)⟩
set_option maxRecDepth 20000 in
theorem cw_X12_layFar : Cond.code yX12_layFar cX12_layFar 4 (some .boolean) ∈ lw_u := (lw_ug (List.mem_of_getElem? (i := 1844) rfl) rfl)
theorem lm_X12_474 : LkM RX12 474 yX12_layFar cX12_layFar 4 (some .boolean) 0 := ⟨cw_X12_layFar, (lw_ug (List.mem_of_getElem? (i := 80) (by decide +kernel)) rfl), ⟨by decide, by decide, by decide +kernel⟩, by decide, (Or.inl (lw_ug (List.mem_of_getElem? (i := 1841) (by decide +kernel)) rfl))⟩
theorem lv_vX12_layFar : LkV yX12_layFar := ⟨(lw_ug (List.mem_of_getElem? (i := 1843) (by decide +kernel)) rfl), (lw_ug (List.mem_of_getElem? (i := 71) (by decide +kernel)) rfl)⟩
set_option maxRecDepth 20000 in
theorem cw_X12_earnsMost : Cond.code yX12_earnsMost cX12_earnsMost 5 (some .int) ∈ lw_u := (lw_ug (List.mem_of_getElem? (i := 1832) rfl) rfl)
theorem lm_X12_478 : LkM RX12 478 yX12_earnsMost cX12_earnsMost 5 (some .int) 0 := ⟨cw_X12_earnsMost, (lw_ug (List.mem_of_getElem? (i := 80) (by decide +kernel)) rfl), ⟨by decide, by decide, by decide +kernel⟩, by decide, (Or.inl (lw_ug (List.mem_of_getElem? (i := 1829) (by decide +kernel)) rfl))⟩
theorem lv_vX12_earnsMost : LkV yX12_earnsMost := ⟨(lw_ug (List.mem_of_getElem? (i := 1831) (by decide +kernel)) rfl), (lw_ug (List.mem_of_getElem? (i := 68) (by decide +kernel)) rfl)⟩
set_option maxRecDepth 20000 in
theorem cw_X12_freeAll : Cond.code yX12_freeAll cX12_freeAll 2 (some .int) ∈ lw_u := (lw_ug (List.mem_of_getElem? (i := 1828) rfl) rfl)
theorem lm_X12_481 : LkM RX12 481 yX12_freeAll cX12_freeAll 2 (some .int) 0 := ⟨cw_X12_freeAll, (lw_ug (List.mem_of_getElem? (i := 80) (by decide +kernel)) rfl), ⟨by decide, by decide, by decide +kernel⟩, by decide, (Or.inl (lw_ug (List.mem_of_getElem? (i := 1825) (by decide +kernel)) rfl))⟩
theorem lv_vX12_freeAll : LkV yX12_freeAll := ⟨(lw_ug (List.mem_of_getElem? (i := 1827) (by decide +kernel)) rfl), (lw_ug (List.mem_of_getElem? (i := 67) (by decide +kernel)) rfl)⟩
set_option maxRecDepth 20000 in
theorem cw_X9_init : Cond.code yX9_init cX9_init 1 none ∈ lw_u := (lw_ug (List.mem_of_getElem? (i := 101) rfl) rfl)
theorem lm_X11_9 : LkM RX11 9 yX9_init cX9_init 1 none 0 := ⟨cw_X9_init, (lw_ug (List.mem_of_getElem? (i := 74) (by decide +kernel)) rfl), ⟨by decide, by decide, by decide +kernel⟩, by decide, (Or.inr ⟨"NewsreelHouse", (lw_un (List.mem_of_getElem? (i := 99) (by decide +kernel)) rfl)⟩)⟩
set_option maxRecDepth 20000 in
theorem cw_X1_init : Cond.code yX1_init cX1_init 1 none ∈ lw_u := (lw_ug (List.mem_of_getElem? (i := 120) rfl) rfl)
theorem lm_X11_18 : LkM RX11 18 yX1_init cX1_init 1 none 0 := ⟨cw_X1_init, (lw_ug (List.mem_of_getElem? (i := 75) (by decide +kernel)) rfl), ⟨by decide, by decide, by decide +kernel⟩, by decide, (Or.inr ⟨"NewsreelHouse", (lw_un (List.mem_of_getElem? (i := 118) (by decide +kernel)) rfl)⟩)⟩
set_option maxRecDepth 20000 in
theorem cw_X3_init : Cond.code yX3_init cX3_init 1 none ∈ lw_u := (lw_ug (List.mem_of_getElem? (i := 142) rfl) rfl)
theorem lm_X11_51 : LkM RX11 51 yX3_init cX3_init 1 none 0 := ⟨cw_X3_init, (lw_ug (List.mem_of_getElem? (i := 76) (by decide +kernel)) rfl), ⟨by decide, by decide, by decide +kernel⟩, by decide, (Or.inr ⟨"NewsreelHouse", (lw_un (List.mem_of_getElem? (i := 140) (by decide +kernel)) rfl)⟩)⟩
set_option maxRecDepth 20000 in
theorem cw_X4_init : Cond.code yX4_init cX4_init 1 none ∈ lw_u := (lw_ug (List.mem_of_getElem? (i := 182) rfl) rfl)
theorem lm_X11_64 : LkM RX11 64 yX4_init cX4_init 1 none 0 := ⟨cw_X4_init, (lw_ug (List.mem_of_getElem? (i := 77) (by decide +kernel)) rfl), ⟨by decide, by decide, by decide +kernel⟩, by decide, (Or.inr ⟨"NewsreelHouse", (lw_un (List.mem_of_getElem? (i := 180) (by decide +kernel)) rfl)⟩)⟩
set_option maxRecDepth 20000 in
theorem cw_X0_init : Cond.code yX0_init cX0_init 1 none ∈ lw_u := (lw_ug (List.mem_of_getElem? (i := 230) rfl) rfl)
theorem lm_X11_71 : LkM RX11 71 yX0_init cX0_init 1 none 0 := ⟨cw_X0_init, (lw_ug (List.mem_of_getElem? (i := 78) (by decide +kernel)) rfl), ⟨by decide, by decide, by decide +kernel⟩, by decide, (Or.inr ⟨"NewsreelHouse", (lw_un (List.mem_of_getElem? (i := 228) (by decide +kernel)) rfl)⟩)⟩
set_option maxRecDepth 20000 in
theorem cw_X2_init : Cond.code yX2_init cX2_init 1 none ∈ lw_u := (lw_ug (List.mem_of_getElem? (i := 280) rfl) rfl)
theorem lm_X11_78 : LkM RX11 78 yX2_init cX2_init 1 none 0 := ⟨cw_X2_init, (lw_ug (List.mem_of_getElem? (i := 79) (by decide +kernel)) rfl), ⟨by decide, by decide, by decide +kernel⟩, by decide, (Or.inr ⟨"NewsreelHouse", (lw_un (List.mem_of_getElem? (i := 278) (by decide +kernel)) rfl)⟩)⟩
theorem lm_X0_69 : LkM RX0 69 yX11_withMember cX11_withMember 3 (some .int) 3 := ⟨cw_X11_withMember, (lw_ug (List.mem_of_getElem? (i := 73) (by decide +kernel)) rfl), ⟨by decide, by decide, by decide +kernel⟩, by decide, (Or.inr ⟨"NewsreelHouse", (lw_un (List.mem_of_getElem? (i := 1061) (by decide +kernel)) rfl)⟩)⟩
theorem lm_X0_80 : LkM RX0 80 yX11_hasMember cX11_hasMember 2 (some .boolean) 2 := ⟨cw_X11_hasMember, (lw_ug (List.mem_of_getElem? (i := 73) (by decide +kernel)) rfl), ⟨by decide, by decide, by decide +kernel⟩, by decide, (Or.inr ⟨"NewsreelHouse", (lw_un (List.mem_of_getElem? (i := 1077) (by decide +kernel)) rfl)⟩)⟩
set_option maxRecDepth 20000 in
theorem cw_X11_dayOf : Cond.code yX11_dayOf cX11_dayOf 1 (some .int) ∈ lw_u := (lw_ug (List.mem_of_getElem? (i := 602) rfl) rfl)
theorem lm_X1_21 : LkM RX1 21 yX11_dayOf cX11_dayOf 1 (some .int) 1 := ⟨cw_X11_dayOf, (lw_ug (List.mem_of_getElem? (i := 73) (by decide +kernel)) rfl), ⟨by decide, by decide, by decide +kernel⟩, by decide, (Or.inr ⟨"NewsreelHouse", (lw_un (List.mem_of_getElem? (i := 600) (by decide +kernel)) rfl)⟩)⟩
theorem ls_X11_dayOf : Cond.static yX11_dayOf ∈ lw_u := (lw_ug (List.mem_of_getElem? (i := 601) (by decide +kernel)) rfl)
theorem lm_X1_25 : LkM RX1 25 yX11_within cX11_within 3 (some .boolean) 3 := ⟨cw_X11_within, (lw_ug (List.mem_of_getElem? (i := 73) (by decide +kernel)) rfl), ⟨by decide, by decide, by decide +kernel⟩, by decide, (Or.inr ⟨"NewsreelHouse", (lw_un (List.mem_of_getElem? (i := 603) (by decide +kernel)) rfl)⟩)⟩
theorem lm_X1_29 : LkM RX1 29 yX11_hasMember cX11_hasMember 2 (some .boolean) 2 := ⟨cw_X11_hasMember, (lw_ug (List.mem_of_getElem? (i := 73) (by decide +kernel)) rfl), ⟨by decide, by decide, by decide +kernel⟩, by decide, (Or.inr ⟨"NewsreelHouse", (lw_un (List.mem_of_getElem? (i := 593) (by decide +kernel)) rfl)⟩)⟩
theorem lm_X2_81 : LkM RX2 81 yX11_within cX11_within 3 (some .boolean) 3 := ⟨cw_X11_within, (lw_ug (List.mem_of_getElem? (i := 73) (by decide +kernel)) rfl), ⟨by decide, by decide, by decide +kernel⟩, by decide, (Or.inr ⟨"NewsreelHouse", (lw_un (List.mem_of_getElem? (i := 1143) (by decide +kernel)) rfl)⟩)⟩
theorem lm_X2_85 : LkM RX2 85 yX11_withMember cX11_withMember 3 (some .int) 3 := ⟨cw_X11_withMember, (lw_ug (List.mem_of_getElem? (i := 73) (by decide +kernel)) rfl), ⟨by decide, by decide, by decide +kernel⟩, by decide, (Or.inr ⟨"NewsreelHouse", (lw_un (List.mem_of_getElem? (i := 1144) (by decide +kernel)) rfl)⟩)⟩
theorem lm_X2_89 : LkM RX2 89 yX11_hasMember cX11_hasMember 2 (some .boolean) 2 := ⟨cw_X11_hasMember, (lw_ug (List.mem_of_getElem? (i := 73) (by decide +kernel)) rfl), ⟨by decide, by decide, by decide +kernel⟩, by decide, (Or.inr ⟨"NewsreelHouse", (lw_un (List.mem_of_getElem? (i := 1153) (by decide +kernel)) rfl)⟩)⟩
theorem lm_X3_104 : LkM RX3 104 yX11_within cX11_within 3 (some .boolean) 3 := ⟨cw_X11_within, (lw_ug (List.mem_of_getElem? (i := 73) (by decide +kernel)) rfl), ⟨by decide, by decide, by decide +kernel⟩, by decide, (Or.inr ⟨"NewsreelHouse", (lw_un (List.mem_of_getElem? (i := 802) (by decide +kernel)) rfl)⟩)⟩
theorem lm_X4_31 : LkM RX4 31 yX11_hasMember cX11_hasMember 2 (some .boolean) 2 := ⟨cw_X11_hasMember, (lw_ug (List.mem_of_getElem? (i := 73) (by decide +kernel)) rfl), ⟨by decide, by decide, by decide +kernel⟩, by decide, (Or.inr ⟨"NewsreelHouse", (lw_un (List.mem_of_getElem? (i := 936) (by decide +kernel)) rfl)⟩)⟩
theorem lm_X4_35 : LkM RX4 35 yX11_withMember cX11_withMember 3 (some .int) 3 := ⟨cw_X11_withMember, (lw_ug (List.mem_of_getElem? (i := 73) (by decide +kernel)) rfl), ⟨by decide, by decide, by decide +kernel⟩, by decide, (Or.inr ⟨"NewsreelHouse", (lw_un (List.mem_of_getElem? (i := 937) (by decide +kernel)) rfl)⟩)⟩
theorem lm_X4_39 : LkM RX4 39 yX11_asNumber cX11_asNumber 1 (some .int) 1 := ⟨cw_X11_asNumber, (lw_ug (List.mem_of_getElem? (i := 73) (by decide +kernel)) rfl), ⟨by decide, by decide, by decide +kernel⟩, by decide, (Or.inr ⟨"NewsreelHouse", (lw_un (List.mem_of_getElem? (i := 938) (by decide +kernel)) rfl)⟩)⟩
theorem lm_X4_77 : LkM RX4 77 yX11_within cX11_within 3 (some .boolean) 3 := ⟨cw_X11_within, (lw_ug (List.mem_of_getElem? (i := 73) (by decide +kernel)) rfl), ⟨by decide, by decide, by decide +kernel⟩, by decide, (Or.inr ⟨"NewsreelHouse", (lw_un (List.mem_of_getElem? (i := 994) (by decide +kernel)) rfl)⟩)⟩
theorem lm_X5_25 : LkM RX5 25 yX11_hasMember cX11_hasMember 2 (some .boolean) 2 := ⟨cw_X11_hasMember, (lw_ug (List.mem_of_getElem? (i := 73) (by decide +kernel)) rfl), ⟨by decide, by decide, by decide +kernel⟩, by decide, (Or.inr ⟨"NewsreelHouse", (lw_un (List.mem_of_getElem? (i := 918) (by decide +kernel)) rfl)⟩)⟩
theorem lm_X5_31 : LkM RX5 31 yX11_within cX11_within 3 (some .boolean) 3 := ⟨cw_X11_within, (lw_ug (List.mem_of_getElem? (i := 73) (by decide +kernel)) rfl), ⟨by decide, by decide, by decide +kernel⟩, by decide, (Or.inr ⟨"NewsreelHouse", (lw_un (List.mem_of_getElem? (i := 919) (by decide +kernel)) rfl)⟩)⟩
theorem lm_X8_33 : LkM RX8 33 yX11_within cX11_within 3 (some .boolean) 3 := ⟨cw_X11_within, (lw_ug (List.mem_of_getElem? (i := 73) (by decide +kernel)) rfl), ⟨by decide, by decide, by decide +kernel⟩, by decide, (Or.inr ⟨"NewsreelHouse", (lw_un (List.mem_of_getElem? (i := 679) (by decide +kernel)) rfl)⟩)⟩
theorem lm_X8_44 : LkM RX8 44 yX11_dayOf cX11_dayOf 1 (some .int) 1 := ⟨cw_X11_dayOf, (lw_ug (List.mem_of_getElem? (i := 73) (by decide +kernel)) rfl), ⟨by decide, by decide, by decide +kernel⟩, by decide, (Or.inr ⟨"NewsreelHouse", (lw_un (List.mem_of_getElem? (i := 703) (by decide +kernel)) rfl)⟩)⟩
theorem lm_X9_29 : LkM RX9 29 yX11_within cX11_within 3 (some .boolean) 3 := ⟨cw_X11_within, (lw_ug (List.mem_of_getElem? (i := 73) (by decide +kernel)) rfl), ⟨by decide, by decide, by decide +kernel⟩, by decide, (Or.inr ⟨"NewsreelHouse", (lw_un (List.mem_of_getElem? (i := 432) (by decide +kernel)) rfl)⟩)⟩
theorem lc_X11_279 : Jvm.Cond.constant RX11 279 (Int32.ofInt (1000000)) ∈ lw_u := (lw_ug (List.mem_of_getElem? (i := 838) (by decide +kernel)) rfl)
theorem lc_X6_9 : Jvm.Cond.constant RX6 9 (Int32.ofInt (1000000)) ∈ lw_u := (lw_ug (List.mem_of_getElem? (i := 750) (by decide +kernel)) rfl)
theorem lc_X7_9 : Jvm.Cond.constant RX7 9 (Int32.ofInt (1000000)) ∈ lw_u := (lw_ug (List.mem_of_getElem? (i := 476) (by decide +kernel)) rfl)
theorem lc_X9_33 : Jvm.Cond.constant RX9 33 (Int32.ofInt (1000000)) ∈ lw_u := (lw_ug (List.mem_of_getElem? (i := 445) (by decide +kernel)) rfl)
theorem lc_X10_38 : Jvm.Cond.constant RX10 38 (Int32.ofInt (1000000)) ∈ lw_u := (lw_ug (List.mem_of_getElem? (i := 457) (by decide +kernel)) rfl)
theorem lc_X12_270 : Jvm.Cond.constant RX12 270 (Int32.ofInt (1000000)) ∈ lw_u := (lw_ug (List.mem_of_getElem? (i := 1490) (by decide +kernel)) rfl)
theorem lc_J6_264 : Jvm.Cond.constant RJ6 264 (Int32.ofInt (65536)) ∈ lw_u := (lw_ug (List.mem_of_getElem? (i := 1076) (by decide +kernel)) rfl)
theorem lc_J6_265 : Jvm.Cond.constant RJ6 265 (Int32.ofInt (1431655765)) ∈ lw_u := (lw_ug (List.mem_of_getElem? (i := 983) (by decide +kernel)) rfl)
theorem lc_J6_266 : Jvm.Cond.constant RJ6 266 (Int32.ofInt (858993459)) ∈ lw_u := (lw_ug (List.mem_of_getElem? (i := 984) (by decide +kernel)) rfl)
theorem lc_J6_267 : Jvm.Cond.constant RJ6 267 (Int32.ofInt (252645135)) ∈ lw_u := (lw_ug (List.mem_of_getElem? (i := 985) (by decide +kernel)) rfl)
theorem lc_X2_46 : Jvm.Cond.constantLong RX2 46 (Int64.ofInt (100000000)) ∈ lw_u := (lw_ug (List.mem_of_getElem? (i := 1140) (by decide +kernel)) rfl)
theorem lc_X2_51 : Jvm.Cond.constantLong RX2 51 (Int64.ofInt (10)) ∈ lw_u := (lw_ug (List.mem_of_getElem? (i := 1165) (by decide +kernel)) rfl)
theorem lc_X4_81 : Jvm.Cond.constantLong RX4 81 (Int64.ofInt (15)) ∈ lw_u := (lw_ug (List.mem_of_getElem? (i := 1015) (by decide +kernel)) rfl)
theorem lc_X6_30 : Jvm.Cond.constantLong RX6 30 (Int64.ofInt (255)) ∈ lw_u := (lw_ug (List.mem_of_getElem? (i := 782) (by decide +kernel)) rfl)
theorem lc_L_121 : Jvm.Cond.constantLong RL 121 (Int64.ofInt (4294967295)) ∈ lw_u := (lw_ug (List.mem_of_getElem? (i := 1853) (by decide +kernel)) rfl)
theorem lc_X12_243 : Jvm.Cond.constantLong RX12 243 (Int64.ofInt (9999)) ∈ lw_u := (lw_ug (List.mem_of_getElem? (i := 1476) (by decide +kernel)) rfl)
theorem lc_X12_249 : Jvm.Cond.constantLong RX12 249 (Int64.ofInt (416)) ∈ lw_u := (lw_ug (List.mem_of_getElem? (i := 1629) (by decide +kernel)) rfl)
theorem lc_X12_251 : Jvm.Cond.constantLong RX12 251 (Int64.ofInt (7)) ∈ lw_u := (lw_ug (List.mem_of_getElem? (i := 1472) (by decide +kernel)) rfl)
theorem lc_X12_253 : Jvm.Cond.constantLong RX12 253 (Int64.ofInt (500)) ∈ lw_u := (lw_ug (List.mem_of_getElem? (i := 1461) (by decide +kernel)) rfl)
theorem lc_X12_265 : Jvm.Cond.constantLong RX12 265 (Int64.ofInt (200)) ∈ lw_u := (lw_ug (List.mem_of_getElem? (i := 1477) (by decide +kernel)) rfl)
theorem lc_X12_282 : Jvm.Cond.constantLong RX12 282 (Int64.ofInt (900)) ∈ lw_u := (lw_ug (List.mem_of_getElem? (i := 1499) (by decide +kernel)) rfl)
theorem lc_X12_284 : Jvm.Cond.constantLong RX12 284 (Int64.ofInt (15)) ∈ lw_u := (lw_ug (List.mem_of_getElem? (i := 1500) (by decide +kernel)) rfl)
theorem lc_X12_286 : Jvm.Cond.constantLong RX12 286 (Int64.ofInt (255)) ∈ lw_u := (lw_ug (List.mem_of_getElem? (i := 1501) (by decide +kernel)) rfl)
theorem lc_X12_288 : Jvm.Cond.constantLong RX12 288 (Int64.ofInt (2)) ∈ lw_u := (lw_ug (List.mem_of_getElem? (i := 1502) (by decide +kernel)) rfl)
theorem lc_X12_301 : Jvm.Cond.constantLong RX12 301 (Int64.ofInt (364)) ∈ lw_u := (lw_ug (List.mem_of_getElem? (i := 1546) (by decide +kernel)) rfl)
theorem lc_X12_314 : Jvm.Cond.constantLong RX12 314 (Int64.ofInt (999)) ∈ lw_u := (lw_ug (List.mem_of_getElem? (i := 1567) (by decide +kernel)) rfl)
theorem lc_X12_332 : Jvm.Cond.constantLong RX12 332 (Int64.ofInt (400)) ∈ lw_u := (lw_ug (List.mem_of_getElem? (i := 1612) (by decide +kernel)) rfl)
theorem lc_X12_334 : Jvm.Cond.constantLong RX12 334 (Int64.ofInt (99)) ∈ lw_u := (lw_ug (List.mem_of_getElem? (i := 1621) (by decide +kernel)) rfl)
theorem lc_X12_354 : Jvm.Cond.constantLong RX12 354 (Int64.ofInt (60)) ∈ lw_u := (lw_ug (List.mem_of_getElem? (i := 1661) (by decide +kernel)) rfl)
theorem lc_X12_356 : Jvm.Cond.constantLong RX12 356 (Int64.ofInt (62)) ∈ lw_u := (lw_ug (List.mem_of_getElem? (i := 1662) (by decide +kernel)) rfl)
theorem lc_X12_358 : Jvm.Cond.constantLong RX12 358 (Int64.ofInt (48)) ∈ lw_u := (lw_ug (List.mem_of_getElem? (i := 1663) (by decide +kernel)) rfl)
theorem lc_X12_360 : Jvm.Cond.constantLong RX12 360 (Int64.ofInt (57)) ∈ lw_u := (lw_ug (List.mem_of_getElem? (i := 1664) (by decide +kernel)) rfl)
theorem lc_X12_384 : Jvm.Cond.constantLong RX12 384 (Int64.ofInt (4)) ∈ lw_u := (lw_ug (List.mem_of_getElem? (i := 1687) (by decide +kernel)) rfl)
theorem lc_X12_395 : Jvm.Cond.constantLong RX12 395 (Int64.ofInt (31)) ∈ lw_u := (lw_ug (List.mem_of_getElem? (i := 1700) (by decide +kernel)) rfl)
theorem lc_X12_405 : Jvm.Cond.constantLong RX12 405 (Int64.ofInt (3000)) ∈ lw_u := (lw_ug (List.mem_of_getElem? (i := 1721) (by decide +kernel)) rfl)
theorem lc_X12_434 : Jvm.Cond.constantLong RX12 434 (Int64.ofInt (3)) ∈ lw_u := (lw_ug (List.mem_of_getElem? (i := 1770) (by decide +kernel)) rfl)
theorem lc_X12_458 : Jvm.Cond.constantLong RX12 458 (Int64.ofInt (8)) ∈ lw_u := (lw_ug (List.mem_of_getElem? (i := 1811) (by decide +kernel)) rfl)
theorem lc_X12_463 : Jvm.Cond.constantLong RX12 463 (Int64.ofInt (100)) ∈ lw_u := (lw_ug (List.mem_of_getElem? (i := 1816) (by decide +kernel)) rfl)
theorem sg_0 {σ : St} : okj σ 0 0 := Or.inr (Or.inl ⟨by decide, rfl⟩)
theorem sg_1 {σ : St} : okj σ 1 0 := Or.inr (Or.inl ⟨by decide, rfl⟩)
theorem sg_2 {σ : St} : okj σ 2 0 := Or.inr (Or.inl ⟨by decide, rfl⟩)
theorem sg_3 {σ : St} : okj σ 3 0 := Or.inr (Or.inl ⟨by decide, rfl⟩)
theorem sg_4 {σ : St} : okj σ 4 0 := Or.inr (Or.inl ⟨by decide, rfl⟩)
theorem sg_9 {σ : St} : okj σ 9 0 := Or.inr (Or.inl ⟨by decide, rfl⟩)
theorem sg_11 {σ : St} : okj σ 11 0 := Or.inr (Or.inl ⟨by decide, rfl⟩)
theorem sg_12 {σ : St} : okj σ 12 0 := Or.inr (Or.inl ⟨by decide, rfl⟩)
theorem sg_100 {σ : St} : okj σ 100 0 := Or.inr (Or.inl ⟨by decide, rfl⟩)
theorem sg_101 {σ : St} : okj σ 101 0 := Or.inr (Or.inl ⟨by decide, rfl⟩)
theorem sg_103 {σ : St} : okj σ 103 0 := Or.inr (Or.inl ⟨by decide, rfl⟩)
theorem sg_104 {σ : St} : okj σ 104 0 := Or.inr (Or.inl ⟨by decide, rfl⟩)
theorem sg_105 {σ : St} : okj σ 105 0 := Or.inr (Or.inl ⟨by decide, rfl⟩)
theorem sg_106 {σ : St} : okj σ 106 0 := Or.inr (Or.inl ⟨by decide, rfl⟩)
theorem sg_107 {σ : St} : okj σ 107 0 := Or.inr (Or.inl ⟨by decide, rfl⟩)
theorem sg_108 {σ : St} : okj σ 108 0 := Or.inr (Or.inl ⟨by decide, rfl⟩)
theorem sg_109 {σ : St} : okj σ 109 0 := Or.inr (Or.inl ⟨by decide, rfl⟩)
theorem sg_200 {σ : St} : okj σ 200 0 := Or.inr (Or.inl ⟨by decide, rfl⟩)
theorem sg_201 {σ : St} : okj σ 201 0 := Or.inr (Or.inl ⟨by decide, rfl⟩)
theorem sg_202 {σ : St} : okj σ 202 0 := Or.inr (Or.inl ⟨by decide, rfl⟩)
theorem sg_301 {σ : St} : okj σ 301 0 := Or.inr (Or.inl ⟨by decide, rfl⟩)
theorem sg_302 {σ : St} : okj σ 302 0 := Or.inr (Or.inl ⟨by decide, rfl⟩)
theorem sg_303 {σ : St} : okj σ 303 0 := Or.inr (Or.inl ⟨by decide, rfl⟩)
theorem sg_304 {σ : St} : okj σ 304 0 := Or.inr (Or.inl ⟨by decide, rfl⟩)
theorem sg_306 {σ : St} : okj σ 306 0 := Or.inr (Or.inl ⟨by decide, rfl⟩)
theorem sg_307 {σ : St} : okj σ 307 0 := Or.inr (Or.inl ⟨by decide, rfl⟩)
theorem sg_400 {σ : St} : okj σ 400 0 := Or.inr (Or.inl ⟨by decide, rfl⟩)
theorem sg_401 {σ : St} : okj σ 401 0 := Or.inr (Or.inl ⟨by decide, rfl⟩)
theorem sg_402 {σ : St} : okj σ 402 0 := Or.inr (Or.inl ⟨by decide, rfl⟩)
theorem sg_403 {σ : St} : okj σ 403 0 := Or.inr (Or.inl ⟨by decide, rfl⟩)
theorem sg_502 {σ : St} : okj σ 502 0 := Or.inr (Or.inl ⟨by decide, rfl⟩)
theorem sg_508 {σ : St} : okj σ 508 0 := Or.inr (Or.inl ⟨by decide, rfl⟩)
theorem sg_509 {σ : St} : okj σ 509 0 := Or.inr (Or.inl ⟨by decide, rfl⟩)
theorem sg_510 {σ : St} : okj σ 510 0 := Or.inr (Or.inl ⟨by decide, rfl⟩)
theorem sg_1000 {σ : St} : okj σ 1000 0 := Or.inr (Or.inl ⟨by decide, rfl⟩)
theorem sg_1002 {σ : St} : okj σ 1002 0 := Or.inr (Or.inl ⟨by decide, rfl⟩)
theorem sg_1203 {σ : St} : okj σ 1203 0 := Or.inr (Or.inl ⟨by decide, rfl⟩)
theorem sg_1205 {σ : St} : okj σ 1205 0 := Or.inr (Or.inl ⟨by decide, rfl⟩)
theorem sg_1208 {σ : St} : okj σ 1208 0 := Or.inr (Or.inl ⟨by decide, rfl⟩)
theorem sg_1209 {σ : St} : okj σ 1209 0 := Or.inr (Or.inl ⟨by decide, rfl⟩)
theorem sg_1213 {σ : St} : okj σ 1213 0 := Or.inr (Or.inl ⟨by decide, rfl⟩)
theorem sg_1302 {σ : St} : okj σ 1302 0 := Or.inr (Or.inl ⟨by decide, rfl⟩)
theorem sg_1303 {σ : St} : okj σ 1303 0 := Or.inr (Or.inl ⟨by decide, rfl⟩)
theorem sg_1304 {σ : St} : okj σ 1304 0 := Or.inr (Or.inl ⟨by decide, rfl⟩)
theorem sg_1305 {σ : St} : okj σ 1305 0 := Or.inr (Or.inl ⟨by decide, rfl⟩)
theorem sg_1306 {σ : St} : okj σ 1306 0 := Or.inr (Or.inl ⟨by decide, rfl⟩)
theorem sg_1307 {σ : St} : okj σ 1307 0 := Or.inr (Or.inl ⟨by decide, rfl⟩)
theorem sg_1308 {σ : St} : okj σ 1308 0 := Or.inr (Or.inl ⟨by decide, rfl⟩)
theorem sg_1309 {σ : St} : okj σ 1309 0 := Or.inr (Or.inl ⟨by decide, rfl⟩)
theorem sg_1311 {σ : St} : okj σ 1311 0 := Or.inr (Or.inl ⟨by decide, rfl⟩)
theorem sg_1312 {σ : St} : okj σ 1312 0 := Or.inr (Or.inl ⟨by decide, rfl⟩)
theorem sg_1313 {σ : St} : okj σ 1313 0 := Or.inr (Or.inl ⟨by decide, rfl⟩)
theorem sg_1314 {σ : St} : okj σ 1314 0 := Or.inr (Or.inl ⟨by decide, rfl⟩)
theorem sg_1315 {σ : St} : okj σ 1315 0 := Or.inr (Or.inl ⟨by decide, rfl⟩)
theorem sg_1316 {σ : St} : okj σ 1316 0 := Or.inr (Or.inl ⟨by decide, rfl⟩)
theorem sg_1317 {σ : St} : okj σ 1317 0 := Or.inr (Or.inl ⟨by decide, rfl⟩)
theorem sg_1318 {σ : St} : okj σ 1318 0 := Or.inr (Or.inl ⟨by decide, rfl⟩)
theorem sg_1319 {σ : St} : okj σ 1319 0 := Or.inr (Or.inl ⟨by decide, rfl⟩)
theorem sg_1320 {σ : St} : okj σ 1320 0 := Or.inr (Or.inl ⟨by decide, rfl⟩)
theorem sg_1321 {σ : St} : okj σ 1321 0 := Or.inr (Or.inl ⟨by decide, rfl⟩)
theorem sg_1322 {σ : St} : okj σ 1322 0 := Or.inr (Or.inl ⟨by decide, rfl⟩)
theorem sg_1323 {σ : St} : okj σ 1323 0 := Or.inr (Or.inl ⟨by decide, rfl⟩)
theorem sg_1324 {σ : St} : okj σ 1324 0 := Or.inr (Or.inl ⟨by decide, rfl⟩)
theorem sg_1325 {σ : St} : okj σ 1325 0 := Or.inr (Or.inl ⟨by decide, rfl⟩)
theorem sg_1327 {σ : St} : okj σ 1327 0 := Or.inr (Or.inl ⟨by decide, rfl⟩)
theorem sg_1328 {σ : St} : okj σ 1328 0 := Or.inr (Or.inl ⟨by decide, rfl⟩)
theorem sg_1329 {σ : St} : okj σ 1329 0 := Or.inr (Or.inl ⟨by decide, rfl⟩)
theorem sg_1330 {σ : St} : okj σ 1330 0 := Or.inr (Or.inl ⟨by decide, rfl⟩)
theorem sg_1331 {σ : St} : okj σ 1331 0 := Or.inr (Or.inl ⟨by decide, rfl⟩)
theorem sg_1332 {σ : St} : okj σ 1332 0 := Or.inr (Or.inl ⟨by decide, rfl⟩)
theorem sg_1333 {σ : St} : okj σ 1333 0 := Or.inr (Or.inl ⟨by decide, rfl⟩)
theorem sg_1334 {σ : St} : okj σ 1334 0 := Or.inr (Or.inl ⟨by decide, rfl⟩)
theorem sg_1336 {σ : St} : okj σ 1336 0 := Or.inr (Or.inl ⟨by decide, rfl⟩)
theorem sg_1338 {σ : St} : okj σ 1338 0 := Or.inr (Or.inl ⟨by decide, rfl⟩)
theorem sg_1339 {σ : St} : okj σ 1339 0 := Or.inr (Or.inl ⟨by decide, rfl⟩)
theorem sg_1340 {σ : St} : okj σ 1340 0 := Or.inr (Or.inl ⟨by decide, rfl⟩)
theorem sg_1341 {σ : St} : okj σ 1341 0 := Or.inr (Or.inl ⟨by decide, rfl⟩)
theorem sg_1344 {σ : St} : okj σ 1344 0 := Or.inr (Or.inl ⟨by decide, rfl⟩)
theorem sg_1346 {σ : St} : okj σ 1346 0 := Or.inr (Or.inl ⟨by decide, rfl⟩)
theorem sg_1347 {σ : St} : okj σ 1347 0 := Or.inr (Or.inl ⟨by decide, rfl⟩)
theorem sg_1348 {σ : St} : okj σ 1348 0 := Or.inr (Or.inl ⟨by decide, rfl⟩)
theorem sg_1350 {σ : St} : okj σ 1350 0 := Or.inr (Or.inl ⟨by decide, rfl⟩)
theorem sg_1351 {σ : St} : okj σ 1351 0 := Or.inr (Or.inl ⟨by decide, rfl⟩)
theorem sg_1352 {σ : St} : okj σ 1352 0 := Or.inr (Or.inl ⟨by decide, rfl⟩)
theorem sg_1353 {σ : St} : okj σ 1353 0 := Or.inr (Or.inl ⟨by decide, rfl⟩)
theorem sg_1354 {σ : St} : okj σ 1354 0 := Or.inr (Or.inl ⟨by decide, rfl⟩)
theorem sg_1357 {σ : St} : okj σ 1357 0 := Or.inr (Or.inl ⟨by decide, rfl⟩)
theorem sg_1358 {σ : St} : okj σ 1358 0 := Or.inr (Or.inl ⟨by decide, rfl⟩)
theorem sg_1359 {σ : St} : okj σ 1359 0 := Or.inr (Or.inl ⟨by decide, rfl⟩)
theorem sg_1360 {σ : St} : okj σ 1360 0 := Or.inr (Or.inl ⟨by decide, rfl⟩)
theorem sg_1361 {σ : St} : okj σ 1361 0 := Or.inr (Or.inl ⟨by decide, rfl⟩)
theorem sg_1363 {σ : St} : okj σ 1363 0 := Or.inr (Or.inl ⟨by decide, rfl⟩)
theorem sg_1364 {σ : St} : okj σ 1364 0 := Or.inr (Or.inl ⟨by decide, rfl⟩)
theorem sg_1367 {σ : St} : okj σ 1367 0 := Or.inr (Or.inl ⟨by decide, rfl⟩)
theorem sg_1368 {σ : St} : okj σ 1368 0 := Or.inr (Or.inl ⟨by decide, rfl⟩)
theorem sg_1370 {σ : St} : okj σ 1370 0 := Or.inr (Or.inl ⟨by decide, rfl⟩)
theorem sg_1371 {σ : St} : okj σ 1371 0 := Or.inr (Or.inl ⟨by decide, rfl⟩)
theorem sg_1372 {σ : St} : okj σ 1372 0 := Or.inr (Or.inl ⟨by decide, rfl⟩)
theorem sg_1373 {σ : St} : okj σ 1373 0 := Or.inr (Or.inl ⟨by decide, rfl⟩)
theorem sg_1374 {σ : St} : okj σ 1374 0 := Or.inr (Or.inl ⟨by decide, rfl⟩)
theorem sg_1375 {σ : St} : okj σ 1375 0 := Or.inr (Or.inl ⟨by decide, rfl⟩)
theorem sg_1376 {σ : St} : okj σ 1376 0 := Or.inr (Or.inl ⟨by decide, rfl⟩)
theorem sg_1377 {σ : St} : okj σ 1377 0 := Or.inr (Or.inl ⟨by decide, rfl⟩)
theorem sg_1379 {σ : St} : okj σ 1379 0 := Or.inr (Or.inl ⟨by decide, rfl⟩)
theorem sg_1380 {σ : St} : okj σ 1380 0 := Or.inr (Or.inl ⟨by decide, rfl⟩)
theorem sg_1381 {σ : St} : okj σ 1381 0 := Or.inr (Or.inl ⟨by decide, rfl⟩)
theorem sg_1382 {σ : St} : okj σ 1382 0 := Or.inr (Or.inl ⟨by decide, rfl⟩)
theorem sg_1385 {σ : St} : okj σ 1385 0 := Or.inr (Or.inl ⟨by decide, rfl⟩)
theorem sg_1386 {σ : St} : okj σ 1386 0 := Or.inr (Or.inl ⟨by decide, rfl⟩)
theorem sg_1387 {σ : St} : okj σ 1387 0 := Or.inr (Or.inl ⟨by decide, rfl⟩)
theorem sg_1388 {σ : St} : okj σ 1388 0 := Or.inr (Or.inl ⟨by decide, rfl⟩)
theorem sg_1389 {σ : St} : okj σ 1389 0 := Or.inr (Or.inl ⟨by decide, rfl⟩)
theorem sg_1390 {σ : St} : okj σ 1390 0 := Or.inr (Or.inl ⟨by decide, rfl⟩)
theorem sg_1391 {σ : St} : okj σ 1391 0 := Or.inr (Or.inl ⟨by decide, rfl⟩)
