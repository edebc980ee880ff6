theorem uw0 : ∀ w ∈ u_ws RX0 TX0 13, w ∈ lw_u := by
  intro w hw
  have h1 : w ∈ lw_tbl := by
    rw [ul0] at hw
    obtain ⟨i, -, hi⟩ := List.mem_filterMap.mp hw
    exact List.mem_of_getElem? hi
  obtain ⟨j, -, hj⟩ := List.mem_map.mp hw
  refine lw_ug h1 ?_
  rw [← hj]
  unfold u_lay
  split <;> rfl
theorem uw1 : ∀ w ∈ u_ws RX1 TX1 3, w ∈ lw_u := by
  intro w hw
  have h1 : w ∈ lw_tbl := by
    rw [ul1] at hw
    obtain ⟨i, -, hi⟩ := List.mem_filterMap.mp hw
    exact List.mem_of_getElem? hi
  obtain ⟨j, -, hj⟩ := List.mem_map.mp hw
  refine lw_ug h1 ?_
  rw [← hj]
  unfold u_lay
  split <;> rfl
theorem uw2 : ∀ w ∈ u_ws RX2 TX2 9, w ∈ lw_u := by
  intro w hw
  have h1 : w ∈ lw_tbl := by
    rw [ul2] at hw
    obtain ⟨i, -, hi⟩ := List.mem_filterMap.mp hw
    exact List.mem_of_getElem? hi
  obtain ⟨j, -, hj⟩ := List.mem_map.mp hw
  refine lw_ug h1 ?_
  rw [← hj]
  unfold u_lay
  split <;> rfl
theorem uw3 : ∀ w ∈ u_ws RX3 TX3 10, w ∈ lw_u := by
  intro w hw
  have h1 : w ∈ lw_tbl := by
    rw [ul3] at hw
    obtain ⟨i, -, hi⟩ := List.mem_filterMap.mp hw
    exact List.mem_of_getElem? hi
  obtain ⟨j, -, hj⟩ := List.mem_map.mp hw
  refine lw_ug h1 ?_
  rw [← hj]
  unfold u_lay
  split <;> rfl
theorem uw4 : ∀ w ∈ u_ws RX4 TX4 13, w ∈ lw_u := by
  intro w hw
  have h1 : w ∈ lw_tbl := by
    rw [ul4] at hw
    obtain ⟨i, -, hi⟩ := List.mem_filterMap.mp hw
    exact List.mem_of_getElem? hi
  obtain ⟨j, -, hj⟩ := List.mem_map.mp hw
  refine lw_ug h1 ?_
  rw [← hj]
  unfold u_lay
  split <;> rfl
theorem uw5 : ∀ w ∈ u_ws RX5 TX5 5, w ∈ lw_u := by
  intro w hw
  have h1 : w ∈ lw_tbl := by
    rw [ul5] at hw
    obtain ⟨i, -, hi⟩ := List.mem_filterMap.mp hw
    exact List.mem_of_getElem? hi
  obtain ⟨j, -, hj⟩ := List.mem_map.mp hw
  refine lw_ug h1 ?_
  rw [← hj]
  unfold u_lay
  split <;> rfl
theorem uw6 : ∀ w ∈ u_ws RX6 TX6 4, w ∈ lw_u := by
  intro w hw
  have h1 : w ∈ lw_tbl := by
    rw [ul6] at hw
    obtain ⟨i, -, hi⟩ := List.mem_filterMap.mp hw
    exact List.mem_of_getElem? hi
  obtain ⟨j, -, hj⟩ := List.mem_map.mp hw
  refine lw_ug h1 ?_
  rw [← hj]
  unfold u_lay
  split <;> rfl
theorem uw7 : ∀ w ∈ u_ws RX7 TX7 13, w ∈ lw_u := by
  intro w hw
  have h1 : w ∈ lw_tbl := by
    rw [ul7] at hw
    obtain ⟨i, -, hi⟩ := List.mem_filterMap.mp hw
    exact List.mem_of_getElem? hi
  obtain ⟨j, -, hj⟩ := List.mem_map.mp hw
  refine lw_ug h1 ?_
  rw [← hj]
  unfold u_lay
  split <;> rfl
theorem uw8 : ∀ w ∈ u_ws RX8 TX8 8, w ∈ lw_u := by
  intro w hw
  have h1 : w ∈ lw_tbl := by
    rw [ul8] at hw
    obtain ⟨i, -, hi⟩ := List.mem_filterMap.mp hw
    exact List.mem_of_getElem? hi
  obtain ⟨j, -, hj⟩ := List.mem_map.mp hw
  refine lw_ug h1 ?_
  rw [← hj]
  unfold u_lay
  split <;> rfl
theorem uw9 : ∀ w ∈ u_ws RX9 TX9 3, w ∈ lw_u := by
  intro w hw
  have h1 : w ∈ lw_tbl := by
    rw [ul9] at hw
    obtain ⟨i, -, hi⟩ := List.mem_filterMap.mp hw
    exact List.mem_of_getElem? hi
  obtain ⟨j, -, hj⟩ := List.mem_map.mp hw
  refine lw_ug h1 ?_
  rw [← hj]
  unfold u_lay
  split <;> rfl
theorem uw10 : ∀ w ∈ u_ws RX10 TX10 7, w ∈ lw_u := by
  intro w hw
  have h1 : w ∈ lw_tbl := by
    rw [ul10] at hw
    obtain ⟨i, -, hi⟩ := List.mem_filterMap.mp hw
    exact List.mem_of_getElem? hi
  obtain ⟨j, -, hj⟩ := List.mem_map.mp hw
  refine lw_ug h1 ?_
  rw [← hj]
  unfold u_lay
  split <;> rfl
theorem uw11 : ∀ w ∈ u_ws RX11 TX11 18, w ∈ lw_u := by
  intro w hw
  have h1 : w ∈ lw_tbl := by
    rw [ul11] at hw
    obtain ⟨i, -, hi⟩ := List.mem_filterMap.mp hw
    exact List.mem_of_getElem? hi
  obtain ⟨j, -, hj⟩ := List.mem_map.mp hw
  refine lw_ug h1 ?_
  rw [← hj]
  unfold u_lay
  split <;> rfl
theorem uw12 : ∀ w ∈ u_ws RX12 TX12 92, w ∈ lw_u := by
  intro w hw
  have h1 : w ∈ lw_tbl := by
    rw [ul12] at hw
    obtain ⟨i, -, hi⟩ := List.mem_filterMap.mp hw
    exact List.mem_of_getElem? hi
  obtain ⟨j, -, hj⟩ := List.mem_map.mp hw
  refine lw_ug h1 ?_
  rw [← hj]
  unfold u_lay
  split <;> rfl
theorem lf_X11_10 : LkF RX11 10 11 1 := ⟨RX11, TX11, 18, rfl, by decide, uw11, rfl, (Or.inl (lw_ug w_313 rfl))⟩
theorem li_X11_10 : LkFR RX11 10 11 1 9 := ⟨lf_X11_10, rfl⟩
theorem lf_X11_19 : LkF RX11 19 11 2 := ⟨RX11, TX11, 18, rfl, by decide, uw11, rfl, (Or.inl (lw_ug w_314 rfl))⟩
theorem li_X11_19 : LkFR RX11 19 11 2 1 := ⟨lf_X11_19, rfl⟩
theorem lf_X11_25 : LkF RX11 25 11 3 := ⟨RX11, TX11, 18, rfl, by decide, uw11, rfl, (Or.inl (lw_ug w_315 rfl))⟩
theorem li_X11_25 : LkFA RX11 25 11 3 1203 := ⟨lf_X11_25, rfl, rfl⟩
theorem lf_X11_31 : LkF RX11 31 11 5 := ⟨RX11, TX11, 18, rfl, by decide, uw11, rfl, (Or.inl (lw_ug w_317 rfl))⟩
theorem li_X11_31 : LkFA RX11 31 11 5 1205 := ⟨lf_X11_31, rfl, rfl⟩
theorem lf_X11_35 : LkF RX11 35 11 7 := ⟨RX11, TX11, 18, rfl, by decide, uw11, rfl, (Or.inl (lw_ug w_319 rfl))⟩
theorem li_X11_35 : LkFI RX11 35 11 7 1207 := ⟨lf_X11_35, rfl, 0, rfl, by decide⟩
theorem lq_X11_35 : LkPI RX11 35 11 7 1207 0 := ⟨⟨RX11, TX11, 18, tyX11, rfl, by decide, uw11, rfl, (Or.inl (lw_ug w_319 rfl)), tyX11_ok, nmX11, rfl, Or.inl ⟨rfl, rfl⟩⟩, rfl, rfl⟩
theorem lf_X11_39 : LkF RX11 39 11 8 := ⟨RX11, TX11, 18, rfl, by decide, uw11, rfl, (Or.inl (lw_ug w_320 rfl))⟩
theorem li_X11_39 : LkFA RX11 39 11 8 1208 := ⟨lf_X11_39, rfl, rfl⟩
theorem lf_X11_45 : LkF RX11 45 11 9 := ⟨RX11, TX11, 18, rfl, by decide, uw11, rfl, (Or.inl (lw_ug w_321 rfl))⟩
theorem li_X11_45 : LkFA RX11 45 11 9 1209 := ⟨lf_X11_45, rfl, rfl⟩
theorem lf_X11_52 : LkF RX11 52 11 11 := ⟨RX11, TX11, 18, rfl, by decide, uw11, rfl, (Or.inl (lw_ug w_323 rfl))⟩
theorem li_X11_52 : LkFR RX11 52 11 11 3 := ⟨lf_X11_52, rfl⟩
theorem lf_X11_58 : LkF RX11 58 11 13 := ⟨RX11, TX11, 18, rfl, by decide, uw11, rfl, (Or.inl (lw_ug w_325 rfl))⟩
theorem li_X11_58 : LkFA RX11 58 11 13 1213 := ⟨lf_X11_58, rfl, rfl⟩
theorem lf_X11_65 : LkF RX11 65 11 15 := ⟨RX11, TX11, 18, rfl, by decide, uw11, rfl, (Or.inl (lw_ug w_327 rfl))⟩
theorem li_X11_65 : LkFR RX11 65 11 15 4 := ⟨lf_X11_65, rfl⟩
theorem lf_X11_72 : LkF RX11 72 11 16 := ⟨RX11, TX11, 18, rfl, by decide, uw11, rfl, (Or.inl (lw_ug w_328 rfl))⟩
theorem li_X11_72 : LkFR RX11 72 11 16 0 := ⟨lf_X11_72, rfl⟩
theorem lf_X11_79 : LkF RX11 79 11 17 := ⟨RX11, TX11, 18, rfl, by decide, uw11, rfl, (Or.inl (lw_ug w_329 rfl))⟩
theorem li_X11_79 : LkFR RX11 79 11 17 2 := ⟨lf_X11_79, rfl⟩
theorem lf_X11_87 : LkF RX11 87 11 0 := ⟨RX11, TX11, 18, rfl, by decide, uw11, rfl, (Or.inl (lw_ug w_312 rfl))⟩
theorem li_X11_87 : LkFI RX11 87 11 0 1200 := ⟨lf_X11_87, rfl, 0, rfl, by decide⟩
theorem lq_X11_87 : LkPI RX11 87 11 0 1200 0 := ⟨⟨RX11, TX11, 18, tyX11, rfl, by decide, uw11, rfl, (Or.inl (lw_ug w_312 rfl)), tyX11_ok, nmX11, rfl, Or.inl ⟨rfl, rfl⟩⟩, rfl, rfl⟩
theorem lf_X11_114 : LkF RX11 114 10 6 := ⟨RX10, TX10, 7, rfl, by decide, uw10, rfl, (Or.inl (lw_ug w_403 rfl))⟩
theorem li_X11_114 : LkFI RX11 114 10 6 1106 := ⟨lf_X11_114, rfl, 1, rfl, by decide⟩
theorem lq_X11_114 : LkPI RX11 114 10 6 1106 1 := ⟨⟨RX10, TX10, 7, tyX10, rfl, by decide, uw10, rfl, (Or.inl (lw_ug w_403 rfl)), tyX10_ok, nmX10, rfl, Or.inr ⟨rfl, rfl⟩⟩, rfl, rfl⟩
theorem lf_X11_131 : LkF RX11 131 11 4 := ⟨RX11, TX11, 18, rfl, by decide, uw11, rfl, (Or.inl (lw_ug w_316 rfl))⟩
theorem li_X11_131 : LkFI RX11 131 11 4 1204 := ⟨lf_X11_131, rfl, 0, rfl, by decide⟩
theorem lq_X11_131 : LkPI RX11 131 11 4 1204 0 := ⟨⟨RX11, TX11, 18, tyX11, rfl, by decide, uw11, rfl, (Or.inl (lw_ug w_316 rfl)), tyX11_ok, nmX11, rfl, Or.inl ⟨rfl, rfl⟩⟩, rfl, rfl⟩
theorem lf_X11_141 : LkF RX11 141 7 0 := ⟨RX7, TX7, 13, rfl, by decide, uw7, rfl, (Or.inl (lw_ug w_479 rfl))⟩
theorem li_X11_141 : LkFI RX11 141 7 0 800 := ⟨lf_X11_141, rfl, 0, rfl, by decide⟩
theorem lf_X11_148 : LkF RX11 148 7 1 := ⟨RX7, TX7, 13, rfl, by decide, uw7, rfl, (Or.inl (lw_ug w_481 rfl))⟩
theorem li_X11_148 : LkFI RX11 148 7 1 801 := ⟨lf_X11_148, rfl, 0, rfl, by decide⟩
theorem lf_X11_151 : LkF RX11 151 7 2 := ⟨RX7, TX7, 13, rfl, by decide, uw7, rfl, (Or.inl (lw_ug w_484 rfl))⟩
theorem li_X11_151 : LkFI RX11 151 7 2 802 := ⟨lf_X11_151, rfl, 0, rfl, by decide⟩
theorem lf_X11_154 : LkF RX11 154 7 3 := ⟨RX7, TX7, 13, rfl, by decide, uw7, rfl, (Or.inl (lw_ug w_487 rfl))⟩
theorem li_X11_154 : LkFI RX11 154 7 3 803 := ⟨lf_X11_154, rfl, 0, rfl, by decide⟩
theorem lf_X11_157 : LkF RX11 157 7 4 := ⟨RX7, TX7, 13, rfl, by decide, uw7, rfl, (Or.inl (lw_ug w_489 rfl))⟩
theorem li_X11_157 : LkFI RX11 157 7 4 804 := ⟨lf_X11_157, rfl, 0, rfl, by decide⟩
theorem lf_X11_160 : LkF RX11 160 7 5 := ⟨RX7, TX7, 13, rfl, by decide, uw7, rfl, (Or.inl (lw_ug w_491 rfl))⟩
theorem li_X11_160 : LkFI RX11 160 7 5 805 := ⟨lf_X11_160, rfl, 0, rfl, by decide⟩
theorem lf_X11_163 : LkF RX11 163 7 6 := ⟨RX7, TX7, 13, rfl, by decide, uw7, rfl, (Or.inl (lw_ug w_494 rfl))⟩
theorem li_X11_163 : LkFI RX11 163 7 6 806 := ⟨lf_X11_163, rfl, 0, rfl, by decide⟩
theorem lf_X11_170 : LkF RX11 170 7 8 := ⟨RX7, TX7, 13, rfl, by decide, uw7, rfl, (Or.inr ⟨"NewsreelHouse", (lw_un w_498 rfl)⟩)⟩
theorem li_X11_170 : LkFI RX11 170 7 8 808 := ⟨lf_X11_170, rfl, 0, rfl, by decide⟩
theorem lq_X11_170 : LkPI RX11 170 7 8 808 0 := ⟨⟨RX7, TX7, 13, tyX7, rfl, by decide, uw7, rfl, (Or.inr ⟨"NewsreelHouse", (lw_un w_498 rfl)⟩), tyX7_ok, nmX7, rfl, Or.inl ⟨rfl, rfl⟩⟩, rfl, rfl⟩
theorem lf_X11_173 : LkF RX11 173 7 11 := ⟨RX7, TX7, 13, rfl, by decide, uw7, rfl, (Or.inr ⟨"NewsreelHouse", (lw_un w_504 rfl)⟩)⟩
theorem li_X11_173 : LkFI RX11 173 7 11 811 := ⟨lf_X11_173, rfl, 0, rfl, by decide⟩
theorem lq_X11_173 : LkPI RX11 173 7 11 811 0 := ⟨⟨RX7, TX7, 13, tyX7, rfl, by decide, uw7, rfl, (Or.inr ⟨"NewsreelHouse", (lw_un w_504 rfl)⟩), tyX7_ok, nmX7, rfl, Or.inl ⟨rfl, rfl⟩⟩, rfl, rfl⟩
theorem lf_X11_176 : LkF RX11 176 7 12 := ⟨RX7, TX7, 13, rfl, by decide, uw7, rfl, (Or.inr ⟨"NewsreelHouse", (lw_un w_506 rfl)⟩)⟩
theorem li_X11_176 : LkFI RX11 176 7 12 812 := ⟨lf_X11_176, rfl, 0, rfl, by decide⟩
theorem lq_X11_176 : LkPI RX11 176 7 12 812 0 := ⟨⟨RX7, TX7, 13, tyX7, rfl, by decide, uw7, rfl, (Or.inr ⟨"NewsreelHouse", (lw_un w_506 rfl)⟩), tyX7_ok, nmX7, rfl, Or.inl ⟨rfl, rfl⟩⟩, rfl, rfl⟩
theorem lf_X11_179 : LkF RX11 179 7 9 := ⟨RX7, TX7, 13, rfl, by decide, uw7, rfl, (Or.inr ⟨"NewsreelHouse", (lw_un w_500 rfl)⟩)⟩
theorem li_X11_179 : LkFI RX11 179 7 9 809 := ⟨lf_X11_179, rfl, 0, rfl, by decide⟩
theorem lq_X11_179 : LkPI RX11 179 7 9 809 0 := ⟨⟨RX7, TX7, 13, tyX7, rfl, by decide, uw7, rfl, (Or.inr ⟨"NewsreelHouse", (lw_un w_500 rfl)⟩), tyX7_ok, nmX7, rfl, Or.inl ⟨rfl, rfl⟩⟩, rfl, rfl⟩
theorem lf_X11_182 : LkF RX11 182 7 10 := ⟨RX7, TX7, 13, rfl, by decide, uw7, rfl, (Or.inr ⟨"NewsreelHouse", (lw_un w_502 rfl)⟩)⟩
theorem li_X11_182 : LkFI RX11 182 7 10 810 := ⟨lf_X11_182, rfl, 0, rfl, by decide⟩
theorem lq_X11_182 : LkPI RX11 182 7 10 810 0 := ⟨⟨RX7, TX7, 13, tyX7, rfl, by decide, uw7, rfl, (Or.inr ⟨"NewsreelHouse", (lw_un w_502 rfl)⟩), tyX7_ok, nmX7, rfl, Or.inl ⟨rfl, rfl⟩⟩, rfl, rfl⟩
theorem lf_X11_200 : LkF RX11 200 11 6 := ⟨RX11, TX11, 18, rfl, by decide, uw11, rfl, (Or.inl (lw_ug w_318 rfl))⟩
theorem li_X11_200 : LkFI RX11 200 11 6 1206 := ⟨lf_X11_200, rfl, 0, rfl, by decide⟩
theorem lq_X11_200 : LkPI RX11 200 11 6 1206 0 := ⟨⟨RX11, TX11, 18, tyX11, rfl, by decide, uw11, rfl, (Or.inl (lw_ug w_318 rfl)), tyX11_ok, nmX11, rfl, Or.inl ⟨rfl, rfl⟩⟩, rfl, rfl⟩
theorem lf_X11_220 : LkF RX11 220 8 6 := ⟨RX8, TX8, 8, rfl, by decide, uw8, rfl, (Or.inr ⟨"NewsreelHouse", (lw_un w_635 rfl)⟩)⟩
theorem li_X11_220 : LkFI RX11 220 8 6 906 := ⟨lf_X11_220, rfl, 1, rfl, by decide⟩
theorem lq_X11_220 : LkPI RX11 220 8 6 906 1 := ⟨⟨RX8, TX8, 8, tyX8, rfl, by decide, uw8, rfl, (Or.inr ⟨"NewsreelHouse", (lw_un w_635 rfl)⟩), tyX8_ok, nmX8, rfl, Or.inr ⟨rfl, rfl⟩⟩, rfl, rfl⟩
theorem lf_X11_227 : LkF RX11 227 8 7 := ⟨RX8, TX8, 8, rfl, by decide, uw8, rfl, (Or.inr ⟨"NewsreelHouse", (lw_un w_637 rfl)⟩)⟩
theorem li_X11_227 : LkFI RX11 227 8 7 907 := ⟨lf_X11_227, rfl, 1, rfl, by decide⟩
theorem lq_X11_227 : LkPI RX11 227 8 7 907 1 := ⟨⟨RX8, TX8, 8, tyX8, rfl, by decide, uw8, rfl, (Or.inr ⟨"NewsreelHouse", (lw_un w_637 rfl)⟩), tyX8_ok, nmX8, rfl, Or.inr ⟨rfl, rfl⟩⟩, rfl, rfl⟩
theorem lf_X11_230 : LkF RX11 230 8 5 := ⟨RX8, TX8, 8, rfl, by decide, uw8, rfl, (Or.inr ⟨"NewsreelHouse", (lw_un w_633 rfl)⟩)⟩
theorem li_X11_230 : LkFI RX11 230 8 5 905 := ⟨lf_X11_230, rfl, 0, rfl, by decide⟩
theorem lq_X11_230 : LkPI RX11 230 8 5 905 0 := ⟨⟨RX8, TX8, 8, tyX8, rfl, by decide, uw8, rfl, (Or.inr ⟨"NewsreelHouse", (lw_un w_633 rfl)⟩), tyX8_ok, nmX8, rfl, Or.inl ⟨rfl, rfl⟩⟩, rfl, rfl⟩
theorem lf_X11_260 : LkF RX11 260 11 10 := ⟨RX11, TX11, 18, rfl, by decide, uw11, rfl, (Or.inl (lw_ug w_322 rfl))⟩
theorem li_X11_260 : LkFI RX11 260 11 10 1210 := ⟨lf_X11_260, rfl, 0, rfl, by decide⟩
theorem lq_X11_260 : LkPI RX11 260 11 10 1210 0 := ⟨⟨RX11, TX11, 18, tyX11, rfl, by decide, uw11, rfl, (Or.inl (lw_ug w_322 rfl)), tyX11_ok, nmX11, rfl, Or.inl ⟨rfl, rfl⟩⟩, rfl, rfl⟩
theorem lf_X11_276 : LkF RX11 276 6 1 := ⟨RX6, TX6, 4, rfl, by decide, uw6, rfl, (Or.inr ⟨"NewsreelHouse", (lw_un w_753 rfl)⟩)⟩
theorem li_X11_276 : LkFI RX11 276 6 1 701 := ⟨lf_X11_276, rfl, 0, rfl, by decide⟩
theorem lq_X11_276 : LkPI RX11 276 6 1 701 0 := ⟨⟨RX6, TX6, 4, tyX6, rfl, by decide, uw6, rfl, (Or.inr ⟨"NewsreelHouse", (lw_un w_753 rfl)⟩), tyX6_ok, nmX6, rfl, Or.inl ⟨rfl, rfl⟩⟩, rfl, rfl⟩
theorem lf_X11_287 : LkF RX11 287 11 12 := ⟨RX11, TX11, 18, rfl, by decide, uw11, rfl, (Or.inl (lw_ug w_324 rfl))⟩
theorem li_X11_287 : LkFI RX11 287 11 12 1212 := ⟨lf_X11_287, rfl, 0, rfl, by decide⟩
theorem lq_X11_287 : LkPI RX11 287 11 12 1212 0 := ⟨⟨RX11, TX11, 18, tyX11, rfl, by decide, uw11, rfl, (Or.inl (lw_ug w_324 rfl)), tyX11_ok, nmX11, rfl, Or.inl ⟨rfl, rfl⟩⟩, rfl, rfl⟩
theorem lf_X11_298 : LkF RX11 298 11 14 := ⟨RX11, TX11, 18, rfl, by decide, uw11, rfl, (Or.inl (lw_ug w_326 rfl))⟩
theorem li_X11_298 : LkFI RX11 298 11 14 1214 := ⟨lf_X11_298, rfl, 0, rfl, by decide⟩
theorem lq_X11_298 : LkPI RX11 298 11 14 1214 0 := ⟨⟨RX11, TX11, 18, tyX11, rfl, by decide, uw11, rfl, (Or.inl (lw_ug w_326 rfl)), tyX11_ok, nmX11, rfl, Or.inl ⟨rfl, rfl⟩⟩, rfl, rfl⟩
theorem lf_X11_304 : LkF RX11 304 5 4 := ⟨RX5, TX5, 5, rfl, by decide, uw5, rfl, (Or.inr ⟨"NewsreelHouse", (lw_un w_886 rfl)⟩)⟩
theorem li_X11_304 : LkFI RX11 304 5 4 604 := ⟨lf_X11_304, rfl, 0, rfl, by decide⟩
theorem lq_X11_304 : LkPI RX11 304 5 4 604 0 := ⟨⟨RX5, TX5, 5, tyX5, rfl, by decide, uw5, rfl, (Or.inr ⟨"NewsreelHouse", (lw_un w_886 rfl)⟩), tyX5_ok, nmX5, rfl, Or.inl ⟨rfl, rfl⟩⟩, rfl, rfl⟩
theorem lf_X11_307 : LkF RX11 307 8 0 := ⟨RX8, TX8, 8, rfl, by decide, uw8, rfl, (Or.inl (lw_ug w_625 rfl))⟩
theorem li_X11_307 : LkFI RX11 307 8 0 900 := ⟨lf_X11_307, rfl, 0, rfl, by decide⟩
theorem lf_X11_318 : LkF RX11 318 4 3 := ⟨RX4, TX4, 13, rfl, by decide, uw4, rfl, (Or.inr ⟨"NewsreelHouse", (lw_un w_188 rfl)⟩)⟩
theorem li_X11_318 : LkFI RX11 318 4 3 503 := ⟨lf_X11_318, rfl, 0, rfl, by decide⟩
theorem lq_X11_318 : LkPI RX11 318 4 3 503 0 := ⟨⟨RX4, TX4, 13, tyX4, rfl, by decide, uw4, rfl, (Or.inr ⟨"NewsreelHouse", (lw_un w_188 rfl)⟩), tyX4_ok, nmX4, rfl, Or.inl ⟨rfl, rfl⟩⟩, rfl, rfl⟩
theorem lf_X11_332 : LkF RX11 332 4 11 := ⟨RX4, TX4, 13, rfl, by decide, uw4, rfl, (Or.inr ⟨"NewsreelHouse", (lw_un w_197 rfl)⟩)⟩
theorem li_X11_332 : LkFI RX11 332 4 11 511 := ⟨lf_X11_332, rfl, 0, rfl, by decide⟩
theorem lq_X11_332 : LkPI RX11 332 4 11 511 0 := ⟨⟨RX4, TX4, 13, tyX4, rfl, by decide, uw4, rfl, (Or.inr ⟨"NewsreelHouse", (lw_un w_197 rfl)⟩), tyX4_ok, nmX4, rfl, Or.inl ⟨rfl, rfl⟩⟩, rfl, rfl⟩
theorem lf_X11_355 : LkF RX11 355 0 10 := ⟨RX0, TX0, 13, rfl, by decide, uw0, rfl, (Or.inr ⟨"NewsreelHouse", (lw_un w_244 rfl)⟩)⟩
theorem li_X11_355 : LkFI RX11 355 0 10 110 := ⟨lf_X11_355, rfl, 0, rfl, by decide⟩
theorem lq_X11_355 : LkPI RX11 355 0 10 110 0 := ⟨⟨RX0, TX0, 13, tyX0, rfl, by decide, uw0, rfl, (Or.inr ⟨"NewsreelHouse", (lw_un w_244 rfl)⟩), tyX0_ok, nmX0, rfl, Or.inl ⟨rfl, rfl⟩⟩, rfl, rfl⟩
theorem lf_X11_356 : LkF RX11 356 0 2 := ⟨RX0, TX0, 13, rfl, by decide, uw0, rfl, (Or.inr ⟨"NewsreelHouse", (lw_un w_235 rfl)⟩)⟩
theorem li_X11_356 : LkFI RX11 356 0 2 102 := ⟨lf_X11_356, rfl, 0, rfl, by decide⟩
theorem lq_X11_356 : LkPI RX11 356 0 2 102 0 := ⟨⟨RX0, TX0, 13, tyX0, rfl, by decide, uw0, rfl, (Or.inr ⟨"NewsreelHouse", (lw_un w_235 rfl)⟩), tyX0_ok, nmX0, rfl, Or.inl ⟨rfl, rfl⟩⟩, rfl, rfl⟩
theorem lf_X11_359 : LkF RX11 359 0 11 := ⟨RX0, TX0, 13, rfl, by decide, uw0, rfl, (Or.inr ⟨"NewsreelHouse", (lw_un w_246 rfl)⟩)⟩
theorem li_X11_359 : LkFI RX11 359 0 11 111 := ⟨lf_X11_359, rfl, 0, rfl, by decide⟩
theorem lq_X11_359 : LkPI RX11 359 0 11 111 0 := ⟨⟨RX0, TX0, 13, tyX0, rfl, by decide, uw0, rfl, (Or.inr ⟨"NewsreelHouse", (lw_un w_246 rfl)⟩), tyX0_ok, nmX0, rfl, Or.inl ⟨rfl, rfl⟩⟩, rfl, rfl⟩
theorem lf_X11_362 : LkF RX11 362 0 12 := ⟨RX0, TX0, 13, rfl, by decide, uw0, rfl, (Or.inr ⟨"NewsreelHouse", (lw_un w_248 rfl)⟩)⟩
theorem li_X11_362 : LkFI RX11 362 0 12 112 := ⟨lf_X11_362, rfl, 0, rfl, by decide⟩
theorem lq_X11_362 : LkPI RX11 362 0 12 112 0 := ⟨⟨RX0, TX0, 13, tyX0, rfl, by decide, uw0, rfl, (Or.inr ⟨"NewsreelHouse", (lw_un w_248 rfl)⟩), tyX0_ok, nmX0, rfl, Or.inl ⟨rfl, rfl⟩⟩, rfl, rfl⟩
theorem lf_X11_379 : LkF RX11 379 2 0 := ⟨RX2, TX2, 9, rfl, by decide, uw2, rfl, (Or.inr ⟨"NewsreelHouse", (lw_un w_283 rfl)⟩)⟩
theorem li_X11_379 : LkFI RX11 379 2 0 300 := ⟨lf_X11_379, rfl, 0, rfl, by decide⟩
theorem lq_X11_379 : LkPI RX11 379 2 0 300 0 := ⟨⟨RX2, TX2, 9, tyX2, rfl, by decide, uw2, rfl, (Or.inr ⟨"NewsreelHouse", (lw_un w_283 rfl)⟩), tyX2_ok, nmX2, rfl, Or.inl ⟨rfl, rfl⟩⟩, rfl, rfl⟩
theorem lf_X0_9 : LkF RX0 9 0 0 := ⟨RX0, TX0, 13, rfl, by decide, uw0, rfl, (Or.inl (lw_ug w_232 rfl))⟩
theorem li_X0_9 : LkFA RX0 9 0 0 100 := ⟨lf_X0_9, rfl, rfl⟩
theorem lf_X0_15 : LkF RX0 15 0 1 := ⟨RX0, TX0, 13, rfl, by decide, uw0, rfl, (Or.inl (lw_ug w_233 rfl))⟩
theorem li_X0_15 : LkFA RX0 15 0 1 101 := ⟨lf_X0_15, rfl, rfl⟩
theorem lf_X0_18 : LkF RX0 18 0 3 := ⟨RX0, TX0, 13, rfl, by decide, uw0, rfl, (Or.inl (lw_ug w_236 rfl))⟩
theorem li_X0_18 : LkFA RX0 18 0 3 103 := ⟨lf_X0_18, rfl, rfl⟩
theorem lf_X0_21 : LkF RX0 21 0 4 := ⟨RX0, TX0, 13, rfl, by decide, uw0, rfl, (Or.inl (lw_ug w_237 rfl))⟩
theorem li_X0_21 : LkFA RX0 21 0 4 104 := ⟨lf_X0_21, rfl, rfl⟩
theorem lf_X0_24 : LkF RX0 24 0 5 := ⟨RX0, TX0, 13, rfl, by decide, uw0, rfl, (Or.inl (lw_ug w_238 rfl))⟩
theorem li_X0_24 : LkFA RX0 24 0 5 105 := ⟨lf_X0_24, rfl, rfl⟩
theorem lf_X0_27 : LkF RX0 27 0 6 := ⟨RX0, TX0, 13, rfl, by decide, uw0, rfl, (Or.inl (lw_ug w_239 rfl))⟩
theorem li_X0_27 : LkFA RX0 27 0 6 106 := ⟨lf_X0_27, rfl, rfl⟩
theorem lf_X0_30 : LkF RX0 30 0 7 := ⟨RX0, TX0, 13, rfl, by decide, uw0, rfl, (Or.inl (lw_ug w_240 rfl))⟩
theorem li_X0_30 : LkFA RX0 30 0 7 107 := ⟨lf_X0_30, rfl, rfl⟩
theorem lf_X0_33 : LkF RX0 33 0 8 := ⟨RX0, TX0, 13, rfl, by decide, uw0, rfl, (Or.inl (lw_ug w_241 rfl))⟩
theorem li_X0_33 : LkFA RX0 33 0 8 108 := ⟨lf_X0_33, rfl, rfl⟩
theorem lf_X0_37 : LkF RX0 37 0 9 := ⟨RX0, TX0, 13, rfl, by decide, uw0, rfl, (Or.inl (lw_ug w_242 rfl))⟩
theorem li_X0_37 : LkFA RX0 37 0 9 109 := ⟨lf_X0_37, rfl, rfl⟩
theorem lf_X0_40 : LkF RX0 40 0 2 := ⟨RX0, TX0, 13, rfl, by decide, uw0, rfl, (Or.inl (lw_ug w_234 rfl))⟩
theorem li_X0_40 : LkFI RX0 40 0 2 102 := ⟨lf_X0_40, rfl, 0, rfl, by decide⟩
theorem lq_X0_40 : LkPI RX0 40 0 2 102 0 := ⟨⟨RX0, TX0, 13, tyX0, rfl, by decide, uw0, rfl, (Or.inl (lw_ug w_234 rfl)), tyX0_ok, nmX0, rfl, Or.inl ⟨rfl, rfl⟩⟩, rfl, rfl⟩
theorem lf_X0_88 : LkF RX0 88 0 10 := ⟨RX0, TX0, 13, rfl, by decide, uw0, rfl, (Or.inl (lw_ug w_243 rfl))⟩
theorem li_X0_88 : LkFI RX0 88 0 10 110 := ⟨lf_X0_88, rfl, 0, rfl, by decide⟩
theorem lq_X0_88 : LkPI RX0 88 0 10 110 0 := ⟨⟨RX0, TX0, 13, tyX0, rfl, by decide, uw0, rfl, (Or.inl (lw_ug w_243 rfl)), tyX0_ok, nmX0, rfl, Or.inl ⟨rfl, rfl⟩⟩, rfl, rfl⟩
theorem lf_X0_91 : LkF RX0 91 0 11 := ⟨RX0, TX0, 13, rfl, by decide, uw0, rfl, (Or.inl (lw_ug w_245 rfl))⟩
theorem li_X0_91 : LkFI RX0 91 0 11 111 := ⟨lf_X0_91, rfl, 0, rfl, by decide⟩
theorem lq_X0_91 : LkPI RX0 91 0 11 111 0 := ⟨⟨RX0, TX0, 13, tyX0, rfl, by decide, uw0, rfl, (Or.inl (lw_ug w_245 rfl)), tyX0_ok, nmX0, rfl, Or.inl ⟨rfl, rfl⟩⟩, rfl, rfl⟩
theorem lf_X0_94 : LkF RX0 94 0 12 := ⟨RX0, TX0, 13, rfl, by decide, uw0, rfl, (Or.inl (lw_ug w_247 rfl))⟩
theorem li_X0_94 : LkFI RX0 94 0 12 112 := ⟨lf_X0_94, rfl, 0, rfl, by decide⟩
theorem lq_X0_94 : LkPI RX0 94 0 12 112 0 := ⟨⟨RX0, TX0, 13, tyX0, rfl, by decide, uw0, rfl, (Or.inl (lw_ug w_247 rfl)), tyX0_ok, nmX0, rfl, Or.inl ⟨rfl, rfl⟩⟩, rfl, rfl⟩
theorem lf_X1_9 : LkF RX1 9 1 0 := ⟨RX1, TX1, 3, rfl, by decide, uw1, rfl, (Or.inl (lw_ug w_122 rfl))⟩
theorem li_X1_9 : LkFA RX1 9 1 0 200 := ⟨lf_X1_9, rfl, rfl⟩
theorem lf_X1_15 : LkF RX1 15 1 1 := ⟨RX1, TX1, 3, rfl, by decide, uw1, rfl, (Or.inl (lw_ug w_123 rfl))⟩
theorem li_X1_15 : LkFA RX1 15 1 1 201 := ⟨lf_X1_15, rfl, rfl⟩
theorem lf_X1_18 : LkF RX1 18 1 2 := ⟨RX1, TX1, 3, rfl, by decide, uw1, rfl, (Or.inl (lw_ug w_124 rfl))⟩
theorem li_X1_18 : LkFA RX1 18 1 2 202 := ⟨lf_X1_18, rfl, rfl⟩
theorem lf_X2_9 : LkF RX2 9 2 1 := ⟨RX2, TX2, 9, rfl, by decide, uw2, rfl, (Or.inl (lw_ug w_284 rfl))⟩
theorem li_X2_9 : LkFA RX2 9 2 1 301 := ⟨lf_X2_9, rfl, rfl⟩
theorem lf_X2_15 : LkF RX2 15 2 2 := ⟨RX2, TX2, 9, rfl, by decide, uw2, rfl, (Or.inl (lw_ug w_285 rfl))⟩
theorem li_X2_15 : LkFA RX2 15 2 2 302 := ⟨lf_X2_15, rfl, rfl⟩
theorem lf_X2_18 : LkF RX2 18 2 3 := ⟨RX2, TX2, 9, rfl, by decide, uw2, rfl, (Or.inl (lw_ug w_286 rfl))⟩
theorem li_X2_18 : LkFA RX2 18 2 3 303 := ⟨lf_X2_18, rfl, rfl⟩
theorem lf_X2_21 : LkF RX2 21 2 4 := ⟨RX2, TX2, 9, rfl, by decide, uw2, rfl, (Or.inl (lw_ug w_287 rfl))⟩
theorem li_X2_21 : LkFA RX2 21 2 4 304 := ⟨lf_X2_21, rfl, rfl⟩
theorem lf_X2_24 : LkF RX2 24 2 5 := ⟨RX2, TX2, 9, rfl, by decide, uw2, rfl, (Or.inl (lw_ug w_288 rfl))⟩
theorem li_X2_24 : LkFI RX2 24 2 5 305 := ⟨lf_X2_24, rfl, 0, rfl, by decide⟩
theorem lq_X2_24 : LkPI RX2 24 2 5 305 0 := ⟨⟨RX2, TX2, 9, tyX2, rfl, by decide, uw2, rfl, (Or.inl (lw_ug w_288 rfl)), tyX2_ok, nmX2, rfl, Or.inl ⟨rfl, rfl⟩⟩, rfl, rfl⟩
theorem lf_X2_28 : LkF RX2 28 2 6 := ⟨RX2, TX2, 9, rfl, by decide, uw2, rfl, (Or.inl (lw_ug w_289 rfl))⟩
theorem li_X2_28 : LkFA RX2 28 2 6 306 := ⟨lf_X2_28, rfl, rfl⟩
theorem lf_X2_32 : LkF RX2 32 2 7 := ⟨RX2, TX2, 9, rfl, by decide, uw2, rfl, (Or.inl (lw_ug w_290 rfl))⟩
theorem li_X2_32 : LkFA RX2 32 2 7 307 := ⟨lf_X2_32, rfl, rfl⟩
theorem lf_X2_35 : LkF RX2 35 2 0 := ⟨RX2, TX2, 9, rfl, by decide, uw2, rfl, (Or.inl (lw_ug w_282 rfl))⟩
theorem li_X2_35 : LkFI RX2 35 2 0 300 := ⟨lf_X2_35, rfl, 0, rfl, by decide⟩
theorem lq_X2_35 : LkPI RX2 35 2 0 300 0 := ⟨⟨RX2, TX2, 9, tyX2, rfl, by decide, uw2, rfl, (Or.inl (lw_ug w_282 rfl)), tyX2_ok, nmX2, rfl, Or.inl ⟨rfl, rfl⟩⟩, rfl, rfl⟩
theorem lf_X2_38 : LkF RX2 38 2 8 := ⟨RX2, TX2, 9, rfl, by decide, uw2, rfl, (Or.inl (lw_ug w_291 rfl))⟩
theorem li_X2_38 : LkFI RX2 38 2 8 308 := ⟨lf_X2_38, rfl, 1, rfl, by decide⟩
theorem lq_X2_38 : LkPI RX2 38 2 8 308 1 := ⟨⟨RX2, TX2, 9, tyX2, rfl, by decide, uw2, rfl, (Or.inl (lw_ug w_291 rfl)), tyX2_ok, nmX2, rfl, Or.inr ⟨rfl, rfl⟩⟩, rfl, rfl⟩
theorem lz_X2_78 : Cond.fieldLink RX2 78 RX2 "TENS" "[I" ∈ lw_u := (lw_ug w_1141 rfl)
theorem lf_X3_9 : LkF RX3 9 3 0 := ⟨RX3, TX3, 10, rfl, by decide, uw3, rfl, (Or.inl (lw_ug w_144 rfl))⟩
theorem li_X3_9 : LkFA RX3 9 3 0 400 := ⟨lf_X3_9, rfl, rfl⟩
theorem lf_X3_15 : LkF RX3 15 3 1 := ⟨RX3, TX3, 10, rfl, by decide, uw3, rfl, (Or.inl (lw_ug w_145 rfl))⟩
theorem li_X3_15 : LkFA RX3 15 3 1 401 := ⟨lf_X3_15, rfl, rfl⟩
theorem lf_X3_19 : LkF RX3 19 3 2 := ⟨RX3, TX3, 10, rfl, by decide, uw3, rfl, (Or.inl (lw_ug w_146 rfl))⟩
theorem li_X3_19 : LkFA RX3 19 3 2 402 := ⟨lf_X3_19, rfl, rfl⟩
theorem lf_X3_22 : LkF RX3 22 3 3 := ⟨RX3, TX3, 10, rfl, by decide, uw3, rfl, (Or.inl (lw_ug w_147 rfl))⟩
theorem li_X3_22 : LkFA RX3 22 3 3 403 := ⟨lf_X3_22, rfl, rfl⟩
theorem lf_X3_25 : LkF RX3 25 8 0 := ⟨RX8, TX8, 8, rfl, by decide, uw8, rfl, (Or.inl (lw_ug w_623 rfl))⟩
theorem li_X3_25 : LkFI RX3 25 8 0 900 := ⟨lf_X3_25, rfl, 0, rfl, by decide⟩
theorem lf_X3_31 : LkF RX3 31 8 1 := ⟨RX8, TX8, 8, rfl, by decide, uw8, rfl, (Or.inl (lw_ug w_627 rfl))⟩
theorem li_X3_31 : LkFI RX3 31 8 1 901 := ⟨lf_X3_31, rfl, 0, rfl, by decide⟩
theorem lf_X3_38 : LkF RX3 38 8 6 := ⟨RX8, TX8, 8, rfl, by decide, uw8, rfl, (Or.inr ⟨"NewsreelHouse", (lw_un w_634 rfl)⟩)⟩
theorem li_X3_38 : LkFI RX3 38 8 6 906 := ⟨lf_X3_38, rfl, 1, rfl, by decide⟩
theorem lq_X3_38 : LkPI RX3 38 8 6 906 1 := ⟨⟨RX8, TX8, 8, tyX8, rfl, by decide, uw8, rfl, (Or.inr ⟨"NewsreelHouse", (lw_un w_634 rfl)⟩), tyX8_ok, nmX8, rfl, Or.inr ⟨rfl, rfl⟩⟩, rfl, rfl⟩
theorem lf_X3_45 : LkF RX3 45 3 4 := ⟨RX3, TX3, 10, rfl, by decide, uw3, rfl, (Or.inl (lw_ug w_148 rfl))⟩
theorem li_X3_45 : LkFI RX3 45 3 4 404 := ⟨lf_X3_45, rfl, 0, rfl, by decide⟩
theorem lq_X3_45 : LkPI RX3 45 3 4 404 0 := ⟨⟨RX3, TX3, 10, tyX3, rfl, by decide, uw3, rfl, (Or.inl (lw_ug w_148 rfl)), tyX3_ok, nmX3, rfl, Or.inl ⟨rfl, rfl⟩⟩, rfl, rfl⟩
theorem lf_X3_51 : LkF RX3 51 6 3 := ⟨RX6, TX6, 4, rfl, by decide, uw6, rfl, (Or.inr ⟨"NewsreelHouse", (lw_un w_757 rfl)⟩)⟩
theorem li_X3_51 : LkFI RX3 51 6 3 703 := ⟨lf_X3_51, rfl, 0, rfl, by decide⟩
theorem lq_X3_51 : LkPI RX3 51 6 3 703 0 := ⟨⟨RX6, TX6, 4, tyX6, rfl, by decide, uw6, rfl, (Or.inr ⟨"NewsreelHouse", (lw_un w_757 rfl)⟩), tyX6_ok, nmX6, rfl, Or.inl ⟨rfl, rfl⟩⟩, rfl, rfl⟩
theorem lf_X3_56 : LkF RX3 56 6 2 := ⟨RX6, TX6, 4, rfl, by decide, uw6, rfl, (Or.inr ⟨"NewsreelHouse", (lw_un w_755 rfl)⟩)⟩
theorem li_X3_56 : LkFA RX3 56 6 2 702 := ⟨lf_X3_56, rfl, rfl⟩
theorem lf_X3_66 : LkF RX3 66 3 5 := ⟨RX3, TX3, 10, rfl, by decide, uw3, rfl, (Or.inl (lw_ug w_149 rfl))⟩
theorem li_X3_66 : LkFI RX3 66 3 5 405 := ⟨lf_X3_66, rfl, 0, rfl, by decide⟩
theorem lq_X3_66 : LkPI RX3 66 3 5 405 0 := ⟨⟨RX3, TX3, 10, tyX3, rfl, by decide, uw3, rfl, (Or.inl (lw_ug w_149 rfl)), tyX3_ok, nmX3, rfl, Or.inl ⟨rfl, rfl⟩⟩, rfl, rfl⟩
theorem lf_X3_72 : LkF RX3 72 3 9 := ⟨RX3, TX3, 10, rfl, by decide, uw3, rfl, (Or.inl (lw_ug w_153 rfl))⟩
theorem li_X3_72 : LkFI RX3 72 3 9 409 := ⟨lf_X3_72, rfl, 0, rfl, by decide⟩
theorem lq_X3_72 : LkPI RX3 72 3 9 409 0 := ⟨⟨RX3, TX3, 10, tyX3, rfl, by decide, uw3, rfl, (Or.inl (lw_ug w_153 rfl)), tyX3_ok, nmX3, rfl, Or.inl ⟨rfl, rfl⟩⟩, rfl, rfl⟩
theorem lf_X3_91 : LkF RX3 91 3 6 := ⟨RX3, TX3, 10, rfl, by decide, uw3, rfl, (Or.inl (lw_ug w_150 rfl))⟩
theorem li_X3_91 : LkFI RX3 91 3 6 406 := ⟨lf_X3_91, rfl, 0, rfl, by decide⟩
theorem lq_X3_91 : LkPI RX3 91 3 6 406 0 := ⟨⟨RX3, TX3, 10, tyX3, rfl, by decide, uw3, rfl, (Or.inl (lw_ug w_150 rfl)), tyX3_ok, nmX3, rfl, Or.inl ⟨rfl, rfl⟩⟩, rfl, rfl⟩
theorem lf_X3_94 : LkF RX3 94 3 7 := ⟨RX3, TX3, 10, rfl, by decide, uw3, rfl, (Or.inl (lw_ug w_151 rfl))⟩
theorem li_X3_94 : LkFI RX3 94 3 7 407 := ⟨lf_X3_94, rfl, 0, rfl, by decide⟩
theorem lq_X3_94 : LkPI RX3 94 3 7 407 0 := ⟨⟨RX3, TX3, 10, tyX3, rfl, by decide, uw3, rfl, (Or.inl (lw_ug w_151 rfl)), tyX3_ok, nmX3, rfl, Or.inl ⟨rfl, rfl⟩⟩, rfl, rfl⟩
theorem lf_X3_97 : LkF RX3 97 3 8 := ⟨RX3, TX3, 10, rfl, by decide, uw3, rfl, (Or.inl (lw_ug w_152 rfl))⟩
theorem li_X3_97 : LkFI RX3 97 3 8 408 := ⟨lf_X3_97, rfl, 0, rfl, by decide⟩
theorem lq_X3_97 : LkPI RX3 97 3 8 408 0 := ⟨⟨RX3, TX3, 10, tyX3, rfl, by decide, uw3, rfl, (Or.inl (lw_ug w_152 rfl)), tyX3_ok, nmX3, rfl, Or.inl ⟨rfl, rfl⟩⟩, rfl, rfl⟩
theorem lf_X4_9 : LkF RX4 9 4 0 := ⟨RX4, TX4, 13, rfl, by decide, uw4, rfl, (Or.inl (lw_ug w_184 rfl))⟩
theorem li_X4_9 : LkFI RX4 9 4 0 500 := ⟨lf_X4_9, rfl, 0, rfl, by decide⟩
theorem lq_X4_9 : LkPI RX4 9 4 0 500 0 := ⟨⟨RX4, TX4, 13, tyX4, rfl, by decide, uw4, rfl, (Or.inl (lw_ug w_184 rfl)), tyX4_ok, nmX4, rfl, Or.inl ⟨rfl, rfl⟩⟩, rfl, rfl⟩
theorem lf_X4_15 : LkF RX4 15 4 1 := ⟨RX4, TX4, 13, rfl, by decide, uw4, rfl, (Or.inl (lw_ug w_185 rfl))⟩
theorem li_X4_15 : LkFI RX4 15 4 1 501 := ⟨lf_X4_15, rfl, 0, rfl, by decide⟩
theorem lq_X4_15 : LkPI RX4 15 4 1 501 0 := ⟨⟨RX4, TX4, 13, tyX4, rfl, by decide, uw4, rfl, (Or.inl (lw_ug w_185 rfl)), tyX4_ok, nmX4, rfl, Or.inl ⟨rfl, rfl⟩⟩, rfl, rfl⟩
theorem lf_X4_18 : LkF RX4 18 4 2 := ⟨RX4, TX4, 13, rfl, by decide, uw4, rfl, (Or.inl (lw_ug w_186 rfl))⟩
theorem li_X4_18 : LkFA RX4 18 4 2 502 := ⟨lf_X4_18, rfl, rfl⟩
theorem lf_X4_22 : LkF RX4 22 4 8 := ⟨RX4, TX4, 13, rfl, by decide, uw4, rfl, (Or.inl (lw_ug w_193 rfl))⟩
theorem li_X4_22 : LkFA RX4 22 4 8 508 := ⟨lf_X4_22, rfl, rfl⟩
theorem lf_X4_25 : LkF RX4 25 4 9 := ⟨RX4, TX4, 13, rfl, by decide, uw4, rfl, (Or.inl (lw_ug w_194 rfl))⟩
theorem li_X4_25 : LkFA RX4 25 4 9 509 := ⟨lf_X4_25, rfl, rfl⟩
theorem lf_X4_28 : LkF RX4 28 4 10 := ⟨RX4, TX4, 13, rfl, by decide, uw4, rfl, (Or.inl (lw_ug w_195 rfl))⟩
theorem li_X4_28 : LkFA RX4 28 4 10 510 := ⟨lf_X4_28, rfl, rfl⟩
theorem lf_X4_43 : LkF RX4 43 4 4 := ⟨RX4, TX4, 13, rfl, by decide, uw4, rfl, (Or.inl (lw_ug w_189 rfl))⟩
theorem li_X4_43 : LkFI RX4 43 4 4 504 := ⟨lf_X4_43, rfl, 0, rfl, by decide⟩
theorem lq_X4_43 : LkPI RX4 43 4 4 504 0 := ⟨⟨RX4, TX4, 13, tyX4, rfl, by decide, uw4, rfl, (Or.inl (lw_ug w_189 rfl)), tyX4_ok, nmX4, rfl, Or.inl ⟨rfl, rfl⟩⟩, rfl, rfl⟩
theorem lf_X4_46 : LkF RX4 46 4 5 := ⟨RX4, TX4, 13, rfl, by decide, uw4, rfl, (Or.inl (lw_ug w_190 rfl))⟩
theorem li_X4_46 : LkFI RX4 46 4 5 505 := ⟨lf_X4_46, rfl, 0, rfl, by decide⟩
theorem lq_X4_46 : LkPI RX4 46 4 5 505 0 := ⟨⟨RX4, TX4, 13, tyX4, rfl, by decide, uw4, rfl, (Or.inl (lw_ug w_190 rfl)), tyX4_ok, nmX4, rfl, Or.inl ⟨rfl, rfl⟩⟩, rfl, rfl⟩
theorem lf_X4_49 : LkF RX4 49 4 6 := ⟨RX4, TX4, 13, rfl, by decide, uw4, rfl, (Or.inl (lw_ug w_191 rfl))⟩
theorem li_X4_49 : LkFI RX4 49 4 6 506 := ⟨lf_X4_49, rfl, 0, rfl, by decide⟩
theorem lq_X4_49 : LkPI RX4 49 4 6 506 0 := ⟨⟨RX4, TX4, 13, tyX4, rfl, by decide, uw4, rfl, (Or.inl (lw_ug w_191 rfl)), tyX4_ok, nmX4, rfl, Or.inl ⟨rfl, rfl⟩⟩, rfl, rfl⟩
theorem lf_X4_52 : LkF RX4 52 4 7 := ⟨RX4, TX4, 13, rfl, by decide, uw4, rfl, (Or.inl (lw_ug w_192 rfl))⟩
theorem li_X4_52 : LkFI RX4 52 4 7 507 := ⟨lf_X4_52, rfl, 0, rfl, by decide⟩
theorem lq_X4_52 : LkPI RX4 52 4 7 507 0 := ⟨⟨RX4, TX4, 13, tyX4, rfl, by decide, uw4, rfl, (Or.inl (lw_ug w_192 rfl)), tyX4_ok, nmX4, rfl, Or.inl ⟨rfl, rfl⟩⟩, rfl, rfl⟩
theorem lf_X4_55 : LkF RX4 55 8 7 := ⟨RX8, TX8, 8, rfl, by decide, uw8, rfl, (Or.inr ⟨"NewsreelHouse", (lw_un w_636 rfl)⟩)⟩
theorem li_X4_55 : LkFI RX4 55 8 7 907 := ⟨lf_X4_55, rfl, 1, rfl, by decide⟩
theorem lq_X4_55 : LkPI RX4 55 8 7 907 1 := ⟨⟨RX8, TX8, 8, tyX8, rfl, by decide, uw8, rfl, (Or.inr ⟨"NewsreelHouse", (lw_un w_636 rfl)⟩), tyX8_ok, nmX8, rfl, Or.inr ⟨rfl, rfl⟩⟩, rfl, rfl⟩
theorem lf_X4_65 : LkF RX4 65 4 3 := ⟨RX4, TX4, 13, rfl, by decide, uw4, rfl, (Or.inl (lw_ug w_187 rfl))⟩
theorem li_X4_65 : LkFI RX4 65 4 3 503 := ⟨lf_X4_65, rfl, 0, rfl, by decide⟩
theorem lq_X4_65 : LkPI RX4 65 4 3 503 0 := ⟨⟨RX4, TX4, 13, tyX4, rfl, by decide, uw4, rfl, (Or.inl (lw_ug w_187 rfl)), tyX4_ok, nmX4, rfl, Or.inl ⟨rfl, rfl⟩⟩, rfl, rfl⟩
theorem lf_X4_68 : LkF RX4 68 8 0 := ⟨RX8, TX8, 8, rfl, by decide, uw8, rfl, (Or.inl (lw_ug w_624 rfl))⟩
theorem li_X4_68 : LkFI RX4 68 8 0 900 := ⟨lf_X4_68, rfl, 0, rfl, by decide⟩
theorem lf_X4_71 : LkF RX4 71 8 3 := ⟨RX8, TX8, 8, rfl, by decide, uw8, rfl, (Or.inl (lw_ug w_630 rfl))⟩
theorem li_X4_71 : LkFI RX4 71 8 3 903 := ⟨lf_X4_71, rfl, 0, rfl, by decide⟩
theorem lf_X4_87 : LkF RX4 87 4 11 := ⟨RX4, TX4, 13, rfl, by decide, uw4, rfl, (Or.inl (lw_ug w_196 rfl))⟩
theorem li_X4_87 : LkFI RX4 87 4 11 511 := ⟨lf_X4_87, rfl, 0, rfl, by decide⟩
theorem lq_X4_87 : LkPI RX4 87 4 11 511 0 := ⟨⟨RX4, TX4, 13, tyX4, rfl, by decide, uw4, rfl, (Or.inl (lw_ug w_196 rfl)), tyX4_ok, nmX4, rfl, Or.inl ⟨rfl, rfl⟩⟩, rfl, rfl⟩
theorem lf_X4_90 : LkF RX4 90 4 12 := ⟨RX4, TX4, 13, rfl, by decide, uw4, rfl, (Or.inl (lw_ug w_198 rfl))⟩
theorem li_X4_90 : LkFI RX4 90 4 12 512 := ⟨lf_X4_90, rfl, 0, rfl, by decide⟩
theorem lq_X4_90 : LkPI RX4 90 4 12 512 0 := ⟨⟨RX4, TX4, 13, tyX4, rfl, by decide, uw4, rfl, (Or.inl (lw_ug w_198 rfl)), tyX4_ok, nmX4, rfl, Or.inl ⟨rfl, rfl⟩⟩, rfl, rfl⟩
theorem lz_X4_97 : Cond.fieldLink RX4 97 RX4 "NINES" "[I" ∈ lw_u := (lw_ug w_978 rfl)
theorem lf_X5_7 : LkF RX5 7 5 0 := ⟨RX5, TX5, 5, rfl, by decide, uw5, rfl, (Or.inl (lw_ug w_881 rfl))⟩
theorem li_X5_7 : LkFI RX5 7 5 0 600 := ⟨lf_X5_7, rfl, 0, rfl, by decide⟩
theorem lf_X5_13 : LkF RX5 13 5 1 := ⟨RX5, TX5, 5, rfl, by decide, uw5, rfl, (Or.inl (lw_ug w_882 rfl))⟩
theorem li_X5_13 : LkFI RX5 13 5 1 601 := ⟨lf_X5_13, rfl, 0, rfl, by decide⟩
theorem lf_X5_16 : LkF RX5 16 5 2 := ⟨RX5, TX5, 5, rfl, by decide, uw5, rfl, (Or.inl (lw_ug w_883 rfl))⟩
theorem li_X5_16 : LkFI RX5 16 5 2 602 := ⟨lf_X5_16, rfl, 0, rfl, by decide⟩
theorem lf_X5_19 : LkF RX5 19 5 3 := ⟨RX5, TX5, 5, rfl, by decide, uw5, rfl, (Or.inl (lw_ug w_884 rfl))⟩
theorem li_X5_19 : LkFI RX5 19 5 3 603 := ⟨lf_X5_19, rfl, 0, rfl, by decide⟩
theorem lf_X5_22 : LkF RX5 22 5 4 := ⟨RX5, TX5, 5, rfl, by decide, uw5, rfl, (Or.inl (lw_ug w_885 rfl))⟩
theorem li_X5_22 : LkFI RX5 22 5 4 604 := ⟨lf_X5_22, rfl, 0, rfl, by decide⟩
theorem lq_X5_22 : LkPI RX5 22 5 4 604 0 := ⟨⟨RX5, TX5, 5, tyX5, rfl, by decide, uw5, rfl, (Or.inl (lw_ug w_885 rfl)), tyX5_ok, nmX5, rfl, Or.inl ⟨rfl, rfl⟩⟩, rfl, rfl⟩
theorem lf_X6_10 : LkF RX6 10 6 1 := ⟨RX6, TX6, 4, rfl, by decide, uw6, rfl, (Or.inl (lw_ug w_752 rfl))⟩
theorem li_X6_10 : LkFI RX6 10 6 1 701 := ⟨lf_X6_10, rfl, 0, rfl, by decide⟩
theorem lq_X6_10 : LkPI RX6 10 6 1 701 0 := ⟨⟨RX6, TX6, 4, tyX6, rfl, by decide, uw6, rfl, (Or.inl (lw_ug w_752 rfl)), tyX6_ok, nmX6, rfl, Or.inl ⟨rfl, rfl⟩⟩, rfl, rfl⟩
theorem lf_X6_16 : LkF RX6 16 6 2 := ⟨RX6, TX6, 4, rfl, by decide, uw6, rfl, (Or.inl (lw_ug w_754 rfl))⟩
theorem li_X6_16 : LkFA RX6 16 6 2 702 := ⟨lf_X6_16, rfl, rfl⟩
theorem lf_X6_20 : LkF RX6 20 6 0 := ⟨RX6, TX6, 4, rfl, by decide, uw6, rfl, (Or.inl (lw_ug w_751 rfl))⟩
theorem li_X6_20 : LkFI RX6 20 6 0 700 := ⟨lf_X6_20, rfl, 0, rfl, by decide⟩
theorem lf_X6_27 : LkF RX6 27 6 3 := ⟨RX6, TX6, 4, rfl, by decide, uw6, rfl, (Or.inl (lw_ug w_756 rfl))⟩
theorem li_X6_27 : LkFI RX6 27 6 3 703 := ⟨lf_X6_27, rfl, 0, rfl, by decide⟩
theorem lq_X6_27 : LkPI RX6 27 6 3 703 0 := ⟨⟨RX6, TX6, 4, tyX6, rfl, by decide, uw6, rfl, (Or.inl (lw_ug w_756 rfl)), tyX6_ok, nmX6, rfl, Or.inl ⟨rfl, rfl⟩⟩, rfl, rfl⟩
theorem lf_X7_10 : LkF RX7 10 7 8 := ⟨RX7, TX7, 13, rfl, by decide, uw7, rfl, (Or.inl (lw_ug w_497 rfl))⟩
theorem li_X7_10 : LkFI RX7 10 7 8 808 := ⟨lf_X7_10, rfl, 0, rfl, by decide⟩
theorem lq_X7_10 : LkPI RX7 10 7 8 808 0 := ⟨⟨RX7, TX7, 13, tyX7, rfl, by decide, uw7, rfl, (Or.inl (lw_ug w_497 rfl)), tyX7_ok, nmX7, rfl, Or.inl ⟨rfl, rfl⟩⟩, rfl, rfl⟩
theorem lf_X7_16 : LkF RX7 16 7 9 := ⟨RX7, TX7, 13, rfl, by decide, uw7, rfl, (Or.inl (lw_ug w_499 rfl))⟩
theorem li_X7_16 : LkFI RX7 16 7 9 809 := ⟨lf_X7_16, rfl, 0, rfl, by decide⟩
theorem lq_X7_16 : LkPI RX7 16 7 9 809 0 := ⟨⟨RX7, TX7, 13, tyX7, rfl, by decide, uw7, rfl, (Or.inl (lw_ug w_499 rfl)), tyX7_ok, nmX7, rfl, Or.inl ⟨rfl, rfl⟩⟩, rfl, rfl⟩
theorem lf_X7_19 : LkF RX7 19 7 10 := ⟨RX7, TX7, 13, rfl, by decide, uw7, rfl, (Or.inl (lw_ug w_501 rfl))⟩
theorem li_X7_19 : LkFI RX7 19 7 10 810 := ⟨lf_X7_19, rfl, 0, rfl, by decide⟩
theorem lq_X7_19 : LkPI RX7 19 7 10 810 0 := ⟨⟨RX7, TX7, 13, tyX7, rfl, by decide, uw7, rfl, (Or.inl (lw_ug w_501 rfl)), tyX7_ok, nmX7, rfl, Or.inl ⟨rfl, rfl⟩⟩, rfl, rfl⟩
theorem lf_X7_22 : LkF RX7 22 7 11 := ⟨RX7, TX7, 13, rfl, by decide, uw7, rfl, (Or.inl (lw_ug w_503 rfl))⟩
theorem li_X7_22 : LkFI RX7 22 7 11 811 := ⟨lf_X7_22, rfl, 0, rfl, by decide⟩
theorem lq_X7_22 : LkPI RX7 22 7 11 811 0 := ⟨⟨RX7, TX7, 13, tyX7, rfl, by decide, uw7, rfl, (Or.inl (lw_ug w_503 rfl)), tyX7_ok, nmX7, rfl, Or.inl ⟨rfl, rfl⟩⟩, rfl, rfl⟩
theorem lf_X7_25 : LkF RX7 25 7 12 := ⟨RX7, TX7, 13, rfl, by decide, uw7, rfl, (Or.inl (lw_ug w_505 rfl))⟩
theorem li_X7_25 : LkFI RX7 25 7 12 812 := ⟨lf_X7_25, rfl, 0, rfl, by decide⟩
theorem lq_X7_25 : LkPI RX7 25 7 12 812 0 := ⟨⟨RX7, TX7, 13, tyX7, rfl, by decide, uw7, rfl, (Or.inl (lw_ug w_505 rfl)), tyX7_ok, nmX7, rfl, Or.inl ⟨rfl, rfl⟩⟩, rfl, rfl⟩
theorem lf_X7_28 : LkF RX7 28 7 0 := ⟨RX7, TX7, 13, rfl, by decide, uw7, rfl, (Or.inl (lw_ug w_477 rfl))⟩
theorem li_X7_28 : LkFI RX7 28 7 0 800 := ⟨lf_X7_28, rfl, 0, rfl, by decide⟩
theorem lf_X7_31 : LkF RX7 31 7 1 := ⟨RX7, TX7, 13, rfl, by decide, uw7, rfl, (Or.inl (lw_ug w_480 rfl))⟩
theorem li_X7_31 : LkFI RX7 31 7 1 801 := ⟨lf_X7_31, rfl, 0, rfl, by decide⟩
theorem lf_X7_34 : LkF RX7 34 7 2 := ⟨RX7, TX7, 13, rfl, by decide, uw7, rfl, (Or.inl (lw_ug w_482 rfl))⟩
theorem li_X7_34 : LkFI RX7 34 7 2 802 := ⟨lf_X7_34, rfl, 0, rfl, by decide⟩
theorem lf_X7_37 : LkF RX7 37 7 3 := ⟨RX7, TX7, 13, rfl, by decide, uw7, rfl, (Or.inl (lw_ug w_485 rfl))⟩
theorem li_X7_37 : LkFI RX7 37 7 3 803 := ⟨lf_X7_37, rfl, 0, rfl, by decide⟩
theorem lf_X7_40 : LkF RX7 40 7 4 := ⟨RX7, TX7, 13, rfl, by decide, uw7, rfl, (Or.inl (lw_ug w_488 rfl))⟩
theorem li_X7_40 : LkFI RX7 40 7 4 804 := ⟨lf_X7_40, rfl, 0, rfl, by decide⟩
theorem lf_X7_43 : LkF RX7 43 7 5 := ⟨RX7, TX7, 13, rfl, by decide, uw7, rfl, (Or.inl (lw_ug w_490 rfl))⟩
theorem li_X7_43 : LkFI RX7 43 7 5 805 := ⟨lf_X7_43, rfl, 0, rfl, by decide⟩
theorem lf_X7_46 : LkF RX7 46 7 6 := ⟨RX7, TX7, 13, rfl, by decide, uw7, rfl, (Or.inl (lw_ug w_493 rfl))⟩
theorem li_X7_46 : LkFI RX7 46 7 6 806 := ⟨lf_X7_46, rfl, 0, rfl, by decide⟩
theorem lf_X7_49 : LkF RX7 49 7 7 := ⟨RX7, TX7, 13, rfl, by decide, uw7, rfl, (Or.inl (lw_ug w_496 rfl))⟩
theorem li_X7_49 : LkFI RX7 49 7 7 807 := ⟨lf_X7_49, rfl, 0, rfl, by decide⟩
theorem lq_X7_49 : LkPI RX7 49 7 7 807 0 := ⟨⟨RX7, TX7, 13, tyX7, rfl, by decide, uw7, rfl, (Or.inl (lw_ug w_496 rfl)), tyX7_ok, nmX7, rfl, Or.inl ⟨rfl, rfl⟩⟩, rfl, rfl⟩
theorem lf_X8_11 : LkF RX8 11 8 4 := ⟨RX8, TX8, 8, rfl, by decide, uw8, rfl, (Or.inl (lw_ug w_631 rfl))⟩
theorem li_X8_11 : LkFA RX8 11 8 4 904 := ⟨lf_X8_11, rfl, rfl⟩
theorem lf_X8_17 : LkF RX8 17 8 0 := ⟨RX8, TX8, 8, rfl, by decide, uw8, rfl, (Or.inl (lw_ug w_622 rfl))⟩
theorem li_X8_17 : LkFI RX8 17 8 0 900 := ⟨lf_X8_17, rfl, 0, rfl, by decide⟩
theorem lf_X8_21 : LkF RX8 21 8 1 := ⟨RX8, TX8, 8, rfl, by decide, uw8, rfl, (Or.inl (lw_ug w_626 rfl))⟩
theorem li_X8_21 : LkFI RX8 21 8 1 901 := ⟨lf_X8_21, rfl, 0, rfl, by decide⟩
theorem lf_X8_24 : LkF RX8 24 8 2 := ⟨RX8, TX8, 8, rfl, by decide, uw8, rfl, (Or.inl (lw_ug w_628 rfl))⟩
theorem li_X8_24 : LkFI RX8 24 8 2 902 := ⟨lf_X8_24, rfl, 0, rfl, by decide⟩
theorem lf_X8_27 : LkF RX8 27 8 3 := ⟨RX8, TX8, 8, rfl, by decide, uw8, rfl, (Or.inl (lw_ug w_629 rfl))⟩
theorem li_X8_27 : LkFI RX8 27 8 3 903 := ⟨lf_X8_27, rfl, 0, rfl, by decide⟩
theorem lf_X8_30 : LkF RX8 30 8 5 := ⟨RX8, TX8, 8, rfl, by decide, uw8, rfl, (Or.inl (lw_ug w_632 rfl))⟩
theorem li_X8_30 : LkFI RX8 30 8 5 905 := ⟨lf_X8_30, rfl, 0, rfl, by decide⟩
theorem lq_X8_30 : LkPI RX8 30 8 5 905 0 := ⟨⟨RX8, TX8, 8, tyX8, rfl, by decide, uw8, rfl, (Or.inl (lw_ug w_632 rfl)), tyX8_ok, nmX8, rfl, Or.inl ⟨rfl, rfl⟩⟩, rfl, rfl⟩
theorem lf_X8_37 : LkF RX8 37 7 0 := ⟨RX7, TX7, 13, rfl, by decide, uw7, rfl, (Or.inl (lw_ug w_478 rfl))⟩
theorem li_X8_37 : LkFI RX8 37 7 0 800 := ⟨lf_X8_37, rfl, 0, rfl, by decide⟩
theorem lf_X8_40 : LkF RX8 40 7 3 := ⟨RX7, TX7, 13, rfl, by decide, uw7, rfl, (Or.inl (lw_ug w_486 rfl))⟩
theorem li_X8_40 : LkFI RX8 40 7 3 803 := ⟨lf_X8_40, rfl, 0, rfl, by decide⟩
theorem lf_X8_43 : LkF RX8 43 7 2 := ⟨RX7, TX7, 13, rfl, by decide, uw7, rfl, (Or.inl (lw_ug w_483 rfl))⟩
theorem li_X8_43 : LkFI RX8 43 7 2 802 := ⟨lf_X8_43, rfl, 0, rfl, by decide⟩
theorem lf_X8_48 : LkF RX8 48 7 5 := ⟨RX7, TX7, 13, rfl, by decide, uw7, rfl, (Or.inl (lw_ug w_492 rfl))⟩
theorem li_X8_48 : LkFI RX8 48 7 5 805 := ⟨lf_X8_48, rfl, 0, rfl, by decide⟩
theorem lf_X8_57 : LkF RX8 57 7 6 := ⟨RX7, TX7, 13, rfl, by decide, uw7, rfl, (Or.inl (lw_ug w_495 rfl))⟩
theorem li_X8_57 : LkFI RX8 57 7 6 806 := ⟨lf_X8_57, rfl, 0, rfl, by decide⟩
theorem lf_X9_11 : LkF RX9 11 9 0 := ⟨RX9, TX9, 3, rfl, by decide, uw9, rfl, (Or.inl (lw_ug w_105 rfl))⟩
theorem li_X9_11 : LkFA RX9 11 9 0 1000 := ⟨lf_X9_11, rfl, rfl⟩
theorem lf_X9_17 : LkF RX9 17 9 2 := ⟨RX9, TX9, 3, rfl, by decide, uw9, rfl, (Or.inl (lw_ug w_107 rfl))⟩
theorem li_X9_17 : LkFA RX9 17 9 2 1002 := ⟨lf_X9_17, rfl, rfl⟩
theorem lf_X9_21 : LkF RX9 21 9 1 := ⟨RX9, TX9, 3, rfl, by decide, uw9, rfl, (Or.inl (lw_ug w_106 rfl))⟩
theorem li_X9_21 : LkFI RX9 21 9 1 1001 := ⟨lf_X9_21, rfl, 0, rfl, by decide⟩
theorem lq_X9_21 : LkPI RX9 21 9 1 1001 0 := ⟨⟨RX9, TX9, 3, tyX9, rfl, by decide, uw9, rfl, (Or.inl (lw_ug w_106 rfl)), tyX9_ok, nmX9, rfl, Or.inl ⟨rfl, rfl⟩⟩, rfl, rfl⟩
theorem lf_X9_40 : LkF RX9 40 10 0 := ⟨RX10, TX10, 7, rfl, by decide, uw10, rfl, (Or.inl (lw_ug w_395 rfl))⟩
theorem li_X9_40 : LkFI RX9 40 10 0 1100 := ⟨lf_X9_40, rfl, 0, rfl, by decide⟩
theorem lf_X9_47 : LkF RX9 47 10 1 := ⟨RX10, TX10, 7, rfl, by decide, uw10, rfl, (Or.inl (lw_ug w_397 rfl))⟩
theorem li_X9_47 : LkFI RX9 47 10 1 1101 := ⟨lf_X9_47, rfl, 0, rfl, by decide⟩
theorem lf_X10_9 : LkF RX10 9 10 0 := ⟨RX10, TX10, 7, rfl, by decide, uw10, rfl, (Or.inl (lw_ug w_394 rfl))⟩
theorem li_X10_9 : LkFI RX10 9 10 0 1100 := ⟨lf_X10_9, rfl, 0, rfl, by decide⟩
theorem lf_X10_15 : LkF RX10 15 10 1 := ⟨RX10, TX10, 7, rfl, by decide, uw10, rfl, (Or.inl (lw_ug w_396 rfl))⟩
theorem li_X10_15 : LkFI RX10 15 10 1 1101 := ⟨lf_X10_15, rfl, 0, rfl, by decide⟩
theorem lf_X10_18 : LkF RX10 18 10 2 := ⟨RX10, TX10, 7, rfl, by decide, uw10, rfl, (Or.inl (lw_ug w_398 rfl))⟩
theorem li_X10_18 : LkFI RX10 18 10 2 1102 := ⟨lf_X10_18, rfl, 0, rfl, by decide⟩
theorem lf_X10_21 : LkF RX10 21 10 3 := ⟨RX10, TX10, 7, rfl, by decide, uw10, rfl, (Or.inl (lw_ug w_399 rfl))⟩
theorem li_X10_21 : LkFI RX10 21 10 3 1103 := ⟨lf_X10_21, rfl, 0, rfl, by decide⟩
theorem lf_X10_24 : LkF RX10 24 10 4 := ⟨RX10, TX10, 7, rfl, by decide, uw10, rfl, (Or.inl (lw_ug w_400 rfl))⟩
theorem li_X10_24 : LkFI RX10 24 10 4 1104 := ⟨lf_X10_24, rfl, 0, rfl, by decide⟩
theorem lf_X10_27 : LkF RX10 27 10 5 := ⟨RX10, TX10, 7, rfl, by decide, uw10, rfl, (Or.inl (lw_ug w_401 rfl))⟩
theorem li_X10_27 : LkFI RX10 27 10 5 1105 := ⟨lf_X10_27, rfl, 0, rfl, by decide⟩
theorem lf_X10_30 : LkF RX10 30 10 6 := ⟨RX10, TX10, 7, rfl, by decide, uw10, rfl, (Or.inl (lw_ug w_402 rfl))⟩
theorem li_X10_30 : LkFI RX10 30 10 6 1106 := ⟨lf_X10_30, rfl, 1, rfl, by decide⟩
theorem lq_X10_30 : LkPI RX10 30 10 6 1106 1 := ⟨⟨RX10, TX10, 7, tyX10, rfl, by decide, uw10, rfl, (Or.inl (lw_ug w_402 rfl)), tyX10_ok, nmX10, rfl, Or.inr ⟨rfl, rfl⟩⟩, rfl, rfl⟩
theorem lf_X12_7 : LkF RX12 7 12 2 := ⟨RX12, TX12, 92, rfl, by decide, uw12, rfl, (Or.inl (lw_ug w_1182 rfl))⟩
theorem li_X12_7 : LkFA RX12 7 12 2 1302 := ⟨lf_X12_7, rfl, rfl⟩
theorem lf_X12_13 : LkF RX12 13 12 3 := ⟨RX12, TX12, 92, rfl, by decide, uw12, rfl, (Or.inl (lw_ug w_1183 rfl))⟩
theorem li_X12_13 : LkFA RX12 13 12 3 1303 := ⟨lf_X12_13, rfl, rfl⟩
theorem lf_X12_16 : LkF RX12 16 12 4 := ⟨RX12, TX12, 92, rfl, by decide, uw12, rfl, (Or.inl (lw_ug w_1184 rfl))⟩
theorem li_X12_16 : LkFA RX12 16 12 4 1304 := ⟨lf_X12_16, rfl, rfl⟩
theorem lf_X12_19 : LkF RX12 19 12 5 := ⟨RX12, TX12, 92, rfl, by decide, uw12, rfl, (Or.inl (lw_ug w_1185 rfl))⟩
theorem li_X12_19 : LkFA RX12 19 12 5 1305 := ⟨lf_X12_19, rfl, rfl⟩
theorem lf_X12_22 : LkF RX12 22 12 6 := ⟨RX12, TX12, 92, rfl, by decide, uw12, rfl, (Or.inl (lw_ug w_1186 rfl))⟩
theorem li_X12_22 : LkFA RX12 22 12 6 1306 := ⟨lf_X12_22, rfl, rfl⟩
theorem lf_X12_25 : LkF RX12 25 12 7 := ⟨RX12, TX12, 92, rfl, by decide, uw12, rfl, (Or.inl (lw_ug w_1187 rfl))⟩
theorem li_X12_25 : LkFA RX12 25 12 7 1307 := ⟨lf_X12_25, rfl, rfl⟩
theorem lf_X12_28 : LkF RX12 28 12 8 := ⟨RX12, TX12, 92, rfl, by decide, uw12, rfl, (Or.inl (lw_ug w_1188 rfl))⟩
theorem li_X12_28 : LkFA RX12 28 12 8 1308 := ⟨lf_X12_28, rfl, rfl⟩
theorem lf_X12_32 : LkF RX12 32 12 9 := ⟨RX12, TX12, 92, rfl, by decide, uw12, rfl, (Or.inl (lw_ug w_1189 rfl))⟩
theorem li_X12_32 : LkFA RX12 32 12 9 1309 := ⟨lf_X12_32, rfl, rfl⟩
theorem lf_X12_35 : LkF RX12 35 12 11 := ⟨RX12, TX12, 92, rfl, by decide, uw12, rfl, (Or.inl (lw_ug w_1191 rfl))⟩
theorem li_X12_35 : LkFA RX12 35 12 11 1311 := ⟨lf_X12_35, rfl, rfl⟩
theorem lf_X12_38 : LkF RX12 38 12 12 := ⟨RX12, TX12, 92, rfl, by decide, uw12, rfl, (Or.inl (lw_ug w_1192 rfl))⟩
theorem li_X12_38 : LkFA RX12 38 12 12 1312 := ⟨lf_X12_38, rfl, rfl⟩
theorem lf_X12_41 : LkF RX12 41 12 13 := ⟨RX12, TX12, 92, rfl, by decide, uw12, rfl, (Or.inl (lw_ug w_1193 rfl))⟩
theorem li_X12_41 : LkFA RX12 41 12 13 1313 := ⟨lf_X12_41, rfl, rfl⟩
theorem lf_X12_44 : LkF RX12 44 12 14 := ⟨RX12, TX12, 92, rfl, by decide, uw12, rfl, (Or.inl (lw_ug w_1194 rfl))⟩
theorem li_X12_44 : LkFA RX12 44 12 14 1314 := ⟨lf_X12_44, rfl, rfl⟩
theorem lf_X12_47 : LkF RX12 47 12 15 := ⟨RX12, TX12, 92, rfl, by decide, uw12, rfl, (Or.inl (lw_ug w_1195 rfl))⟩
theorem li_X12_47 : LkFA RX12 47 12 15 1315 := ⟨lf_X12_47, rfl, rfl⟩
theorem lf_X12_50 : LkF RX12 50 12 16 := ⟨RX12, TX12, 92, rfl, by decide, uw12, rfl, (Or.inl (lw_ug w_1196 rfl))⟩
theorem li_X12_50 : LkFA RX12 50 12 16 1316 := ⟨lf_X12_50, rfl, rfl⟩
theorem lf_X12_53 : LkF RX12 53 12 17 := ⟨RX12, TX12, 92, rfl, by decide, uw12, rfl, (Or.inl (lw_ug w_1197 rfl))⟩
theorem li_X12_53 : LkFA RX12 53 12 17 1317 := ⟨lf_X12_53, rfl, rfl⟩
theorem lf_X12_56 : LkF RX12 56 12 18 := ⟨RX12, TX12, 92, rfl, by decide, uw12, rfl, (Or.inl (lw_ug w_1198 rfl))⟩
theorem li_X12_56 : LkFA RX12 56 12 18 1318 := ⟨lf_X12_56, rfl, rfl⟩
theorem lf_X12_59 : LkF RX12 59 12 19 := ⟨RX12, TX12, 92, rfl, by decide, uw12, rfl, (Or.inl (lw_ug w_1199 rfl))⟩
theorem li_X12_59 : LkFA RX12 59 12 19 1319 := ⟨lf_X12_59, rfl, rfl⟩
theorem lf_X12_62 : LkF RX12 62 12 20 := ⟨RX12, TX12, 92, rfl, by decide, uw12, rfl, (Or.inl (lw_ug w_1200 rfl))⟩
theorem li_X12_62 : LkFA RX12 62 12 20 1320 := ⟨lf_X12_62, rfl, rfl⟩
theorem lf_X12_65 : LkF RX12 65 12 21 := ⟨RX12, TX12, 92, rfl, by decide, uw12, rfl, (Or.inl (lw_ug w_1201 rfl))⟩
theorem li_X12_65 : LkFA RX12 65 12 21 1321 := ⟨lf_X12_65, rfl, rfl⟩
theorem lf_X12_68 : LkF RX12 68 12 22 := ⟨RX12, TX12, 92, rfl, by decide, uw12, rfl, (Or.inl (lw_ug w_1202 rfl))⟩
theorem li_X12_68 : LkFA RX12 68 12 22 1322 := ⟨lf_X12_68, rfl, rfl⟩
theorem lf_X12_71 : LkF RX12 71 12 23 := ⟨RX12, TX12, 92, rfl, by decide, uw12, rfl, (Or.inl (lw_ug w_1203 rfl))⟩
theorem li_X12_71 : LkFA RX12 71 12 23 1323 := ⟨lf_X12_71, rfl, rfl⟩
theorem lf_X12_74 : LkF RX12 74 12 24 := ⟨RX12, TX12, 92, rfl, by decide, uw12, rfl, (Or.inl (lw_ug w_1204 rfl))⟩
theorem li_X12_74 : LkFA RX12 74 12 24 1324 := ⟨lf_X12_74, rfl, rfl⟩
theorem lf_X12_77 : LkF RX12 77 12 25 := ⟨RX12, TX12, 92, rfl, by decide, uw12, rfl, (Or.inl (lw_ug w_1205 rfl))⟩
theorem li_X12_77 : LkFA RX12 77 12 25 1325 := ⟨lf_X12_77, rfl, rfl⟩
theorem lf_X12_80 : LkF RX12 80 12 27 := ⟨RX12, TX12, 92, rfl, by decide, uw12, rfl, (Or.inl (lw_ug w_1207 rfl))⟩
theorem li_X12_80 : LkFA RX12 80 12 27 1327 := ⟨lf_X12_80, rfl, rfl⟩
theorem lf_X12_83 : LkF RX12 83 12 28 := ⟨RX12, TX12, 92, rfl, by decide, uw12, rfl, (Or.inl (lw_ug w_1208 rfl))⟩
theorem li_X12_83 : LkFA RX12 83 12 28 1328 := ⟨lf_X12_83, rfl, rfl⟩
theorem lf_X12_86 : LkF RX12 86 12 29 := ⟨RX12, TX12, 92, rfl, by decide, uw12, rfl, (Or.inl (lw_ug w_1209 rfl))⟩
theorem li_X12_86 : LkFA RX12 86 12 29 1329 := ⟨lf_X12_86, rfl, rfl⟩
theorem lf_X12_89 : LkF RX12 89 12 30 := ⟨RX12, TX12, 92, rfl, by decide, uw12, rfl, (Or.inl (lw_ug w_1210 rfl))⟩
theorem li_X12_89 : LkFA RX12 89 12 30 1330 := ⟨lf_X12_89, rfl, rfl⟩
theorem lf_X12_92 : LkF RX12 92 12 31 := ⟨RX12, TX12, 92, rfl, by decide, uw12, rfl, (Or.inl (lw_ug w_1211 rfl))⟩
theorem li_X12_92 : LkFA RX12 92 12 31 1331 := ⟨lf_X12_92, rfl, rfl⟩
theorem lf_X12_95 : LkF RX12 95 12 32 := ⟨RX12, TX12, 92, rfl, by decide, uw12, rfl, (Or.inl (lw_ug w_1212 rfl))⟩
theorem li_X12_95 : LkFA RX12 95 12 32 1332 := ⟨lf_X12_95, rfl, rfl⟩
theorem lf_X12_98 : LkF RX12 98 12 33 := ⟨RX12, TX12, 92, rfl, by decide, uw12, rfl, (Or.inl (lw_ug w_1213 rfl))⟩
theorem li_X12_98 : LkFA RX12 98 12 33 1333 := ⟨lf_X12_98, rfl, rfl⟩
theorem lf_X12_101 : LkF RX12 101 12 34 := ⟨RX12, TX12, 92, rfl, by decide, uw12, rfl, (Or.inl (lw_ug w_1214 rfl))⟩
theorem li_X12_101 : LkFA RX12 101 12 34 1334 := ⟨lf_X12_101, rfl, rfl⟩
theorem lf_X12_104 : LkF RX12 104 12 35 := ⟨RX12, TX12, 92, rfl, by decide, uw12, rfl, (Or.inl (lw_ug w_1215 rfl))⟩
theorem li_X12_104 : LkFI RX12 104 12 35 1335 := ⟨lf_X12_104, rfl, 0, rfl, by decide⟩
theorem lq_X12_104 : LkPI RX12 104 12 35 1335 0 := ⟨⟨RX12, TX12, 92, tyX12, rfl, by decide, uw12, rfl, (Or.inl (lw_ug w_1215 rfl)), tyX12_ok, nmX12, rfl, Or.inl ⟨rfl, rfl⟩⟩, rfl, rfl⟩
theorem lf_X12_108 : LkF RX12 108 12 36 := ⟨RX12, TX12, 92, rfl, by decide, uw12, rfl, (Or.inl (lw_ug w_1216 rfl))⟩
theorem li_X12_108 : LkFA RX12 108 12 36 1336 := ⟨lf_X12_108, rfl, rfl⟩
theorem lf_X12_111 : LkF RX12 111 12 38 := ⟨RX12, TX12, 92, rfl, by decide, uw12, rfl, (Or.inl (lw_ug w_1218 rfl))⟩
theorem li_X12_111 : LkFA RX12 111 12 38 1338 := ⟨lf_X12_111, rfl, rfl⟩
theorem lf_X12_114 : LkF RX12 114 12 39 := ⟨RX12, TX12, 92, rfl, by decide, uw12, rfl, (Or.inl (lw_ug w_1219 rfl))⟩
theorem li_X12_114 : LkFA RX12 114 12 39 1339 := ⟨lf_X12_114, rfl, rfl⟩
theorem lf_X12_117 : LkF RX12 117 12 40 := ⟨RX12, TX12, 92, rfl, by decide, uw12, rfl, (Or.inl (lw_ug w_1220 rfl))⟩
theorem li_X12_117 : LkFA RX12 117 12 40 1340 := ⟨lf_X12_117, rfl, rfl⟩
theorem lf_X12_120 : LkF RX12 120 12 41 := ⟨RX12, TX12, 92, rfl, by decide, uw12, rfl, (Or.inl (lw_ug w_1221 rfl))⟩
theorem li_X12_120 : LkFA RX12 120 12 41 1341 := ⟨lf_X12_120, rfl, rfl⟩
theorem lf_X12_123 : LkF RX12 123 12 44 := ⟨RX12, TX12, 92, rfl, by decide, uw12, rfl, (Or.inl (lw_ug w_1224 rfl))⟩
theorem li_X12_123 : LkFA RX12 123 12 44 1344 := ⟨lf_X12_123, rfl, rfl⟩
theorem lf_X12_126 : LkF RX12 126 12 46 := ⟨RX12, TX12, 92, rfl, by decide, uw12, rfl, (Or.inl (lw_ug w_1226 rfl))⟩
theorem li_X12_126 : LkFA RX12 126 12 46 1346 := ⟨lf_X12_126, rfl, rfl⟩
theorem lf_X12_129 : LkF RX12 129 12 47 := ⟨RX12, TX12, 92, rfl, by decide, uw12, rfl, (Or.inl (lw_ug w_1227 rfl))⟩
theorem li_X12_129 : LkFA RX12 129 12 47 1347 := ⟨lf_X12_129, rfl, rfl⟩
theorem lf_X12_132 : LkF RX12 132 12 48 := ⟨RX12, TX12, 92, rfl, by decide, uw12, rfl, (Or.inl (lw_ug w_1228 rfl))⟩
theorem li_X12_132 : LkFA RX12 132 12 48 1348 := ⟨lf_X12_132, rfl, rfl⟩
theorem lf_X12_135 : LkF RX12 135 12 50 := ⟨RX12, TX12, 92, rfl, by decide, uw12, rfl, (Or.inl (lw_ug w_1230 rfl))⟩
theorem li_X12_135 : LkFA RX12 135 12 50 1350 := ⟨lf_X12_135, rfl, rfl⟩
theorem lf_X12_138 : LkF RX12 138 12 51 := ⟨RX12, TX12, 92, rfl, by decide, uw12, rfl, (Or.inl (lw_ug w_1231 rfl))⟩
theorem li_X12_138 : LkFA RX12 138 12 51 1351 := ⟨lf_X12_138, rfl, rfl⟩
theorem lf_X12_141 : LkF RX12 141 12 52 := ⟨RX12, TX12, 92, rfl, by decide, uw12, rfl, (Or.inl (lw_ug w_1232 rfl))⟩
theorem li_X12_141 : LkFA RX12 141 12 52 1352 := ⟨lf_X12_141, rfl, rfl⟩
theorem lf_X12_144 : LkF RX12 144 12 53 := ⟨RX12, TX12, 92, rfl, by decide, uw12, rfl, (Or.inl (lw_ug w_1233 rfl))⟩
theorem li_X12_144 : LkFA RX12 144 12 53 1353 := ⟨lf_X12_144, rfl, rfl⟩
theorem lf_X12_147 : LkF RX12 147 12 54 := ⟨RX12, TX12, 92, rfl, by decide, uw12, rfl, (Or.inl (lw_ug w_1234 rfl))⟩
theorem li_X12_147 : LkFA RX12 147 12 54 1354 := ⟨lf_X12_147, rfl, rfl⟩
theorem lf_X12_150 : LkF RX12 150 12 55 := ⟨RX12, TX12, 92, rfl, by decide, uw12, rfl, (Or.inl (lw_ug w_1235 rfl))⟩
theorem li_X12_150 : LkFI RX12 150 12 55 1355 := ⟨lf_X12_150, rfl, 0, rfl, by decide⟩
theorem lq_X12_150 : LkPI RX12 150 12 55 1355 0 := ⟨⟨RX12, TX12, 92, tyX12, rfl, by decide, uw12, rfl, (Or.inl (lw_ug w_1235 rfl)), tyX12_ok, nmX12, rfl, Or.inl ⟨rfl, rfl⟩⟩, rfl, rfl⟩
theorem lf_X12_153 : LkF RX12 153 12 56 := ⟨RX12, TX12, 92, rfl, by decide, uw12, rfl, (Or.inl (lw_ug w_1236 rfl))⟩
theorem li_X12_153 : LkFI RX12 153 12 56 1356 := ⟨lf_X12_153, rfl, 0, rfl, by decide⟩
theorem lq_X12_153 : LkPI RX12 153 12 56 1356 0 := ⟨⟨RX12, TX12, 92, tyX12, rfl, by decide, uw12, rfl, (Or.inl (lw_ug w_1236 rfl)), tyX12_ok, nmX12, rfl, Or.inl ⟨rfl, rfl⟩⟩, rfl, rfl⟩
theorem lf_X12_156 : LkF RX12 156 12 57 := ⟨RX12, TX12, 92, rfl, by decide, uw12, rfl, (Or.inl (lw_ug w_1237 rfl))⟩
theorem li_X12_156 : LkFA RX12 156 12 57 1357 := ⟨lf_X12_156, rfl, rfl⟩
theorem lf_X12_159 : LkF RX12 159 12 58 := ⟨RX12, TX12, 92, rfl, by decide, uw12, rfl, (Or.inl (lw_ug w_1238 rfl))⟩
theorem li_X12_159 : LkFA RX12 159 12 58 1358 := ⟨lf_X12_159, rfl, rfl⟩
theorem lf_X12_162 : LkF RX12 162 12 59 := ⟨RX12, TX12, 92, rfl, by decide, uw12, rfl, (Or.inl (lw_ug w_1239 rfl))⟩
theorem li_X12_162 : LkFA RX12 162 12 59 1359 := ⟨lf_X12_162, rfl, rfl⟩
theorem lf_X12_165 : LkF RX12 165 12 60 := ⟨RX12, TX12, 92, rfl, by decide, uw12, rfl, (Or.inl (lw_ug w_1240 rfl))⟩
theorem li_X12_165 : LkFA RX12 165 12 60 1360 := ⟨lf_X12_165, rfl, rfl⟩
theorem lf_X12_168 : LkF RX12 168 12 61 := ⟨RX12, TX12, 92, rfl, by decide, uw12, rfl, (Or.inl (lw_ug w_1241 rfl))⟩
theorem li_X12_168 : LkFA RX12 168 12 61 1361 := ⟨lf_X12_168, rfl, rfl⟩
theorem lf_X12_171 : LkF RX12 171 12 63 := ⟨RX12, TX12, 92, rfl, by decide, uw12, rfl, (Or.inl (lw_ug w_1243 rfl))⟩
theorem li_X12_171 : LkFA RX12 171 12 63 1363 := ⟨lf_X12_171, rfl, rfl⟩
theorem lf_X12_174 : LkF RX12 174 12 64 := ⟨RX12, TX12, 92, rfl, by decide, uw12, rfl, (Or.inl (lw_ug w_1244 rfl))⟩
theorem li_X12_174 : LkFA RX12 174 12 64 1364 := ⟨lf_X12_174, rfl, rfl⟩
theorem lf_X12_177 : LkF RX12 177 12 67 := ⟨RX12, TX12, 92, rfl, by decide, uw12, rfl, (Or.inl (lw_ug w_1247 rfl))⟩
theorem li_X12_177 : LkFA RX12 177 12 67 1367 := ⟨lf_X12_177, rfl, rfl⟩
theorem lf_X12_180 : LkF RX12 180 12 68 := ⟨RX12, TX12, 92, rfl, by decide, uw12, rfl, (Or.inl (lw_ug w_1248 rfl))⟩
theorem li_X12_180 : LkFA RX12 180 12 68 1368 := ⟨lf_X12_180, rfl, rfl⟩
theorem lf_X12_183 : LkF RX12 183 12 70 := ⟨RX12, TX12, 92, rfl, by decide, uw12, rfl, (Or.inl (lw_ug w_1250 rfl))⟩
theorem li_X12_183 : LkFA RX12 183 12 70 1370 := ⟨lf_X12_183, rfl, rfl⟩
theorem lf_X12_186 : LkF RX12 186 12 71 := ⟨RX12, TX12, 92, rfl, by decide, uw12, rfl, (Or.inl (lw_ug w_1251 rfl))⟩
theorem li_X12_186 : LkFA RX12 186 12 71 1371 := ⟨lf_X12_186, rfl, rfl⟩
theorem lf_X12_189 : LkF RX12 189 12 72 := ⟨RX12, TX12, 92, rfl, by decide, uw12, rfl, (Or.inl (lw_ug w_1252 rfl))⟩
theorem li_X12_189 : LkFA RX12 189 12 72 1372 := ⟨lf_X12_189, rfl, rfl⟩
theorem lf_X12_192 : LkF RX12 192 12 73 := ⟨RX12, TX12, 92, rfl, by decide, uw12, rfl, (Or.inl (lw_ug w_1253 rfl))⟩
theorem li_X12_192 : LkFA RX12 192 12 73 1373 := ⟨lf_X12_192, rfl, rfl⟩
theorem lf_X12_195 : LkF RX12 195 12 74 := ⟨RX12, TX12, 92, rfl, by decide, uw12, rfl, (Or.inl (lw_ug w_1254 rfl))⟩
theorem li_X12_195 : LkFA RX12 195 12 74 1374 := ⟨lf_X12_195, rfl, rfl⟩
theorem lf_X12_198 : LkF RX12 198 12 75 := ⟨RX12, TX12, 92, rfl, by decide, uw12, rfl, (Or.inl (lw_ug w_1255 rfl))⟩
theorem li_X12_198 : LkFA RX12 198 12 75 1375 := ⟨lf_X12_198, rfl, rfl⟩
theorem lf_X12_201 : LkF RX12 201 12 76 := ⟨RX12, TX12, 92, rfl, by decide, uw12, rfl, (Or.inl (lw_ug w_1256 rfl))⟩
theorem li_X12_201 : LkFA RX12 201 12 76 1376 := ⟨lf_X12_201, rfl, rfl⟩
theorem lf_X12_204 : LkF RX12 204 12 77 := ⟨RX12, TX12, 92, rfl, by decide, uw12, rfl, (Or.inl (lw_ug w_1257 rfl))⟩
theorem li_X12_204 : LkFA RX12 204 12 77 1377 := ⟨lf_X12_204, rfl, rfl⟩
theorem lf_X12_207 : LkF RX12 207 12 79 := ⟨RX12, TX12, 92, rfl, by decide, uw12, rfl, (Or.inl (lw_ug w_1259 rfl))⟩
theorem li_X12_207 : LkFA RX12 207 12 79 1379 := ⟨lf_X12_207, rfl, rfl⟩
theorem lf_X12_210 : LkF RX12 210 12 80 := ⟨RX12, TX12, 92, rfl, by decide, uw12, rfl, (Or.inl (lw_ug w_1260 rfl))⟩
theorem li_X12_210 : LkFA RX12 210 12 80 1380 := ⟨lf_X12_210, rfl, rfl⟩
theorem lf_X12_213 : LkF RX12 213 12 81 := ⟨RX12, TX12, 92, rfl, by decide, uw12, rfl, (Or.inl (lw_ug w_1261 rfl))⟩
theorem li_X12_213 : LkFA RX12 213 12 81 1381 := ⟨lf_X12_213, rfl, rfl⟩
theorem lf_X12_216 : LkF RX12 216 12 82 := ⟨RX12, TX12, 92, rfl, by decide, uw12, rfl, (Or.inl (lw_ug w_1262 rfl))⟩
theorem li_X12_216 : LkFA RX12 216 12 82 1382 := ⟨lf_X12_216, rfl, rfl⟩
theorem lf_X12_219 : LkF RX12 219 12 83 := ⟨RX12, TX12, 92, rfl, by decide, uw12, rfl, (Or.inl (lw_ug w_1263 rfl))⟩
theorem li_X12_219 : LkFI RX12 219 12 83 1383 := ⟨lf_X12_219, rfl, 0, rfl, by decide⟩
theorem lq_X12_219 : LkPI RX12 219 12 83 1383 0 := ⟨⟨RX12, TX12, 92, tyX12, rfl, by decide, uw12, rfl, (Or.inl (lw_ug w_1263 rfl)), tyX12_ok, nmX12, rfl, Or.inl ⟨rfl, rfl⟩⟩, rfl, rfl⟩
theorem lf_X12_222 : LkF RX12 222 12 85 := ⟨RX12, TX12, 92, rfl, by decide, uw12, rfl, (Or.inl (lw_ug w_1265 rfl))⟩
theorem li_X12_222 : LkFA RX12 222 12 85 1385 := ⟨lf_X12_222, rfl, rfl⟩
theorem lf_X12_225 : LkF RX12 225 12 86 := ⟨RX12, TX12, 92, rfl, by decide, uw12, rfl, (Or.inl (lw_ug w_1266 rfl))⟩
theorem li_X12_225 : LkFA RX12 225 12 86 1386 := ⟨lf_X12_225, rfl, rfl⟩
theorem lf_X12_228 : LkF RX12 228 12 87 := ⟨RX12, TX12, 92, rfl, by decide, uw12, rfl, (Or.inl (lw_ug w_1267 rfl))⟩
theorem li_X12_228 : LkFA RX12 228 12 87 1387 := ⟨lf_X12_228, rfl, rfl⟩
theorem lf_X12_231 : LkF RX12 231 12 88 := ⟨RX12, TX12, 92, rfl, by decide, uw12, rfl, (Or.inl (lw_ug w_1268 rfl))⟩
theorem li_X12_231 : LkFA RX12 231 12 88 1388 := ⟨lf_X12_231, rfl, rfl⟩
theorem lf_X12_234 : LkF RX12 234 12 89 := ⟨RX12, TX12, 92, rfl, by decide, uw12, rfl, (Or.inl (lw_ug w_1269 rfl))⟩
theorem li_X12_234 : LkFA RX12 234 12 89 1389 := ⟨lf_X12_234, rfl, rfl⟩
theorem lf_X12_237 : LkF RX12 237 12 90 := ⟨RX12, TX12, 92, rfl, by decide, uw12, rfl, (Or.inl (lw_ug w_1270 rfl))⟩
theorem li_X12_237 : LkFA RX12 237 12 90 1390 := ⟨lf_X12_237, rfl, rfl⟩
theorem lf_X12_240 : LkF RX12 240 12 91 := ⟨RX12, TX12, 92, rfl, by decide, uw12, rfl, (Or.inl (lw_ug w_1271 rfl))⟩
theorem li_X12_240 : LkFA RX12 240 12 91 1391 := ⟨lf_X12_240, rfl, rfl⟩
theorem lf_X12_255 : LkF RX12 255 12 0 := ⟨RX12, TX12, 92, rfl, by decide, uw12, rfl, (Or.inl (lw_ug w_1180 rfl))⟩
theorem li_X12_255 : LkFI RX12 255 12 0 1300 := ⟨lf_X12_255, rfl, 0, rfl, by decide⟩
theorem lq_X12_255 : LkPI RX12 255 12 0 1300 0 := ⟨⟨RX12, TX12, 92, tyX12, rfl, by decide, uw12, rfl, (Or.inl (lw_ug w_1180 rfl)), tyX12_ok, nmX12, rfl, Or.inl ⟨rfl, rfl⟩⟩, rfl, rfl⟩
theorem lf_X12_267 : LkF RX12 267 12 1 := ⟨RX12, TX12, 92, rfl, by decide, uw12, rfl, (Or.inl (lw_ug w_1181 rfl))⟩
theorem li_X12_267 : LkFI RX12 267 12 1 1301 := ⟨lf_X12_267, rfl, 0, rfl, by decide⟩
theorem lq_X12_267 : LkPI RX12 267 12 1 1301 0 := ⟨⟨RX12, TX12, 92, tyX12, rfl, by decide, uw12, rfl, (Or.inl (lw_ug w_1181 rfl)), tyX12_ok, nmX12, rfl, Or.inl ⟨rfl, rfl⟩⟩, rfl, rfl⟩
theorem lf_X12_279 : LkF RX12 279 12 10 := ⟨RX12, TX12, 92, rfl, by decide, uw12, rfl, (Or.inl (lw_ug w_1190 rfl))⟩
theorem li_X12_279 : LkFI RX12 279 12 10 1310 := ⟨lf_X12_279, rfl, 0, rfl, by decide⟩
theorem lq_X12_279 : LkPI RX12 279 12 10 1310 0 := ⟨⟨RX12, TX12, 92, tyX12, rfl, by decide, uw12, rfl, (Or.inl (lw_ug w_1190 rfl)), tyX12_ok, nmX12, rfl, Or.inl ⟨rfl, rfl⟩⟩, rfl, rfl⟩
theorem lf_X12_311 : LkF RX12 311 12 26 := ⟨RX12, TX12, 92, rfl, by decide, uw12, rfl, (Or.inl (lw_ug w_1206 rfl))⟩
theorem li_X12_311 : LkFI RX12 311 12 26 1326 := ⟨lf_X12_311, rfl, 0, rfl, by decide⟩
theorem lq_X12_311 : LkPI RX12 311 12 26 1326 0 := ⟨⟨RX12, TX12, 92, tyX12, rfl, by decide, uw12, rfl, (Or.inl (lw_ug w_1206 rfl)), tyX12_ok, nmX12, rfl, Or.inl ⟨rfl, rfl⟩⟩, rfl, rfl⟩
theorem lf_X12_336 : LkF RX12 336 12 37 := ⟨RX12, TX12, 92, rfl, by decide, uw12, rfl, (Or.inl (lw_ug w_1217 rfl))⟩
theorem li_X12_336 : LkFI RX12 336 12 37 1337 := ⟨lf_X12_336, rfl, 0, rfl, by decide⟩
theorem lq_X12_336 : LkPI RX12 336 12 37 1337 0 := ⟨⟨RX12, TX12, 92, tyX12, rfl, by decide, uw12, rfl, (Or.inl (lw_ug w_1217 rfl)), tyX12_ok, nmX12, rfl, Or.inl ⟨rfl, rfl⟩⟩, rfl, rfl⟩
theorem lf_X12_345 : LkF RX12 345 12 42 := ⟨RX12, TX12, 92, rfl, by decide, uw12, rfl, (Or.inl (lw_ug w_1222 rfl))⟩
theorem li_X12_345 : LkFI RX12 345 12 42 1342 := ⟨lf_X12_345, rfl, 0, rfl, by decide⟩
theorem lq_X12_345 : LkPI RX12 345 12 42 1342 0 := ⟨⟨RX12, TX12, 92, tyX12, rfl, by decide, uw12, rfl, (Or.inl (lw_ug w_1222 rfl)), tyX12_ok, nmX12, rfl, Or.inl ⟨rfl, rfl⟩⟩, rfl, rfl⟩
theorem lf_X12_362 : LkF RX12 362 12 45 := ⟨RX12, TX12, 92, rfl, by decide, uw12, rfl, (Or.inl (lw_ug w_1225 rfl))⟩
theorem li_X12_362 : LkFI RX12 362 12 45 1345 := ⟨lf_X12_362, rfl, 0, rfl, by decide⟩
theorem lq_X12_362 : LkPI RX12 362 12 45 1345 0 := ⟨⟨RX12, TX12, 92, tyX12, rfl, by decide, uw12, rfl, (Or.inl (lw_ug w_1225 rfl)), tyX12_ok, nmX12, rfl, Or.inl ⟨rfl, rfl⟩⟩, rfl, rfl⟩
theorem lf_X12_365 : LkF RX12 365 12 43 := ⟨RX12, TX12, 92, rfl, by decide, uw12, rfl, (Or.inl (lw_ug w_1223 rfl))⟩
theorem li_X12_365 : LkFI RX12 365 12 43 1343 := ⟨lf_X12_365, rfl, 0, rfl, by decide⟩
theorem lq_X12_365 : LkPI RX12 365 12 43 1343 0 := ⟨⟨RX12, TX12, 92, tyX12, rfl, by decide, uw12, rfl, (Or.inl (lw_ug w_1223 rfl)), tyX12_ok, nmX12, rfl, Or.inl ⟨rfl, rfl⟩⟩, rfl, rfl⟩
theorem lf_X12_397 : LkF RX12 397 12 49 := ⟨RX12, TX12, 92, rfl, by decide, uw12, rfl, (Or.inl (lw_ug w_1229 rfl))⟩
theorem li_X12_397 : LkFI RX12 397 12 49 1349 := ⟨lf_X12_397, rfl, 0, rfl, by decide⟩
theorem lq_X12_397 : LkPI RX12 397 12 49 1349 0 := ⟨⟨RX12, TX12, 92, tyX12, rfl, by decide, uw12, rfl, (Or.inl (lw_ug w_1229 rfl)), tyX12_ok, nmX12, rfl, Or.inl ⟨rfl, rfl⟩⟩, rfl, rfl⟩
theorem lf_X12_407 : LkF RX12 407 12 62 := ⟨RX12, TX12, 92, rfl, by decide, uw12, rfl, (Or.inl (lw_ug w_1242 rfl))⟩
theorem li_X12_407 : LkFI RX12 407 12 62 1362 := ⟨lf_X12_407, rfl, 0, rfl, by decide⟩
theorem lq_X12_407 : LkPI RX12 407 12 62 1362 0 := ⟨⟨RX12, TX12, 92, tyX12, rfl, by decide, uw12, rfl, (Or.inl (lw_ug w_1242 rfl)), tyX12_ok, nmX12, rfl, Or.inl ⟨rfl, rfl⟩⟩, rfl, rfl⟩
theorem lf_X12_414 : LkF RX12 414 12 66 := ⟨RX12, TX12, 92, rfl, by decide, uw12, rfl, (Or.inl (lw_ug w_1246 rfl))⟩
theorem li_X12_414 : LkFI RX12 414 12 66 1366 := ⟨lf_X12_414, rfl, 0, rfl, by decide⟩
theorem lq_X12_414 : LkPI RX12 414 12 66 1366 0 := ⟨⟨RX12, TX12, 92, tyX12, rfl, by decide, uw12, rfl, (Or.inl (lw_ug w_1246 rfl)), tyX12_ok, nmX12, rfl, Or.inl ⟨rfl, rfl⟩⟩, rfl, rfl⟩
theorem lf_X12_417 : LkF RX12 417 12 65 := ⟨RX12, TX12, 92, rfl, by decide, uw12, rfl, (Or.inl (lw_ug w_1245 rfl))⟩
theorem li_X12_417 : LkFI RX12 417 12 65 1365 := ⟨lf_X12_417, rfl, 0, rfl, by decide⟩
theorem lq_X12_417 : LkPI RX12 417 12 65 1365 0 := ⟨⟨RX12, TX12, 92, tyX12, rfl, by decide, uw12, rfl, (Or.inl (lw_ug w_1245 rfl)), tyX12_ok, nmX12, rfl, Or.inl ⟨rfl, rfl⟩⟩, rfl, rfl⟩
theorem lf_X12_436 : LkF RX12 436 12 69 := ⟨RX12, TX12, 92, rfl, by decide, uw12, rfl, (Or.inl (lw_ug w_1249 rfl))⟩
theorem li_X12_436 : LkFI RX12 436 12 69 1369 := ⟨lf_X12_436, rfl, 0, rfl, by decide⟩
theorem lq_X12_436 : LkPI RX12 436 12 69 1369 0 := ⟨⟨RX12, TX12, 92, tyX12, rfl, by decide, uw12, rfl, (Or.inl (lw_ug w_1249 rfl)), tyX12_ok, nmX12, rfl, Or.inl ⟨rfl, rfl⟩⟩, rfl, rfl⟩
theorem lf_X12_460 : LkF RX12 460 12 78 := ⟨RX12, TX12, 92, rfl, by decide, uw12, rfl, (Or.inl (lw_ug w_1258 rfl))⟩
theorem li_X12_460 : LkFI RX12 460 12 78 1378 := ⟨lf_X12_460, rfl, 0, rfl, by decide⟩
theorem lq_X12_460 : LkPI RX12 460 12 78 1378 0 := ⟨⟨RX12, TX12, 92, tyX12, rfl, by decide, uw12, rfl, (Or.inl (lw_ug w_1258 rfl)), tyX12_ok, nmX12, rfl, Or.inl ⟨rfl, rfl⟩⟩, rfl, rfl⟩
theorem lf_X12_465 : LkF RX12 465 12 84 := ⟨RX12, TX12, 92, rfl, by decide, uw12, rfl, (Or.inl (lw_ug w_1264 rfl))⟩
theorem li_X12_465 : LkFI RX12 465 12 84 1384 := ⟨lf_X12_465, rfl, 0, rfl, by decide⟩
theorem lq_X12_465 : LkPI RX12 465 12 84 1384 0 := ⟨⟨RX12, TX12, 92, tyX12, rfl, by decide, uw12, rfl, (Or.inl (lw_ug w_1264 rfl)), tyX12_ok, nmX12, rfl, Or.inl ⟨rfl, rfl⟩⟩, rfl, rfl⟩
theorem lm_X11_83 : LkM RX11 83 yX11_within cX11_within 3 (some .boolean) 3 := ⟨(lw_ug w_373 rfl), (lw_ug w_73 rfl), ⟨by decide, by decide, by decide +kernel⟩, by decide, (Or.inl (lw_ug w_371 rfl))⟩
theorem ls_X11_within : Cond.static yX11_within ∈ lw_u := (lw_ug w_372 rfl)
theorem lm_X11_90 : LkM RX11 90 yX11_isPlace cX11_isPlace 1 (some .boolean) 1 := ⟨(lw_ug w_380 rfl), (lw_ug w_73 rfl), ⟨by decide, by decide, by decide +kernel⟩, by decide, (Or.inl (lw_ug w_378 rfl))⟩
theorem ls_X11_isPlace : Cond.static yX11_isPlace ∈ lw_u := (lw_ug w_379 rfl)
theorem lm_X11_94 : LkM RX11 94 yX11_isHour cX11_isHour 1 (some .boolean) 1 := ⟨(lw_ug w_383 rfl), (lw_ug w_73 rfl), ⟨by decide, by decide, by decide +kernel⟩, by decide, (Or.inl (lw_ug w_381 rfl))⟩
theorem ls_X11_isHour : Cond.static yX11_isHour ∈ lw_u := (lw_ug w_382 rfl)
theorem lm_X11_97 : LkM RX11 97 yX9_isFull cX9_isFull 1 (some .boolean) 0 := ⟨(lw_ug w_387 rfl), (lw_ug w_74 rfl), ⟨by decide, by decide, by decide +kernel⟩, by decide, (Or.inl (lw_ug w_384 rfl))⟩
theorem lv_vX9_isFull : LkV yX9_isFull := ⟨(lw_ug w_385 rfl), (lw_ug w_386 rfl)⟩
theorem lm_X11_103 : LkM RX11 103 yX10_init cX10_init 7 none 6 := ⟨(lw_ug w_392 rfl), (lw_ug w_81 rfl), ⟨by decide, by decide, by decide +kernel⟩, by decide, (Or.inl (lw_ug w_390 rfl))⟩
theorem ln_X10_init : Cond.instanceMethod yX10_init ∈ lw_u := (lw_ug w_391 rfl)
theorem lm_X11_106 : LkM RX11 106 yX9_add cX9_add 2 (some .int) 1 := ⟨(lw_ug w_422 rfl), (lw_ug w_74 rfl), ⟨by decide, by decide, by decide +kernel⟩, by decide, (Or.inl (lw_ug w_419 rfl))⟩
theorem lv_vX9_add : LkV yX9_add := ⟨(lw_ug w_420 rfl), (lw_ug w_421 rfl)⟩
theorem lm_X11_110 : LkM RX11 110 yX9_numbered cX9_numbered 2 (some (.object RX10)) 1 := ⟨(lw_ug w_431 rfl), (lw_ug w_74 rfl), ⟨by decide, by decide, by decide +kernel⟩, by decide, (Or.inl (lw_ug w_428 rfl))⟩
theorem lv_vX9_numbered : LkV yX9_numbered := ⟨(lw_ug w_429 rfl), (lw_ug w_430 rfl)⟩
theorem lm_X11_118 : LkM RX11 118 yX9_earliest cX9_earliest 5 (some .int) 4 := ⟨(lw_ug w_440 rfl), (lw_ug w_74 rfl), ⟨by decide, by decide, by decide +kernel⟩, by decide, (Or.inl (lw_ug w_437 rfl))⟩
theorem lv_vX9_earliest : LkV yX9_earliest := ⟨(lw_ug w_438 rfl), (lw_ug w_439 rfl)⟩
theorem lm_X11_122 : LkM RX11 122 yX11_isSubject cX11_isSubject 1 (some .boolean) 1 := ⟨(lw_ug w_464 rfl), (lw_ug w_73 rfl), ⟨by decide, by decide, by decide +kernel⟩, by decide, (Or.inl (lw_ug w_462 rfl))⟩
theorem ls_X11_isSubject : Cond.static yX11_isSubject ∈ lw_u := (lw_ug w_463 rfl)
theorem lm_X11_125 : LkM RX11 125 yX11_isMarkSet cX11_isMarkSet 1 (some .boolean) 1 := ⟨(lw_ug w_467 rfl), (lw_ug w_73 rfl), ⟨by decide, by decide, by decide +kernel⟩, by decide, (Or.inl (lw_ug w_465 rfl))⟩
theorem ls_X11_isMarkSet : Cond.static yX11_isMarkSet ∈ lw_u := (lw_ug w_466 rfl)
theorem lm_X11_128 : LkM RX11 128 yX11_isKind cX11_isKind 1 (some .boolean) 1 := ⟨(lw_ug w_470 rfl), (lw_ug w_73 rfl), ⟨by decide, by decide, by decide +kernel⟩, by decide, (Or.inl (lw_ug w_468 rfl))⟩
theorem ls_X11_isKind : Cond.static yX11_isKind ∈ lw_u := (lw_ug w_469 rfl)
theorem lm_X11_134 : LkM RX11 134 yX7_init cX7_init 8 none 7 := ⟨(lw_ug w_474 rfl), (lw_ug w_83 rfl), ⟨by decide, by decide, by decide +kernel⟩, by decide, (Or.inl (lw_ug w_472 rfl))⟩
theorem ln_X7_init : Cond.instanceMethod yX7_init ∈ lw_u := (lw_ug w_473 rfl)
theorem lm_X11_137 : LkM RX11 137 yX7_tell cX7_tell 2 none 1 := ⟨(lw_ug w_537 rfl), (lw_ug w_83 rfl), ⟨by decide, by decide, by decide +kernel⟩, by decide, (Or.inl (lw_ug w_534 rfl))⟩
theorem lv_vX7_tell : LkV yX7_tell := ⟨(lw_ug w_535 rfl), (lw_ug w_536 rfl)⟩
theorem lm_X11_144 : LkM RX11 144 yX11_shotNumbered cX11_shotNumbered 2 (some (.object RX7)) 1 := ⟨(lw_ug w_545 rfl), (lw_ug w_73 rfl), ⟨by decide, by decide, by decide +kernel⟩, by decide, (Or.inl (lw_ug w_542 rfl))⟩
theorem lv_vX11_shotNumbered : LkV yX11_shotNumbered := ⟨(lw_ug w_544 rfl), (lw_ug w_0 rfl)⟩
theorem lm_X11_166 : LkM RX11 166 yX7_whereAt cX7_whereAt 2 (some .int) 1 := ⟨(lw_ug w_553 rfl), (lw_ug w_83 rfl), ⟨by decide, by decide, by decide +kernel⟩, by decide, (Or.inl (lw_ug w_550 rfl))⟩
theorem lv_vX7_whereAt : LkV yX7_whereAt := ⟨(lw_ug w_551 rfl), (lw_ug w_552 rfl)⟩
theorem lm_X11_185 : LkM RX11 185 yX11_isDayOfYear cX11_isDayOfYear 1 (some .boolean) 1 := ⟨(lw_ug w_580 rfl), (lw_ug w_73 rfl), ⟨by decide, by decide, by decide +kernel⟩, by decide, (Or.inl (lw_ug w_578 rfl))⟩
theorem ls_X11_isDayOfYear : Cond.static yX11_isDayOfYear ∈ lw_u := (lw_ug w_579 rfl)
theorem lm_X11_188 : LkM RX11 188 yX1_learn cX1_learn 5 none 4 := ⟨(lw_ug w_584 rfl), (lw_ug w_75 rfl), ⟨by decide, by decide, by decide +kernel⟩, by decide, (Or.inl (lw_ug w_581 rfl))⟩
theorem lv_vX1_learn : LkV yX1_learn := ⟨(lw_ug w_582 rfl), (lw_ug w_583 rfl)⟩
theorem lm_X11_192 : LkM RX11 192 yX1_firstLie cX1_firstLie 5 (some .int) 3 := ⟨(lw_ug w_592 rfl), (lw_ug w_75 rfl), ⟨by decide, by decide, by decide +kernel⟩, by decide, (Or.inl (lw_ug w_589 rfl))⟩
theorem lv_vX1_firstLie : LkV yX1_firstLie := ⟨(lw_ug w_590 rfl), (lw_ug w_591 rfl)⟩
theorem lm_X11_196 : LkM RX11 196 yX11_isCard cX11_isCard 4 (some .boolean) 3 := ⟨(lw_ug w_611 rfl), (lw_ug w_73 rfl), ⟨by decide, by decide, by decide +kernel⟩, by decide, (Or.inl (lw_ug w_608 rfl))⟩
theorem lv_vX11_isCard : LkV yX11_isCard := ⟨(lw_ug w_610 rfl), (lw_ug w_2 rfl)⟩
theorem lm_X11_203 : LkM RX11 203 yX8_init cX8_init 5 none 4 := ⟨(lw_ug w_619 rfl), (lw_ug w_84 rfl), ⟨by decide, by decide, by decide +kernel⟩, by decide, (Or.inl (lw_ug w_617 rfl))⟩
theorem ln_X8_init : Cond.instanceMethod yX8_init ∈ lw_u := (lw_ug w_618 rfl)
theorem lm_X11_205 : LkM RX11 205 yX11_storyNumbered cX11_storyNumbered 2 (some (.object RX8)) 1 := ⟨(lw_ug w_662 rfl), (lw_ug w_73 rfl), ⟨by decide, by decide, by decide +kernel⟩, by decide, (Or.inl (lw_ug w_659 rfl))⟩
theorem lv_vX11_storyNumbered : LkV yX11_storyNumbered := ⟨(lw_ug w_661 rfl), (lw_ug w_3 rfl)⟩
theorem lm_X11_209 : LkM RX11 209 yX8_has cX8_has 3 (some .boolean) 1 := ⟨(lw_ug w_666 rfl), (lw_ug w_84 rfl), ⟨by decide, by decide, by decide +kernel⟩, by decide, (Or.inl (lw_ug w_663 rfl))⟩
theorem lv_vX8_has : LkV yX8_has := ⟨(lw_ug w_664 rfl), (lw_ug w_665 rfl)⟩
theorem lm_X11_213 : LkM RX11 213 yX8_append cX8_append 2 (some .int) 1 := ⟨(lw_ug w_670 rfl), (lw_ug w_84 rfl), ⟨by decide, by decide, by decide +kernel⟩, by decide, (Or.inl (lw_ug w_667 rfl))⟩
theorem lv_vX8_append : LkV yX8_append := ⟨(lw_ug w_668 rfl), (lw_ug w_669 rfl)⟩
theorem lm_X11_217 : LkM RX11 217 yX8_remove cX8_remove 4 (some .int) 1 := ⟨(lw_ug w_678 rfl), (lw_ug w_84 rfl), ⟨by decide, by decide, by decide +kernel⟩, by decide, (Or.inl (lw_ug w_675 rfl))⟩
theorem lv_vX8_remove : LkV yX8_remove := ⟨(lw_ug w_676 rfl), (lw_ug w_677 rfl)⟩
theorem lm_X11_223 : LkM RX11 223 yX11_asNumber cX11_asNumber 1 (some .int) 1 := ⟨(lw_ug w_686 rfl), (lw_ug w_73 rfl), ⟨by decide, by decide, by decide +kernel⟩, by decide, (Or.inl (lw_ug w_684 rfl))⟩
theorem ls_X11_asNumber : Cond.static yX11_asNumber ∈ lw_u := (lw_ug w_685 rfl)
theorem lm_X11_233 : LkM RX11 233 yX8_allFeet cX8_allFeet 3 (some .int) 0 := ⟨(lw_ug w_698 rfl), (lw_ug w_84 rfl), ⟨by decide, by decide, by decide +kernel⟩, by decide, (Or.inl (lw_ug w_695 rfl))⟩
theorem lv_vX8_allFeet : LkV yX8_allFeet := ⟨(lw_ug w_696 rfl), (lw_ug w_697 rfl)⟩
theorem lm_X11_237 : LkM RX11 237 yX8_disorder cX8_disorder 4 (some .int) 0 := ⟨(lw_ug w_702 rfl), (lw_ug w_84 rfl), ⟨by decide, by decide, by decide +kernel⟩, by decide, (Or.inl (lw_ug w_699 rfl))⟩
theorem lv_vX8_disorder : LkV yX8_disorder := ⟨(lw_ug w_700 rfl), (lw_ug w_701 rfl)⟩
theorem lm_X11_240 : LkM RX11 240 yX8_oldOnes cX8_oldOnes 4 (some .int) 1 := ⟨(lw_ug w_707 rfl), (lw_ug w_84 rfl), ⟨by decide, by decide, by decide +kernel⟩, by decide, (Or.inl (lw_ug w_704 rfl))⟩
theorem lv_vX8_oldOnes : LkV yX8_oldOnes := ⟨(lw_ug w_705 rfl), (lw_ug w_706 rfl)⟩
theorem lm_X11_243 : LkM RX11 243 yX8_falseOnes cX8_falseOnes 4 (some .int) 1 := ⟨(lw_ug w_711 rfl), (lw_ug w_84 rfl), ⟨by decide, by decide, by decide +kernel⟩, by decide, (Or.inl (lw_ug w_708 rfl))⟩
theorem lv_vX8_falseOnes : LkV yX8_falseOnes := ⟨(lw_ug w_709 rfl), (lw_ug w_710 rfl)⟩
theorem lm_X11_247 : LkM RX11 247 yX8_lentOnes cX8_lentOnes 3 (some .int) 0 := ⟨(lw_ug w_716 rfl), (lw_ug w_84 rfl), ⟨by decide, by decide, by decide +kernel⟩, by decide, (Or.inl (lw_ug w_713 rfl))⟩
theorem lv_vX8_lentOnes : LkV yX8_lentOnes := ⟨(lw_ug w_714 rfl), (lw_ug w_715 rfl)⟩
theorem lm_X11_250 : LkM RX11 250 yX8_isReady cX8_isReady 3 (some .boolean) 1 := ⟨(lw_ug w_720 rfl), (lw_ug w_84 rfl), ⟨by decide, by decide, by decide +kernel⟩, by decide, (Or.inl (lw_ug w_717 rfl))⟩
theorem lv_vX8_isReady : LkV yX8_isReady := ⟨(lw_ug w_718 rfl), (lw_ug w_719 rfl)⟩
theorem lm_X11_253 : LkM RX11 253 yX8_price cX8_price 4 (some .int) 1 := ⟨(lw_ug w_733 rfl), (lw_ug w_84 rfl), ⟨by decide, by decide, by decide +kernel⟩, by decide, (Or.inl (lw_ug w_730 rfl))⟩
theorem lv_vX8_price : LkV yX8_price := ⟨(lw_ug w_731 rfl), (lw_ug w_732 rfl)⟩
theorem lm_X11_257 : LkM RX11 257 yX11_isDay cX11_isDay 1 (some .boolean) 1 := ⟨(lw_ug w_744 rfl), (lw_ug w_73 rfl), ⟨by decide, by decide, by decide +kernel⟩, by decide, (Or.inl (lw_ug w_742 rfl))⟩
theorem ls_X11_isDay : Cond.static yX11_isDay ∈ lw_u := (lw_ug w_743 rfl)
theorem lm_X11_263 : LkM RX11 263 yX6_init cX6_init 2 none 1 := ⟨(lw_ug w_748 rfl), (lw_ug w_85 rfl), ⟨by decide, by decide, by decide +kernel⟩, by decide, (Or.inl (lw_ug w_746 rfl))⟩
theorem ln_X6_init : Cond.instanceMethod yX6_init ∈ lw_u := (lw_ug w_747 rfl)
theorem lm_X11_265 : LkM RX11 265 yX11_ruleNumbered cX11_ruleNumbered 2 (some (.object RX6)) 1 := ⟨(lw_ug w_774 rfl), (lw_ug w_73 rfl), ⟨by decide, by decide, by decide +kernel⟩, by decide, (Or.inl (lw_ug w_771 rfl))⟩
theorem lv_vX11_ruleNumbered : LkV yX11_ruleNumbered := ⟨(lw_ug w_773 rfl), (lw_ug w_4 rfl)⟩
theorem lm_X11_269 : LkM RX11 269 yX6_append cX6_append 5 (some .int) 1 := ⟨(lw_ug w_778 rfl), (lw_ug w_85 rfl), ⟨by decide, by decide, by decide +kernel⟩, by decide, (Or.inl (lw_ug w_775 rfl))⟩
theorem lv_vX6_append : LkV yX6_append := ⟨(lw_ug w_776 rfl), (lw_ug w_777 rfl)⟩
theorem lm_X11_272 : LkM RX11 272 yX3_read cX3_read 3 (some .int) 1 := ⟨(lw_ug w_790 rfl), (lw_ug w_76 rfl), ⟨by decide, by decide, by decide +kernel⟩, by decide, (Or.inl (lw_ug w_787 rfl))⟩
theorem lv_vX3_read : LkV yX3_read := ⟨(lw_ug w_788 rfl), (lw_ug w_789 rfl)⟩
theorem lm_X11_280 : LkM RX11 280 yX11_isLand cX11_isLand 1 (some .boolean) 1 := ⟨(lw_ug w_845 rfl), (lw_ug w_73 rfl), ⟨by decide, by decide, by decide +kernel⟩, by decide, (Or.inl (lw_ug w_843 rfl))⟩
theorem ls_X11_isLand : Cond.static yX11_isLand ∈ lw_u := (lw_ug w_844 rfl)
theorem lm_X11_283 : LkM RX11 283 yX11_firstBar cX11_firstBar 5 (some .int) 3 := ⟨(lw_ug w_849 rfl), (lw_ug w_73 rfl), ⟨by decide, by decide, by decide +kernel⟩, by decide, (Or.inl (lw_ug w_846 rfl))⟩
theorem lv_vX11_firstBar : LkV yX11_firstBar := ⟨(lw_ug w_848 rfl), (lw_ug w_14 rfl)⟩
theorem lm_X11_290 : LkM RX11 290 yX11_hasMember cX11_hasMember 2 (some .boolean) 2 := ⟨(lw_ug w_595 rfl), (lw_ug w_73 rfl), ⟨by decide, by decide, by decide +kernel⟩, by decide, (Or.inl (lw_ug w_868 rfl))⟩
theorem ls_X11_hasMember : Cond.static yX11_hasMember ∈ lw_u := (lw_ug w_594 rfl)
theorem lm_X11_294 : LkM RX11 294 yX11_withMember cX11_withMember 3 (some .int) 3 := ⟨(lw_ug w_871 rfl), (lw_ug w_73 rfl), ⟨by decide, by decide, by decide +kernel⟩, by decide, (Or.inl (lw_ug w_869 rfl))⟩
theorem ls_X11_withMember : Cond.static yX11_withMember ∈ lw_u := (lw_ug w_870 rfl)
theorem lm_X11_301 : LkM RX11 301 yX5_init cX5_init 6 none 5 := ⟨(lw_ug w_879 rfl), (lw_ug w_86 rfl), ⟨by decide, by decide, by decide +kernel⟩, by decide, (Or.inl (lw_ug w_877 rfl))⟩
theorem ln_X5_init : Cond.instanceMethod yX5_init ∈ lw_u := (lw_ug w_878 rfl)
theorem lm_X11_308 : LkM RX11 308 yX11_isLicensed cX11_isLicensed 4 (some .boolean) 3 := ⟨(lw_ug w_909 rfl), (lw_ug w_73 rfl), ⟨by decide, by decide, by decide +kernel⟩, by decide, (Or.inl (lw_ug w_906 rfl))⟩
theorem lv_vX11_isLicensed : LkV yX11_isLicensed := ⟨(lw_ug w_908 rfl), (lw_ug w_15 rfl)⟩
theorem lm_X11_311 : LkM RX11 311 yX4_changeLength cX4_changeLength 4 (some .int) 2 := ⟨(lw_ug w_927 rfl), (lw_ug w_77 rfl), ⟨by decide, by decide, by decide +kernel⟩, by decide, (Or.inl (lw_ug w_924 rfl))⟩
theorem lv_vX4_changeLength : LkV yX4_changeLength := ⟨(lw_ug w_925 rfl), (lw_ug w_926 rfl)⟩
theorem lm_X11_315 : LkM RX11 315 yX4_keepApart cX4_keepApart 5 (some .int) 3 := ⟨(lw_ug w_935 rfl), (lw_ug w_77 rfl), ⟨by decide, by decide, by decide +kernel⟩, by decide, (Or.inl (lw_ug w_932 rfl))⟩
theorem lv_vX4_keepApart : LkV yX4_keepApart := ⟨(lw_ug w_933 rfl), (lw_ug w_934 rfl)⟩
theorem lm_X11_321 : LkM RX11 321 yX11_refuseLandDay cX11_refuseLandDay 2 (some .int) 2 := ⟨(lw_ug w_949 rfl), (lw_ug w_73 rfl), ⟨by decide, by decide, by decide +kernel⟩, by decide, (Or.inl (lw_ug w_947 rfl))⟩
theorem ls_X11_refuseLandDay : Cond.static yX11_refuseLandDay ∈ lw_u := (lw_ug w_948 rfl)
theorem lm_X11_325 : LkM RX11 325 yX11_listStories cX11_listStories 6 none 2 := ⟨(lw_ug w_953 rfl), (lw_ug w_73 rfl), ⟨by decide, by decide, by decide +kernel⟩, by decide, (Or.inl (lw_ug w_950 rfl))⟩
theorem lv_vX11_listStories : LkV yX11_listStories := ⟨(lw_ug w_952 rfl), (lw_ug w_17 rfl)⟩
theorem lm_X11_329 : LkM RX11 329 yX4_search cX4_search 4 none 0 := ⟨(lw_ug w_966 rfl), (lw_ug w_77 rfl), ⟨by decide, by decide, by decide +kernel⟩, by decide, (Or.inl (lw_ug w_963 rfl))⟩
theorem lv_vX4_search : LkV yX4_search := ⟨(lw_ug w_964 rfl), (lw_ug w_965 rfl)⟩
theorem lm_X11_335 : LkM RX11 335 yX4_bestStory cX4_bestStory 4 (some .int) 1 := ⟨(lw_ug w_1006 rfl), (lw_ug w_77 rfl), ⟨by decide, by decide, by decide +kernel⟩, by decide, (Or.inl (lw_ug w_1003 rfl))⟩
theorem lv_vX4_bestStory : LkV yX4_bestStory := ⟨(lw_ug w_1004 rfl), (lw_ug w_1005 rfl)⟩
theorem lm_X11_338 : LkM RX11 338 yX4_lack cX4_lack 8 (some .int) 1 := ⟨(lw_ug w_1014 rfl), (lw_ug w_77 rfl), ⟨by decide, by decide, by decide +kernel⟩, by decide, (Or.inl (lw_ug w_1011 rfl))⟩
theorem lv_vX4_lack : LkV yX4_lack := ⟨(lw_ug w_1012 rfl), (lw_ug w_1013 rfl)⟩
theorem lm_X11_341 : LkM RX11 341 yX11_takeShowing cX11_takeShowing 5 (some .int) 3 := ⟨(lw_ug w_1023 rfl), (lw_ug w_73 rfl), ⟨by decide, by decide, by decide +kernel⟩, by decide, (Or.inl (lw_ug w_1020 rfl))⟩
theorem lv_vX11_takeShowing : LkV yX11_takeShowing := ⟨(lw_ug w_1022 rfl), (lw_ug w_23 rfl)⟩
theorem lm_X11_344 : LkM RX11 344 yX0_station cX0_station 4 none 3 := ⟨(lw_ug w_1031 rfl), (lw_ug w_78 rfl), ⟨by decide, by decide, by decide +kernel⟩, by decide, (Or.inl (lw_ug w_1028 rfl))⟩
theorem lv_vX0_station : LkV yX0_station := ⟨(lw_ug w_1029 rfl), (lw_ug w_1030 rfl)⟩
theorem lm_X11_348 : LkM RX11 348 yX0_announce cX0_announce 4 (some .int) 3 := ⟨(lw_ug w_1039 rfl), (lw_ug w_78 rfl), ⟨by decide, by decide, by decide +kernel⟩, by decide, (Or.inl (lw_ug w_1036 rfl))⟩
theorem lv_vX0_announce : LkV yX0_announce := ⟨(lw_ug w_1037 rfl), (lw_ug w_1038 rfl)⟩
theorem lm_X11_351 : LkM RX11 351 yX0_plan cX0_plan 4 none 1 := ⟨(lw_ug w_1051 rfl), (lw_ug w_78 rfl), ⟨by decide, by decide, by decide +kernel⟩, by decide, (Or.inl (lw_ug w_1048 rfl))⟩
theorem lv_vX0_plan : LkV yX0_plan := ⟨(lw_ug w_1049 rfl), (lw_ug w_1050 rfl)⟩
theorem lm_X11_365 : LkM RX11 365 yX11_isWeek cX11_isWeek 1 (some .boolean) 1 := ⟨(lw_ug w_1096 rfl), (lw_ug w_73 rfl), ⟨by decide, by decide, by decide +kernel⟩, by decide, (Or.inl (lw_ug w_1094 rfl))⟩
theorem ls_X11_isWeek : Cond.static yX11_isWeek ∈ lw_u := (lw_ug w_1095 rfl)
theorem lm_X11_368 : LkM RX11 368 yX2_add cX2_add 4 (some .int) 3 := ⟨(lw_ug w_1100 rfl), (lw_ug w_79 rfl), ⟨by decide, by decide, by decide +kernel⟩, by decide, (Or.inl (lw_ug w_1097 rfl))⟩
theorem lv_vX2_add : LkV yX2_add := ⟨(lw_ug w_1098 rfl), (lw_ug w_1099 rfl)⟩
theorem lm_X11_370 : LkM RX11 370 yX2_changePart cX2_changePart 4 (some .int) 2 := ⟨(lw_ug w_1108 rfl), (lw_ug w_79 rfl), ⟨by decide, by decide, by decide +kernel⟩, by decide, (Or.inl (lw_ug w_1105 rfl))⟩
theorem lv_vX2_changePart : LkV yX2_changePart := ⟨(lw_ug w_1106 rfl), (lw_ug w_1107 rfl)⟩
theorem lm_X11_373 : LkM RX11 373 yX2_changePrints cX2_changePrints 3 (some .int) 1 := ⟨(lw_ug w_1116 rfl), (lw_ug w_79 rfl), ⟨by decide, by decide, by decide +kernel⟩, by decide, (Or.inl (lw_ug w_1113 rfl))⟩
theorem lv_vX2_changePrints : LkV yX2_changePrints := ⟨(lw_ug w_1114 rfl), (lw_ug w_1115 rfl)⟩
theorem lm_X11_376 : LkM RX11 376 yX2_earnings cX2_earnings 1 (some .int) 0 := ⟨(lw_ug w_1124 rfl), (lw_ug w_79 rfl), ⟨by decide, by decide, by decide +kernel⟩, by decide, (Or.inl (lw_ug w_1121 rfl))⟩
theorem lv_vX2_earnings : LkV yX2_earnings := ⟨(lw_ug w_1122 rfl), (lw_ug w_1123 rfl)⟩
theorem lm_X11_382 : LkM RX11 382 yX2_bestWeek cX2_bestWeek 5 (some .int) 1 := ⟨(lw_ug w_1164 rfl), (lw_ug w_79 rfl), ⟨by decide, by decide, by decide +kernel⟩, by decide, (Or.inl (lw_ug w_1161 rfl))⟩
theorem lv_vX2_bestWeek : LkV yX2_bestWeek := ⟨(lw_ug w_1162 rfl), (lw_ug w_1163 rfl)⟩
theorem lm_X11_385 : LkM RX11 385 yX11_shotsIn cX11_shotsIn 3 (some .int) 0 := ⟨(lw_ug w_1173 rfl), (lw_ug w_73 rfl), ⟨by decide, by decide, by decide +kernel⟩, by decide, (Or.inl (lw_ug w_1170 rfl))⟩
theorem lv_vX11_shotsIn : LkV yX11_shotsIn := ⟨(lw_ug w_1172 rfl), (lw_ug w_34 rfl)⟩
theorem lm_X11_388 : LkM RX11 388 yX3_look cX3_look 5 none 4 := ⟨(lw_ug w_853 rfl), (lw_ug w_76 rfl), ⟨by decide, by decide, by decide +kernel⟩, by decide, (Or.inl (lw_ug w_850 rfl))⟩
theorem lv_vX3_look : LkV yX3_look := ⟨(lw_ug w_851 rfl), (lw_ug w_852 rfl)⟩
theorem lm_X11_392 : LkM RX11 392 yX6_isInForce cX6_isInForce 2 (some .boolean) 1 := ⟨(lw_ug w_859 rfl), (lw_ug w_85 rfl), ⟨by decide, by decide, by decide +kernel⟩, by decide, (Or.inl (lw_ug w_856 rfl))⟩
theorem lv_vX6_isInForce : LkV yX6_isInForce := ⟨(lw_ug w_857 rfl), (lw_ug w_858 rfl)⟩
theorem lm_X11_395 : LkM RX11 395 yX3_held cX3_held 1 (some .boolean) 0 := ⟨(lw_ug w_863 rfl), (lw_ug w_76 rfl), ⟨by decide, by decide, by decide +kernel⟩, by decide, (Or.inl (lw_ug w_860 rfl))⟩
theorem lv_vX3_held : LkV yX3_held := ⟨(lw_ug w_861 rfl), (lw_ug w_862 rfl)⟩
theorem lm_X11_398 : LkM RX11 398 yX5_serves cX5_serves 4 (some .boolean) 3 := ⟨(lw_ug w_917 rfl), (lw_ug w_86 rfl), ⟨by decide, by decide, by decide +kernel⟩, by decide, (Or.inl (lw_ug w_914 rfl))⟩
theorem lv_vX5_serves : LkV yX5_serves := ⟨(lw_ug w_915 rfl), (lw_ug w_916 rfl)⟩
theorem lm_X11_401 : LkM RX11 401 yX11_firstRight cX11_firstRight 5 (some (.object RX5)) 3 := ⟨(lw_ug w_913 rfl), (lw_ug w_73 rfl), ⟨by decide, by decide, by decide +kernel⟩, by decide, (Or.inl (lw_ug w_910 rfl))⟩
theorem lv_vX11_firstRight : LkV yX11_firstRight := ⟨(lw_ug w_912 rfl), (lw_ug w_16 rfl)⟩
theorem lm_X11_405 : LkM RX11 405 yX4_clearList cX4_clearList 1 none 0 := ⟨(lw_ug w_957 rfl), (lw_ug w_77 rfl), ⟨by decide, by decide, by decide +kernel⟩, by decide, (Or.inl (lw_ug w_954 rfl))⟩
theorem lv_vX4_clearList : LkV yX4_clearList := ⟨(lw_ug w_955 rfl), (lw_ug w_956 rfl)⟩
theorem lm_X11_408 : LkM RX11 408 yX4_list cX4_list 4 none 3 := ⟨(lw_ug w_961 rfl), (lw_ug w_77 rfl), ⟨by decide, by decide, by decide +kernel⟩, by decide, (Or.inl (lw_ug w_958 rfl))⟩
theorem lv_vX4_list : LkV yX4_list := ⟨(lw_ug w_959 rfl), (lw_ug w_960 rfl)⟩
theorem lm_X0_44 : LkM RX0 44 yX0_insertByHour cX0_insertByHour 4 none 2 := ⟨(lw_ug w_1043 rfl), (lw_ug w_78 rfl), ⟨by decide, by decide, by decide +kernel⟩, by decide, (Or.inl (lw_ug w_1040 rfl))⟩
theorem lv_vX0_insertByHour : LkV yX0_insertByHour := ⟨(lw_ug w_1042 rfl), (lw_ug w_24 rfl)⟩
theorem lm_X0_48 : LkM RX0 48 yX0_reachable cX0_reachable 7 (some .int) 3 := ⟨(lw_ug w_1055 rfl), (lw_ug w_78 rfl), ⟨by decide, by decide, by decide +kernel⟩, by decide, (Or.inl (lw_ug w_1052 rfl))⟩
theorem lv_vX0_reachable : LkV yX0_reachable := ⟨(lw_ug w_1054 rfl), (lw_ug w_25 rfl)⟩
theorem lm_X0_52 : LkM RX0 52 yX0_addMan cX0_addMan 4 none 1 := ⟨(lw_ug w_1065 rfl), (lw_ug w_78 rfl), ⟨by decide, by decide, by decide +kernel⟩, by decide, (Or.inl (lw_ug w_1062 rfl))⟩
theorem lv_vX0_addMan : LkV yX0_addMan := ⟨(lw_ug w_1064 rfl), (lw_ug w_26 rfl)⟩
theorem lm_X0_56 : LkM RX0 56 yX0_chooseBest cX0_chooseBest 2 none 0 := ⟨(lw_ug w_1081 rfl), (lw_ug w_78 rfl), ⟨by decide, by decide, by decide +kernel⟩, by decide, (Or.inl (lw_ug w_1078 rfl))⟩
theorem lv_vX0_chooseBest : LkV yX0_chooseBest := ⟨(lw_ug w_1080 rfl), (lw_ug w_28 rfl)⟩
theorem lm_X0_59 : LkM RX0 59 yX9_travel cX9_travel 9 none 3 := ⟨(lw_ug w_444 rfl), (lw_ug w_74 rfl), ⟨by decide, by decide, by decide +kernel⟩, by decide, (Or.inl (lw_ug w_1056 rfl))⟩
theorem lv_vX9_travel : LkV yX9_travel := ⟨(lw_ug w_442 rfl), (lw_ug w_443 rfl)⟩
theorem lm_X0_65 : LkM RX0 65 yX9_isThereBy cX9_isThereBy 3 (some .boolean) 2 := ⟨(lw_ug w_1060 rfl), (lw_ug w_74 rfl), ⟨by decide, by decide, by decide +kernel⟩, by decide, (Or.inl (lw_ug w_1057 rfl))⟩
theorem lv_vX9_isThereBy : LkV yX9_isThereBy := ⟨(lw_ug w_1058 rfl), (lw_ug w_1059 rfl)⟩
theorem lm_X0_73 : LkM RX0 73 yX0_canDo cX0_canDo 5 (some .boolean) 2 := ⟨(lw_ug w_1069 rfl), (lw_ug w_78 rfl), ⟨by decide, by decide, by decide +kernel⟩, by decide, (Or.inl (lw_ug w_1066 rfl))⟩
theorem lv_vX0_canDo : LkV yX0_canDo := ⟨(lw_ug w_1068 rfl), (lw_ug w_27 rfl)⟩
theorem lm_X0_76 : LkM RX0 76 yX0_highest cX0_highest 1 (some .int) 1 := ⟨(lw_ug w_1072 rfl), (lw_ug w_78 rfl), ⟨by decide, by decide, by decide +kernel⟩, by decide, (Or.inl (lw_ug w_1070 rfl))⟩
theorem ls_X0_highest : Cond.static yX0_highest ∈ lw_u := (lw_ug w_1071 rfl)
theorem lm_X0_83 : LkM RX0 83 yJ6_numberOfLeadingZeros_0f7a4 cJ6_numberOfLeadingZeros_0f7a4 2 (some .int) 1 := ⟨(lw_ug w_1075 rfl), (lw_ug w_88 rfl), ⟨by decide, by decide, by decide +kernel⟩, by decide, (Or.inl (lw_ug w_1073 rfl))⟩
theorem ls_J6_numberOfLeadingZeros_0f7a4 : Cond.static yJ6_numberOfLeadingZeros_0f7a4 ∈ lw_u := (lw_ug w_1074 rfl)
theorem lm_X0_97 : LkM RX0 97 yX0_offer cX0_offer 5 none 1 := ⟨(lw_ug w_1085 rfl), (lw_ug w_78 rfl), ⟨by decide, by decide, by decide +kernel⟩, by decide, (Or.inl (lw_ug w_1082 rfl))⟩
theorem lv_vX0_offer : LkV yX0_offer := ⟨(lw_ug w_1084 rfl), (lw_ug w_29 rfl)⟩
theorem lm_X1_33 : LkM RX1 33 yX1_canBe cX1_canBe 8 (some .boolean) 3 := ⟨(lw_ug w_599 rfl), (lw_ug w_75 rfl), ⟨by decide, by decide, by decide +kernel⟩, by decide, (Or.inl (lw_ug w_596 rfl))⟩
theorem lv_vX1_canBe : LkV yX1_canBe := ⟨(lw_ug w_598 rfl), (lw_ug w_1 rfl)⟩
theorem lm_X2_42 : LkM RX2 42 yX2_bestRun cX2_bestRun 1 (some .long) 0 := ⟨(lw_ug w_1128 rfl), (lw_ug w_79 rfl), ⟨by decide, by decide, by decide +kernel⟩, by decide, (Or.inl (lw_ug w_1125 rfl))⟩
theorem lv_vX2_bestRun : LkV yX2_bestRun := ⟨(lw_ug w_1127 rfl), (lw_ug w_30 rfl)⟩
theorem lm_X2_50 : LkM RX2 50 yX2_search cX2_search 5 none 0 := ⟨(lw_ug w_1132 rfl), (lw_ug w_79 rfl), ⟨by decide, by decide, by decide +kernel⟩, by decide, (Or.inl (lw_ug w_1129 rfl))⟩
theorem lv_vX2_search : LkV yX2_search := ⟨(lw_ug w_1131 rfl), (lw_ug w_31 rfl)⟩
theorem lm_X2_53 : LkM RX2 53 yJ7_fill_d0a16 cJ7_fill_d0a16 5 none 2 := ⟨(lw_ug w_1135 rfl), (lw_ug w_82 rfl), ⟨by decide, by decide, by decide +kernel⟩, by decide, (Or.inl (lw_ug w_1133 rfl))⟩
theorem ls_J7_fill_d0a16 : Cond.static yJ7_fill_d0a16 ∈ lw_u := (lw_ug w_1134 rfl)
theorem lm_X2_59 : LkM RX2 59 yX2_openIn cX2_openIn 6 (some .int) 1 := ⟨(lw_ug w_1139 rfl), (lw_ug w_79 rfl), ⟨by decide, by decide, by decide +kernel⟩, by decide, (Or.inl (lw_ug w_1136 rfl))⟩
theorem lv_vX2_openIn : LkV yX2_openIn := ⟨(lw_ug w_1138 rfl), (lw_ug w_32 rfl)⟩
theorem lm_X2_63 : LkM RX2 63 yJ6_bitCount_0f7a4 cJ6_bitCount_0f7a4 1 (some .int) 1 := ⟨(lw_ug w_982 rfl), (lw_ug w_88 rfl), ⟨by decide, by decide, by decide +kernel⟩, by decide, (Or.inl (lw_ug w_1145 rfl))⟩
theorem ls_J6_bitCount_0f7a4 : Cond.static yJ6_bitCount_0f7a4 ∈ lw_u := (lw_ug w_981 rfl)
theorem lmm_X2_68 : Cond.methodLink RX2 68 yJ9_min_7cf53 ∈ lw_u := (lw_ug w_1146 rfl)
theorem lm_X2_68 : LkM RX2 68 yJ9_min_7cf53 cJ9_min_7cf53 2 (some .int) 2 := ⟨(lw_ug w_1148 rfl), (lw_ug w_87 rfl), ⟨by decide, by decide, by decide +kernel⟩, by decide, (Or.inl (lw_ug w_1146 rfl))⟩
theorem ls_J9_min_7cf53 : Cond.static yJ9_min_7cf53 ∈ lw_u := (lw_ug w_1147 rfl)
theorem lm_X2_74 : LkM RX2 74 yX2_addPrint cX2_addPrint 4 none 1 := ⟨(lw_ug w_1152 rfl), (lw_ug w_79 rfl), ⟨by decide, by decide, by decide +kernel⟩, by decide, (Or.inl (lw_ug w_1149 rfl))⟩
theorem lv_vX2_addPrint : LkV yX2_addPrint := ⟨(lw_ug w_1151 rfl), (lw_ug w_33 rfl)⟩
theorem lmm_X2_93 : Cond.methodLink RX2 93 yJ9_max_f86c9 ∈ lw_u := (lw_ug w_1154 rfl)
theorem lm_X2_93 : LkM RX2 93 yJ9_max_f86c9 cJ9_max_f86c9 4 (some .long) 2 := ⟨(lw_ug w_1156 rfl), (lw_ug w_87 rfl), ⟨by decide, by decide, by decide +kernel⟩, by decide, (Or.inl (lw_ug w_1154 rfl))⟩
theorem ls_J9_max_f86c9 : Cond.static yJ9_max_f86c9 ∈ lw_u := (lw_ug w_1155 rfl)
theorem lm_X3_34 : LkM RX3 34 yX8_allFeet cX8_allFeet 3 (some .int) 0 := ⟨(lw_ug w_698 rfl), (lw_ug w_84 rfl), ⟨by decide, by decide, by decide +kernel⟩, by decide, (Or.inl (lw_ug w_854 rfl))⟩
theorem lm_X3_42 : LkM RX3 42 yX8_lentOnes cX8_lentOnes 3 (some .int) 0 := ⟨(lw_ug w_716 rfl), (lw_ug w_84 rfl), ⟨by decide, by decide, by decide +kernel⟩, by decide, (Or.inl (lw_ug w_855 rfl))⟩
theorem lm_X3_48 : LkM RX3 48 yX3_openLevel cX3_openLevel 1 none 0 := ⟨(lw_ug w_794 rfl), (lw_ug w_76 rfl), ⟨by decide, by decide, by decide +kernel⟩, by decide, (Or.inl (lw_ug w_791 rfl))⟩
theorem lv_vX3_openLevel : LkV yX3_openLevel := ⟨(lw_ug w_793 rfl), (lw_ug w_5 rfl)⟩
theorem lm_X3_59 : LkM RX3 59 yX3_take cX3_take 2 (some .boolean) 1 := ⟨(lw_ug w_798 rfl), (lw_ug w_76 rfl), ⟨by decide, by decide, by decide +kernel⟩, by decide, (Or.inl (lw_ug w_795 rfl))⟩
theorem lv_vX3_take : LkV yX3_take := ⟨(lw_ug w_797 rfl), (lw_ug w_6 rfl)⟩
theorem lm_X3_63 : LkM RX3 63 yX3_endNumber cX3_endNumber 1 none 0 := ⟨(lw_ug w_810 rfl), (lw_ug w_76 rfl), ⟨by decide, by decide, by decide +kernel⟩, by decide, (Or.inl (lw_ug w_807 rfl))⟩
theorem lv_vX3_endNumber : LkV yX3_endNumber := ⟨(lw_ug w_809 rfl), (lw_ug w_8 rfl)⟩
theorem lm_X3_69 : LkM RX3 69 yX3_isDigit cX3_isDigit 1 (some .boolean) 1 := ⟨(lw_ug w_801 rfl), (lw_ug w_76 rfl), ⟨by decide, by decide, by decide +kernel⟩, by decide, (Or.inl (lw_ug w_799 rfl))⟩
theorem ls_X3_isDigit : Cond.static yX3_isDigit ∈ lw_u := (lw_ug w_800 rfl)
theorem lm_X3_75 : LkM RX3 75 yX3_takeDigit cX3_takeDigit 2 (some .boolean) 1 := ⟨(lw_ug w_806 rfl), (lw_ug w_76 rfl), ⟨by decide, by decide, by decide +kernel⟩, by decide, (Or.inl (lw_ug w_803 rfl))⟩
theorem lv_vX3_takeDigit : LkV yX3_takeDigit := ⟨(lw_ug w_805 rfl), (lw_ug w_7 rfl)⟩
theorem lm_X3_78 : LkM RX3 78 yX3_takeOne cX3_takeOne 2 (some .boolean) 1 := ⟨(lw_ug w_822 rfl), (lw_ug w_76 rfl), ⟨by decide, by decide, by decide +kernel⟩, by decide, (Or.inl (lw_ug w_819 rfl))⟩
theorem lv_vX3_takeOne : LkV yX3_takeOne := ⟨(lw_ug w_821 rfl), (lw_ug w_11 rfl)⟩
theorem lm_X3_81 : LkM RX3 81 yX3_takeSign cX3_takeSign 2 (some .boolean) 1 := ⟨(lw_ug w_829 rfl), (lw_ug w_76 rfl), ⟨by decide, by decide, by decide +kernel⟩, by decide, (Or.inl (lw_ug w_826 rfl))⟩
theorem lv_vX3_takeSign : LkV yX3_takeSign := ⟨(lw_ug w_828 rfl), (lw_ug w_12 rfl)⟩
theorem lm_X3_84 : LkM RX3 84 yX3_takeJoint cX3_takeJoint 3 (some .boolean) 1 := ⟨(lw_ug w_833 rfl), (lw_ug w_76 rfl), ⟨by decide, by decide, by decide +kernel⟩, by decide, (Or.inl (lw_ug w_830 rfl))⟩
theorem lv_vX3_takeJoint : LkV yX3_takeJoint := ⟨(lw_ug w_832 rfl), (lw_ug w_13 rfl)⟩
theorem lm_X3_87 : LkM RX3 87 yX3_letterIndex cX3_letterIndex 1 (some .int) 1 := ⟨(lw_ug w_825 rfl), (lw_ug w_76 rfl), ⟨by decide, by decide, by decide +kernel⟩, by decide, (Or.inl (lw_ug w_823 rfl))⟩
theorem ls_X3_letterIndex : Cond.static yX3_letterIndex ∈ lw_u := (lw_ug w_824 rfl)
theorem lm_X3_100 : LkM RX3 100 yX3_endOne cX3_endOne 2 none 1 := ⟨(lw_ug w_818 rfl), (lw_ug w_76 rfl), ⟨by decide, by decide, by decide +kernel⟩, by decide, (Or.inl (lw_ug w_815 rfl))⟩
theorem lv_vX3_endOne : LkV yX3_endOne := ⟨(lw_ug w_817 rfl), (lw_ug w_10 rfl)⟩
theorem lm_X3_108 : LkM RX3 108 yX3_compares cX3_compares 2 (some .boolean) 0 := ⟨(lw_ug w_814 rfl), (lw_ug w_76 rfl), ⟨by decide, by decide, by decide +kernel⟩, by decide, (Or.inl (lw_ug w_811 rfl))⟩
theorem lv_vX3_compares : LkV yX3_compares := ⟨(lw_ug w_813 rfl), (lw_ug w_9 rfl)⟩
theorem lm_X4_61 : LkM RX4 61 yX8_allFeet cX8_allFeet 3 (some .int) 0 := ⟨(lw_ug w_698 rfl), (lw_ug w_84 rfl), ⟨by decide, by decide, by decide +kernel⟩, by decide, (Or.inl (lw_ug w_962 rfl))⟩
theorem lm_X4_73 : LkM RX4 73 yX4_sumOver cX4_sumOver 5 (some .int) 2 := ⟨(lw_ug w_993 rfl), (lw_ug w_77 rfl), ⟨by decide, by decide, by decide +kernel⟩, by decide, (Or.inl (lw_ug w_990 rfl))⟩
theorem lv_vX4_sumOver : LkV yX4_sumOver := ⟨(lw_ug w_992 rfl), (lw_ug w_21 rfl)⟩
theorem lm_X4_83 : LkM RX4 83 yX4_hasLength cX4_hasLength 2 (some .boolean) 1 := ⟨(lw_ug w_989 rfl), (lw_ug w_77 rfl), ⟨by decide, by decide, by decide +kernel⟩, by decide, (Or.inl (lw_ug w_986 rfl))⟩
theorem lv_vX4_hasLength : LkV yX4_hasLength := ⟨(lw_ug w_988 rfl), (lw_ug w_20 rfl)⟩
theorem lm_X4_93 : LkM RX4 93 yX4_greatestRow cX4_greatestRow 5 (some .int) 1 := ⟨(lw_ug w_970 rfl), (lw_ug w_77 rfl), ⟨by decide, by decide, by decide +kernel⟩, by decide, (Or.inl (lw_ug w_967 rfl))⟩
theorem lv_vX4_greatestRow : LkV yX4_greatestRow := ⟨(lw_ug w_969 rfl), (lw_ug w_18 rfl)⟩
theorem lm_X4_100 : LkM RX4 100 yJ6_bitCount_0f7a4 cJ6_bitCount_0f7a4 1 (some .int) 1 := ⟨(lw_ug w_982 rfl), (lw_ug w_88 rfl), ⟨by decide, by decide, by decide +kernel⟩, by decide, (Or.inl (lw_ug w_980 rfl))⟩
theorem lm_X4_105 : LkM RX4 105 yX4_offer cX4_offer 3 none 2 := ⟨(lw_ug w_998 rfl), (lw_ug w_77 rfl), ⟨by decide, by decide, by decide +kernel⟩, by decide, (Or.inl (lw_ug w_995 rfl))⟩
theorem lv_vX4_offer : LkV yX4_offer := ⟨(lw_ug w_997 rfl), (lw_ug w_22 rfl)⟩
theorem lm_X4_109 : LkM RX4 109 yX4_greatestRowTo cX4_greatestRowTo 6 (some .int) 2 := ⟨(lw_ug w_974 rfl), (lw_ug w_77 rfl), ⟨by decide, by decide, by decide +kernel⟩, by decide, (Or.inl (lw_ug w_971 rfl))⟩
theorem lv_vX4_greatestRowTo : LkV yX4_greatestRowTo := ⟨(lw_ug w_973 rfl), (lw_ug w_19 rfl)⟩
theorem lmm_X4_113 : Cond.methodLink RX4 113 yJ9_max_7cf53 ∈ lw_u := (lw_ug w_975 rfl)
theorem lm_X4_113 : LkM RX4 113 yJ9_max_7cf53 cJ9_max_7cf53 2 (some .int) 2 := ⟨(lw_ug w_977 rfl), (lw_ug w_87 rfl), ⟨by decide, by decide, by decide +kernel⟩, by decide, (Or.inl (lw_ug w_975 rfl))⟩
theorem ls_J9_max_7cf53 : Cond.static yJ9_max_7cf53 ∈ lw_u := (lw_ug w_976 rfl)
theorem lm_X6_23 : LkM RX6 23 yX6_byteAt cX6_byteAt 3 (some .int) 2 := ⟨(lw_ug w_781 rfl), (lw_ug w_85 rfl), ⟨by decide, by decide, by decide +kernel⟩, by decide, (Or.inl (lw_ug w_779 rfl))⟩
theorem ls_X6_byteAt : Cond.static yX6_byteAt ∈ lw_u := (lw_ug w_780 rfl)
theorem lm_X8_51 : LkM RX8 51 yX1_firstLie cX1_firstLie 5 (some .int) 3 := ⟨(lw_ug w_592 rfl), (lw_ug w_75 rfl), ⟨by decide, by decide, by decide +kernel⟩, by decide, (Or.inl (lw_ug w_712 rfl))⟩
theorem lm_X8_60 : LkM RX8 60 yX7_whereAt cX7_whereAt 2 (some .int) 1 := ⟨(lw_ug w_553 rfl), (lw_ug w_83 rfl), ⟨by decide, by decide, by decide +kernel⟩, by decide, (Or.inl (lw_ug w_721 rfl))⟩
theorem lm_X9_25 : LkM RX9 25 yX9_isFull cX9_isFull 1 (some .boolean) 0 := ⟨(lw_ug w_387 rfl), (lw_ug w_74 rfl), ⟨by decide, by decide, by decide +kernel⟩, by decide, (Or.inl (lw_ug w_423 rfl))⟩
theorem lm_X9_34 : LkM RX9 34 yJ7_fill_53178 cJ7_fill_53178 4 none 2 := ⟨(lw_ug w_448 rfl), (lw_ug w_82 rfl), ⟨by decide, by decide, by decide +kernel⟩, by decide, (Or.inl (lw_ug w_446 rfl))⟩
theorem ls_J7_fill_53178 : Cond.static yJ7_fill_53178 ∈ lw_u := (lw_ug w_447 rfl)
theorem lm_X9_43 : LkM RX9 43 yX10_arrives cX10_arrives 3 (some .int) 2 := ⟨(lw_ug w_452 rfl), (lw_ug w_81 rfl), ⟨by decide, by decide, by decide +kernel⟩, by decide, (Or.inl (lw_ug w_449 rfl))⟩
theorem lv_vX10_arrives : LkV yX10_arrives := ⟨(lw_ug w_450 rfl), (lw_ug w_451 rfl)⟩
theorem lm_X9_50 : LkM RX9 50 yX9_travel cX9_travel 9 none 3 := ⟨(lw_ug w_444 rfl), (lw_ug w_74 rfl), ⟨by decide, by decide, by decide +kernel⟩, by decide, (Or.inl (lw_ug w_441 rfl))⟩
theorem lm_X10_34 : LkM RX10 34 yX10_leaves cX10_leaves 3 (some .int) 1 := ⟨(lw_ug w_456 rfl), (lw_ug w_81 rfl), ⟨by decide, by decide, by decide +kernel⟩, by decide, (Or.inl (lw_ug w_453 rfl))⟩
theorem lv_vX10_leaves : LkV yX10_leaves := ⟨(lw_ug w_454 rfl), (lw_ug w_455 rfl)⟩
theorem lm_L_9 : LkM RL 9 yX11_init cX11_init 1 none 0 := ⟨(lw_ug w_93 rfl), (lw_ug w_73 rfl), ⟨by decide, by decide, by decide +kernel⟩, by decide, (Or.inl (lw_ug w_91 rfl))⟩
theorem ln_X11_init : Cond.instanceMethod yX11_init ∈ lw_u := (lw_ug w_92 rfl)
theorem lm_L_12 : LkM RL 12 yX12_init cX12_init 2 none 0 := ⟨(lw_ug w_1178 rfl), (lw_ug w_80 rfl), ⟨by decide, by decide, by decide +kernel⟩, by decide, (Or.inl (lw_ug w_1176 rfl))⟩
theorem ln_X12_init : Cond.instanceMethod yX12_init ∈ lw_u := (lw_ug w_1177 rfl)
theorem lm_L_13 : LkM RL 13 yX11_pass cX11_pass 2 (some .int) 1 := ⟨(lw_ug w_370 rfl), (lw_ug w_73 rfl), ⟨by decide, by decide, by decide +kernel⟩, by decide, (Or.inl (lw_ug w_367 rfl))⟩
theorem lv_vX11_pass : LkV yX11_pass := ⟨(lw_ug w_368 rfl), (lw_ug w_369 rfl)⟩
theorem lm_L_17 : LkM RL 17 yX12_pass cX12_pass 2 (some .int) 1 := ⟨(lw_ug w_1460 rfl), (lw_ug w_80 rfl), ⟨by decide, by decide, by decide +kernel⟩, by decide, (Or.inl (lw_ug w_1457 rfl))⟩
theorem lv_vX12_pass : LkV yX12_pass := ⟨(lw_ug w_1458 rfl), (lw_ug w_1459 rfl)⟩
theorem lm_L_18 : LkM RL 18 yX11_way cX11_way 7 (some .int) 6 := ⟨(lw_ug w_377 rfl), (lw_ug w_73 rfl), ⟨by decide, by decide, by decide +kernel⟩, by decide, (Or.inl (lw_ug w_374 rfl))⟩
theorem lv_vX11_way : LkV yX11_way := ⟨(lw_ug w_375 rfl), (lw_ug w_376 rfl)⟩
theorem lm_L_22 : LkM RL 22 yX12_way cX12_way 7 (some .int) 6 := ⟨(lw_ug w_1468 rfl), (lw_ug w_80 rfl), ⟨by decide, by decide, by decide +kernel⟩, by decide, (Or.inl (lw_ug w_1465 rfl))⟩
theorem lv_vX12_way : LkV yX12_way := ⟨(lw_ug w_1466 rfl), (lw_ug w_1467 rfl)⟩
theorem lm_L_23 : LkM RL 23 yX11_shut cX11_shut 3 (some .int) 1 := ⟨(lw_ug w_427 rfl), (lw_ug w_73 rfl), ⟨by decide, by decide, by decide +kernel⟩, by decide, (Or.inl (lw_ug w_424 rfl))⟩
theorem lv_vX11_shut : LkV yX11_shut := ⟨(lw_ug w_425 rfl), (lw_ug w_426 rfl)⟩
theorem lm_L_26 : LkM RL 26 yX12_shut cX12_shut 2 (some .int) 1 := ⟨(lw_ug w_1481 rfl), (lw_ug w_80 rfl), ⟨by decide, by decide, by decide +kernel⟩, by decide, (Or.inl (lw_ug w_1478 rfl))⟩
theorem lv_vX12_shut : LkV yX12_shut := ⟨(lw_ug w_1479 rfl), (lw_ug w_1480 rfl)⟩
theorem lm_L_27 : LkM RL 27 yX11_arrival cX11_arrival 5 (some .int) 4 := ⟨(lw_ug w_436 rfl), (lw_ug w_73 rfl), ⟨by decide, by decide, by decide +kernel⟩, by decide, (Or.inl (lw_ug w_433 rfl))⟩
theorem lv_vX11_arrival : LkV yX11_arrival := ⟨(lw_ug w_434 rfl), (lw_ug w_435 rfl)⟩
theorem lm_L_31 : LkM RL 31 yX12_arrival cX12_arrival 6 (some .int) 4 := ⟨(lw_ug w_1485 rfl), (lw_ug w_80 rfl), ⟨by decide, by decide, by decide +kernel⟩, by decide, (Or.inl (lw_ug w_1482 rfl))⟩
theorem lv_vX12_arrival : LkV yX12_arrival := ⟨(lw_ug w_1483 rfl), (lw_ug w_1484 rfl)⟩
theorem lm_L_32 : LkM RL 32 yX11_shot cX11_shot 8 (some .int) 6 := ⟨(lw_ug w_461 rfl), (lw_ug w_73 rfl), ⟨by decide, by decide, by decide +kernel⟩, by decide, (Or.inl (lw_ug w_458 rfl))⟩
theorem lv_vX11_shot : LkV yX11_shot := ⟨(lw_ug w_459 rfl), (lw_ug w_460 rfl)⟩
theorem lm_L_35 : LkM RL 35 yX12_shot cX12_shot 7 (some .int) 6 := ⟨(lw_ug w_1498 rfl), (lw_ug w_80 rfl), ⟨by decide, by decide, by decide +kernel⟩, by decide, (Or.inl (lw_ug w_1495 rfl))⟩
theorem lv_vX12_shot : LkV yX12_shot := ⟨(lw_ug w_1496 rfl), (lw_ug w_1497 rfl)⟩
theorem lm_L_36 : LkM RL 36 yX11_about cX11_about 4 (some .int) 2 := ⟨(lw_ug w_541 rfl), (lw_ug w_73 rfl), ⟨by decide, by decide, by decide +kernel⟩, by decide, (Or.inl (lw_ug w_538 rfl))⟩
theorem lv_vX11_about : LkV yX11_about := ⟨(lw_ug w_539 rfl), (lw_ug w_540 rfl)⟩
theorem lm_L_40 : LkM RL 40 yX12_about cX12_about 3 (some .int) 2 := ⟨(lw_ug w_1506 rfl), (lw_ug w_80 rfl), ⟨by decide, by decide, by decide +kernel⟩, by decide, (Or.inl (lw_ug w_1503 rfl))⟩
theorem lv_vX12_about : LkV yX12_about := ⟨(lw_ug w_1504 rfl), (lw_ug w_1505 rfl)⟩
theorem lm_L_41 : LkM RL 41 yX11_send cX11_send 5 (some .int) 1 := ⟨(lw_ug w_549 rfl), (lw_ug w_73 rfl), ⟨by decide, by decide, by decide +kernel⟩, by decide, (Or.inl (lw_ug w_546 rfl))⟩
theorem lv_vX11_send : LkV yX11_send := ⟨(lw_ug w_547 rfl), (lw_ug w_548 rfl)⟩
theorem lm_L_44 : LkM RL 44 yX12_send cX12_send 4 (some .int) 1 := ⟨(lw_ug w_1514 rfl), (lw_ug w_80 rfl), ⟨by decide, by decide, by decide +kernel⟩, by decide, (Or.inl (lw_ug w_1511 rfl))⟩
theorem lv_vX12_send : LkV yX12_send := ⟨(lw_ug w_1512 rfl), (lw_ug w_1513 rfl)⟩
theorem lm_L_45 : LkM RL 45 yX11_expected cX11_expected 4 (some .int) 2 := ⟨(lw_ug w_557 rfl), (lw_ug w_73 rfl), ⟨by decide, by decide, by decide +kernel⟩, by decide, (Or.inl (lw_ug w_554 rfl))⟩
theorem lv_vX11_expected : LkV yX11_expected := ⟨(lw_ug w_555 rfl), (lw_ug w_556 rfl)⟩
theorem lm_L_49 : LkM RL 49 yX12_expected cX12_expected 3 (some .int) 2 := ⟨(lw_ug w_1525 rfl), (lw_ug w_80 rfl), ⟨by decide, by decide, by decide +kernel⟩, by decide, (Or.inl (lw_ug w_1522 rfl))⟩
theorem lv_vX12_expected : LkV yX12_expected := ⟨(lw_ug w_1523 rfl), (lw_ug w_1524 rfl)⟩
theorem lm_L_50 : LkM RL 50 yX11_come cX11_come 3 (some .int) 1 := ⟨(lw_ug w_561 rfl), (lw_ug w_73 rfl), ⟨by decide, by decide, by decide +kernel⟩, by decide, (Or.inl (lw_ug w_558 rfl))⟩
theorem lv_vX11_come : LkV yX11_come := ⟨(lw_ug w_559 rfl), (lw_ug w_560 rfl)⟩
theorem lm_L_53 : LkM RL 53 yX12_come cX12_come 2 (some .int) 1 := ⟨(lw_ug w_1529 rfl), (lw_ug w_80 rfl), ⟨by decide, by decide, by decide +kernel⟩, by decide, (Or.inl (lw_ug w_1526 rfl))⟩
theorem lv_vX12_come : LkV yX12_come := ⟨(lw_ug w_1527 rfl), (lw_ug w_1528 rfl)⟩
theorem lm_L_54 : LkM RL 54 yX11_lose cX11_lose 4 (some .int) 1 := ⟨(lw_ug w_565 rfl), (lw_ug w_73 rfl), ⟨by decide, by decide, by decide +kernel⟩, by decide, (Or.inl (lw_ug w_562 rfl))⟩
theorem lv_vX11_lose : LkV yX11_lose := ⟨(lw_ug w_563 rfl), (lw_ug w_564 rfl)⟩
theorem lm_L_57 : LkM RL 57 yX12_lose cX12_lose 3 (some .int) 1 := ⟨(lw_ug w_1533 rfl), (lw_ug w_80 rfl), ⟨by decide, by decide, by decide +kernel⟩, by decide, (Or.inl (lw_ug w_1530 rfl))⟩
theorem lv_vX12_lose : LkV yX12_lose := ⟨(lw_ug w_1531 rfl), (lw_ug w_1532 rfl)⟩
theorem lm_L_58 : LkM RL 58 yX11_where cX11_where 4 (some .int) 2 := ⟨(lw_ug w_569 rfl), (lw_ug w_73 rfl), ⟨by decide, by decide, by decide +kernel⟩, by decide, (Or.inl (lw_ug w_566 rfl))⟩
theorem lv_vX11_where : LkV yX11_where := ⟨(lw_ug w_567 rfl), (lw_ug w_568 rfl)⟩
theorem lm_L_61 : LkM RL 61 yX12_where cX12_where 3 (some .int) 2 := ⟨(lw_ug w_1537 rfl), (lw_ug w_80 rfl), ⟨by decide, by decide, by decide +kernel⟩, by decide, (Or.inl (lw_ug w_1534 rfl))⟩
theorem lv_vX12_where : LkV yX12_where := ⟨(lw_ug w_1535 rfl), (lw_ug w_1536 rfl)⟩
theorem lm_L_62 : LkM RL 62 yX11_overdue cX11_overdue 3 (some .int) 0 := ⟨(lw_ug w_573 rfl), (lw_ug w_73 rfl), ⟨by decide, by decide, by decide +kernel⟩, by decide, (Or.inl (lw_ug w_570 rfl))⟩
theorem lv_vX11_overdue : LkV yX11_overdue := ⟨(lw_ug w_571 rfl), (lw_ug w_572 rfl)⟩
theorem lm_L_66 : LkM RL 66 yX12_overdue cX12_overdue 3 (some .int) 0 := ⟨(lw_ug w_1541 rfl), (lw_ug w_80 rfl), ⟨by decide, by decide, by decide +kernel⟩, by decide, (Or.inl (lw_ug w_1538 rfl))⟩
theorem lv_vX12_overdue : LkV yX12_overdue := ⟨(lw_ug w_1539 rfl), (lw_ug w_1540 rfl)⟩
theorem lm_L_67 : LkM RL 67 yX11_fact cX11_fact 5 (some .int) 4 := ⟨(lw_ug w_577 rfl), (lw_ug w_73 rfl), ⟨by decide, by decide, by decide +kernel⟩, by decide, (Or.inl (lw_ug w_574 rfl))⟩
theorem lv_vX11_fact : LkV yX11_fact := ⟨(lw_ug w_575 rfl), (lw_ug w_576 rfl)⟩
theorem lm_L_71 : LkM RL 71 yX12_fact cX12_fact 5 (some .int) 4 := ⟨(lw_ug w_1545 rfl), (lw_ug w_80 rfl), ⟨by decide, by decide, by decide +kernel⟩, by decide, (Or.inl (lw_ug w_1542 rfl))⟩
theorem lv_vX12_fact : LkV yX12_fact := ⟨(lw_ug w_1543 rfl), (lw_ug w_1544 rfl)⟩
theorem lm_L_72 : LkM RL 72 yX11_lie cX11_lie 5 (some .int) 3 := ⟨(lw_ug w_588 rfl), (lw_ug w_73 rfl), ⟨by decide, by decide, by decide +kernel⟩, by decide, (Or.inl (lw_ug w_585 rfl))⟩
theorem lv_vX11_lie : LkV yX11_lie := ⟨(lw_ug w_586 rfl), (lw_ug w_587 rfl)⟩
theorem lm_L_76 : LkM RL 76 yX12_lie cX12_lie 4 (some .int) 3 := ⟨(lw_ug w_1550 rfl), (lw_ug w_80 rfl), ⟨by decide, by decide, by decide +kernel⟩, by decide, (Or.inl (lw_ug w_1547 rfl))⟩
theorem lv_vX12_lie : LkV yX12_lie := ⟨(lw_ug w_1548 rfl), (lw_ug w_1549 rfl)⟩
theorem lm_L_77 : LkM RL 77 yX11_find cX11_find 6 (some .int) 3 := ⟨(lw_ug w_607 rfl), (lw_ug w_73 rfl), ⟨by decide, by decide, by decide +kernel⟩, by decide, (Or.inl (lw_ug w_604 rfl))⟩
theorem lv_vX11_find : LkV yX11_find := ⟨(lw_ug w_605 rfl), (lw_ug w_606 rfl)⟩
theorem lm_L_80 : LkM RL 80 yX12_find cX12_find 6 (some .int) 3 := ⟨(lw_ug w_1562 rfl), (lw_ug w_80 rfl), ⟨by decide, by decide, by decide +kernel⟩, by decide, (Or.inl (lw_ug w_1559 rfl))⟩
theorem lv_vX12_find : LkV yX12_find := ⟨(lw_ug w_1560 rfl), (lw_ug w_1561 rfl)⟩
theorem lm_L_81 : LkM RL 81 yX11_story cX11_story 5 (some .int) 4 := ⟨(lw_ug w_615 rfl), (lw_ug w_73 rfl), ⟨by decide, by decide, by decide +kernel⟩, by decide, (Or.inl (lw_ug w_612 rfl))⟩
theorem lv_vX11_story : LkV yX11_story := ⟨(lw_ug w_613 rfl), (lw_ug w_614 rfl)⟩
theorem lm_L_84 : LkM RL 84 yX12_story cX12_story 5 (some .int) 4 := ⟨(lw_ug w_1566 rfl), (lw_ug w_80 rfl), ⟨by decide, by decide, by decide +kernel⟩, by decide, (Or.inl (lw_ug w_1563 rfl))⟩
theorem lv_vX12_story : LkV yX12_story := ⟨(lw_ug w_1564 rfl), (lw_ug w_1565 rfl)⟩
theorem lm_L_85 : LkM RL 85 yX11_put cX11_put 5 (some .int) 2 := ⟨(lw_ug w_658 rfl), (lw_ug w_73 rfl), ⟨by decide, by decide, by decide +kernel⟩, by decide, (Or.inl (lw_ug w_655 rfl))⟩
theorem lv_vX11_put : LkV yX11_put := ⟨(lw_ug w_656 rfl), (lw_ug w_657 rfl)⟩
theorem lm_L_88 : LkM RL 88 yX12_put cX12_put 5 (some .int) 2 := ⟨(lw_ug w_1571 rfl), (lw_ug w_80 rfl), ⟨by decide, by decide, by decide +kernel⟩, by decide, (Or.inl (lw_ug w_1568 rfl))⟩
theorem lv_vX12_put : LkV yX12_put := ⟨(lw_ug w_1569 rfl), (lw_ug w_1570 rfl)⟩
theorem lm_L_89 : LkM RL 89 yX11_cut cX11_cut 4 (some .int) 2 := ⟨(lw_ug w_674 rfl), (lw_ug w_73 rfl), ⟨by decide, by decide, by decide +kernel⟩, by decide, (Or.inl (lw_ug w_671 rfl))⟩
theorem lv_vX11_cut : LkV yX11_cut := ⟨(lw_ug w_672 rfl), (lw_ug w_673 rfl)⟩
theorem lm_L_92 : LkM RL 92 yX12_cut cX12_cut 5 (some .int) 2 := ⟨(lw_ug w_1579 rfl), (lw_ug w_80 rfl), ⟨by decide, by decide, by decide +kernel⟩, by decide, (Or.inl (lw_ug w_1576 rfl))⟩
theorem lv_vX12_cut : LkV yX12_cut := ⟨(lw_ug w_1577 rfl), (lw_ug w_1578 rfl)⟩
theorem lm_L_93 : LkM RL 93 yX11_say cX11_say 5 (some .int) 2 := ⟨(lw_ug w_683 rfl), (lw_ug w_73 rfl), ⟨by decide, by decide, by decide +kernel⟩, by decide, (Or.inl (lw_ug w_680 rfl))⟩
theorem lv_vX11_say : LkV yX11_say := ⟨(lw_ug w_681 rfl), (lw_ug w_682 rfl)⟩
theorem lm_L_96 : LkM RL 96 yX12_say cX12_say 4 (some .int) 2 := ⟨(lw_ug w_1583 rfl), (lw_ug w_80 rfl), ⟨by decide, by decide, by decide +kernel⟩, by decide, (Or.inl (lw_ug w_1580 rfl))⟩
theorem lv_vX12_say : LkV yX12_say := ⟨(lw_ug w_1581 rfl), (lw_ug w_1582 rfl)⟩
theorem lm_L_97 : LkM RL 97 yX11_must cX11_must 5 (some .int) 2 := ⟨(lw_ug w_690 rfl), (lw_ug w_73 rfl), ⟨by decide, by decide, by decide +kernel⟩, by decide, (Or.inl (lw_ug w_687 rfl))⟩
theorem lv_vX11_must : LkV yX11_must := ⟨(lw_ug w_688 rfl), (lw_ug w_689 rfl)⟩
theorem lm_L_100 : LkM RL 100 yX12_must cX12_must 4 (some .int) 2 := ⟨(lw_ug w_1587 rfl), (lw_ug w_80 rfl), ⟨by decide, by decide, by decide +kernel⟩, by decide, (Or.inl (lw_ug w_1584 rfl))⟩
theorem lv_vX12_must : LkV yX12_must := ⟨(lw_ug w_1585 rfl), (lw_ug w_1586 rfl)⟩
theorem lm_L_101 : LkM RL 101 yX11_of cX11_of 4 (some .int) 2 := ⟨(lw_ug w_694 rfl), (lw_ug w_73 rfl), ⟨by decide, by decide, by decide +kernel⟩, by decide, (Or.inl (lw_ug w_691 rfl))⟩
theorem lv_vX11_of : LkV yX11_of := ⟨(lw_ug w_692 rfl), (lw_ug w_693 rfl)⟩
theorem lm_L_104 : LkM RL 104 yX12_of cX12_of 3 (some .int) 2 := ⟨(lw_ug w_1591 rfl), (lw_ug w_80 rfl), ⟨by decide, by decide, by decide +kernel⟩, by decide, (Or.inl (lw_ug w_1588 rfl))⟩
theorem lv_vX12_of : LkV yX12_of := ⟨(lw_ug w_1589 rfl), (lw_ug w_1590 rfl)⟩
theorem lm_L_105 : LkM RL 105 yX11_age cX11_age 3 (some .int) 1 := ⟨(lw_ug w_725 rfl), (lw_ug w_73 rfl), ⟨by decide, by decide, by decide +kernel⟩, by decide, (Or.inl (lw_ug w_722 rfl))⟩
theorem lv_vX11_age : LkV yX11_age := ⟨(lw_ug w_723 rfl), (lw_ug w_724 rfl)⟩
theorem lm_L_108 : LkM RL 108 yX12_age cX12_age 3 (some .int) 1 := ⟨(lw_ug w_1611 rfl), (lw_ug w_80 rfl), ⟨by decide, by decide, by decide +kernel⟩, by decide, (Or.inl (lw_ug w_1608 rfl))⟩
theorem lv_vX12_age : LkV yX12_age := ⟨(lw_ug w_1609 rfl), (lw_ug w_1610 rfl)⟩
theorem lm_L_109 : LkM RL 109 yX11_cost cX11_cost 3 (some .int) 1 := ⟨(lw_ug w_729 rfl), (lw_ug w_73 rfl), ⟨by decide, by decide, by decide +kernel⟩, by decide, (Or.inl (lw_ug w_726 rfl))⟩
theorem lv_vX11_cost : LkV yX11_cost := ⟨(lw_ug w_727 rfl), (lw_ug w_728 rfl)⟩
theorem lm_L_112 : LkM RL 112 yX12_cost cX12_cost 5 (some .int) 1 := ⟨(lw_ug w_1616 rfl), (lw_ug w_80 rfl), ⟨by decide, by decide, by decide +kernel⟩, by decide, (Or.inl (lw_ug w_1613 rfl))⟩
theorem lv_vX12_cost : LkV yX12_cost := ⟨(lw_ug w_1614 rfl), (lw_ug w_1615 rfl)⟩
theorem lm_L_113 : LkM RL 113 yX11_rate cX11_rate 4 (some .int) 2 := ⟨(lw_ug w_737 rfl), (lw_ug w_73 rfl), ⟨by decide, by decide, by decide +kernel⟩, by decide, (Or.inl (lw_ug w_734 rfl))⟩
theorem lv_vX11_rate : LkV yX11_rate := ⟨(lw_ug w_735 rfl), (lw_ug w_736 rfl)⟩
theorem lm_L_116 : LkM RL 116 yX12_rate cX12_rate 4 (some .int) 2 := ⟨(lw_ug w_1620 rfl), (lw_ug w_80 rfl), ⟨by decide, by decide, by decide +kernel⟩, by decide, (Or.inl (lw_ug w_1617 rfl))⟩
theorem lv_vX12_rate : LkV yX12_rate := ⟨(lw_ug w_1618 rfl), (lw_ug w_1619 rfl)⟩
theorem lm_L_117 : LkM RL 117 yX11_rule cX11_rule 2 (some .int) 1 := ⟨(lw_ug w_741 rfl), (lw_ug w_73 rfl), ⟨by decide, by decide, by decide +kernel⟩, by decide, (Or.inl (lw_ug w_738 rfl))⟩
theorem lv_vX11_rule : LkV yX11_rule := ⟨(lw_ug w_739 rfl), (lw_ug w_740 rfl)⟩
theorem lm_L_120 : LkM RL 120 yX12_rule cX12_rule 2 (some .int) 1 := ⟨(lw_ug w_1625 rfl), (lw_ug w_80 rfl), ⟨by decide, by decide, by decide +kernel⟩, by decide, (Or.inl (lw_ug w_1622 rfl))⟩
theorem lv_vX12_rule : LkV yX12_rule := ⟨(lw_ug w_1623 rfl), (lw_ug w_1624 rfl)⟩
theorem lm_L_123 : LkM RL 123 yX11_feed cX11_feed 5 (some .int) 2 := ⟨(lw_ug w_770 rfl), (lw_ug w_73 rfl), ⟨by decide, by decide, by decide +kernel⟩, by decide, (Or.inl (lw_ug w_767 rfl))⟩
theorem lv_vX11_feed : LkV yX11_feed := ⟨(lw_ug w_768 rfl), (lw_ug w_769 rfl)⟩
theorem lm_L_127 : LkM RL 127 yX12_feed cX12_feed 6 (some .int) 2 := ⟨(lw_ug w_1633 rfl), (lw_ug w_80 rfl), ⟨by decide, by decide, by decide +kernel⟩, by decide, (Or.inl (lw_ug w_1630 rfl))⟩
theorem lv_vX12_feed : LkV yX12_feed := ⟨(lw_ug w_1631 rfl), (lw_ug w_1632 rfl)⟩
theorem lm_L_128 : LkM RL 128 yX11_fault cX11_fault 3 (some .int) 1 := ⟨(lw_ug w_786 rfl), (lw_ug w_73 rfl), ⟨by decide, by decide, by decide +kernel⟩, by decide, (Or.inl (lw_ug w_783 rfl))⟩
theorem lv_vX11_fault : LkV yX11_fault := ⟨(lw_ug w_784 rfl), (lw_ug w_785 rfl)⟩
theorem lm_L_131 : LkM RL 131 yX12_fault cX12_fault 2 (some .int) 1 := ⟨(lw_ug w_1641 rfl), (lw_ug w_80 rfl), ⟨by decide, by decide, by decide +kernel⟩, by decide, (Or.inl (lw_ug w_1638 rfl))⟩
theorem lv_vX12_fault : LkV yX12_fault := ⟨(lw_ug w_1639 rfl), (lw_ug w_1640 rfl)⟩
theorem lm_L_132 : LkM RL 132 yX11_strike cX11_strike 4 (some .int) 2 := ⟨(lw_ug w_837 rfl), (lw_ug w_73 rfl), ⟨by decide, by decide, by decide +kernel⟩, by decide, (Or.inl (lw_ug w_834 rfl))⟩
theorem lv_vX11_strike : LkV yX11_strike := ⟨(lw_ug w_835 rfl), (lw_ug w_836 rfl)⟩
theorem lm_L_135 : LkM RL 135 yX12_strike cX12_strike 3 (some .int) 2 := ⟨(lw_ug w_1675 rfl), (lw_ug w_80 rfl), ⟨by decide, by decide, by decide +kernel⟩, by decide, (Or.inl (lw_ug w_1672 rfl))⟩
theorem lv_vX12_strike : LkV yX12_strike := ⟨(lw_ug w_1673 rfl), (lw_ug w_1674 rfl)⟩
theorem lm_L_136 : LkM RL 136 yX11_bars cX11_bars 5 (some .int) 3 := ⟨(lw_ug w_842 rfl), (lw_ug w_73 rfl), ⟨by decide, by decide, by decide +kernel⟩, by decide, (Or.inl (lw_ug w_839 rfl))⟩
theorem lv_vX11_bars : LkV yX11_bars := ⟨(lw_ug w_840 rfl), (lw_ug w_841 rfl)⟩
theorem lm_L_139 : LkM RL 139 yX12_bars cX12_bars 5 (some .int) 3 := ⟨(lw_ug w_1679 rfl), (lw_ug w_80 rfl), ⟨by decide, by decide, by decide +kernel⟩, by decide, (Or.inl (lw_ug w_1676 rfl))⟩
theorem lv_vX12_bars : LkV yX12_bars := ⟨(lw_ug w_1677 rfl), (lw_ug w_1678 rfl)⟩
theorem lm_L_140 : LkM RL 140 yX11_reserve cX11_reserve 4 (some .int) 2 := ⟨(lw_ug w_867 rfl), (lw_ug w_73 rfl), ⟨by decide, by decide, by decide +kernel⟩, by decide, (Or.inl (lw_ug w_864 rfl))⟩
theorem lv_vX11_reserve : LkV yX11_reserve := ⟨(lw_ug w_865 rfl), (lw_ug w_866 rfl)⟩
theorem lm_L_143 : LkM RL 143 yX12_reserve cX12_reserve 4 (some .int) 2 := ⟨(lw_ug w_1695 rfl), (lw_ug w_80 rfl), ⟨by decide, by decide, by decide +kernel⟩, by decide, (Or.inl (lw_ug w_1692 rfl))⟩
theorem lv_vX12_reserve : LkV yX12_reserve := ⟨(lw_ug w_1693 rfl), (lw_ug w_1694 rfl)⟩
theorem lm_L_144 : LkM RL 144 yX11_right cX11_right 6 (some .int) 5 := ⟨(lw_ug w_875 rfl), (lw_ug w_73 rfl), ⟨by decide, by decide, by decide +kernel⟩, by decide, (Or.inl (lw_ug w_872 rfl))⟩
theorem lv_vX11_right : LkV yX11_right := ⟨(lw_ug w_873 rfl), (lw_ug w_874 rfl)⟩
theorem lm_L_148 : LkM RL 148 yX12_right cX12_right 6 (some .int) 5 := ⟨(lw_ug w_1699 rfl), (lw_ug w_80 rfl), ⟨by decide, by decide, by decide +kernel⟩, by decide, (Or.inl (lw_ug w_1696 rfl))⟩
theorem lv_vX12_right : LkV yX12_right := ⟨(lw_ug w_1697 rfl), (lw_ug w_1698 rfl)⟩
theorem lm_L_149 : LkM RL 149 yX11_left cX11_left 2 (some .int) 1 := ⟨(lw_ug w_901 rfl), (lw_ug w_73 rfl), ⟨by decide, by decide, by decide +kernel⟩, by decide, (Or.inl (lw_ug w_898 rfl))⟩
theorem lv_vX11_left : LkV yX11_left := ⟨(lw_ug w_899 rfl), (lw_ug w_900 rfl)⟩
theorem lm_L_152 : LkM RL 152 yX12_left cX12_left 2 (some .int) 1 := ⟨(lw_ug w_1704 rfl), (lw_ug w_80 rfl), ⟨by decide, by decide, by decide +kernel⟩, by decide, (Or.inl (lw_ug w_1701 rfl))⟩
theorem lv_vX12_left : LkV yX12_left := ⟨(lw_ug w_1702 rfl), (lw_ug w_1703 rfl)⟩
theorem lm_L_153 : LkM RL 153 yX11_allowed cX11_allowed 5 (some .int) 3 := ⟨(lw_ug w_905 rfl), (lw_ug w_73 rfl), ⟨by decide, by decide, by decide +kernel⟩, by decide, (Or.inl (lw_ug w_902 rfl))⟩
theorem lv_vX11_allowed : LkV yX11_allowed := ⟨(lw_ug w_903 rfl), (lw_ug w_904 rfl)⟩
theorem lm_L_156 : LkM RL 156 yX12_allowed cX12_allowed 5 (some .int) 3 := ⟨(lw_ug w_1708 rfl), (lw_ug w_80 rfl), ⟨by decide, by decide, by decide +kernel⟩, by decide, (Or.inl (lw_ug w_1705 rfl))⟩
theorem lv_vX12_allowed : LkV yX12_allowed := ⟨(lw_ug w_1706 rfl), (lw_ug w_1707 rfl)⟩
theorem lm_L_157 : LkM RL 157 yX11_length cX11_length 3 (some .int) 2 := ⟨(lw_ug w_923 rfl), (lw_ug w_73 rfl), ⟨by decide, by decide, by decide +kernel⟩, by decide, (Or.inl (lw_ug w_920 rfl))⟩
theorem lv_vX11_length : LkV yX11_length := ⟨(lw_ug w_921 rfl), (lw_ug w_922 rfl)⟩
theorem lm_L_161 : LkM RL 161 yX12_length cX12_length 4 (some .int) 2 := ⟨(lw_ug w_1720 rfl), (lw_ug w_80 rfl), ⟨by decide, by decide, by decide +kernel⟩, by decide, (Or.inl (lw_ug w_1717 rfl))⟩
theorem lv_vX12_length : LkV yX12_length := ⟨(lw_ug w_1718 rfl), (lw_ug w_1719 rfl)⟩
theorem lm_L_162 : LkM RL 162 yX11_apart cX11_apart 4 (some .int) 3 := ⟨(lw_ug w_931 rfl), (lw_ug w_73 rfl), ⟨by decide, by decide, by decide +kernel⟩, by decide, (Or.inl (lw_ug w_928 rfl))⟩
theorem lv_vX11_apart : LkV yX11_apart := ⟨(lw_ug w_929 rfl), (lw_ug w_930 rfl)⟩
theorem lm_L_166 : LkM RL 166 yX12_apart cX12_apart 5 (some .int) 3 := ⟨(lw_ug w_1725 rfl), (lw_ug w_80 rfl), ⟨by decide, by decide, by decide +kernel⟩, by decide, (Or.inl (lw_ug w_1722 rfl))⟩
theorem lv_vX12_apart : LkV yX12_apart := ⟨(lw_ug w_1723 rfl), (lw_ug w_1724 rfl)⟩
theorem lm_L_167 : LkM RL 167 yX11_rival cX11_rival 4 (some .int) 2 := ⟨(lw_ug w_942 rfl), (lw_ug w_73 rfl), ⟨by decide, by decide, by decide +kernel⟩, by decide, (Or.inl (lw_ug w_939 rfl))⟩
theorem lv_vX11_rival : LkV yX11_rival := ⟨(lw_ug w_940 rfl), (lw_ug w_941 rfl)⟩
theorem lm_L_170 : LkM RL 170 yX12_rival cX12_rival 4 (some .int) 2 := ⟨(lw_ug w_1729 rfl), (lw_ug w_80 rfl), ⟨by decide, by decide, by decide +kernel⟩, by decide, (Or.inl (lw_ug w_1726 rfl))⟩
theorem lv_vX12_rival : LkV yX12_rival := ⟨(lw_ug w_1727 rfl), (lw_ug w_1728 rfl)⟩
theorem lm_L_171 : LkM RL 171 yX11_reel cX11_reel 4 (some .int) 2 := ⟨(lw_ug w_946 rfl), (lw_ug w_73 rfl), ⟨by decide, by decide, by decide +kernel⟩, by decide, (Or.inl (lw_ug w_943 rfl))⟩
theorem lv_vX11_reel : LkV yX11_reel := ⟨(lw_ug w_944 rfl), (lw_ug w_945 rfl)⟩
theorem lm_L_174 : LkM RL 174 yX12_reel cX12_reel 4 (some .int) 2 := ⟨(lw_ug w_1733 rfl), (lw_ug w_80 rfl), ⟨by decide, by decide, by decide +kernel⟩, by decide, (Or.inl (lw_ug w_1730 rfl))⟩
theorem lv_vX12_reel : LkV yX12_reel := ⟨(lw_ug w_1731 rfl), (lw_ug w_1732 rfl)⟩
theorem lm_L_175 : LkM RL 175 yX11_reelAt cX11_reelAt 5 (some .int) 3 := ⟨(lw_ug w_1002 rfl), (lw_ug w_73 rfl), ⟨by decide, by decide, by decide +kernel⟩, by decide, (Or.inl (lw_ug w_999 rfl))⟩
theorem lv_vX11_reelAt : LkV yX11_reelAt := ⟨(lw_ug w_1000 rfl), (lw_ug w_1001 rfl)⟩
theorem lm_L_178 : LkM RL 178 yX12_reelAt cX12_reelAt 5 (some .int) 3 := ⟨(lw_ug w_1757 rfl), (lw_ug w_80 rfl), ⟨by decide, by decide, by decide +kernel⟩, by decide, (Or.inl (lw_ug w_1754 rfl))⟩
theorem lv_vX12_reelAt : LkV yX12_reelAt := ⟨(lw_ug w_1755 rfl), (lw_ug w_1756 rfl)⟩
theorem lm_L_179 : LkM RL 179 yX11_judge cX11_judge 6 (some .int) 3 := ⟨(lw_ug w_1010 rfl), (lw_ug w_73 rfl), ⟨by decide, by decide, by decide +kernel⟩, by decide, (Or.inl (lw_ug w_1007 rfl))⟩
theorem lv_vX11_judge : LkV yX11_judge := ⟨(lw_ug w_1008 rfl), (lw_ug w_1009 rfl)⟩
theorem lm_L_183 : LkM RL 183 yX12_judge cX12_judge 13 (some .int) 3 := ⟨(lw_ug w_1761 rfl), (lw_ug w_80 rfl), ⟨by decide, by decide, by decide +kernel⟩, by decide, (Or.inl (lw_ug w_1758 rfl))⟩
theorem lv_vX12_judge : LkV yX12_judge := ⟨(lw_ug w_1759 rfl), (lw_ug w_1760 rfl)⟩
theorem lm_L_184 : LkM RL 184 yX11_show cX11_show 7 (some .int) 2 := ⟨(lw_ug w_1019 rfl), (lw_ug w_73 rfl), ⟨by decide, by decide, by decide +kernel⟩, by decide, (Or.inl (lw_ug w_1016 rfl))⟩
theorem lv_vX11_show : LkV yX11_show := ⟨(lw_ug w_1017 rfl), (lw_ug w_1018 rfl)⟩
theorem lm_L_187 : LkM RL 187 yX12_show cX12_show 8 (some .int) 2 := ⟨(lw_ug w_1765 rfl), (lw_ug w_80 rfl), ⟨by decide, by decide, by decide +kernel⟩, by decide, (Or.inl (lw_ug w_1762 rfl))⟩
theorem lv_vX12_show : LkV yX12_show := ⟨(lw_ug w_1763 rfl), (lw_ug w_1764 rfl)⟩
theorem lm_L_188 : LkM RL 188 yX11_man cX11_man 4 (some .int) 3 := ⟨(lw_ug w_1027 rfl), (lw_ug w_73 rfl), ⟨by decide, by decide, by decide +kernel⟩, by decide, (Or.inl (lw_ug w_1024 rfl))⟩
theorem lv_vX11_man : LkV yX11_man := ⟨(lw_ug w_1025 rfl), (lw_ug w_1026 rfl)⟩
theorem lm_L_191 : LkM RL 191 yX12_man cX12_man 4 (some .int) 3 := ⟨(lw_ug w_1769 rfl), (lw_ug w_80 rfl), ⟨by decide, by decide, by decide +kernel⟩, by decide, (Or.inl (lw_ug w_1766 rfl))⟩
theorem lv_vX12_man : LkV yX12_man := ⟨(lw_ug w_1767 rfl), (lw_ug w_1768 rfl)⟩
theorem lm_L_192 : LkM RL 192 yX11_event cX11_event 4 (some .int) 3 := ⟨(lw_ug w_1035 rfl), (lw_ug w_73 rfl), ⟨by decide, by decide, by decide +kernel⟩, by decide, (Or.inl (lw_ug w_1032 rfl))⟩
theorem lv_vX11_event : LkV yX11_event := ⟨(lw_ug w_1033 rfl), (lw_ug w_1034 rfl)⟩
theorem lm_L_195 : LkM RL 195 yX12_event cX12_event 4 (some .int) 3 := ⟨(lw_ug w_1774 rfl), (lw_ug w_80 rfl), ⟨by decide, by decide, by decide +kernel⟩, by decide, (Or.inl (lw_ug w_1771 rfl))⟩
theorem lv_vX12_event : LkV yX12_event := ⟨(lw_ug w_1772 rfl), (lw_ug w_1773 rfl)⟩
theorem lm_L_196 : LkM RL 196 yX11_cover cX11_cover 1 (some .int) 0 := ⟨(lw_ug w_1047 rfl), (lw_ug w_73 rfl), ⟨by decide, by decide, by decide +kernel⟩, by decide, (Or.inl (lw_ug w_1044 rfl))⟩
theorem lv_vX11_cover : LkV yX11_cover := ⟨(lw_ug w_1045 rfl), (lw_ug w_1046 rfl)⟩
theorem lm_L_199 : LkM RL 199 yX12_cover cX12_cover 1 (some .int) 0 := ⟨(lw_ug w_1778 rfl), (lw_ug w_80 rfl), ⟨by decide, by decide, by decide +kernel⟩, by decide, (Or.inl (lw_ug w_1775 rfl))⟩
theorem lv_vX12_cover : LkV yX12_cover := ⟨(lw_ug w_1776 rfl), (lw_ug w_1777 rfl)⟩
theorem lm_L_200 : LkM RL 200 yX11_covered cX11_covered 2 (some .int) 1 := ⟨(lw_ug w_1089 rfl), (lw_ug w_73 rfl), ⟨by decide, by decide, by decide +kernel⟩, by decide, (Or.inl (lw_ug w_1086 rfl))⟩
theorem lv_vX11_covered : LkV yX11_covered := ⟨(lw_ug w_1087 rfl), (lw_ug w_1088 rfl)⟩
theorem lm_L_203 : LkM RL 203 yX12_covered cX12_covered 7 (some .int) 1 := ⟨(lw_ug w_1806 rfl), (lw_ug w_80 rfl), ⟨by decide, by decide, by decide +kernel⟩, by decide, (Or.inl (lw_ug w_1803 rfl))⟩
theorem lv_vX12_covered : LkV yX12_covered := ⟨(lw_ug w_1804 rfl), (lw_ug w_1805 rfl)⟩
theorem lm_L_204 : LkM RL 204 yX11_hall cX11_hall 5 (some .int) 4 := ⟨(lw_ug w_1093 rfl), (lw_ug w_73 rfl), ⟨by decide, by decide, by decide +kernel⟩, by decide, (Or.inl (lw_ug w_1090 rfl))⟩
theorem lv_vX11_hall : LkV yX11_hall := ⟨(lw_ug w_1091 rfl), (lw_ug w_1092 rfl)⟩
theorem lm_L_207 : LkM RL 207 yX12_hall cX12_hall 5 (some .int) 4 := ⟨(lw_ug w_1810 rfl), (lw_ug w_80 rfl), ⟨by decide, by decide, by decide +kernel⟩, by decide, (Or.inl (lw_ug w_1807 rfl))⟩
theorem lv_vX12_hall : LkV yX12_hall := ⟨(lw_ug w_1808 rfl), (lw_ug w_1809 rfl)⟩
theorem lm_L_208 : LkM RL 208 yX11_part cX11_part 3 (some .int) 2 := ⟨(lw_ug w_1104 rfl), (lw_ug w_73 rfl), ⟨by decide, by decide, by decide +kernel⟩, by decide, (Or.inl (lw_ug w_1101 rfl))⟩
theorem lv_vX11_part : LkV yX11_part := ⟨(lw_ug w_1102 rfl), (lw_ug w_1103 rfl)⟩
theorem lm_L_211 : LkM RL 211 yX12_part cX12_part 4 (some .int) 2 := ⟨(lw_ug w_1815 rfl), (lw_ug w_80 rfl), ⟨by decide, by decide, by decide +kernel⟩, by decide, (Or.inl (lw_ug w_1812 rfl))⟩
theorem lv_vX12_part : LkV yX12_part := ⟨(lw_ug w_1813 rfl), (lw_ug w_1814 rfl)⟩
theorem lm_L_212 : LkM RL 212 yX11_prints cX11_prints 2 (some .int) 1 := ⟨(lw_ug w_1112 rfl), (lw_ug w_73 rfl), ⟨by decide, by decide, by decide +kernel⟩, by decide, (Or.inl (lw_ug w_1109 rfl))⟩
theorem lv_vX11_prints : LkV yX11_prints := ⟨(lw_ug w_1110 rfl), (lw_ug w_1111 rfl)⟩
theorem lm_L_215 : LkM RL 215 yX12_prints cX12_prints 3 (some .int) 1 := ⟨(lw_ug w_1820 rfl), (lw_ug w_80 rfl), ⟨by decide, by decide, by decide +kernel⟩, by decide, (Or.inl (lw_ug w_1817 rfl))⟩
theorem lv_vX12_prints : LkV yX12_prints := ⟨(lw_ug w_1818 rfl), (lw_ug w_1819 rfl)⟩
theorem lm_L_216 : LkM RL 216 yX11_run cX11_run 1 (some .int) 0 := ⟨(lw_ug w_1120 rfl), (lw_ug w_73 rfl), ⟨by decide, by decide, by decide +kernel⟩, by decide, (Or.inl (lw_ug w_1117 rfl))⟩
theorem lv_vX11_run : LkV yX11_run := ⟨(lw_ug w_1118 rfl), (lw_ug w_1119 rfl)⟩
theorem lm_L_219 : LkM RL 219 yX12_run cX12_run 1 (some .int) 0 := ⟨(lw_ug w_1824 rfl), (lw_ug w_80 rfl), ⟨by decide, by decide, by decide +kernel⟩, by decide, (Or.inl (lw_ug w_1821 rfl))⟩
theorem lv_vX12_run : LkV yX12_run := ⟨(lw_ug w_1822 rfl), (lw_ug w_1823 rfl)⟩
theorem lm_L_220 : LkM RL 220 yX11_week cX11_week 2 (some .int) 1 := ⟨(lw_ug w_1160 rfl), (lw_ug w_73 rfl), ⟨by decide, by decide, by decide +kernel⟩, by decide, (Or.inl (lw_ug w_1157 rfl))⟩
theorem lv_vX11_week : LkV yX11_week := ⟨(lw_ug w_1158 rfl), (lw_ug w_1159 rfl)⟩
theorem lm_L_223 : LkM RL 223 yX12_week cX12_week 5 (some .int) 1 := ⟨(lw_ug w_1848 rfl), (lw_ug w_80 rfl), ⟨by decide, by decide, by decide +kernel⟩, by decide, (Or.inl (lw_ug w_1845 rfl))⟩
theorem lv_vX12_week : LkV yX12_week := ⟨(lw_ug w_1846 rfl), (lw_ug w_1847 rfl)⟩
theorem lm_L_224 : LkM RL 224 yX11_count cX11_count 2 (some .int) 1 := ⟨(lw_ug w_1169 rfl), (lw_ug w_73 rfl), ⟨by decide, by decide, by decide +kernel⟩, by decide, (Or.inl (lw_ug w_1166 rfl))⟩
theorem lv_vX11_count : LkV yX11_count := ⟨(lw_ug w_1167 rfl), (lw_ug w_1168 rfl)⟩
theorem lm_L_227 : LkM RL 227 yX12_count cX12_count 4 (some .int) 1 := ⟨(lw_ug w_1852 rfl), (lw_ug w_80 rfl), ⟨by decide, by decide, by decide +kernel⟩, by decide, (Or.inl (lw_ug w_1849 rfl))⟩
theorem lv_vX12_count : LkV yX12_count := ⟨(lw_ug w_1850 rfl), (lw_ug w_1851 rfl)⟩
theorem lm_X12_245 : LkM RX12 245 yX12_in cX12_in 6 (some .boolean) 3 := ⟨(lw_ug w_1464 rfl), (lw_ug w_80 rfl), ⟨by decide, by decide, by decide +kernel⟩, by decide, (Or.inl (lw_ug w_1462 rfl))⟩
theorem ls_X12_in : Cond.static yX12_in ∈ lw_u := (lw_ug w_1463 rfl)
theorem lm_X12_258 : LkM RX12 258 yX12_isPlace cX12_isPlace 1 (some .boolean) 1 := ⟨(lw_ug w_1471 rfl), (lw_ug w_80 rfl), ⟨by decide, by decide, by decide +kernel⟩, by decide, (Or.inl (lw_ug w_1469 rfl))⟩
theorem ls_X12_isPlace : Cond.static yX12_isPlace ∈ lw_u := (lw_ug w_1470 rfl)
theorem lm_X12_262 : LkM RX12 262 yX12_isHour cX12_isHour 1 (some .boolean) 1 := ⟨(lw_ug w_1475 rfl), (lw_ug w_80 rfl), ⟨by decide, by decide, by decide +kernel⟩, by decide, (Or.inl (lw_ug w_1473 rfl))⟩
theorem ls_X12_isHour : Cond.static yX12_isHour ∈ lw_u := (lw_ug w_1474 rfl)
theorem lm_X12_271 : LkM RX12 271 yX12_by cX12_by 5 (some .int) 3 := ⟨(lw_ug w_1494 rfl), (lw_ug w_80 rfl), ⟨by decide, by decide, by decide +kernel⟩, by decide, (Or.inl (lw_ug w_1491 rfl))⟩
theorem lv_vX12_by : LkV yX12_by := ⟨(lw_ug w_1493 rfl), (lw_ug w_36 rfl)⟩
theorem lm_X12_275 : LkM RX12 275 yX12_arrives cX12_arrives 8 (some .int) 4 := ⟨(lw_ug w_1489 rfl), (lw_ug w_80 rfl), ⟨by decide, by decide, by decide +kernel⟩, by decide, (Or.inl (lw_ug w_1486 rfl))⟩
theorem lv_vX12_arrives : LkV yX12_arrives := ⟨(lw_ug w_1488 rfl), (lw_ug w_35 rfl)⟩
theorem lm_X12_290 : LkM RX12 290 yX12_isShot cX12_isShot 2 (some .boolean) 1 := ⟨(lw_ug w_1510 rfl), (lw_ug w_80 rfl), ⟨by decide, by decide, by decide +kernel⟩, by decide, (Or.inl (lw_ug w_1507 rfl))⟩
theorem lv_vX12_isShot : LkV yX12_isShot := ⟨(lw_ug w_1509 rfl), (lw_ug w_37 rfl)⟩
theorem lm_X12_293 : LkM RX12 293 yX12_was cX12_was 2 (some .boolean) 2 := ⟨(lw_ug w_1521 rfl), (lw_ug w_80 rfl), ⟨by decide, by decide, by decide +kernel⟩, by decide, (Or.inl (lw_ug w_1519 rfl))⟩
theorem ls_X12_was : Cond.static yX12_was ∈ lw_u := (lw_ug w_1520 rfl)
theorem lm_X12_297 : LkM RX12 297 yX12_whereOf cX12_whereOf 3 (some .int) 2 := ⟨(lw_ug w_1518 rfl), (lw_ug w_80 rfl), ⟨by decide, by decide, by decide +kernel⟩, by decide, (Or.inl (lw_ug w_1515 rfl))⟩
theorem lv_vX12_whereOf : LkV yX12_whereOf := ⟨(lw_ug w_1517 rfl), (lw_ug w_38 rfl)⟩
theorem lm_X12_303 : LkM RX12 303 yX12_canBe cX12_canBe 6 (some .boolean) 3 := ⟨(lw_ug w_1558 rfl), (lw_ug w_80 rfl), ⟨by decide, by decide, by decide +kernel⟩, by decide, (Or.inl (lw_ug w_1555 rfl))⟩
theorem lv_vX12_canBe : LkV yX12_canBe := ⟨(lw_ug w_1557 rfl), (lw_ug w_40 rfl)⟩
theorem lm_X12_307 : LkM RX12 307 yX12_lieOf cX12_lieOf 5 (some .int) 3 := ⟨(lw_ug w_1554 rfl), (lw_ug w_80 rfl), ⟨by decide, by decide, by decide +kernel⟩, by decide, (Or.inl (lw_ug w_1551 rfl))⟩
theorem lv_vX12_lieOf : LkV yX12_lieOf := ⟨(lw_ug w_1553 rfl), (lw_ug w_39 rfl)⟩
theorem lm_X12_316 : LkM RX12 316 yX12_isStory cX12_isStory 2 (some .boolean) 1 := ⟨(lw_ug w_1575 rfl), (lw_ug w_80 rfl), ⟨by decide, by decide, by decide +kernel⟩, by decide, (Or.inl (lw_ug w_1572 rfl))⟩
theorem lv_vX12_isStory : LkV yX12_isStory := ⟨(lw_ug w_1574 rfl), (lw_ug w_41 rfl)⟩
theorem lm_X12_319 : LkM RX12 319 yX12_feetOf cX12_feetOf 4 (some .int) 1 := ⟨(lw_ug w_1595 rfl), (lw_ug w_80 rfl), ⟨by decide, by decide, by decide +kernel⟩, by decide, (Or.inl (lw_ug w_1592 rfl))⟩
theorem lv_vX12_feetOf : LkV yX12_feetOf := ⟨(lw_ug w_1594 rfl), (lw_ug w_42 rfl)⟩
theorem lm_X12_323 : LkM RX12 323 yX12_disorderOf cX12_disorderOf 5 (some .int) 1 := ⟨(lw_ug w_1599 rfl), (lw_ug w_80 rfl), ⟨by decide, by decide, by decide +kernel⟩, by decide, (Or.inl (lw_ug w_1596 rfl))⟩
theorem lv_vX12_disorderOf : LkV yX12_disorderOf := ⟨(lw_ug w_1598 rfl), (lw_ug w_43 rfl)⟩
theorem lm_X12_326 : LkM RX12 326 yX12_manyOf cX12_manyOf 7 (some .int) 2 := ⟨(lw_ug w_1603 rfl), (lw_ug w_80 rfl), ⟨by decide, by decide, by decide +kernel⟩, by decide, (Or.inl (lw_ug w_1600 rfl))⟩
theorem lv_vX12_manyOf : LkV yX12_manyOf := ⟨(lw_ug w_1602 rfl), (lw_ug w_44 rfl)⟩
theorem lm_X12_329 : LkM RX12 329 yX12_isReady cX12_isReady 4 (some .boolean) 1 := ⟨(lw_ug w_1607 rfl), (lw_ug w_80 rfl), ⟨by decide, by decide, by decide +kernel⟩, by decide, (Or.inl (lw_ug w_1604 rfl))⟩
theorem lv_vX12_isReady : LkV yX12_isReady := ⟨(lw_ug w_1606 rfl), (lw_ug w_45 rfl)⟩
theorem lm_X12_339 : LkM RX12 339 yX12_isDay cX12_isDay 1 (some .boolean) 1 := ⟨(lw_ug w_1628 rfl), (lw_ug w_80 rfl), ⟨by decide, by decide, by decide +kernel⟩, by decide, (Or.inl (lw_ug w_1626 rfl))⟩
theorem ls_X12_isDay : Cond.static yX12_isDay ∈ lw_u := (lw_ug w_1627 rfl)
theorem lm_X12_342 : LkM RX12 342 yX12_isRule cX12_isRule 2 (some .boolean) 1 := ⟨(lw_ug w_1637 rfl), (lw_ug w_80 rfl), ⟨by decide, by decide, by decide +kernel⟩, by decide, (Or.inl (lw_ug w_1634 rfl))⟩
theorem lv_vX12_isRule : LkV yX12_isRule := ⟨(lw_ug w_1636 rfl), (lw_ug w_46 rfl)⟩
theorem lm_X12_348 : LkM RX12 348 yX12_peek cX12_peek 2 (some .int) 1 := ⟨(lw_ug w_1649 rfl), (lw_ug w_80 rfl), ⟨by decide, by decide, by decide +kernel⟩, by decide, (Or.inl (lw_ug w_1646 rfl))⟩
theorem lv_vX12_peek : LkV yX12_peek := ⟨(lw_ug w_1648 rfl), (lw_ug w_48 rfl)⟩
theorem lm_X12_351 : LkM RX12 351 yX12_letterValue cX12_letterValue 1 (some .int) 1 := ⟨(lw_ug w_1660 rfl), (lw_ug w_80 rfl), ⟨by decide, by decide, by decide +kernel⟩, by decide, (Or.inl (lw_ug w_1658 rfl))⟩
theorem ls_X12_letterValue : Cond.static yX12_letterValue ∈ lw_u := (lw_ug w_1659 rfl)
theorem lm_X12_368 : LkM RX12 368 yX12_binds cX12_binds 1 (some .int) 1 := ⟨(lw_ug w_1671 rfl), (lw_ug w_80 rfl), ⟨by decide, by decide, by decide +kernel⟩, by decide, (Or.inl (lw_ug w_1669 rfl))⟩
theorem ls_X12_binds : Cond.static yX12_binds ∈ lw_u := (lw_ug w_1670 rfl)
theorem lm_X12_371 : LkM RX12 371 yX12_push cX12_push 2 none 1 := ⟨(lw_ug w_1653 rfl), (lw_ug w_80 rfl), ⟨by decide, by decide, by decide +kernel⟩, by decide, (Or.inl (lw_ug w_1650 rfl))⟩
theorem lv_vX12_push : LkV yX12_push := ⟨(lw_ug w_1652 rfl), (lw_ug w_49 rfl)⟩
theorem lm_X12_375 : LkM RX12 375 yX12_takeAsking cX12_takeAsking 6 (some .boolean) 1 := ⟨(lw_ug w_1657 rfl), (lw_ug w_80 rfl), ⟨by decide, by decide, by decide +kernel⟩, by decide, (Or.inl (lw_ug w_1654 rfl))⟩
theorem lv_vX12_takeAsking : LkV yX12_takeAsking := ⟨(lw_ug w_1656 rfl), (lw_ug w_50 rfl)⟩
theorem lm_X12_378 : LkM RX12 378 yX12_closeTo cX12_closeTo 3 none 1 := ⟨(lw_ug w_1668 rfl), (lw_ug w_80 rfl), ⟨by decide, by decide, by decide +kernel⟩, by decide, (Or.inl (lw_ug w_1665 rfl))⟩
theorem lv_vX12_closeTo : LkV yX12_closeTo := ⟨(lw_ug w_1667 rfl), (lw_ug w_51 rfl)⟩
theorem lm_X12_381 : LkM RX12 381 yX12_readRule cX12_readRule 5 (some .int) 1 := ⟨(lw_ug w_1645 rfl), (lw_ug w_80 rfl), ⟨by decide, by decide, by decide +kernel⟩, by decide, (Or.inl (lw_ug w_1642 rfl))⟩
theorem lv_vX12_readRule : LkV yX12_readRule := ⟨(lw_ug w_1644 rfl), (lw_ug w_47 rfl)⟩
theorem lm_X12_386 : LkM RX12 386 yX12_isLand cX12_isLand 1 (some .boolean) 1 := ⟨(lw_ug w_1686 rfl), (lw_ug w_80 rfl), ⟨by decide, by decide, by decide +kernel⟩, by decide, (Or.inl (lw_ug w_1684 rfl))⟩
theorem ls_X12_isLand : Cond.static yX12_isLand ∈ lw_u := (lw_ug w_1685 rfl)
theorem lm_X12_389 : LkM RX12 389 yX12_mayAsk cX12_mayAsk 4 (some .int) 3 := ⟨(lw_ug w_1683 rfl), (lw_ug w_80 rfl), ⟨by decide, by decide, by decide +kernel⟩, by decide, (Or.inl (lw_ug w_1680 rfl))⟩
theorem lv_vX12_mayAsk : LkV yX12_mayAsk := ⟨(lw_ug w_1682 rfl), (lw_ug w_52 rfl)⟩
theorem lm_X12_392 : LkM RX12 392 yX12_barOf cX12_barOf 6 (some .int) 3 := ⟨(lw_ug w_1691 rfl), (lw_ug w_80 rfl), ⟨by decide, by decide, by decide +kernel⟩, by decide, (Or.inl (lw_ug w_1688 rfl))⟩
theorem lv_vX12_barOf : LkV yX12_barOf := ⟨(lw_ug w_1690 rfl), (lw_ug w_53 rfl)⟩
theorem lm_X12_400 : LkM RX12 400 yX12_rightTo cX12_rightTo 5 (some .int) 3 := ⟨(lw_ug w_1716 rfl), (lw_ug w_80 rfl), ⟨by decide, by decide, by decide +kernel⟩, by decide, (Or.inl (lw_ug w_1713 rfl))⟩
theorem lv_vX12_rightTo : LkV yX12_rightTo := ⟨(lw_ug w_1715 rfl), (lw_ug w_55 rfl)⟩
theorem lm_X12_402 : LkM RX12 402 yX12_isAllowed cX12_isAllowed 5 (some .boolean) 3 := ⟨(lw_ug w_1712 rfl), (lw_ug w_80 rfl), ⟨by decide, by decide, by decide +kernel⟩, by decide, (Or.inl (lw_ug w_1709 rfl))⟩
theorem lv_vX12_isAllowed : LkV yX12_isAllowed := ⟨(lw_ug w_1711 rfl), (lw_ug w_54 rfl)⟩
theorem lm_X12_410 : LkM RX12 410 yX12_layMay cX12_layMay 4 none 2 := ⟨(lw_ug w_1745 rfl), (lw_ug w_80 rfl), ⟨by decide, by decide, by decide +kernel⟩, by decide, (Or.inl (lw_ug w_1742 rfl))⟩
theorem lv_vX12_layMay : LkV yX12_layMay := ⟨(lw_ug w_1744 rfl), (lw_ug w_58 rfl)⟩
theorem lm_X12_420 : LkM RX12 420 yX12_mayFollow cX12_mayFollow 6 (some .boolean) 4 := ⟨(lw_ug w_1749 rfl), (lw_ug w_80 rfl), ⟨by decide, by decide, by decide +kernel⟩, by decide, (Or.inl (lw_ug w_1746 rfl))⟩
theorem lv_vX12_mayFollow : LkV yX12_mayFollow := ⟨(lw_ug w_1748 rfl), (lw_ug w_59 rfl)⟩
theorem lm_X12_424 : LkM RX12 424 yX12_keep cX12_keep 6 none 4 := ⟨(lw_ug w_1753 rfl), (lw_ug w_80 rfl), ⟨by decide, by decide, by decide +kernel⟩, by decide, (Or.inl (lw_ug w_1750 rfl))⟩
theorem lv_vX12_keep : LkV yX12_keep := ⟨(lw_ug w_1752 rfl), (lw_ug w_60 rfl)⟩
theorem lm_X12_428 : LkM RX12 428 yX12_mayReel cX12_mayReel 3 (some .int) 2 := ⟨(lw_ug w_1737 rfl), (lw_ug w_80 rfl), ⟨by decide, by decide, by decide +kernel⟩, by decide, (Or.inl (lw_ug w_1734 rfl))⟩
theorem lv_vX12_mayReel : LkV yX12_mayReel := ⟨(lw_ug w_1736 rfl), (lw_ug w_56 rfl)⟩
theorem lm_X12_431 : LkM RX12 431 yX12_layReel cX12_layReel 10 none 2 := ⟨(lw_ug w_1741 rfl), (lw_ug w_80 rfl), ⟨by decide, by decide, by decide +kernel⟩, by decide, (Or.inl (lw_ug w_1738 rfl))⟩
theorem lv_vX12_layReel : LkV yX12_layReel := ⟨(lw_ug w_1740 rfl), (lw_ug w_57 rfl)⟩
theorem lm_X12_439 : LkM RX12 439 yX12_layOrder cX12_layOrder 3 none 0 := ⟨(lw_ug w_1790 rfl), (lw_ug w_80 rfl), ⟨by decide, by decide, by decide +kernel⟩, by decide, (Or.inl (lw_ug w_1787 rfl))⟩
theorem lv_vX12_layOrder : LkV yX12_layOrder := ⟨(lw_ug w_1789 rfl), (lw_ug w_63 rfl)⟩
theorem lm_X12_442 : LkM RX12 442 yX12_layTimes cX12_layTimes 7 none 0 := ⟨(lw_ug w_1794 rfl), (lw_ug w_80 rfl), ⟨by decide, by decide, by decide +kernel⟩, by decide, (Or.inl (lw_ug w_1791 rfl))⟩
theorem lv_vX12_layTimes : LkV yX12_layTimes := ⟨(lw_ug w_1793 rfl), (lw_ug w_64 rfl)⟩
theorem lm_X12_445 : LkM RX12 445 yX12_canGoTo cX12_canGoTo 6 (some .boolean) 2 := ⟨(lw_ug w_1798 rfl), (lw_ug w_80 rfl), ⟨by decide, by decide, by decide +kernel⟩, by decide, (Or.inl (lw_ug w_1795 rfl))⟩
theorem lv_vX12_canGoTo : LkV yX12_canGoTo := ⟨(lw_ug w_1797 rfl), (lw_ug w_65 rfl)⟩
theorem lm_X12_448 : LkM RX12 448 yX12_layCovers cX12_layCovers 5 none 0 := ⟨(lw_ug w_1786 rfl), (lw_ug w_80 rfl), ⟨by decide, by decide, by decide +kernel⟩, by decide, (Or.inl (lw_ug w_1783 rfl))⟩
theorem lv_vX12_layCovers : LkV yX12_layCovers := ⟨(lw_ug w_1785 rfl), (lw_ug w_62 rfl)⟩
theorem lm_X12_451 : LkM RX12 451 yX12_worthOf cX12_worthOf 4 (some .int) 1 := ⟨(lw_ug w_1802 rfl), (lw_ug w_80 rfl), ⟨by decide, by decide, by decide +kernel⟩, by decide, (Or.inl (lw_ug w_1799 rfl))⟩
theorem lv_vX12_worthOf : LkV yX12_worthOf := ⟨(lw_ug w_1801 rfl), (lw_ug w_66 rfl)⟩
theorem lm_X12_454 : LkM RX12 454 yX12_bestCover cX12_bestCover 3 (some .int) 0 := ⟨(lw_ug w_1782 rfl), (lw_ug w_80 rfl), ⟨by decide, by decide, by decide +kernel⟩, by decide, (Or.inl (lw_ug w_1779 rfl))⟩
theorem lv_vX12_bestCover : LkV yX12_bestCover := ⟨(lw_ug w_1781 rfl), (lw_ug w_61 rfl)⟩
theorem lm_X12_468 : LkM RX12 468 yX12_earns cX12_earns 3 (some .int) 2 := ⟨(lw_ug w_1836 rfl), (lw_ug w_80 rfl), ⟨by decide, by decide, by decide +kernel⟩, by decide, (Or.inl (lw_ug w_1833 rfl))⟩
theorem lv_vX12_earns : LkV yX12_earns := ⟨(lw_ug w_1835 rfl), (lw_ug w_69 rfl)⟩
theorem lm_X12_471 : LkM RX12 471 yX12_edge cX12_edge 5 none 4 := ⟨(lw_ug w_1840 rfl), (lw_ug w_80 rfl), ⟨by decide, by decide, by decide +kernel⟩, by decide, (Or.inl (lw_ug w_1837 rfl))⟩
theorem lv_vX12_edge : LkV yX12_edge := ⟨(lw_ug w_1839 rfl), (lw_ug w_70 rfl)⟩
theorem lm_X12_474 : LkM RX12 474 yX12_layFar cX12_layFar 4 (some .boolean) 0 := ⟨(lw_ug w_1844 rfl), (lw_ug w_80 rfl), ⟨by decide, by decide, by decide +kernel⟩, by decide, (Or.inl (lw_ug w_1841 rfl))⟩
theorem lv_vX12_layFar : LkV yX12_layFar := ⟨(lw_ug w_1843 rfl), (lw_ug w_71 rfl)⟩
theorem lm_X12_478 : LkM RX12 478 yX12_earnsMost cX12_earnsMost 5 (some .int) 0 := ⟨(lw_ug w_1832 rfl), (lw_ug w_80 rfl), ⟨by decide, by decide, by decide +kernel⟩, by decide, (Or.inl (lw_ug w_1829 rfl))⟩
theorem lv_vX12_earnsMost : LkV yX12_earnsMost := ⟨(lw_ug w_1831 rfl), (lw_ug w_68 rfl)⟩
theorem lm_X12_481 : LkM RX12 481 yX12_freeAll cX12_freeAll 2 (some .int) 0 := ⟨(lw_ug w_1828 rfl), (lw_ug w_80 rfl), ⟨by decide, by decide, by decide +kernel⟩, by decide, (Or.inl (lw_ug w_1825 rfl))⟩
theorem lv_vX12_freeAll : LkV yX12_freeAll := ⟨(lw_ug w_1827 rfl), (lw_ug w_67 rfl)⟩
theorem lm_X11_9 : LkM RX11 9 yX9_init cX9_init 1 none 0 := ⟨(lw_ug w_101 rfl), (lw_ug w_74 rfl), ⟨by decide, by decide, by decide +kernel⟩, by decide, (Or.inr ⟨"NewsreelHouse", (lw_un w_99 rfl)⟩)⟩
theorem ln_X9_init : Cond.instanceMethod yX9_init ∈ lw_u := (lw_ug w_100 rfl)
theorem lm_X11_18 : LkM RX11 18 yX1_init cX1_init 1 none 0 := ⟨(lw_ug w_120 rfl), (lw_ug w_75 rfl), ⟨by decide, by decide, by decide +kernel⟩, by decide, (Or.inr ⟨"NewsreelHouse", (lw_un w_118 rfl)⟩)⟩
theorem ln_X1_init : Cond.instanceMethod yX1_init ∈ lw_u := (lw_ug w_119 rfl)
theorem lm_X11_51 : LkM RX11 51 yX3_init cX3_init 1 none 0 := ⟨(lw_ug w_142 rfl), (lw_ug w_76 rfl), ⟨by decide, by decide, by decide +kernel⟩, by decide, (Or.inr ⟨"NewsreelHouse", (lw_un w_140 rfl)⟩)⟩
theorem ln_X3_init : Cond.instanceMethod yX3_init ∈ lw_u := (lw_ug w_141 rfl)
theorem lm_X11_64 : LkM RX11 64 yX4_init cX4_init 1 none 0 := ⟨(lw_ug w_182 rfl), (lw_ug w_77 rfl), ⟨by decide, by decide, by decide +kernel⟩, by decide, (Or.inr ⟨"NewsreelHouse", (lw_un w_180 rfl)⟩)⟩
theorem ln_X4_init : Cond.instanceMethod yX4_init ∈ lw_u := (lw_ug w_181 rfl)
theorem lm_X11_71 : LkM RX11 71 yX0_init cX0_init 1 none 0 := ⟨(lw_ug w_230 rfl), (lw_ug w_78 rfl), ⟨by decide, by decide, by decide +kernel⟩, by decide, (Or.inr ⟨"NewsreelHouse", (lw_un w_228 rfl)⟩)⟩
theorem ln_X0_init : Cond.instanceMethod yX0_init ∈ lw_u := (lw_ug w_229 rfl)
theorem lm_X11_78 : LkM RX11 78 yX2_init cX2_init 1 none 0 := ⟨(lw_ug w_280 rfl), (lw_ug w_79 rfl), ⟨by decide, by decide, by decide +kernel⟩, by decide, (Or.inr ⟨"NewsreelHouse", (lw_un w_278 rfl)⟩)⟩
theorem ln_X2_init : Cond.instanceMethod yX2_init ∈ lw_u := (lw_ug w_279 rfl)
theorem lm_X0_69 : LkM RX0 69 yX11_withMember cX11_withMember 3 (some .int) 3 := ⟨(lw_ug w_871 rfl), (lw_ug w_73 rfl), ⟨by decide, by decide, by decide +kernel⟩, by decide, (Or.inr ⟨"NewsreelHouse", (lw_un w_1061 rfl)⟩)⟩
theorem lm_X0_80 : LkM RX0 80 yX11_hasMember cX11_hasMember 2 (some .boolean) 2 := ⟨(lw_ug w_595 rfl), (lw_ug w_73 rfl), ⟨by decide, by decide, by decide +kernel⟩, by decide, (Or.inr ⟨"NewsreelHouse", (lw_un w_1077 rfl)⟩)⟩
theorem lm_X1_21 : LkM RX1 21 yX11_dayOf cX11_dayOf 1 (some .int) 1 := ⟨(lw_ug w_602 rfl), (lw_ug w_73 rfl), ⟨by decide, by decide, by decide +kernel⟩, by decide, (Or.inr ⟨"NewsreelHouse", (lw_un w_600 rfl)⟩)⟩
theorem ls_X11_dayOf : Cond.static yX11_dayOf ∈ lw_u := (lw_ug w_601 rfl)
theorem lm_X1_25 : LkM RX1 25 yX11_within cX11_within 3 (some .boolean) 3 := ⟨(lw_ug w_373 rfl), (lw_ug w_73 rfl), ⟨by decide, by decide, by decide +kernel⟩, by decide, (Or.inr ⟨"NewsreelHouse", (lw_un w_603 rfl)⟩)⟩
theorem lm_X1_29 : LkM RX1 29 yX11_hasMember cX11_hasMember 2 (some .boolean) 2 := ⟨(lw_ug w_595 rfl), (lw_ug w_73 rfl), ⟨by decide, by decide, by decide +kernel⟩, by decide, (Or.inr ⟨"NewsreelHouse", (lw_un w_593 rfl)⟩)⟩
theorem lm_X2_81 : LkM RX2 81 yX11_within cX11_within 3 (some .boolean) 3 := ⟨(lw_ug w_373 rfl), (lw_ug w_73 rfl), ⟨by decide, by decide, by decide +kernel⟩, by decide, (Or.inr ⟨"NewsreelHouse", (lw_un w_1143 rfl)⟩)⟩
theorem lm_X2_85 : LkM RX2 85 yX11_withMember cX11_withMember 3 (some .int) 3 := ⟨(lw_ug w_871 rfl), (lw_ug w_73 rfl), ⟨by decide, by decide, by decide +kernel⟩, by decide, (Or.inr ⟨"NewsreelHouse", (lw_un w_1144 rfl)⟩)⟩
theorem lm_X2_89 : LkM RX2 89 yX11_hasMember cX11_hasMember 2 (some .boolean) 2 := ⟨(lw_ug w_595 rfl), (lw_ug w_73 rfl), ⟨by decide, by decide, by decide +kernel⟩, by decide, (Or.inr ⟨"NewsreelHouse", (lw_un w_1153 rfl)⟩)⟩
theorem lm_X3_104 : LkM RX3 104 yX11_within cX11_within 3 (some .boolean) 3 := ⟨(lw_ug w_373 rfl), (lw_ug w_73 rfl), ⟨by decide, by decide, by decide +kernel⟩, by decide, (Or.inr ⟨"NewsreelHouse", (lw_un w_802 rfl)⟩)⟩
theorem lm_X4_31 : LkM RX4 31 yX11_hasMember cX11_hasMember 2 (some .boolean) 2 := ⟨(lw_ug w_595 rfl), (lw_ug w_73 rfl), ⟨by decide, by decide, by decide +kernel⟩, by decide, (Or.inr ⟨"NewsreelHouse", (lw_un w_936 rfl)⟩)⟩
theorem lm_X4_35 : LkM RX4 35 yX11_withMember cX11_withMember 3 (some .int) 3 := ⟨(lw_ug w_871 rfl), (lw_ug w_73 rfl), ⟨by decide, by decide, by decide +kernel⟩, by decide, (Or.inr ⟨"NewsreelHouse", (lw_un w_937 rfl)⟩)⟩
theorem lm_X4_39 : LkM RX4 39 yX11_asNumber cX11_asNumber 1 (some .int) 1 := ⟨(lw_ug w_686 rfl), (lw_ug w_73 rfl), ⟨by decide, by decide, by decide +kernel⟩, by decide, (Or.inr ⟨"NewsreelHouse", (lw_un w_938 rfl)⟩)⟩
theorem lm_X4_77 : LkM RX4 77 yX11_within cX11_within 3 (some .boolean) 3 := ⟨(lw_ug w_373 rfl), (lw_ug w_73 rfl), ⟨by decide, by decide, by decide +kernel⟩, by decide, (Or.inr ⟨"NewsreelHouse", (lw_un w_994 rfl)⟩)⟩
theorem lm_X5_25 : LkM RX5 25 yX11_hasMember cX11_hasMember 2 (some .boolean) 2 := ⟨(lw_ug w_595 rfl), (lw_ug w_73 rfl), ⟨by decide, by decide, by decide +kernel⟩, by decide, (Or.inr ⟨"NewsreelHouse", (lw_un w_918 rfl)⟩)⟩
theorem lm_X5_31 : LkM RX5 31 yX11_within cX11_within 3 (some .boolean) 3 := ⟨(lw_ug w_373 rfl), (lw_ug w_73 rfl), ⟨by decide, by decide, by decide +kernel⟩, by decide, (Or.inr ⟨"NewsreelHouse", (lw_un w_919 rfl)⟩)⟩
theorem lm_X8_33 : LkM RX8 33 yX11_within cX11_within 3 (some .boolean) 3 := ⟨(lw_ug w_373 rfl), (lw_ug w_73 rfl), ⟨by decide, by decide, by decide +kernel⟩, by decide, (Or.inr ⟨"NewsreelHouse", (lw_un w_679 rfl)⟩)⟩
theorem lm_X8_44 : LkM RX8 44 yX11_dayOf cX11_dayOf 1 (some .int) 1 := ⟨(lw_ug w_602 rfl), (lw_ug w_73 rfl), ⟨by decide, by decide, by decide +kernel⟩, by decide, (Or.inr ⟨"NewsreelHouse", (lw_un w_703 rfl)⟩)⟩
theorem lm_X9_29 : LkM RX9 29 yX11_within cX11_within 3 (some .boolean) 3 := ⟨(lw_ug w_373 rfl), (lw_ug w_73 rfl), ⟨by decide, by decide, by decide +kernel⟩, by decide, (Or.inr ⟨"NewsreelHouse", (lw_un w_432 rfl)⟩)⟩
theorem lc_X11_279 : Jvm.Cond.constant RX11 279 (Int32.ofInt (1000000)) ∈ lw_u := (lw_ug w_838 rfl)
theorem lc_X6_9 : Jvm.Cond.constant RX6 9 (Int32.ofInt (1000000)) ∈ lw_u := (lw_ug w_750 rfl)
theorem lc_X7_9 : Jvm.Cond.constant RX7 9 (Int32.ofInt (1000000)) ∈ lw_u := (lw_ug w_476 rfl)
theorem lc_X9_33 : Jvm.Cond.constant RX9 33 (Int32.ofInt (1000000)) ∈ lw_u := (lw_ug w_445 rfl)
theorem lc_X10_38 : Jvm.Cond.constant RX10 38 (Int32.ofInt (1000000)) ∈ lw_u := (lw_ug w_457 rfl)
theorem lc_X12_270 : Jvm.Cond.constant RX12 270 (Int32.ofInt (1000000)) ∈ lw_u := (lw_ug w_1490 rfl)
theorem lc_J6_264 : Jvm.Cond.constant RJ6 264 (Int32.ofInt (65536)) ∈ lw_u := (lw_ug w_1076 rfl)
theorem lc_J6_265 : Jvm.Cond.constant RJ6 265 (Int32.ofInt (1431655765)) ∈ lw_u := (lw_ug w_983 rfl)
theorem lc_J6_266 : Jvm.Cond.constant RJ6 266 (Int32.ofInt (858993459)) ∈ lw_u := (lw_ug w_984 rfl)
theorem lc_J6_267 : Jvm.Cond.constant RJ6 267 (Int32.ofInt (252645135)) ∈ lw_u := (lw_ug w_985 rfl)
theorem lc_X2_46 : Jvm.Cond.constantLong RX2 46 (Int64.ofInt (100000000)) ∈ lw_u := (lw_ug w_1140 rfl)
theorem lc_X2_48 : Jvm.Cond.constantLong RX2 48 (Int64.ofInt (10)) ∈ lw_u := (lw_ug w_1165 rfl)
theorem lc_X4_81 : Jvm.Cond.constantLong RX4 81 (Int64.ofInt (15)) ∈ lw_u := (lw_ug w_1015 rfl)
theorem lc_X6_30 : Jvm.Cond.constantLong RX6 30 (Int64.ofInt (255)) ∈ lw_u := (lw_ug w_782 rfl)
theorem lc_L_121 : Jvm.Cond.constantLong RL 121 (Int64.ofInt (4294967295)) ∈ lw_u := (lw_ug w_1853 rfl)
theorem lc_X12_243 : Jvm.Cond.constantLong RX12 243 (Int64.ofInt (9999)) ∈ lw_u := (lw_ug w_1476 rfl)
theorem lc_X12_249 : Jvm.Cond.constantLong RX12 249 (Int64.ofInt (416)) ∈ lw_u := (lw_ug w_1629 rfl)
theorem lc_X12_251 : Jvm.Cond.constantLong RX12 251 (Int64.ofInt (7)) ∈ lw_u := (lw_ug w_1472 rfl)
theorem lc_X12_253 : Jvm.Cond.constantLong RX12 253 (Int64.ofInt (500)) ∈ lw_u := (lw_ug w_1461 rfl)
theorem lc_X12_265 : Jvm.Cond.constantLong RX12 265 (Int64.ofInt (200)) ∈ lw_u := (lw_ug w_1477 rfl)
theorem lc_X12_282 : Jvm.Cond.constantLong RX12 282 (Int64.ofInt (900)) ∈ lw_u := (lw_ug w_1499 rfl)
theorem lc_X12_284 : Jvm.Cond.constantLong RX12 284 (Int64.ofInt (15)) ∈ lw_u := (lw_ug w_1500 rfl)
theorem lc_X12_286 : Jvm.Cond.constantLong RX12 286 (Int64.ofInt (255)) ∈ lw_u := (lw_ug w_1501 rfl)
theorem lc_X12_288 : Jvm.Cond.constantLong RX12 288 (Int64.ofInt (2)) ∈ lw_u := (lw_ug w_1502 rfl)
theorem lc_X12_301 : Jvm.Cond.constantLong RX12 301 (Int64.ofInt (364)) ∈ lw_u := (lw_ug w_1546 rfl)
theorem lc_X12_314 : Jvm.Cond.constantLong RX12 314 (Int64.ofInt (999)) ∈ lw_u := (lw_ug w_1567 rfl)
theorem lc_X12_332 : Jvm.Cond.constantLong RX12 332 (Int64.ofInt (400)) ∈ lw_u := (lw_ug w_1612 rfl)
theorem lc_X12_334 : Jvm.Cond.constantLong RX12 334 (Int64.ofInt (99)) ∈ lw_u := (lw_ug w_1621 rfl)
theorem lc_X12_354 : Jvm.Cond.constantLong RX12 354 (Int64.ofInt (60)) ∈ lw_u := (lw_ug w_1661 rfl)
theorem lc_X12_356 : Jvm.Cond.constantLong RX12 356 (Int64.ofInt (62)) ∈ lw_u := (lw_ug w_1662 rfl)
theorem lc_X12_358 : Jvm.Cond.constantLong RX12 358 (Int64.ofInt (48)) ∈ lw_u := (lw_ug w_1663 rfl)
theorem lc_X12_360 : Jvm.Cond.constantLong RX12 360 (Int64.ofInt (57)) ∈ lw_u := (lw_ug w_1664 rfl)
theorem lc_X12_384 : Jvm.Cond.constantLong RX12 384 (Int64.ofInt (4)) ∈ lw_u := (lw_ug w_1687 rfl)
theorem lc_X12_395 : Jvm.Cond.constantLong RX12 395 (Int64.ofInt (31)) ∈ lw_u := (lw_ug w_1700 rfl)
theorem lc_X12_405 : Jvm.Cond.constantLong RX12 405 (Int64.ofInt (3000)) ∈ lw_u := (lw_ug w_1721 rfl)
theorem lc_X12_434 : Jvm.Cond.constantLong RX12 434 (Int64.ofInt (3)) ∈ lw_u := (lw_ug w_1770 rfl)
theorem lc_X12_458 : Jvm.Cond.constantLong RX12 458 (Int64.ofInt (8)) ∈ lw_u := (lw_ug w_1811 rfl)
theorem lc_X12_463 : Jvm.Cond.constantLong RX12 463 (Int64.ofInt (100)) ∈ lw_u := (lw_ug w_1816 rfl)
theorem lk_X11_7 : Cond.classLink RX11 7 RX9 ∈ lw_u := (lw_ug w_97 rfl)
theorem lk_X11_16 : Cond.classLink RX11 16 RX1 ∈ lw_u := (lw_ug w_116 rfl)
theorem lk_X11_23 : Cond.classLink RX11 23 RX7 ∈ lw_u := (lw_ug w_132 rfl)
theorem lk_X11_29 : Cond.classLink RX11 29 RX8 ∈ lw_u := (lw_ug w_134 rfl)
theorem lk_X11_43 : Cond.classLink RX11 43 RX6 ∈ lw_u := (lw_ug w_136 rfl)
theorem lk_X11_49 : Cond.classLink RX11 49 RX3 ∈ lw_u := (lw_ug w_138 rfl)
theorem lk_X11_56 : Cond.classLink RX11 56 RX5 ∈ lw_u := (lw_ug w_176 rfl)
theorem lk_X11_62 : Cond.classLink RX11 62 RX4 ∈ lw_u := (lw_ug w_178 rfl)
theorem lk_X11_69 : Cond.classLink RX11 69 RX0 ∈ lw_u := (lw_ug w_226 rfl)
theorem lk_X11_76 : Cond.classLink RX11 76 RX2 ∈ lw_u := (lw_ug w_276 rfl)
theorem lk_X11_101 : Cond.classLink RX11 101 RX10 ∈ lw_u := (lw_ug w_388 rfl)
theorem lk_X8_9 : Cond.classLink RX8 9 RX7 ∈ lw_u := (lw_ug w_621 rfl)
theorem lk_X9_9 : Cond.classLink RX9 9 RX10 ∈ lw_u := (lw_ug w_103 rfl)
theorem lk_L_7 : Cond.classLink RL 7 RX11 ∈ lw_u := (lw_ug w_89 rfl)
theorem lk_L_10 : Cond.classLink RL 10 RX12 ∈ lw_u := (lw_ug w_1174 rfl)
theorem lb_X11 : Cond.instantiable RX11 18 ∈ lw_u := (lw_ug w_90 rfl)
theorem lb_X0 : Cond.instantiable RX0 13 ∈ lw_u := (lw_ug w_227 rfl)
theorem lb_X1 : Cond.instantiable RX1 3 ∈ lw_u := (lw_ug w_117 rfl)
theorem lb_X2 : Cond.instantiable RX2 9 ∈ lw_u := (lw_ug w_277 rfl)
theorem lb_X3 : Cond.instantiable RX3 10 ∈ lw_u := (lw_ug w_139 rfl)
theorem lb_X4 : Cond.instantiable RX4 13 ∈ lw_u := (lw_ug w_179 rfl)
theorem lb_X5 : Cond.instantiable RX5 5 ∈ lw_u := (lw_ug w_876 rfl)
theorem lb_X6 : Cond.instantiable RX6 4 ∈ lw_u := (lw_ug w_745 rfl)
theorem lb_X7 : Cond.instantiable RX7 13 ∈ lw_u := (lw_ug w_471 rfl)
theorem lb_X8 : Cond.instantiable RX8 8 ∈ lw_u := (lw_ug w_616 rfl)
theorem lb_X9 : Cond.instantiable RX9 3 ∈ lw_u := (lw_ug w_98 rfl)
theorem lb_X10 : Cond.instantiable RX10 7 ∈ lw_u := (lw_ug w_389 rfl)
theorem lb_X12 : Cond.instantiable RX12 92 ∈ lw_u := (lw_ug w_1175 rfl)
theorem la_X11 : Cond.initialized RX11 ∈ lw_u := (lw_ug w_73 rfl)
theorem la_X0 : Cond.initialized RX0 ∈ lw_u := (lw_ug w_78 rfl)
theorem la_X1 : Cond.initialized RX1 ∈ lw_u := (lw_ug w_75 rfl)
theorem la_X2 : Cond.initialized RX2 ∈ lw_u := (lw_ug w_79 rfl)
theorem la_X3 : Cond.initialized RX3 ∈ lw_u := (lw_ug w_76 rfl)
theorem la_X4 : Cond.initialized RX4 ∈ lw_u := (lw_ug w_77 rfl)
theorem la_X5 : Cond.initialized RX5 ∈ lw_u := (lw_ug w_86 rfl)
theorem la_X6 : Cond.initialized RX6 ∈ lw_u := (lw_ug w_85 rfl)
theorem la_X7 : Cond.initialized RX7 ∈ lw_u := (lw_ug w_83 rfl)
theorem la_X8 : Cond.initialized RX8 ∈ lw_u := (lw_ug w_84 rfl)
theorem la_X9 : Cond.initialized RX9 ∈ lw_u := (lw_ug w_74 rfl)
theorem la_X10 : Cond.initialized RX10 ∈ lw_u := (lw_ug w_81 rfl)
theorem la_L : Cond.initialized RL ∈ lw_u := (lw_ug w_72 rfl)
theorem la_X12 : Cond.initialized RX12 ∈ lw_u := (lw_ug w_80 rfl)
theorem la_J6 : Cond.initialized RJ6 ∈ lw_u := (lw_ug w_88 rfl)
theorem la_J9 : Cond.initialized RJ9 ∈ lw_u := (lw_ug w_87 rfl)
theorem la_J7 : Cond.initialized RJ7 ∈ lw_u := (lw_ug w_82 rfl)
theorem lo_X11_1 : Cond.methodLink RX11 1 Lib.objectInit ∈ lw_u := (lw_ug w_94 rfl)
theorem lo_X0_3 : Cond.methodLink RX0 3 Lib.objectInit ∈ lw_u := (lw_ug w_231 rfl)
theorem lo_X1_3 : Cond.methodLink RX1 3 Lib.objectInit ∈ lw_u := (lw_ug w_121 rfl)
theorem lo_X2_3 : Cond.methodLink RX2 3 Lib.objectInit ∈ lw_u := (lw_ug w_281 rfl)
theorem lo_X3_3 : Cond.methodLink RX3 3 Lib.objectInit ∈ lw_u := (lw_ug w_143 rfl)
theorem lo_X4_3 : Cond.methodLink RX4 3 Lib.objectInit ∈ lw_u := (lw_ug w_183 rfl)
theorem lo_X5_1 : Cond.methodLink RX5 1 Lib.objectInit ∈ lw_u := (lw_ug w_880 rfl)
theorem lo_X6_3 : Cond.methodLink RX6 3 Lib.objectInit ∈ lw_u := (lw_ug w_749 rfl)
theorem lo_X7_3 : Cond.methodLink RX7 3 Lib.objectInit ∈ lw_u := (lw_ug w_475 rfl)
theorem lo_X8_3 : Cond.methodLink RX8 3 Lib.objectInit ∈ lw_u := (lw_ug w_620 rfl)
theorem lo_X9_3 : Cond.methodLink RX9 3 Lib.objectInit ∈ lw_u := (lw_ug w_102 rfl)
theorem lo_X10_3 : Cond.methodLink RX10 3 Lib.objectInit ∈ lw_u := (lw_ug w_393 rfl)
theorem lo_X12_1 : Cond.methodLink RX12 1 Lib.objectInit ∈ lw_u := (lw_ug w_1179 rfl)
theorem lo_i : Cond.instanceMethod Lib.objectInit ∈ lw_u := (lw_ug w_95 rfl)
theorem lo_c : Cond.code Lib.objectInit ⟨#[0xb1]⟩ 1 none ∈ lw_u := (lw_ug w_96 rfl)
theorem lac_int : Cond.arrayClass .int ∈ lw_u := (lw_ug w_115 rfl)
theorem lac_boolean : Cond.arrayClass .boolean ∈ lw_u := (lw_ug w_175 rfl)
theorem lac_long : Cond.arrayClass .long ∈ lw_u := (lw_ug w_311 rfl)
theorem sg_0 {κ : Cxt} {σ : St} (T : isT κ) : okj κ σ 0 0 := Or.inr ⟨T, Or.inl ⟨by decide, rfl⟩⟩
theorem sg_1 {κ : Cxt} {σ : St} (T : isT κ) : okj κ σ 1 0 := Or.inr ⟨T, Or.inl ⟨by decide, rfl⟩⟩
theorem sg_2 {κ : Cxt} {σ : St} (T : isT κ) : okj κ σ 2 0 := Or.inr ⟨T, Or.inl ⟨by decide, rfl⟩⟩
theorem sg_3 {κ : Cxt} {σ : St} (T : isT κ) : okj κ σ 3 0 := Or.inr ⟨T, Or.inl ⟨by decide, rfl⟩⟩
theorem sg_4 {κ : Cxt} {σ : St} (T : isT κ) : okj κ σ 4 0 := Or.inr ⟨T, Or.inl ⟨by decide, rfl⟩⟩
theorem sg_9 {κ : Cxt} {σ : St} (T : isT κ) : okj κ σ 9 0 := Or.inr ⟨T, Or.inl ⟨by decide, rfl⟩⟩
theorem sg_11 {κ : Cxt} {σ : St} (T : isT κ) : okj κ σ 11 0 := Or.inr ⟨T, Or.inl ⟨by decide, rfl⟩⟩
theorem sg_12 {κ : Cxt} {σ : St} (T : isT κ) : okj κ σ 12 0 := Or.inr ⟨T, Or.inl ⟨by decide, rfl⟩⟩
theorem sg_100 {κ : Cxt} {σ : St} (T : isT κ) : okj κ σ 100 0 := Or.inr ⟨T, Or.inl ⟨by decide, rfl⟩⟩
theorem sg_101 {κ : Cxt} {σ : St} (T : isT κ) : okj κ σ 101 0 := Or.inr ⟨T, Or.inl ⟨by decide, rfl⟩⟩
theorem sg_103 {κ : Cxt} {σ : St} (T : isT κ) : okj κ σ 103 0 := Or.inr ⟨T, Or.inl ⟨by decide, rfl⟩⟩
theorem sg_104 {κ : Cxt} {σ : St} (T : isT κ) : okj κ σ 104 0 := Or.inr ⟨T, Or.inl ⟨by decide, rfl⟩⟩
theorem sg_105 {κ : Cxt} {σ : St} (T : isT κ) : okj κ σ 105 0 := Or.inr ⟨T, Or.inl ⟨by decide, rfl⟩⟩
theorem sg_106 {κ : Cxt} {σ : St} (T : isT κ) : okj κ σ 106 0 := Or.inr ⟨T, Or.inl ⟨by decide, rfl⟩⟩
theorem sg_107 {κ : Cxt} {σ : St} (T : isT κ) : okj κ σ 107 0 := Or.inr ⟨T, Or.inl ⟨by decide, rfl⟩⟩
theorem sg_108 {κ : Cxt} {σ : St} (T : isT κ) : okj κ σ 108 0 := Or.inr ⟨T, Or.inl ⟨by decide, rfl⟩⟩
theorem sg_109 {κ : Cxt} {σ : St} (T : isT κ) : okj κ σ 109 0 := Or.inr ⟨T, Or.inl ⟨by decide, rfl⟩⟩
theorem sg_200 {κ : Cxt} {σ : St} (T : isT κ) : okj κ σ 200 0 := Or.inr ⟨T, Or.inl ⟨by decide, rfl⟩⟩
theorem sg_201 {κ : Cxt} {σ : St} (T : isT κ) : okj κ σ 201 0 := Or.inr ⟨T, Or.inl ⟨by decide, rfl⟩⟩
theorem sg_202 {κ : Cxt} {σ : St} (T : isT κ) : okj κ σ 202 0 := Or.inr ⟨T, Or.inl ⟨by decide, rfl⟩⟩
theorem sg_301 {κ : Cxt} {σ : St} (T : isT κ) : okj κ σ 301 0 := Or.inr ⟨T, Or.inl ⟨by decide, rfl⟩⟩
theorem sg_302 {κ : Cxt} {σ : St} (T : isT κ) : okj κ σ 302 0 := Or.inr ⟨T, Or.inl ⟨by decide, rfl⟩⟩
theorem sg_303 {κ : Cxt} {σ : St} (T : isT κ) : okj κ σ 303 0 := Or.inr ⟨T, Or.inl ⟨by decide, rfl⟩⟩
theorem sg_304 {κ : Cxt} {σ : St} (T : isT κ) : okj κ σ 304 0 := Or.inr ⟨T, Or.inl ⟨by decide, rfl⟩⟩
theorem sg_306 {κ : Cxt} {σ : St} (T : isT κ) : okj κ σ 306 0 := Or.inr ⟨T, Or.inl ⟨by decide, rfl⟩⟩
theorem sg_307 {κ : Cxt} {σ : St} (T : isT κ) : okj κ σ 307 0 := Or.inr ⟨T, Or.inl ⟨by decide, rfl⟩⟩
theorem sg_400 {κ : Cxt} {σ : St} (T : isT κ) : okj κ σ 400 0 := Or.inr ⟨T, Or.inl ⟨by decide, rfl⟩⟩
theorem sg_401 {κ : Cxt} {σ : St} (T : isT κ) : okj κ σ 401 0 := Or.inr ⟨T, Or.inl ⟨by decide, rfl⟩⟩
theorem sg_402 {κ : Cxt} {σ : St} (T : isT κ) : okj κ σ 402 0 := Or.inr ⟨T, Or.inl ⟨by decide, rfl⟩⟩
theorem sg_403 {κ : Cxt} {σ : St} (T : isT κ) : okj κ σ 403 0 := Or.inr ⟨T, Or.inl ⟨by decide, rfl⟩⟩
theorem sg_502 {κ : Cxt} {σ : St} (T : isT κ) : okj κ σ 502 0 := Or.inr ⟨T, Or.inl ⟨by decide, rfl⟩⟩
theorem sg_508 {κ : Cxt} {σ : St} (T : isT κ) : okj κ σ 508 0 := Or.inr ⟨T, Or.inl ⟨by decide, rfl⟩⟩
theorem sg_509 {κ : Cxt} {σ : St} (T : isT κ) : okj κ σ 509 0 := Or.inr ⟨T, Or.inl ⟨by decide, rfl⟩⟩
theorem sg_510 {κ : Cxt} {σ : St} (T : isT κ) : okj κ σ 510 0 := Or.inr ⟨T, Or.inl ⟨by decide, rfl⟩⟩
theorem sg_1000 {κ : Cxt} {σ : St} (T : isT κ) : okj κ σ 1000 0 := Or.inr ⟨T, Or.inl ⟨by decide, rfl⟩⟩
theorem sg_1002 {κ : Cxt} {σ : St} (T : isT κ) : okj κ σ 1002 0 := Or.inr ⟨T, Or.inl ⟨by decide, rfl⟩⟩
theorem sg_1203 {κ : Cxt} {σ : St} (T : isT κ) : okj κ σ 1203 0 := Or.inr ⟨T, Or.inl ⟨by decide, rfl⟩⟩
theorem sg_1205 {κ : Cxt} {σ : St} (T : isT κ) : okj κ σ 1205 0 := Or.inr ⟨T, Or.inl ⟨by decide, rfl⟩⟩
theorem sg_1208 {κ : Cxt} {σ : St} (T : isT κ) : okj κ σ 1208 0 := Or.inr ⟨T, Or.inl ⟨by decide, rfl⟩⟩
theorem sg_1209 {κ : Cxt} {σ : St} (T : isT κ) : okj κ σ 1209 0 := Or.inr ⟨T, Or.inl ⟨by decide, rfl⟩⟩
theorem sg_1213 {κ : Cxt} {σ : St} (T : isT κ) : okj κ σ 1213 0 := Or.inr ⟨T, Or.inl ⟨by decide, rfl⟩⟩
theorem sg_1302 {κ : Cxt} {σ : St} (T : isT κ) : okj κ σ 1302 0 := Or.inr ⟨T, Or.inl ⟨by decide, rfl⟩⟩
theorem sg_1303 {κ : Cxt} {σ : St} (T : isT κ) : okj κ σ 1303 0 := Or.inr ⟨T, Or.inl ⟨by decide, rfl⟩⟩
theorem sg_1304 {κ : Cxt} {σ : St} (T : isT κ) : okj κ σ 1304 0 := Or.inr ⟨T, Or.inl ⟨by decide, rfl⟩⟩
theorem sg_1305 {κ : Cxt} {σ : St} (T : isT κ) : okj κ σ 1305 0 := Or.inr ⟨T, Or.inl ⟨by decide, rfl⟩⟩
theorem sg_1306 {κ : Cxt} {σ : St} (T : isT κ) : okj κ σ 1306 0 := Or.inr ⟨T, Or.inl ⟨by decide, rfl⟩⟩
theorem sg_1307 {κ : Cxt} {σ : St} (T : isT κ) : okj κ σ 1307 0 := Or.inr ⟨T, Or.inl ⟨by decide, rfl⟩⟩
theorem sg_1308 {κ : Cxt} {σ : St} (T : isT κ) : okj κ σ 1308 0 := Or.inr ⟨T, Or.inl ⟨by decide, rfl⟩⟩
theorem sg_1309 {κ : Cxt} {σ : St} (T : isT κ) : okj κ σ 1309 0 := Or.inr ⟨T, Or.inl ⟨by decide, rfl⟩⟩
theorem sg_1311 {κ : Cxt} {σ : St} (T : isT κ) : okj κ σ 1311 0 := Or.inr ⟨T, Or.inl ⟨by decide, rfl⟩⟩
theorem sg_1312 {κ : Cxt} {σ : St} (T : isT κ) : okj κ σ 1312 0 := Or.inr ⟨T, Or.inl ⟨by decide, rfl⟩⟩
theorem sg_1313 {κ : Cxt} {σ : St} (T : isT κ) : okj κ σ 1313 0 := Or.inr ⟨T, Or.inl ⟨by decide, rfl⟩⟩
theorem sg_1314 {κ : Cxt} {σ : St} (T : isT κ) : okj κ σ 1314 0 := Or.inr ⟨T, Or.inl ⟨by decide, rfl⟩⟩
theorem sg_1315 {κ : Cxt} {σ : St} (T : isT κ) : okj κ σ 1315 0 := Or.inr ⟨T, Or.inl ⟨by decide, rfl⟩⟩
theorem sg_1316 {κ : Cxt} {σ : St} (T : isT κ) : okj κ σ 1316 0 := Or.inr ⟨T, Or.inl ⟨by decide, rfl⟩⟩
theorem sg_1317 {κ : Cxt} {σ : St} (T : isT κ) : okj κ σ 1317 0 := Or.inr ⟨T, Or.inl ⟨by decide, rfl⟩⟩
theorem sg_1318 {κ : Cxt} {σ : St} (T : isT κ) : okj κ σ 1318 0 := Or.inr ⟨T, Or.inl ⟨by decide, rfl⟩⟩
theorem sg_1319 {κ : Cxt} {σ : St} (T : isT κ) : okj κ σ 1319 0 := Or.inr ⟨T, Or.inl ⟨by decide, rfl⟩⟩
theorem sg_1320 {κ : Cxt} {σ : St} (T : isT κ) : okj κ σ 1320 0 := Or.inr ⟨T, Or.inl ⟨by decide, rfl⟩⟩
theorem sg_1321 {κ : Cxt} {σ : St} (T : isT κ) : okj κ σ 1321 0 := Or.inr ⟨T, Or.inl ⟨by decide, rfl⟩⟩
theorem sg_1322 {κ : Cxt} {σ : St} (T : isT κ) : okj κ σ 1322 0 := Or.inr ⟨T, Or.inl ⟨by decide, rfl⟩⟩
theorem sg_1323 {κ : Cxt} {σ : St} (T : isT κ) : okj κ σ 1323 0 := Or.inr ⟨T, Or.inl ⟨by decide, rfl⟩⟩
theorem sg_1324 {κ : Cxt} {σ : St} (T : isT κ) : okj κ σ 1324 0 := Or.inr ⟨T, Or.inl ⟨by decide, rfl⟩⟩
theorem sg_1325 {κ : Cxt} {σ : St} (T : isT κ) : okj κ σ 1325 0 := Or.inr ⟨T, Or.inl ⟨by decide, rfl⟩⟩
theorem sg_1327 {κ : Cxt} {σ : St} (T : isT κ) : okj κ σ 1327 0 := Or.inr ⟨T, Or.inl ⟨by decide, rfl⟩⟩
theorem sg_1328 {κ : Cxt} {σ : St} (T : isT κ) : okj κ σ 1328 0 := Or.inr ⟨T, Or.inl ⟨by decide, rfl⟩⟩
theorem sg_1329 {κ : Cxt} {σ : St} (T : isT κ) : okj κ σ 1329 0 := Or.inr ⟨T, Or.inl ⟨by decide, rfl⟩⟩
theorem sg_1330 {κ : Cxt} {σ : St} (T : isT κ) : okj κ σ 1330 0 := Or.inr ⟨T, Or.inl ⟨by decide, rfl⟩⟩
theorem sg_1331 {κ : Cxt} {σ : St} (T : isT κ) : okj κ σ 1331 0 := Or.inr ⟨T, Or.inl ⟨by decide, rfl⟩⟩
theorem sg_1332 {κ : Cxt} {σ : St} (T : isT κ) : okj κ σ 1332 0 := Or.inr ⟨T, Or.inl ⟨by decide, rfl⟩⟩
theorem sg_1333 {κ : Cxt} {σ : St} (T : isT κ) : okj κ σ 1333 0 := Or.inr ⟨T, Or.inl ⟨by decide, rfl⟩⟩
theorem sg_1334 {κ : Cxt} {σ : St} (T : isT κ) : okj κ σ 1334 0 := Or.inr ⟨T, Or.inl ⟨by decide, rfl⟩⟩
theorem sg_1336 {κ : Cxt} {σ : St} (T : isT κ) : okj κ σ 1336 0 := Or.inr ⟨T, Or.inl ⟨by decide, rfl⟩⟩
theorem sg_1338 {κ : Cxt} {σ : St} (T : isT κ) : okj κ σ 1338 0 := Or.inr ⟨T, Or.inl ⟨by decide, rfl⟩⟩
theorem sg_1339 {κ : Cxt} {σ : St} (T : isT κ) : okj κ σ 1339 0 := Or.inr ⟨T, Or.inl ⟨by decide, rfl⟩⟩
theorem sg_1340 {κ : Cxt} {σ : St} (T : isT κ) : okj κ σ 1340 0 := Or.inr ⟨T, Or.inl ⟨by decide, rfl⟩⟩
theorem sg_1341 {κ : Cxt} {σ : St} (T : isT κ) : okj κ σ 1341 0 := Or.inr ⟨T, Or.inl ⟨by decide, rfl⟩⟩
theorem sg_1344 {κ : Cxt} {σ : St} (T : isT κ) : okj κ σ 1344 0 := Or.inr ⟨T, Or.inl ⟨by decide, rfl⟩⟩
theorem sg_1346 {κ : Cxt} {σ : St} (T : isT κ) : okj κ σ 1346 0 := Or.inr ⟨T, Or.inl ⟨by decide, rfl⟩⟩
theorem sg_1347 {κ : Cxt} {σ : St} (T : isT κ) : okj κ σ 1347 0 := Or.inr ⟨T, Or.inl ⟨by decide, rfl⟩⟩
theorem sg_1348 {κ : Cxt} {σ : St} (T : isT κ) : okj κ σ 1348 0 := Or.inr ⟨T, Or.inl ⟨by decide, rfl⟩⟩
theorem sg_1350 {κ : Cxt} {σ : St} (T : isT κ) : okj κ σ 1350 0 := Or.inr ⟨T, Or.inl ⟨by decide, rfl⟩⟩
theorem sg_1351 {κ : Cxt} {σ : St} (T : isT κ) : okj κ σ 1351 0 := Or.inr ⟨T, Or.inl ⟨by decide, rfl⟩⟩
theorem sg_1352 {κ : Cxt} {σ : St} (T : isT κ) : okj κ σ 1352 0 := Or.inr ⟨T, Or.inl ⟨by decide, rfl⟩⟩
theorem sg_1353 {κ : Cxt} {σ : St} (T : isT κ) : okj κ σ 1353 0 := Or.inr ⟨T, Or.inl ⟨by decide, rfl⟩⟩
theorem sg_1354 {κ : Cxt} {σ : St} (T : isT κ) : okj κ σ 1354 0 := Or.inr ⟨T, Or.inl ⟨by decide, rfl⟩⟩
theorem sg_1357 {κ : Cxt} {σ : St} (T : isT κ) : okj κ σ 1357 0 := Or.inr ⟨T, Or.inl ⟨by decide, rfl⟩⟩
theorem sg_1358 {κ : Cxt} {σ : St} (T : isT κ) : okj κ σ 1358 0 := Or.inr ⟨T, Or.inl ⟨by decide, rfl⟩⟩
theorem sg_1359 {κ : Cxt} {σ : St} (T : isT κ) : okj κ σ 1359 0 := Or.inr ⟨T, Or.inl ⟨by decide, rfl⟩⟩
theorem sg_1360 {κ : Cxt} {σ : St} (T : isT κ) : okj κ σ 1360 0 := Or.inr ⟨T, Or.inl ⟨by decide, rfl⟩⟩
theorem sg_1361 {κ : Cxt} {σ : St} (T : isT κ) : okj κ σ 1361 0 := Or.inr ⟨T, Or.inl ⟨by decide, rfl⟩⟩
theorem sg_1363 {κ : Cxt} {σ : St} (T : isT κ) : okj κ σ 1363 0 := Or.inr ⟨T, Or.inl ⟨by decide, rfl⟩⟩
theorem sg_1364 {κ : Cxt} {σ : St} (T : isT κ) : okj κ σ 1364 0 := Or.inr ⟨T, Or.inl ⟨by decide, rfl⟩⟩
theorem sg_1367 {κ : Cxt} {σ : St} (T : isT κ) : okj κ σ 1367 0 := Or.inr ⟨T, Or.inl ⟨by decide, rfl⟩⟩
theorem sg_1368 {κ : Cxt} {σ : St} (T : isT κ) : okj κ σ 1368 0 := Or.inr ⟨T, Or.inl ⟨by decide, rfl⟩⟩
theorem sg_1370 {κ : Cxt} {σ : St} (T : isT κ) : okj κ σ 1370 0 := Or.inr ⟨T, Or.inl ⟨by decide, rfl⟩⟩
theorem sg_1371 {κ : Cxt} {σ : St} (T : isT κ) : okj κ σ 1371 0 := Or.inr ⟨T, Or.inl ⟨by decide, rfl⟩⟩
theorem sg_1372 {κ : Cxt} {σ : St} (T : isT κ) : okj κ σ 1372 0 := Or.inr ⟨T, Or.inl ⟨by decide, rfl⟩⟩
theorem sg_1373 {κ : Cxt} {σ : St} (T : isT κ) : okj κ σ 1373 0 := Or.inr ⟨T, Or.inl ⟨by decide, rfl⟩⟩
theorem sg_1374 {κ : Cxt} {σ : St} (T : isT κ) : okj κ σ 1374 0 := Or.inr ⟨T, Or.inl ⟨by decide, rfl⟩⟩
theorem sg_1375 {κ : Cxt} {σ : St} (T : isT κ) : okj κ σ 1375 0 := Or.inr ⟨T, Or.inl ⟨by decide, rfl⟩⟩
theorem sg_1376 {κ : Cxt} {σ : St} (T : isT κ) : okj κ σ 1376 0 := Or.inr ⟨T, Or.inl ⟨by decide, rfl⟩⟩
theorem sg_1377 {κ : Cxt} {σ : St} (T : isT κ) : okj κ σ 1377 0 := Or.inr ⟨T, Or.inl ⟨by decide, rfl⟩⟩
theorem sg_1379 {κ : Cxt} {σ : St} (T : isT κ) : okj κ σ 1379 0 := Or.inr ⟨T, Or.inl ⟨by decide, rfl⟩⟩
theorem sg_1380 {κ : Cxt} {σ : St} (T : isT κ) : okj κ σ 1380 0 := Or.inr ⟨T, Or.inl ⟨by decide, rfl⟩⟩
theorem sg_1381 {κ : Cxt} {σ : St} (T : isT κ) : okj κ σ 1381 0 := Or.inr ⟨T, Or.inl ⟨by decide, rfl⟩⟩
theorem sg_1382 {κ : Cxt} {σ : St} (T : isT κ) : okj κ σ 1382 0 := Or.inr ⟨T, Or.inl ⟨by decide, rfl⟩⟩
theorem sg_1385 {κ : Cxt} {σ : St} (T : isT κ) : okj κ σ 1385 0 := Or.inr ⟨T, Or.inl ⟨by decide, rfl⟩⟩
theorem sg_1386 {κ : Cxt} {σ : St} (T : isT κ) : okj κ σ 1386 0 := Or.inr ⟨T, Or.inl ⟨by decide, rfl⟩⟩
theorem sg_1387 {κ : Cxt} {σ : St} (T : isT κ) : okj κ σ 1387 0 := Or.inr ⟨T, Or.inl ⟨by decide, rfl⟩⟩
theorem sg_1388 {κ : Cxt} {σ : St} (T : isT κ) : okj κ σ 1388 0 := Or.inr ⟨T, Or.inl ⟨by decide, rfl⟩⟩
theorem sg_1389 {κ : Cxt} {σ : St} (T : isT κ) : okj κ σ 1389 0 := Or.inr ⟨T, Or.inl ⟨by decide, rfl⟩⟩
theorem sg_1390 {κ : Cxt} {σ : St} (T : isT κ) : okj κ σ 1390 0 := Or.inr ⟨T, Or.inl ⟨by decide, rfl⟩⟩
theorem sg_1391 {κ : Cxt} {σ : St} (T : isT κ) : okj κ σ 1391 0 := Or.inr ⟨T, Or.inl ⟨by decide, rfl⟩⟩
theorem ar_100 : la 100 = some (0, 4) := rfl
theorem ar_101 : la 101 = some (0, 4) := rfl
theorem ar_103 : la 103 = some (0, 8) := rfl
theorem ar_104 : la 104 = some (0, 8) := rfl
theorem ar_105 : la 105 = some (0, 8) := rfl
theorem ar_106 : la 106 = some (0, 8) := rfl
theorem ar_107 : la 107 = some (0, 8) := rfl
theorem ar_108 : la 108 = some (1, 256) := rfl
theorem ar_109 : la 109 = some (1, 256) := rfl
theorem ar_200 : la 200 = some (0, 8) := rfl
theorem ar_201 : la 201 = some (0, 8) := rfl
theorem ar_202 : la 202 = some (0, 8) := rfl
theorem ar_301 : la 301 = some (0, 8) := rfl
theorem ar_302 : la 302 = some (0, 8) := rfl
theorem ar_303 : la 303 = some (0, 8) := rfl
theorem ar_304 : la 304 = some (0, 9) := rfl
theorem ar_306 : la 306 = some (2, 8) := rfl
theorem ar_307 : la 307 = some (2, 256) := rfl
theorem ar_400 : la 400 = some (0, 8) := rfl
theorem ar_401 : la 401 = some (1, 81) := rfl
theorem ar_402 : la 402 = some (1, 81) := rfl
theorem ar_403 : la 403 = some (1, 81) := rfl
theorem ar_502 : la 502 = some (0, 8) := rfl
theorem ar_508 : la 508 = some (0, 8) := rfl
theorem ar_509 : la 509 = some (0, 8) := rfl
theorem ar_510 : la 510 = some (0, 2048) := rfl
theorem ar_702 : la 702 = some (0, 80) := rfl
theorem ar_904 : la 904 = some (10, 6) := rfl
theorem ar_1000 : la 1000 = some (13, 24) := rfl
theorem ar_1002 : la 1002 = some (0, 8) := rfl
theorem ar_1203 : la 1203 = some (10, 40) := rfl
theorem ar_1205 : la 1205 = some (11, 8) := rfl
theorem ar_1208 : la 1208 = some (0, 3) := rfl
theorem ar_1209 : la 1209 = some (9, 6) := rfl
theorem ar_1213 : la 1213 = some (8, 8) := rfl
theorem ar_1302 : la 1302 = some (0, 24) := rfl
theorem ar_1303 : la 1303 = some (0, 24) := rfl
theorem ar_1304 : la 1304 = some (0, 24) := rfl
theorem ar_1305 : la 1305 = some (0, 24) := rfl
theorem ar_1306 : la 1306 = some (0, 24) := rfl
theorem ar_1307 : la 1307 = some (0, 24) := rfl
theorem ar_1308 : la 1308 = some (1, 24) := rfl
theorem ar_1309 : la 1309 = some (0, 8) := rfl
theorem ar_1311 : la 1311 = some (0, 40) := rfl
theorem ar_1312 : la 1312 = some (0, 40) := rfl
theorem ar_1313 : la 1313 = some (0, 40) := rfl
theorem ar_1314 : la 1314 = some (0, 40) := rfl
theorem ar_1315 : la 1315 = some (0, 40) := rfl
theorem ar_1316 : la 1316 = some (0, 40) := rfl
theorem ar_1317 : la 1317 = some (0, 40) := rfl
theorem ar_1318 : la 1318 = some (0, 40) := rfl
theorem ar_1319 : la 1319 = some (0, 40) := rfl
theorem ar_1320 : la 1320 = some (0, 40) := rfl
theorem ar_1321 : la 1321 = some (0, 40) := rfl
theorem ar_1322 : la 1322 = some (0, 40) := rfl
theorem ar_1323 : la 1323 = some (0, 8) := rfl
theorem ar_1324 : la 1324 = some (0, 8) := rfl
theorem ar_1325 : la 1325 = some (0, 8) := rfl
theorem ar_1327 : la 1327 = some (0, 8) := rfl
theorem ar_1328 : la 1328 = some (0, 8) := rfl
theorem ar_1329 : la 1329 = some (0, 8) := rfl
theorem ar_1330 : la 1330 = some (0, 8) := rfl
theorem ar_1331 : la 1331 = some (0, 8) := rfl
theorem ar_1332 : la 1332 = some (0, 48) := rfl
theorem ar_1333 : la 1333 = some (1, 8) := rfl
theorem ar_1334 : la 1334 = some (1, 8) := rfl
theorem ar_1336 : la 1336 = some (0, 3) := rfl
theorem ar_1338 : la 1338 = some (0, 6) := rfl
theorem ar_1339 : la 1339 = some (0, 6) := rfl
theorem ar_1340 : la 1340 = some (0, 6) := rfl
theorem ar_1341 : la 1341 = some (0, 480) := rfl
theorem ar_1344 : la 1344 = some (0, 84) := rfl
theorem ar_1346 : la 1346 = some (1, 84) := rfl
theorem ar_1347 : la 1347 = some (0, 8) := rfl
theorem ar_1348 : la 1348 = some (1, 16) := rfl
theorem ar_1350 : la 1350 = some (0, 8) := rfl
theorem ar_1351 : la 1351 = some (0, 8) := rfl
theorem ar_1352 : la 1352 = some (0, 8) := rfl
theorem ar_1353 : la 1353 = some (0, 8) := rfl
theorem ar_1354 : la 1354 = some (0, 8) := rfl
theorem ar_1357 : la 1357 = some (1, 64) := rfl
theorem ar_1358 : la 1358 = some (1, 16) := rfl
theorem ar_1359 : la 1359 = some (1, 8) := rfl
theorem ar_1360 : la 1360 = some (0, 8) := rfl
theorem ar_1361 : la 1361 = some (0, 8) := rfl
theorem ar_1363 : la 1363 = some (0, 9) := rfl
theorem ar_1364 : la 1364 = some (0, 8) := rfl
theorem ar_1367 : la 1367 = some (0, 4) := rfl
theorem ar_1368 : la 1368 = some (0, 4) := rfl
theorem ar_1370 : la 1370 = some (0, 8) := rfl
theorem ar_1371 : la 1371 = some (0, 8) := rfl
theorem ar_1372 : la 1372 = some (0, 8) := rfl
theorem ar_1373 : la 1373 = some (1, 1024) := rfl
theorem ar_1374 : la 1374 = some (1, 256) := rfl
theorem ar_1375 : la 1375 = some (1, 256) := rfl
theorem ar_1376 : la 1376 = some (0, 8) := rfl
theorem ar_1377 : la 1377 = some (1, 96) := rfl
theorem ar_1379 : la 1379 = some (0, 8) := rfl
theorem ar_1380 : la 1380 = some (0, 8) := rfl
theorem ar_1381 : la 1381 = some (0, 8) := rfl
theorem ar_1382 : la 1382 = some (0, 9) := rfl
theorem ar_1385 : la 1385 = some (0, 200) := rfl
theorem ar_1386 : la 1386 = some (0, 200) := rfl
theorem ar_1387 : la 1387 = some (0, 200) := rfl
theorem ar_1388 : la 1388 = some (0, 200) := rfl
theorem ar_1389 : la 1389 = some (0, 19) := rfl
theorem ar_1390 : la 1390 = some (0, 19) := rfl
theorem ar_1391 : la 1391 = some (0, 8) := rfl
