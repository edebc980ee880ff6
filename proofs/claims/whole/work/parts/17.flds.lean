theorem li_X11_10 : LkFR RX11 10 11 1 9 := ⟨lf_X11_10, rfl⟩
theorem li_X11_19 : LkFR RX11 19 11 2 1 := ⟨lf_X11_19, rfl⟩
theorem li_X11_25 : LkFA RX11 25 11 3 := ⟨lf_X11_25, rfl⟩
theorem li_X11_31 : LkFA RX11 31 11 5 := ⟨lf_X11_31, rfl⟩
theorem li_X11_35 : LkFI RX11 35 11 7 := ⟨lf_X11_35, 0, rfl, by decide⟩
theorem lq_X11_35 : LkPI RX11 35 11 7 0 := ⟨lp_X11_35, rfl⟩
theorem li_X11_39 : LkFA RX11 39 11 8 := ⟨lf_X11_39, rfl⟩
theorem li_X11_45 : LkFA RX11 45 11 9 := ⟨lf_X11_45, rfl⟩
theorem li_X11_52 : LkFR RX11 52 11 11 3 := ⟨lf_X11_52, rfl⟩
theorem li_X11_58 : LkFA RX11 58 11 13 := ⟨lf_X11_58, rfl⟩
theorem li_X11_65 : LkFR RX11 65 11 15 4 := ⟨lf_X11_65, rfl⟩
theorem li_X11_72 : LkFR RX11 72 11 16 0 := ⟨lf_X11_72, rfl⟩
theorem li_X11_79 : LkFR RX11 79 11 17 2 := ⟨lf_X11_79, rfl⟩
theorem li_X11_87 : LkFI RX11 87 11 0 := ⟨lf_X11_87, 0, rfl, by decide⟩
theorem lq_X11_87 : LkPI RX11 87 11 0 0 := ⟨lp_X11_87, rfl⟩
theorem li_X11_114 : LkFI RX11 114 10 6 := ⟨lf_X11_114, 1, rfl, by decide⟩
theorem lq_X11_114 : LkPI RX11 114 10 6 1 := ⟨lp_X11_114, rfl⟩
theorem li_X11_131 : LkFI RX11 131 11 4 := ⟨lf_X11_131, 0, rfl, by decide⟩
theorem lq_X11_131 : LkPI RX11 131 11 4 0 := ⟨lp_X11_131, rfl⟩
theorem li_X11_141 : LkFI RX11 141 7 0 := ⟨lf_X11_141, 0, rfl, by decide⟩
theorem li_X11_148 : LkFI RX11 148 7 1 := ⟨lf_X11_148, 0, rfl, by decide⟩
theorem li_X11_151 : LkFI RX11 151 7 2 := ⟨lf_X11_151, 0, rfl, by decide⟩
theorem li_X11_154 : LkFI RX11 154 7 3 := ⟨lf_X11_154, 0, rfl, by decide⟩
theorem li_X11_157 : LkFI RX11 157 7 4 := ⟨lf_X11_157, 0, rfl, by decide⟩
theorem li_X11_160 : LkFI RX11 160 7 5 := ⟨lf_X11_160, 0, rfl, by decide⟩
theorem li_X11_163 : LkFI RX11 163 7 6 := ⟨lf_X11_163, 0, rfl, by decide⟩
theorem li_X11_170 : LkFI RX11 170 7 8 := ⟨lf_X11_170, 0, rfl, by decide⟩
theorem lq_X11_170 : LkPI RX11 170 7 8 0 := ⟨lp_X11_170, rfl⟩
theorem li_X11_173 : LkFI RX11 173 7 11 := ⟨lf_X11_173, 0, rfl, by decide⟩
theorem lq_X11_173 : LkPI RX11 173 7 11 0 := ⟨lp_X11_173, rfl⟩
theorem li_X11_176 : LkFI RX11 176 7 12 := ⟨lf_X11_176, 0, rfl, by decide⟩
theorem lq_X11_176 : LkPI RX11 176 7 12 0 := ⟨lp_X11_176, rfl⟩
theorem li_X11_179 : LkFI RX11 179 7 9 := ⟨lf_X11_179, 0, rfl, by decide⟩
theorem lq_X11_179 : LkPI RX11 179 7 9 0 := ⟨lp_X11_179, rfl⟩
theorem li_X11_182 : LkFI RX11 182 7 10 := ⟨lf_X11_182, 0, rfl, by decide⟩
theorem lq_X11_182 : LkPI RX11 182 7 10 0 := ⟨lp_X11_182, rfl⟩
theorem li_X11_200 : LkFI RX11 200 11 6 := ⟨lf_X11_200, 0, rfl, by decide⟩
theorem lq_X11_200 : LkPI RX11 200 11 6 0 := ⟨lp_X11_200, rfl⟩
theorem li_X11_220 : LkFI RX11 220 8 6 := ⟨lf_X11_220, 1, rfl, by decide⟩
theorem lq_X11_220 : LkPI RX11 220 8 6 1 := ⟨lp_X11_220, rfl⟩
theorem li_X11_227 : LkFI RX11 227 8 7 := ⟨lf_X11_227, 1, rfl, by decide⟩
theorem lq_X11_227 : LkPI RX11 227 8 7 1 := ⟨lp_X11_227, rfl⟩
theorem li_X11_230 : LkFI RX11 230 8 5 := ⟨lf_X11_230, 0, rfl, by decide⟩
theorem lq_X11_230 : LkPI RX11 230 8 5 0 := ⟨lp_X11_230, rfl⟩
theorem li_X11_260 : LkFI RX11 260 11 10 := ⟨lf_X11_260, 0, rfl, by decide⟩
theorem lq_X11_260 : LkPI RX11 260 11 10 0 := ⟨lp_X11_260, rfl⟩
theorem li_X11_276 : LkFI RX11 276 6 1 := ⟨lf_X11_276, 0, rfl, by decide⟩
theorem lq_X11_276 : LkPI RX11 276 6 1 0 := ⟨lp_X11_276, rfl⟩
theorem li_X11_287 : LkFI RX11 287 11 12 := ⟨lf_X11_287, 0, rfl, by decide⟩
theorem lq_X11_287 : LkPI RX11 287 11 12 0 := ⟨lp_X11_287, rfl⟩
theorem li_X11_298 : LkFI RX11 298 11 14 := ⟨lf_X11_298, 0, rfl, by decide⟩
theorem lq_X11_298 : LkPI RX11 298 11 14 0 := ⟨lp_X11_298, rfl⟩
theorem li_X11_304 : LkFI RX11 304 5 4 := ⟨lf_X11_304, 0, rfl, by decide⟩
theorem lq_X11_304 : LkPI RX11 304 5 4 0 := ⟨lp_X11_304, rfl⟩
theorem li_X11_307 : LkFI RX11 307 8 0 := ⟨lf_X11_307, 0, rfl, by decide⟩
theorem li_X11_318 : LkFI RX11 318 4 3 := ⟨lf_X11_318, 0, rfl, by decide⟩
theorem lq_X11_318 : LkPI RX11 318 4 3 0 := ⟨lp_X11_318, rfl⟩
theorem li_X11_332 : LkFI RX11 332 4 11 := ⟨lf_X11_332, 0, rfl, by decide⟩
theorem lq_X11_332 : LkPI RX11 332 4 11 0 := ⟨lp_X11_332, rfl⟩
theorem li_X11_355 : LkFI RX11 355 0 10 := ⟨lf_X11_355, 0, rfl, by decide⟩
theorem lq_X11_355 : LkPI RX11 355 0 10 0 := ⟨lp_X11_355, rfl⟩
theorem li_X11_356 : LkFI RX11 356 0 2 := ⟨lf_X11_356, 0, rfl, by decide⟩
theorem lq_X11_356 : LkPI RX11 356 0 2 0 := ⟨lp_X11_356, rfl⟩
theorem li_X11_359 : LkFI RX11 359 0 11 := ⟨lf_X11_359, 0, rfl, by decide⟩
theorem lq_X11_359 : LkPI RX11 359 0 11 0 := ⟨lp_X11_359, rfl⟩
theorem li_X11_362 : LkFI RX11 362 0 12 := ⟨lf_X11_362, 0, rfl, by decide⟩
theorem lq_X11_362 : LkPI RX11 362 0 12 0 := ⟨lp_X11_362, rfl⟩
theorem li_X11_379 : LkFI RX11 379 2 0 := ⟨lf_X11_379, 0, rfl, by decide⟩
theorem lq_X11_379 : LkPI RX11 379 2 0 0 := ⟨lp_X11_379, rfl⟩
theorem li_X0_9 : LkFA RX0 9 0 0 := ⟨lf_X0_9, rfl⟩
theorem li_X0_15 : LkFA RX0 15 0 1 := ⟨lf_X0_15, rfl⟩
theorem li_X0_18 : LkFA RX0 18 0 3 := ⟨lf_X0_18, rfl⟩
theorem li_X0_21 : LkFA RX0 21 0 4 := ⟨lf_X0_21, rfl⟩
theorem li_X0_24 : LkFA RX0 24 0 5 := ⟨lf_X0_24, rfl⟩
theorem li_X0_27 : LkFA RX0 27 0 6 := ⟨lf_X0_27, rfl⟩
theorem li_X0_30 : LkFA RX0 30 0 7 := ⟨lf_X0_30, rfl⟩
theorem li_X0_33 : LkFA RX0 33 0 8 := ⟨lf_X0_33, rfl⟩
theorem li_X0_37 : LkFA RX0 37 0 9 := ⟨lf_X0_37, rfl⟩
theorem li_X0_40 : LkFI RX0 40 0 2 := ⟨lf_X0_40, 0, rfl, by decide⟩
theorem lq_X0_40 : LkPI RX0 40 0 2 0 := ⟨lp_X0_40, rfl⟩
theorem li_X0_88 : LkFI RX0 88 0 10 := ⟨lf_X0_88, 0, rfl, by decide⟩
theorem lq_X0_88 : LkPI RX0 88 0 10 0 := ⟨lp_X0_88, rfl⟩
theorem li_X0_91 : LkFI RX0 91 0 11 := ⟨lf_X0_91, 0, rfl, by decide⟩
theorem lq_X0_91 : LkPI RX0 91 0 11 0 := ⟨lp_X0_91, rfl⟩
theorem li_X0_94 : LkFI RX0 94 0 12 := ⟨lf_X0_94, 0, rfl, by decide⟩
theorem lq_X0_94 : LkPI RX0 94 0 12 0 := ⟨lp_X0_94, rfl⟩
theorem li_X1_9 : LkFA RX1 9 1 0 := ⟨lf_X1_9, rfl⟩
theorem li_X1_15 : LkFA RX1 15 1 1 := ⟨lf_X1_15, rfl⟩
theorem li_X1_18 : LkFA RX1 18 1 2 := ⟨lf_X1_18, rfl⟩
theorem li_X2_9 : LkFA RX2 9 2 1 := ⟨lf_X2_9, rfl⟩
theorem li_X2_15 : LkFA RX2 15 2 2 := ⟨lf_X2_15, rfl⟩
theorem li_X2_18 : LkFA RX2 18 2 3 := ⟨lf_X2_18, rfl⟩
theorem li_X2_21 : LkFA RX2 21 2 4 := ⟨lf_X2_21, rfl⟩
theorem li_X2_24 : LkFI RX2 24 2 5 := ⟨lf_X2_24, 0, rfl, by decide⟩
theorem lq_X2_24 : LkPI RX2 24 2 5 0 := ⟨lp_X2_24, rfl⟩
theorem li_X2_28 : LkFA RX2 28 2 6 := ⟨lf_X2_28, rfl⟩
theorem li_X2_32 : LkFA RX2 32 2 7 := ⟨lf_X2_32, rfl⟩
theorem li_X2_35 : LkFI RX2 35 2 0 := ⟨lf_X2_35, 0, rfl, by decide⟩
theorem lq_X2_35 : LkPI RX2 35 2 0 0 := ⟨lp_X2_35, rfl⟩
theorem li_X2_38 : LkFI RX2 38 2 8 := ⟨lf_X2_38, 1, rfl, by decide⟩
theorem lq_X2_38 : LkPI RX2 38 2 8 1 := ⟨lp_X2_38, rfl⟩
theorem lz_X2_48 : Cond.fieldLink RX2 48 RX2 "TENS" "[I" ∈ lw_u := (lw_ug (List.mem_of_getElem? (i := 1141) (by decide +kernel)) rfl)
theorem li_X3_9 : LkFA RX3 9 3 0 := ⟨lf_X3_9, rfl⟩
theorem li_X3_15 : LkFA RX3 15 3 1 := ⟨lf_X3_15, rfl⟩
theorem li_X3_19 : LkFA RX3 19 3 2 := ⟨lf_X3_19, rfl⟩
theorem li_X3_22 : LkFA RX3 22 3 3 := ⟨lf_X3_22, rfl⟩
theorem li_X3_25 : LkFI RX3 25 8 0 := ⟨lf_X3_25, 0, rfl, by decide⟩
theorem li_X3_31 : LkFI RX3 31 8 1 := ⟨lf_X3_31, 0, rfl, by decide⟩
theorem li_X3_38 : LkFI RX3 38 8 6 := ⟨lf_X3_38, 1, rfl, by decide⟩
theorem lq_X3_38 : LkPI RX3 38 8 6 1 := ⟨lp_X3_38, rfl⟩
theorem li_X3_45 : LkFI RX3 45 3 4 := ⟨lf_X3_45, 0, rfl, by decide⟩
theorem lq_X3_45 : LkPI RX3 45 3 4 0 := ⟨lp_X3_45, rfl⟩
theorem li_X3_51 : LkFI RX3 51 6 3 := ⟨lf_X3_51, 0, rfl, by decide⟩
theorem lq_X3_51 : LkPI RX3 51 6 3 0 := ⟨lp_X3_51, rfl⟩
theorem li_X3_56 : LkFA RX3 56 6 2 := ⟨lf_X3_56, rfl⟩
theorem li_X3_66 : LkFI RX3 66 3 5 := ⟨lf_X3_66, 0, rfl, by decide⟩
theorem lq_X3_66 : LkPI RX3 66 3 5 0 := ⟨lp_X3_66, rfl⟩
theorem li_X3_72 : LkFI RX3 72 3 9 := ⟨lf_X3_72, 0, rfl, by decide⟩
theorem lq_X3_72 : LkPI RX3 72 3 9 0 := ⟨lp_X3_72, rfl⟩
theorem li_X3_91 : LkFI RX3 91 3 6 := ⟨lf_X3_91, 0, rfl, by decide⟩
theorem lq_X3_91 : LkPI RX3 91 3 6 0 := ⟨lp_X3_91, rfl⟩
theorem li_X3_94 : LkFI RX3 94 3 7 := ⟨lf_X3_94, 0, rfl, by decide⟩
theorem lq_X3_94 : LkPI RX3 94 3 7 0 := ⟨lp_X3_94, rfl⟩
theorem li_X3_97 : LkFI RX3 97 3 8 := ⟨lf_X3_97, 0, rfl, by decide⟩
theorem lq_X3_97 : LkPI RX3 97 3 8 0 := ⟨lp_X3_97, rfl⟩
theorem li_X4_9 : LkFI RX4 9 4 0 := ⟨lf_X4_9, 0, rfl, by decide⟩
theorem lq_X4_9 : LkPI RX4 9 4 0 0 := ⟨lp_X4_9, rfl⟩
theorem li_X4_15 : LkFI RX4 15 4 1 := ⟨lf_X4_15, 0, rfl, by decide⟩
theorem lq_X4_15 : LkPI RX4 15 4 1 0 := ⟨lp_X4_15, rfl⟩
theorem li_X4_18 : LkFA RX4 18 4 2 := ⟨lf_X4_18, rfl⟩
theorem li_X4_22 : LkFA RX4 22 4 8 := ⟨lf_X4_22, rfl⟩
theorem li_X4_25 : LkFA RX4 25 4 9 := ⟨lf_X4_25, rfl⟩
theorem li_X4_28 : LkFA RX4 28 4 10 := ⟨lf_X4_28, rfl⟩
theorem li_X4_43 : LkFI RX4 43 4 4 := ⟨lf_X4_43, 0, rfl, by decide⟩
theorem lq_X4_43 : LkPI RX4 43 4 4 0 := ⟨lp_X4_43, rfl⟩
theorem li_X4_46 : LkFI RX4 46 4 5 := ⟨lf_X4_46, 0, rfl, by decide⟩
theorem lq_X4_46 : LkPI RX4 46 4 5 0 := ⟨lp_X4_46, rfl⟩
theorem li_X4_49 : LkFI RX4 49 4 6 := ⟨lf_X4_49, 0, rfl, by decide⟩
theorem lq_X4_49 : LkPI RX4 49 4 6 0 := ⟨lp_X4_49, rfl⟩
theorem li_X4_52 : LkFI RX4 52 4 7 := ⟨lf_X4_52, 0, rfl, by decide⟩
theorem lq_X4_52 : LkPI RX4 52 4 7 0 := ⟨lp_X4_52, rfl⟩
theorem li_X4_55 : LkFI RX4 55 8 7 := ⟨lf_X4_55, 1, rfl, by decide⟩
theorem lq_X4_55 : LkPI RX4 55 8 7 1 := ⟨lp_X4_55, rfl⟩
theorem li_X4_65 : LkFI RX4 65 4 3 := ⟨lf_X4_65, 0, rfl, by decide⟩
theorem lq_X4_65 : LkPI RX4 65 4 3 0 := ⟨lp_X4_65, rfl⟩
theorem li_X4_68 : LkFI RX4 68 8 0 := ⟨lf_X4_68, 0, rfl, by decide⟩
theorem li_X4_71 : LkFI RX4 71 8 3 := ⟨lf_X4_71, 0, rfl, by decide⟩
theorem li_X4_87 : LkFI RX4 87 4 11 := ⟨lf_X4_87, 0, rfl, by decide⟩
theorem lq_X4_87 : LkPI RX4 87 4 11 0 := ⟨lp_X4_87, rfl⟩
theorem li_X4_90 : LkFI RX4 90 4 12 := ⟨lf_X4_90, 0, rfl, by decide⟩
theorem lq_X4_90 : LkPI RX4 90 4 12 0 := ⟨lp_X4_90, rfl⟩
theorem lz_X4_97 : Cond.fieldLink RX4 97 RX4 "NINES" "[I" ∈ lw_u := (lw_ug (List.mem_of_getElem? (i := 978) (by decide +kernel)) rfl)
theorem li_X5_7 : LkFI RX5 7 5 0 := ⟨lf_X5_7, 0, rfl, by decide⟩
theorem li_X5_13 : LkFI RX5 13 5 1 := ⟨lf_X5_13, 0, rfl, by decide⟩
theorem li_X5_16 : LkFI RX5 16 5 2 := ⟨lf_X5_16, 0, rfl, by decide⟩
theorem li_X5_19 : LkFI RX5 19 5 3 := ⟨lf_X5_19, 0, rfl, by decide⟩
theorem li_X5_22 : LkFI RX5 22 5 4 := ⟨lf_X5_22, 0, rfl, by decide⟩
theorem lq_X5_22 : LkPI RX5 22 5 4 0 := ⟨lp_X5_22, rfl⟩
theorem li_X6_10 : LkFI RX6 10 6 1 := ⟨lf_X6_10, 0, rfl, by decide⟩
theorem lq_X6_10 : LkPI RX6 10 6 1 0 := ⟨lp_X6_10, rfl⟩
theorem li_X6_16 : LkFA RX6 16 6 2 := ⟨lf_X6_16, rfl⟩
theorem li_X6_20 : LkFI RX6 20 6 0 := ⟨lf_X6_20, 0, rfl, by decide⟩
theorem li_X6_27 : LkFI RX6 27 6 3 := ⟨lf_X6_27, 0, rfl, by decide⟩
theorem lq_X6_27 : LkPI RX6 27 6 3 0 := ⟨lp_X6_27, rfl⟩
theorem li_X7_10 : LkFI RX7 10 7 8 := ⟨lf_X7_10, 0, rfl, by decide⟩
theorem lq_X7_10 : LkPI RX7 10 7 8 0 := ⟨lp_X7_10, rfl⟩
theorem li_X7_16 : LkFI RX7 16 7 9 := ⟨lf_X7_16, 0, rfl, by decide⟩
theorem lq_X7_16 : LkPI RX7 16 7 9 0 := ⟨lp_X7_16, rfl⟩
theorem li_X7_19 : LkFI RX7 19 7 10 := ⟨lf_X7_19, 0, rfl, by decide⟩
theorem lq_X7_19 : LkPI RX7 19 7 10 0 := ⟨lp_X7_19, rfl⟩
theorem li_X7_22 : LkFI RX7 22 7 11 := ⟨lf_X7_22, 0, rfl, by decide⟩
theorem lq_X7_22 : LkPI RX7 22 7 11 0 := ⟨lp_X7_22, rfl⟩
theorem li_X7_25 : LkFI RX7 25 7 12 := ⟨lf_X7_25, 0, rfl, by decide⟩
theorem lq_X7_25 : LkPI RX7 25 7 12 0 := ⟨lp_X7_25, rfl⟩
theorem li_X7_28 : LkFI RX7 28 7 0 := ⟨lf_X7_28, 0, rfl, by decide⟩
theorem li_X7_31 : LkFI RX7 31 7 1 := ⟨lf_X7_31, 0, rfl, by decide⟩
theorem li_X7_34 : LkFI RX7 34 7 2 := ⟨lf_X7_34, 0, rfl, by decide⟩
theorem li_X7_37 : LkFI RX7 37 7 3 := ⟨lf_X7_37, 0, rfl, by decide⟩
theorem li_X7_40 : LkFI RX7 40 7 4 := ⟨lf_X7_40, 0, rfl, by decide⟩
theorem li_X7_43 : LkFI RX7 43 7 5 := ⟨lf_X7_43, 0, rfl, by decide⟩
theorem li_X7_46 : LkFI RX7 46 7 6 := ⟨lf_X7_46, 0, rfl, by decide⟩
theorem li_X7_49 : LkFI RX7 49 7 7 := ⟨lf_X7_49, 0, rfl, by decide⟩
theorem lq_X7_49 : LkPI RX7 49 7 7 0 := ⟨lp_X7_49, rfl⟩
theorem li_X8_11 : LkFA RX8 11 8 4 := ⟨lf_X8_11, rfl⟩
theorem li_X8_17 : LkFI RX8 17 8 0 := ⟨lf_X8_17, 0, rfl, by decide⟩
theorem li_X8_21 : LkFI RX8 21 8 1 := ⟨lf_X8_21, 0, rfl, by decide⟩
theorem li_X8_24 : LkFI RX8 24 8 2 := ⟨lf_X8_24, 0, rfl, by decide⟩
theorem li_X8_27 : LkFI RX8 27 8 3 := ⟨lf_X8_27, 0, rfl, by decide⟩
theorem li_X8_30 : LkFI RX8 30 8 5 := ⟨lf_X8_30, 0, rfl, by decide⟩
theorem lq_X8_30 : LkPI RX8 30 8 5 0 := ⟨lp_X8_30, rfl⟩
theorem li_X8_37 : LkFI RX8 37 7 0 := ⟨lf_X8_37, 0, rfl, by decide⟩
theorem li_X8_40 : LkFI RX8 40 7 3 := ⟨lf_X8_40, 0, rfl, by decide⟩
theorem li_X8_43 : LkFI RX8 43 7 2 := ⟨lf_X8_43, 0, rfl, by decide⟩
theorem li_X8_48 : LkFI RX8 48 7 5 := ⟨lf_X8_48, 0, rfl, by decide⟩
theorem li_X8_57 : LkFI RX8 57 7 6 := ⟨lf_X8_57, 0, rfl, by decide⟩
theorem li_X9_11 : LkFA RX9 11 9 0 := ⟨lf_X9_11, rfl⟩
theorem li_X9_17 : LkFA RX9 17 9 2 := ⟨lf_X9_17, rfl⟩
theorem li_X9_21 : LkFI RX9 21 9 1 := ⟨lf_X9_21, 0, rfl, by decide⟩
theorem lq_X9_21 : LkPI RX9 21 9 1 0 := ⟨lp_X9_21, rfl⟩
theorem li_X9_40 : LkFI RX9 40 10 0 := ⟨lf_X9_40, 0, rfl, by decide⟩
theorem li_X9_47 : LkFI RX9 47 10 1 := ⟨lf_X9_47, 0, rfl, by decide⟩
theorem li_X10_9 : LkFI RX10 9 10 0 := ⟨lf_X10_9, 0, rfl, by decide⟩
theorem li_X10_15 : LkFI RX10 15 10 1 := ⟨lf_X10_15, 0, rfl, by decide⟩
theorem li_X10_18 : LkFI RX10 18 10 2 := ⟨lf_X10_18, 0, rfl, by decide⟩
theorem li_X10_21 : LkFI RX10 21 10 3 := ⟨lf_X10_21, 0, rfl, by decide⟩
theorem li_X10_24 : LkFI RX10 24 10 4 := ⟨lf_X10_24, 0, rfl, by decide⟩
theorem li_X10_27 : LkFI RX10 27 10 5 := ⟨lf_X10_27, 0, rfl, by decide⟩
theorem li_X10_30 : LkFI RX10 30 10 6 := ⟨lf_X10_30, 1, rfl, by decide⟩
theorem lq_X10_30 : LkPI RX10 30 10 6 1 := ⟨lp_X10_30, rfl⟩
theorem li_X12_7 : LkFA RX12 7 12 2 := ⟨lf_X12_7, rfl⟩
theorem li_X12_13 : LkFA RX12 13 12 3 := ⟨lf_X12_13, rfl⟩
theorem li_X12_16 : LkFA RX12 16 12 4 := ⟨lf_X12_16, rfl⟩
theorem li_X12_19 : LkFA RX12 19 12 5 := ⟨lf_X12_19, rfl⟩
theorem li_X12_22 : LkFA RX12 22 12 6 := ⟨lf_X12_22, rfl⟩
theorem li_X12_25 : LkFA RX12 25 12 7 := ⟨lf_X12_25, rfl⟩
theorem li_X12_28 : LkFA RX12 28 12 8 := ⟨lf_X12_28, rfl⟩
theorem li_X12_32 : LkFA RX12 32 12 9 := ⟨lf_X12_32, rfl⟩
theorem li_X12_35 : LkFA RX12 35 12 11 := ⟨lf_X12_35, rfl⟩
theorem li_X12_38 : LkFA RX12 38 12 12 := ⟨lf_X12_38, rfl⟩
theorem li_X12_41 : LkFA RX12 41 12 13 := ⟨lf_X12_41, rfl⟩
theorem li_X12_44 : LkFA RX12 44 12 14 := ⟨lf_X12_44, rfl⟩
theorem li_X12_47 : LkFA RX12 47 12 15 := ⟨lf_X12_47, rfl⟩
theorem li_X12_50 : LkFA RX12 50 12 16 := ⟨lf_X12_50, rfl⟩
theorem li_X12_53 : LkFA RX12 53 12 17 := ⟨lf_X12_53, rfl⟩
theorem li_X12_56 : LkFA RX12 56 12 18 := ⟨lf_X12_56, rfl⟩
theorem li_X12_59 : LkFA RX12 59 12 19 := ⟨lf_X12_59, rfl⟩
theorem li_X12_62 : LkFA RX12 62 12 20 := ⟨lf_X12_62, rfl⟩
theorem li_X12_65 : LkFA RX12 65 12 21 := ⟨lf_X12_65, rfl⟩
theorem li_X12_68 : LkFA RX12 68 12 22 := ⟨lf_X12_68, rfl⟩
theorem li_X12_71 : LkFA RX12 71 12 23 := ⟨lf_X12_71, rfl⟩
theorem li_X12_74 : LkFA RX12 74 12 24 := ⟨lf_X12_74, rfl⟩
theorem li_X12_77 : LkFA RX12 77 12 25 := ⟨lf_X12_77, rfl⟩
theorem li_X12_80 : LkFA RX12 80 12 27 := ⟨lf_X12_80, rfl⟩
theorem li_X12_83 : LkFA RX12 83 12 28 := ⟨lf_X12_83, rfl⟩
theorem li_X12_86 : LkFA RX12 86 12 29 := ⟨lf_X12_86, rfl⟩
theorem li_X12_89 : LkFA RX12 89 12 30 := ⟨lf_X12_89, rfl⟩
theorem li_X12_92 : LkFA RX12 92 12 31 := ⟨lf_X12_92, rfl⟩
theorem li_X12_95 : LkFA RX12 95 12 32 := ⟨lf_X12_95, rfl⟩
theorem li_X12_98 : LkFA RX12 98 12 33 := ⟨lf_X12_98, rfl⟩
theorem li_X12_101 : LkFA RX12 101 12 34 := ⟨lf_X12_101, rfl⟩
theorem li_X12_104 : LkFI RX12 104 12 35 := ⟨lf_X12_104, 0, rfl, by decide⟩
theorem lq_X12_104 : LkPI RX12 104 12 35 0 := ⟨lp_X12_104, rfl⟩
theorem li_X12_108 : LkFA RX12 108 12 36 := ⟨lf_X12_108, rfl⟩
theorem li_X12_111 : LkFA RX12 111 12 38 := ⟨lf_X12_111, rfl⟩
theorem li_X12_114 : LkFA RX12 114 12 39 := ⟨lf_X12_114, rfl⟩
theorem li_X12_117 : LkFA RX12 117 12 40 := ⟨lf_X12_117, rfl⟩
theorem li_X12_120 : LkFA RX12 120 12 41 := ⟨lf_X12_120, rfl⟩
theorem li_X12_123 : LkFA RX12 123 12 44 := ⟨lf_X12_123, rfl⟩
theorem li_X12_126 : LkFA RX12 126 12 46 := ⟨lf_X12_126, rfl⟩
theorem li_X12_129 : LkFA RX12 129 12 47 := ⟨lf_X12_129, rfl⟩
theorem li_X12_132 : LkFA RX12 132 12 48 := ⟨lf_X12_132, rfl⟩
theorem li_X12_135 : LkFA RX12 135 12 50 := ⟨lf_X12_135, rfl⟩
theorem li_X12_138 : LkFA RX12 138 12 51 := ⟨lf_X12_138, rfl⟩
theorem li_X12_141 : LkFA RX12 141 12 52 := ⟨lf_X12_141, rfl⟩
theorem li_X12_144 : LkFA RX12 144 12 53 := ⟨lf_X12_144, rfl⟩
theorem li_X12_147 : LkFA RX12 147 12 54 := ⟨lf_X12_147, rfl⟩
theorem li_X12_150 : LkFI RX12 150 12 55 := ⟨lf_X12_150, 0, rfl, by decide⟩
theorem lq_X12_150 : LkPI RX12 150 12 55 0 := ⟨lp_X12_150, rfl⟩
theorem li_X12_153 : LkFI RX12 153 12 56 := ⟨lf_X12_153, 0, rfl, by decide⟩
theorem lq_X12_153 : LkPI RX12 153 12 56 0 := ⟨lp_X12_153, rfl⟩
theorem li_X12_156 : LkFA RX12 156 12 57 := ⟨lf_X12_156, rfl⟩
theorem li_X12_159 : LkFA RX12 159 12 58 := ⟨lf_X12_159, rfl⟩
theorem li_X12_162 : LkFA RX12 162 12 59 := ⟨lf_X12_162, rfl⟩
theorem li_X12_165 : LkFA RX12 165 12 60 := ⟨lf_X12_165, rfl⟩
theorem li_X12_168 : LkFA RX12 168 12 61 := ⟨lf_X12_168, rfl⟩
theorem li_X12_171 : LkFA RX12 171 12 63 := ⟨lf_X12_171, rfl⟩
theorem li_X12_174 : LkFA RX12 174 12 64 := ⟨lf_X12_174, rfl⟩
theorem li_X12_177 : LkFA RX12 177 12 67 := ⟨lf_X12_177, rfl⟩
theorem li_X12_180 : LkFA RX12 180 12 68 := ⟨lf_X12_180, rfl⟩
theorem li_X12_183 : LkFA RX12 183 12 70 := ⟨lf_X12_183, rfl⟩
theorem li_X12_186 : LkFA RX12 186 12 71 := ⟨lf_X12_186, rfl⟩
theorem li_X12_189 : LkFA RX12 189 12 72 := ⟨lf_X12_189, rfl⟩
theorem li_X12_192 : LkFA RX12 192 12 73 := ⟨lf_X12_192, rfl⟩
theorem li_X12_195 : LkFA RX12 195 12 74 := ⟨lf_X12_195, rfl⟩
theorem li_X12_198 : LkFA RX12 198 12 75 := ⟨lf_X12_198, rfl⟩
theorem li_X12_201 : LkFA RX12 201 12 76 := ⟨lf_X12_201, rfl⟩
theorem li_X12_204 : LkFA RX12 204 12 77 := ⟨lf_X12_204, rfl⟩
theorem li_X12_207 : LkFA RX12 207 12 79 := ⟨lf_X12_207, rfl⟩
theorem li_X12_210 : LkFA RX12 210 12 80 := ⟨lf_X12_210, rfl⟩
theorem li_X12_213 : LkFA RX12 213 12 81 := ⟨lf_X12_213, rfl⟩
theorem li_X12_216 : LkFA RX12 216 12 82 := ⟨lf_X12_216, rfl⟩
theorem li_X12_219 : LkFI RX12 219 12 83 := ⟨lf_X12_219, 0, rfl, by decide⟩
theorem lq_X12_219 : LkPI RX12 219 12 83 0 := ⟨lp_X12_219, rfl⟩
theorem li_X12_222 : LkFA RX12 222 12 85 := ⟨lf_X12_222, rfl⟩
theorem li_X12_225 : LkFA RX12 225 12 86 := ⟨lf_X12_225, rfl⟩
theorem li_X12_228 : LkFA RX12 228 12 87 := ⟨lf_X12_228, rfl⟩
theorem li_X12_231 : LkFA RX12 231 12 88 := ⟨lf_X12_231, rfl⟩
theorem li_X12_234 : LkFA RX12 234 12 89 := ⟨lf_X12_234, rfl⟩
theorem li_X12_237 : LkFA RX12 237 12 90 := ⟨lf_X12_237, rfl⟩
theorem li_X12_240 : LkFA RX12 240 12 91 := ⟨lf_X12_240, rfl⟩
theorem li_X12_255 : LkFI RX12 255 12 0 := ⟨lf_X12_255, 0, rfl, by decide⟩
theorem lq_X12_255 : LkPI RX12 255 12 0 0 := ⟨lp_X12_255, rfl⟩
theorem li_X12_267 : LkFI RX12 267 12 1 := ⟨lf_X12_267, 0, rfl, by decide⟩
theorem lq_X12_267 : LkPI RX12 267 12 1 0 := ⟨lp_X12_267, rfl⟩
theorem li_X12_279 : LkFI RX12 279 12 10 := ⟨lf_X12_279, 0, rfl, by decide⟩
theorem lq_X12_279 : LkPI RX12 279 12 10 0 := ⟨lp_X12_279, rfl⟩
theorem li_X12_311 : LkFI RX12 311 12 26 := ⟨lf_X12_311, 0, rfl, by decide⟩
theorem lq_X12_311 : LkPI RX12 311 12 26 0 := ⟨lp_X12_311, rfl⟩
theorem li_X12_336 : LkFI RX12 336 12 37 := ⟨lf_X12_336, 0, rfl, by decide⟩
theorem lq_X12_336 : LkPI RX12 336 12 37 0 := ⟨lp_X12_336, rfl⟩
theorem li_X12_345 : LkFI RX12 345 12 42 := ⟨lf_X12_345, 0, rfl, by decide⟩
theorem lq_X12_345 : LkPI RX12 345 12 42 0 := ⟨lp_X12_345, rfl⟩
theorem li_X12_362 : LkFI RX12 362 12 45 := ⟨lf_X12_362, 0, rfl, by decide⟩
theorem lq_X12_362 : LkPI RX12 362 12 45 0 := ⟨lp_X12_362, rfl⟩
theorem li_X12_365 : LkFI RX12 365 12 43 := ⟨lf_X12_365, 0, rfl, by decide⟩
theorem lq_X12_365 : LkPI RX12 365 12 43 0 := ⟨lp_X12_365, rfl⟩
theorem li_X12_397 : LkFI RX12 397 12 49 := ⟨lf_X12_397, 0, rfl, by decide⟩
theorem lq_X12_397 : LkPI RX12 397 12 49 0 := ⟨lp_X12_397, rfl⟩
theorem li_X12_407 : LkFI RX12 407 12 62 := ⟨lf_X12_407, 0, rfl, by decide⟩
theorem lq_X12_407 : LkPI RX12 407 12 62 0 := ⟨lp_X12_407, rfl⟩
theorem li_X12_414 : LkFI RX12 414 12 66 := ⟨lf_X12_414, 0, rfl, by decide⟩
theorem lq_X12_414 : LkPI RX12 414 12 66 0 := ⟨lp_X12_414, rfl⟩
theorem li_X12_417 : LkFI RX12 417 12 65 := ⟨lf_X12_417, 0, rfl, by decide⟩
theorem lq_X12_417 : LkPI RX12 417 12 65 0 := ⟨lp_X12_417, rfl⟩
theorem li_X12_436 : LkFI RX12 436 12 69 := ⟨lf_X12_436, 0, rfl, by decide⟩
theorem lq_X12_436 : LkPI RX12 436 12 69 0 := ⟨lp_X12_436, rfl⟩
theorem li_X12_460 : LkFI RX12 460 12 78 := ⟨lf_X12_460, 0, rfl, by decide⟩
theorem lq_X12_460 : LkPI RX12 460 12 78 0 := ⟨lp_X12_460, rfl⟩
theorem li_X12_465 : LkFI RX12 465 12 84 := ⟨lf_X12_465, 0, rfl, by decide⟩
theorem lq_X12_465 : LkPI RX12 465 12 84 0 := ⟨lp_X12_465, rfl⟩
theorem ar_100 : la 100 = some (0, 4) := rfl
theorem ar_101 : la 101 = some (0, 4) := rfl
theorem ar_103 : la 103 = some (0, 8) := rfl
theorem ar_104 : la 104 = some (0, 8) := rfl
theorem ar_105 : la 105 = some (0, 8) := rfl
theorem ar_106 : la 106 = some (0, 8) := rfl
theorem ar_107 : la 107 = some (0, 8) := rfl
theorem ar_108 : la 108 = some (1, 256) := rfl
theorem ar_109 : la 109 = some (1, 256) := rfl
theorem ar_200 : la 200 = some (0, 8) := rfl
theorem ar_201 : la 201 = some (0, 8) := rfl
theorem ar_202 : la 202 = some (0, 8) := rfl
theorem ar_301 : la 301 = some (0, 8) := rfl
theorem ar_302 : la 302 = some (0, 8) := rfl
theorem ar_303 : la 303 = some (0, 8) := rfl
theorem ar_304 : la 304 = some (0, 9) := rfl
theorem ar_306 : la 306 = some (2, 8) := rfl
theorem ar_307 : la 307 = some (2, 256) := rfl
theorem ar_400 : la 400 = some (0, 8) := rfl
theorem ar_401 : la 401 = some (1, 81) := rfl
theorem ar_402 : la 402 = some (1, 81) := rfl
theorem ar_403 : la 403 = some (1, 81) := rfl
theorem ar_502 : la 502 = some (0, 8) := rfl
theorem ar_508 : la 508 = some (0, 8) := rfl
theorem ar_509 : la 509 = some (0, 8) := rfl
theorem ar_510 : la 510 = some (0, 2048) := rfl
theorem ar_702 : la 702 = some (0, 80) := rfl
theorem ar_904 : la 904 = some (10, 6) := rfl
theorem ar_1000 : la 1000 = some (13, 24) := rfl
theorem ar_1002 : la 1002 = some (0, 8) := rfl
theorem ar_1203 : la 1203 = some (10, 40) := rfl
theorem ar_1205 : la 1205 = some (11, 8) := rfl
theorem ar_1208 : la 1208 = some (0, 3) := rfl
theorem ar_1209 : la 1209 = some (9, 6) := rfl
theorem ar_1213 : la 1213 = some (8, 8) := rfl
theorem ar_1302 : la 1302 = some (0, 24) := rfl
theorem ar_1303 : la 1303 = some (0, 24) := rfl
theorem ar_1304 : la 1304 = some (0, 24) := rfl
theorem ar_1305 : la 1305 = some (0, 24) := rfl
theorem ar_1306 : la 1306 = some (0, 24) := rfl
theorem ar_1307 : la 1307 = some (0, 24) := rfl
theorem ar_1308 : la 1308 = some (1, 24) := rfl
theorem ar_1309 : la 1309 = some (0, 8) := rfl
theorem ar_1311 : la 1311 = some (0, 40) := rfl
theorem ar_1312 : la 1312 = some (0, 40) := rfl
theorem ar_1313 : la 1313 = some (0, 40) := rfl
theorem ar_1314 : la 1314 = some (0, 40) := rfl
theorem ar_1315 : la 1315 = some (0, 40) := rfl
theorem ar_1316 : la 1316 = some (0, 40) := rfl
theorem ar_1317 : la 1317 = some (0, 40) := rfl
theorem ar_1318 : la 1318 = some (0, 40) := rfl
theorem ar_1319 : la 1319 = some (0, 40) := rfl
theorem ar_1320 : la 1320 = some (0, 40) := rfl
theorem ar_1321 : la 1321 = some (0, 40) := rfl
theorem ar_1322 : la 1322 = some (0, 40) := rfl
theorem ar_1323 : la 1323 = some (0, 8) := rfl
theorem ar_1324 : la 1324 = some (0, 8) := rfl
theorem ar_1325 : la 1325 = some (0, 8) := rfl
theorem ar_1327 : la 1327 = some (0, 8) := rfl
theorem ar_1328 : la 1328 = some (0, 8) := rfl
theorem ar_1329 : la 1329 = some (0, 8) := rfl
theorem ar_1330 : la 1330 = some (0, 8) := rfl
theorem ar_1331 : la 1331 = some (0, 8) := rfl
theorem ar_1332 : la 1332 = some (0, 48) := rfl
theorem ar_1333 : la 1333 = some (1, 8) := rfl
theorem ar_1334 : la 1334 = some (1, 8) := rfl
theorem ar_1336 : la 1336 = some (0, 3) := rfl
theorem ar_1338 : la 1338 = some (0, 6) := rfl
theorem ar_1339 : la 1339 = some (0, 6) := rfl
theorem ar_1340 : la 1340 = some (0, 6) := rfl
theorem ar_1341 : la 1341 = some (0, 480) := rfl
theorem ar_1344 : la 1344 = some (0, 84) := rfl
theorem ar_1346 : la 1346 = some (1, 84) := rfl
theorem ar_1347 : la 1347 = some (0, 8) := rfl
theorem ar_1348 : la 1348 = some (1, 16) := rfl
theorem ar_1350 : la 1350 = some (0, 8) := rfl
theorem ar_1351 : la 1351 = some (0, 8) := rfl
theorem ar_1352 : la 1352 = some (0, 8) := rfl
theorem ar_1353 : la 1353 = some (0, 8) := rfl
theorem ar_1354 : la 1354 = some (0, 8) := rfl
theorem ar_1357 : la 1357 = some (1, 64) := rfl
theorem ar_1358 : la 1358 = some (1, 16) := rfl
theorem ar_1359 : la 1359 = some (1, 8) := rfl
theorem ar_1360 : la 1360 = some (0, 8) := rfl
theorem ar_1361 : la 1361 = some (0, 8) := rfl
theorem ar_1363 : la 1363 = some (0, 9) := rfl
theorem ar_1364 : la 1364 = some (0, 8) := rfl
theorem ar_1367 : la 1367 = some (0, 4) := rfl
theorem ar_1368 : la 1368 = some (0, 4) := rfl
theorem ar_1370 : la 1370 = some (0, 8) := rfl
theorem ar_1371 : la 1371 = some (0, 8) := rfl
theorem ar_1372 : la 1372 = some (0, 8) := rfl
theorem ar_1373 : la 1373 = some (1, 1024) := rfl
theorem ar_1374 : la 1374 = some (1, 256) := rfl
theorem ar_1375 : la 1375 = some (1, 256) := rfl
theorem ar_1376 : la 1376 = some (0, 8) := rfl
theorem ar_1377 : la 1377 = some (1, 96) := rfl
theorem ar_1379 : la 1379 = some (0, 8) := rfl
theorem ar_1380 : la 1380 = some (0, 8) := rfl
theorem ar_1381 : la 1381 = some (0, 8) := rfl
theorem ar_1382 : la 1382 = some (0, 9) := rfl
theorem ar_1385 : la 1385 = some (0, 200) := rfl
theorem ar_1386 : la 1386 = some (0, 200) := rfl
theorem ar_1387 : la 1387 = some (0, 200) := rfl
theorem ar_1388 : la 1388 = some (0, 200) := rfl
theorem ar_1389 : la 1389 = some (0, 19) := rfl
theorem ar_1390 : la 1390 = some (0, 19) := rfl
theorem ar_1391 : la 1391 = some (0, 8) := rfl
