theorem dX0_init_0 : decode cX0_init 0 = .ok (.aload_n 0, 1) := by decide +kernel
theorem dX0_init_1 : decode cX0_init 1 = .ok (.invokespecial 3, 3) := by decide +kernel
theorem dX0_init_4 : decode cX0_init 4 = .ok (.aload_n 0, 1) := by decide +kernel
theorem dX0_init_5 : decode cX0_init 5 = .ok (.iconst 4, 1) := by decide +kernel
theorem dX0_init_6 : decode cX0_init 6 = .ok (.newarray .int, 2) := by decide +kernel
theorem dX0_init_8 : decode cX0_init 8 = .ok (.dup, 1) := by decide +kernel
theorem dX0_init_9 : decode cX0_init 9 = .ok (.iconst 0, 1) := by decide +kernel
theorem dX0_init_10 : decode cX0_init 10 = .ok (.bipush (-9), 2) := by decide +kernel
theorem dX0_init_12 : decode cX0_init 12 = .ok (.iastore, 1) := by decide +kernel
theorem dX0_init_13 : decode cX0_init 13 = .ok (.dup, 1) := by decide +kernel
theorem dX0_init_14 : decode cX0_init 14 = .ok (.iconst 1, 1) := by decide +kernel
theorem dX0_init_15 : decode cX0_init 15 = .ok (.bipush (-9), 2) := by decide +kernel
theorem dX0_init_17 : decode cX0_init 17 = .ok (.iastore, 1) := by decide +kernel
theorem dX0_init_18 : decode cX0_init 18 = .ok (.dup, 1) := by decide +kernel
theorem dX0_init_19 : decode cX0_init 19 = .ok (.iconst 2, 1) := by decide +kernel
theorem dX0_init_20 : decode cX0_init 20 = .ok (.bipush (-9), 2) := by decide +kernel
theorem dX0_init_22 : decode cX0_init 22 = .ok (.iastore, 1) := by decide +kernel
theorem dX0_init_23 : decode cX0_init 23 = .ok (.dup, 1) := by decide +kernel
theorem dX0_init_24 : decode cX0_init 24 = .ok (.iconst 3, 1) := by decide +kernel
theorem dX0_init_25 : decode cX0_init 25 = .ok (.bipush (-9), 2) := by decide +kernel
theorem dX0_init_27 : decode cX0_init 27 = .ok (.iastore, 1) := by decide +kernel
theorem dX0_init_28 : decode cX0_init 28 = .ok (.putfield 9, 3) := by decide +kernel
theorem dX0_init_31 : decode cX0_init 31 = .ok (.aload_n 0, 1) := by decide +kernel
theorem dX0_init_32 : decode cX0_init 32 = .ok (.iconst 4, 1) := by decide +kernel
theorem dX0_init_33 : decode cX0_init 33 = .ok (.newarray .int, 2) := by decide +kernel
theorem dX0_init_35 : decode cX0_init 35 = .ok (.putfield 15, 3) := by decide +kernel
theorem dX0_init_38 : decode cX0_init 38 = .ok (.aload_n 0, 1) := by decide +kernel
theorem dX0_init_39 : decode cX0_init 39 = .ok (.bipush 8, 2) := by decide +kernel
theorem dX0_init_41 : decode cX0_init 41 = .ok (.newarray .int, 2) := by decide +kernel
theorem dX0_init_43 : decode cX0_init 43 = .ok (.putfield 18, 3) := by decide +kernel
theorem dX0_init_46 : decode cX0_init 46 = .ok (.aload_n 0, 1) := by decide +kernel
theorem dX0_init_47 : decode cX0_init 47 = .ok (.bipush 8, 2) := by decide +kernel
theorem dX0_init_49 : decode cX0_init 49 = .ok (.newarray .int, 2) := by decide +kernel
theorem dX0_init_51 : decode cX0_init 51 = .ok (.putfield 21, 3) := by decide +kernel
theorem dX0_init_54 : decode cX0_init 54 = .ok (.aload_n 0, 1) := by decide +kernel
theorem dX0_init_55 : decode cX0_init 55 = .ok (.bipush 8, 2) := by decide +kernel
theorem dX0_init_57 : decode cX0_init 57 = .ok (.newarray .int, 2) := by decide +kernel
theorem dX0_init_59 : decode cX0_init 59 = .ok (.putfield 24, 3) := by decide +kernel
theorem dX0_init_62 : decode cX0_init 62 = .ok (.aload_n 0, 1) := by decide +kernel
theorem dX0_init_63 : decode cX0_init 63 = .ok (.bipush 8, 2) := by decide +kernel
theorem dX0_init_65 : decode cX0_init 65 = .ok (.newarray .int, 2) := by decide +kernel
theorem dX0_init_67 : decode cX0_init 67 = .ok (.putfield 27, 3) := by decide +kernel
theorem dX0_init_70 : decode cX0_init 70 = .ok (.aload_n 0, 1) := by decide +kernel
theorem dX0_init_71 : decode cX0_init 71 = .ok (.bipush 8, 2) := by decide +kernel
theorem dX0_init_73 : decode cX0_init 73 = .ok (.newarray .int, 2) := by decide +kernel
theorem dX0_init_75 : decode cX0_init 75 = .ok (.putfield 30, 3) := by decide +kernel
theorem dX0_init_78 : decode cX0_init 78 = .ok (.aload_n 0, 1) := by decide +kernel
theorem dX0_init_79 : decode cX0_init 79 = .ok (.sipush 256, 3) := by decide +kernel
theorem dX0_init_82 : decode cX0_init 82 = .ok (.newarray .boolean, 2) := by decide +kernel
theorem dX0_init_84 : decode cX0_init 84 = .ok (.putfield 33, 3) := by decide +kernel
theorem dX0_init_87 : decode cX0_init 87 = .ok (.aload_n 0, 1) := by decide +kernel
theorem dX0_init_88 : decode cX0_init 88 = .ok (.sipush 256, 3) := by decide +kernel
theorem dX0_init_91 : decode cX0_init 91 = .ok (.newarray .boolean, 2) := by decide +kernel
theorem dX0_init_93 : decode cX0_init 93 = .ok (.putfield 37, 3) := by decide +kernel
theorem dX0_init_96 : decode cX0_init 96 = .ok (.return_, 1) := by decide +kernel
theorem dX0_station_0 : decode cX0_station 0 = .ok (.aload_n 0, 1) := by decide +kernel
theorem dX0_station_1 : decode cX0_station 1 = .ok (.getfield 9, 3) := by decide +kernel
theorem dX0_station_4 : decode cX0_station 4 = .ok (.iload_n 1, 1) := by decide +kernel
theorem dX0_station_5 : decode cX0_station 5 = .ok (.iload_n 2, 1) := by decide +kernel
theorem dX0_station_6 : decode cX0_station 6 = .ok (.iastore, 1) := by decide +kernel
theorem dX0_station_7 : decode cX0_station 7 = .ok (.aload_n 0, 1) := by decide +kernel
theorem dX0_station_8 : decode cX0_station 8 = .ok (.getfield 15, 3) := by decide +kernel
theorem dX0_station_11 : decode cX0_station 11 = .ok (.iload_n 1, 1) := by decide +kernel
theorem dX0_station_12 : decode cX0_station 12 = .ok (.iload_n 3, 1) := by decide +kernel
theorem dX0_station_13 : decode cX0_station 13 = .ok (.iastore, 1) := by decide +kernel
theorem dX0_station_14 : decode cX0_station 14 = .ok (.return_, 1) := by decide +kernel
theorem dX0_announce_0 : decode cX0_announce 0 = .ok (.aload_n 0, 1) := by decide +kernel
theorem dX0_announce_1 : decode cX0_announce 1 = .ok (.getfield 40, 3) := by decide +kernel
theorem dX0_announce_4 : decode cX0_announce 4 = .ok (.bipush 8, 2) := by decide +kernel
theorem dX0_announce_6 : decode cX0_announce 6 = .ok (.if_icmp .lt 6, 3) := by decide +kernel
theorem dX0_announce_9 : decode cX0_announce 9 = .ok (.bipush (-4), 2) := by decide +kernel
theorem dX0_announce_11 : decode cX0_announce 11 = .ok (.ireturn, 1) := by decide +kernel
theorem dX0_announce_12 : decode cX0_announce 12 = .ok (.aload_n 0, 1) := by decide +kernel
theorem dX0_announce_13 : decode cX0_announce 13 = .ok (.getfield 18, 3) := by decide +kernel
theorem dX0_announce_16 : decode cX0_announce 16 = .ok (.aload_n 0, 1) := by decide +kernel
theorem dX0_announce_17 : decode cX0_announce 17 = .ok (.getfield 40, 3) := by decide +kernel
theorem dX0_announce_20 : decode cX0_announce 20 = .ok (.iload_n 1, 1) := by decide +kernel
theorem dX0_announce_21 : decode cX0_announce 21 = .ok (.iastore, 1) := by decide +kernel
theorem dX0_announce_22 : decode cX0_announce 22 = .ok (.aload_n 0, 1) := by decide +kernel
theorem dX0_announce_23 : decode cX0_announce 23 = .ok (.getfield 21, 3) := by decide +kernel
theorem dX0_announce_26 : decode cX0_announce 26 = .ok (.aload_n 0, 1) := by decide +kernel
theorem dX0_announce_27 : decode cX0_announce 27 = .ok (.getfield 40, 3) := by decide +kernel
theorem dX0_announce_30 : decode cX0_announce 30 = .ok (.iload_n 2, 1) := by decide +kernel
theorem dX0_announce_31 : decode cX0_announce 31 = .ok (.iastore, 1) := by decide +kernel
theorem dX0_announce_32 : decode cX0_announce 32 = .ok (.aload_n 0, 1) := by decide +kernel
theorem dX0_announce_33 : decode cX0_announce 33 = .ok (.getfield 24, 3) := by decide +kernel
theorem dX0_announce_36 : decode cX0_announce 36 = .ok (.aload_n 0, 1) := by decide +kernel
theorem dX0_announce_37 : decode cX0_announce 37 = .ok (.getfield 40, 3) := by decide +kernel
theorem dX0_announce_40 : decode cX0_announce 40 = .ok (.iload_n 3, 1) := by decide +kernel
theorem dX0_announce_41 : decode cX0_announce 41 = .ok (.iastore, 1) := by decide +kernel
theorem dX0_announce_42 : decode cX0_announce 42 = .ok (.aload_n 0, 1) := by decide +kernel
theorem dX0_announce_43 : decode cX0_announce 43 = .ok (.aload_n 0, 1) := by decide +kernel
theorem dX0_announce_44 : decode cX0_announce 44 = .ok (.getfield 40, 3) := by decide +kernel
theorem dX0_announce_47 : decode cX0_announce 47 = .ok (.iload_n 2, 1) := by decide +kernel
theorem dX0_announce_48 : decode cX0_announce 48 = .ok (.invokevirtual 44, 3) := by decide +kernel
theorem dX0_announce_51 : decode cX0_announce 51 = .ok (.aload_n 0, 1) := by decide +kernel
theorem dX0_announce_52 : decode cX0_announce 52 = .ok (.dup, 1) := by decide +kernel
theorem dX0_announce_53 : decode cX0_announce 53 = .ok (.getfield 40, 3) := by decide +kernel
theorem dX0_announce_56 : decode cX0_announce 56 = .ok (.iconst 1, 1) := by decide +kernel
theorem dX0_announce_57 : decode cX0_announce 57 = .ok (.iadd, 1) := by decide +kernel
theorem dX0_announce_58 : decode cX0_announce 58 = .ok (.putfield 40, 3) := by decide +kernel
theorem dX0_announce_61 : decode cX0_announce 61 = .ok (.aload_n 0, 1) := by decide +kernel
theorem dX0_announce_62 : decode cX0_announce 62 = .ok (.getfield 40, 3) := by decide +kernel
theorem dX0_announce_65 : decode cX0_announce 65 = .ok (.iconst 1, 1) := by decide +kernel
theorem dX0_announce_66 : decode cX0_announce 66 = .ok (.isub, 1) := by decide +kernel
theorem dX0_announce_67 : decode cX0_announce 67 = .ok (.ireturn, 1) := by decide +kernel
theorem dX0_insertByHour_0 : decode cX0_insertByHour 0 = .ok (.iload_n 1, 1) := by decide +kernel
theorem dX0_insertByHour_1 : decode cX0_insertByHour 1 = .ok (.istore_n 3, 1) := by decide +kernel
theorem dX0_insertByHour_2 : decode cX0_insertByHour 2 = .ok (.iload_n 3, 1) := by decide +kernel
theorem dX0_insertByHour_3 : decode cX0_insertByHour 3 = .ok (.ifCond .le 40, 3) := by decide +kernel
theorem dX0_insertByHour_6 : decode cX0_insertByHour 6 = .ok (.aload_n 0, 1) := by decide +kernel
theorem dX0_insertByHour_7 : decode cX0_insertByHour 7 = .ok (.getfield 21, 3) := by decide +kernel
theorem dX0_insertByHour_10 : decode cX0_insertByHour 10 = .ok (.aload_n 0, 1) := by decide +kernel
theorem dX0_insertByHour_11 : decode cX0_insertByHour 11 = .ok (.getfield 27, 3) := by decide +kernel
theorem dX0_insertByHour_14 : decode cX0_insertByHour 14 = .ok (.iload_n 3, 1) := by decide +kernel
theorem dX0_insertByHour_15 : decode cX0_insertByHour 15 = .ok (.iconst 1, 1) := by decide +kernel
theorem dX0_insertByHour_16 : decode cX0_insertByHour 16 = .ok (.isub, 1) := by decide +kernel
theorem dX0_insertByHour_17 : decode cX0_insertByHour 17 = .ok (.iaload, 1) := by decide +kernel
theorem dX0_insertByHour_18 : decode cX0_insertByHour 18 = .ok (.iaload, 1) := by decide +kernel
theorem dX0_insertByHour_19 : decode cX0_insertByHour 19 = .ok (.iload_n 2, 1) := by decide +kernel
theorem dX0_insertByHour_20 : decode cX0_insertByHour 20 = .ok (.if_icmp .le 23, 3) := by decide +kernel
theorem dX0_insertByHour_23 : decode cX0_insertByHour 23 = .ok (.aload_n 0, 1) := by decide +kernel
theorem dX0_insertByHour_24 : decode cX0_insertByHour 24 = .ok (.getfield 27, 3) := by decide +kernel
theorem dX0_insertByHour_27 : decode cX0_insertByHour 27 = .ok (.iload_n 3, 1) := by decide +kernel
theorem dX0_insertByHour_28 : decode cX0_insertByHour 28 = .ok (.aload_n 0, 1) := by decide +kernel
theorem dX0_insertByHour_29 : decode cX0_insertByHour 29 = .ok (.getfield 27, 3) := by decide +kernel
theorem dX0_insertByHour_32 : decode cX0_insertByHour 32 = .ok (.iload_n 3, 1) := by decide +kernel
theorem dX0_insertByHour_33 : decode cX0_insertByHour 33 = .ok (.iconst 1, 1) := by decide +kernel
theorem dX0_insertByHour_34 : decode cX0_insertByHour 34 = .ok (.isub, 1) := by decide +kernel
theorem dX0_insertByHour_35 : decode cX0_insertByHour 35 = .ok (.iaload, 1) := by decide +kernel
theorem dX0_insertByHour_36 : decode cX0_insertByHour 36 = .ok (.iastore, 1) := by decide +kernel
theorem dX0_insertByHour_37 : decode cX0_insertByHour 37 = .ok (.iinc 3 (-1), 3) := by decide +kernel
theorem dX0_insertByHour_40 : decode cX0_insertByHour 40 = .ok (.goto (-38), 3) := by decide +kernel
theorem dX0_insertByHour_43 : decode cX0_insertByHour 43 = .ok (.aload_n 0, 1) := by decide +kernel
theorem dX0_insertByHour_44 : decode cX0_insertByHour 44 = .ok (.getfield 27, 3) := by decide +kernel
theorem dX0_insertByHour_47 : decode cX0_insertByHour 47 = .ok (.iload_n 3, 1) := by decide +kernel
theorem dX0_insertByHour_48 : decode cX0_insertByHour 48 = .ok (.iload_n 1, 1) := by decide +kernel
theorem dX0_insertByHour_49 : decode cX0_insertByHour 49 = .ok (.iastore, 1) := by decide +kernel
theorem dX0_insertByHour_50 : decode cX0_insertByHour 50 = .ok (.return_, 1) := by decide +kernel
theorem dX0_plan_0 : decode cX0_plan 0 = .ok (.iconst 0, 1) := by decide +kernel
theorem dX0_plan_1 : decode cX0_plan 1 = .ok (.istore_n 2, 1) := by decide +kernel
theorem dX0_plan_2 : decode cX0_plan 2 = .ok (.iload_n 2, 1) := by decide +kernel
theorem dX0_plan_3 : decode cX0_plan 3 = .ok (.aload_n 0, 1) := by decide +kernel
theorem dX0_plan_4 : decode cX0_plan 4 = .ok (.getfield 40, 3) := by decide +kernel
theorem dX0_plan_7 : decode cX0_plan 7 = .ok (.if_icmp .ge 39, 3) := by decide +kernel
theorem dX0_plan_10 : decode cX0_plan 10 = .ok (.aload_n 0, 1) := by decide +kernel
theorem dX0_plan_11 : decode cX0_plan 11 = .ok (.getfield 27, 3) := by decide +kernel
theorem dX0_plan_14 : decode cX0_plan 14 = .ok (.iload_n 2, 1) := by decide +kernel
theorem dX0_plan_15 : decode cX0_plan 15 = .ok (.iaload, 1) := by decide +kernel
theorem dX0_plan_16 : decode cX0_plan 16 = .ok (.istore_n 3, 1) := by decide +kernel
theorem dX0_plan_17 : decode cX0_plan 17 = .ok (.aload_n 0, 1) := by decide +kernel
theorem dX0_plan_18 : decode cX0_plan 18 = .ok (.getfield 30, 3) := by decide +kernel
theorem dX0_plan_21 : decode cX0_plan 21 = .ok (.iload_n 2, 1) := by decide +kernel
theorem dX0_plan_22 : decode cX0_plan 22 = .ok (.aload_n 0, 1) := by decide +kernel
theorem dX0_plan_23 : decode cX0_plan 23 = .ok (.aload_n 1, 1) := by decide +kernel
theorem dX0_plan_24 : decode cX0_plan 24 = .ok (.aload_n 0, 1) := by decide +kernel
theorem dX0_plan_25 : decode cX0_plan 25 = .ok (.getfield 18, 3) := by decide +kernel
theorem dX0_plan_28 : decode cX0_plan 28 = .ok (.iload_n 3, 1) := by decide +kernel
theorem dX0_plan_29 : decode cX0_plan 29 = .ok (.iaload, 1) := by decide +kernel
theorem dX0_plan_30 : decode cX0_plan 30 = .ok (.aload_n 0, 1) := by decide +kernel
theorem dX0_plan_31 : decode cX0_plan 31 = .ok (.getfield 21, 3) := by decide +kernel
theorem dX0_plan_34 : decode cX0_plan 34 = .ok (.iload_n 3, 1) := by decide +kernel
theorem dX0_plan_35 : decode cX0_plan 35 = .ok (.iaload, 1) := by decide +kernel
theorem dX0_plan_36 : decode cX0_plan 36 = .ok (.invokevirtual 48, 3) := by decide +kernel
theorem dX0_plan_39 : decode cX0_plan 39 = .ok (.iastore, 1) := by decide +kernel
theorem dX0_plan_40 : decode cX0_plan 40 = .ok (.iinc 2 1, 3) := by decide +kernel
theorem dX0_plan_43 : decode cX0_plan 43 = .ok (.goto (-41), 3) := by decide +kernel
theorem dX0_plan_46 : decode cX0_plan 46 = .ok (.iconst 0, 1) := by decide +kernel
theorem dX0_plan_47 : decode cX0_plan 47 = .ok (.istore_n 2, 1) := by decide +kernel
theorem dX0_plan_48 : decode cX0_plan 48 = .ok (.iload_n 2, 1) := by decide +kernel
theorem dX0_plan_49 : decode cX0_plan 49 = .ok (.sipush 256, 3) := by decide +kernel
theorem dX0_plan_52 : decode cX0_plan 52 = .ok (.if_icmp .ge 24, 3) := by decide +kernel
theorem dX0_plan_55 : decode cX0_plan 55 = .ok (.aload_n 0, 1) := by decide +kernel
theorem dX0_plan_56 : decode cX0_plan 56 = .ok (.getfield 37, 3) := by decide +kernel
theorem dX0_plan_59 : decode cX0_plan 59 = .ok (.iload_n 2, 1) := by decide +kernel
theorem dX0_plan_60 : decode cX0_plan 60 = .ok (.iload_n 2, 1) := by decide +kernel
theorem dX0_plan_61 : decode cX0_plan 61 = .ok (.ifCond .ne 7, 3) := by decide +kernel
theorem dX0_plan_64 : decode cX0_plan 64 = .ok (.iconst 1, 1) := by decide +kernel
theorem dX0_plan_65 : decode cX0_plan 65 = .ok (.goto 4, 3) := by decide +kernel
theorem dX0_plan_68 : decode cX0_plan 68 = .ok (.iconst 0, 1) := by decide +kernel
theorem dX0_plan_69 : decode cX0_plan 69 = .ok (.bastore, 1) := by decide +kernel
theorem dX0_plan_70 : decode cX0_plan 70 = .ok (.iinc 2 1, 3) := by decide +kernel
theorem dX0_plan_73 : decode cX0_plan 73 = .ok (.goto (-25), 3) := by decide +kernel
theorem dX0_plan_76 : decode cX0_plan 76 = .ok (.iconst 0, 1) := by decide +kernel
theorem dX0_plan_77 : decode cX0_plan 77 = .ok (.istore_n 2, 1) := by decide +kernel
theorem dX0_plan_78 : decode cX0_plan 78 = .ok (.iload_n 2, 1) := by decide +kernel
theorem dX0_plan_79 : decode cX0_plan 79 = .ok (.iconst 4, 1) := by decide +kernel
theorem dX0_plan_80 : decode cX0_plan 80 = .ok (.if_icmp .ge 41, 3) := by decide +kernel
theorem dX0_plan_83 : decode cX0_plan 83 = .ok (.aload_n 0, 1) := by decide +kernel
theorem dX0_plan_84 : decode cX0_plan 84 = .ok (.getfield 9, 3) := by decide +kernel
theorem dX0_plan_87 : decode cX0_plan 87 = .ok (.iload_n 2, 1) := by decide +kernel
theorem dX0_plan_88 : decode cX0_plan 88 = .ok (.iaload, 1) := by decide +kernel
theorem dX0_plan_89 : decode cX0_plan 89 = .ok (.bipush (-9), 2) := by decide +kernel
theorem dX0_plan_91 : decode cX0_plan 91 = .ok (.if_icmp .eq 24, 3) := by decide +kernel
theorem dX0_plan_94 : decode cX0_plan 94 = .ok (.aload_n 0, 1) := by decide +kernel
theorem dX0_plan_95 : decode cX0_plan 95 = .ok (.aload_n 0, 1) := by decide +kernel
theorem dX0_plan_96 : decode cX0_plan 96 = .ok (.aload_n 1, 1) := by decide +kernel
theorem dX0_plan_97 : decode cX0_plan 97 = .ok (.aload_n 0, 1) := by decide +kernel
theorem dX0_plan_98 : decode cX0_plan 98 = .ok (.getfield 9, 3) := by decide +kernel
theorem dX0_plan_101 : decode cX0_plan 101 = .ok (.iload_n 2, 1) := by decide +kernel
theorem dX0_plan_102 : decode cX0_plan 102 = .ok (.iaload, 1) := by decide +kernel
theorem dX0_plan_103 : decode cX0_plan 103 = .ok (.aload_n 0, 1) := by decide +kernel
theorem dX0_plan_104 : decode cX0_plan 104 = .ok (.getfield 15, 3) := by decide +kernel
theorem dX0_plan_107 : decode cX0_plan 107 = .ok (.iload_n 2, 1) := by decide +kernel
theorem dX0_plan_108 : decode cX0_plan 108 = .ok (.iaload, 1) := by decide +kernel
theorem dX0_plan_109 : decode cX0_plan 109 = .ok (.invokevirtual 48, 3) := by decide +kernel
theorem dX0_plan_112 : decode cX0_plan 112 = .ok (.invokevirtual 52, 3) := by decide +kernel
theorem dX0_plan_115 : decode cX0_plan 115 = .ok (.iinc 2 1, 3) := by decide +kernel
theorem dX0_plan_118 : decode cX0_plan 118 = .ok (.goto (-40), 3) := by decide +kernel
theorem dX0_plan_121 : decode cX0_plan 121 = .ok (.aload_n 0, 1) := by decide +kernel
theorem dX0_plan_122 : decode cX0_plan 122 = .ok (.invokevirtual 56, 3) := by decide +kernel
theorem dX0_plan_125 : decode cX0_plan 125 = .ok (.return_, 1) := by decide +kernel
theorem dX0_reachable_0 : decode cX0_reachable 0 = .ok (.aload_n 1, 1) := by decide +kernel
theorem dX0_reachable_1 : decode cX0_reachable 1 = .ok (.iload_n 2, 1) := by decide +kernel
theorem dX0_reachable_2 : decode cX0_reachable 2 = .ok (.iload_n 3, 1) := by decide +kernel
theorem dX0_reachable_3 : decode cX0_reachable 3 = .ok (.iconst 1, 1) := by decide +kernel
theorem dX0_reachable_4 : decode cX0_reachable 4 = .ok (.invokevirtual 59, 3) := by decide +kernel
theorem dX0_reachable_7 : decode cX0_reachable 7 = .ok (.iconst 0, 1) := by decide +kernel
theorem dX0_reachable_8 : decode cX0_reachable 8 = .ok (.istore 4, 2) := by decide +kernel
theorem dX0_reachable_10 : decode cX0_reachable 10 = .ok (.iconst 0, 1) := by decide +kernel
theorem dX0_reachable_11 : decode cX0_reachable 11 = .ok (.istore 5, 2) := by decide +kernel
theorem dX0_reachable_13 : decode cX0_reachable 13 = .ok (.iload 5, 2) := by decide +kernel
theorem dX0_reachable_15 : decode cX0_reachable 15 = .ok (.aload_n 0, 1) := by decide +kernel
theorem dX0_reachable_16 : decode cX0_reachable 16 = .ok (.getfield 40, 3) := by decide +kernel
theorem dX0_reachable_19 : decode cX0_reachable 19 = .ok (.if_icmp .ge 45, 3) := by decide +kernel
theorem dX0_reachable_22 : decode cX0_reachable 22 = .ok (.aload_n 0, 1) := by decide +kernel
theorem dX0_reachable_23 : decode cX0_reachable 23 = .ok (.getfield 27, 3) := by decide +kernel
theorem dX0_reachable_26 : decode cX0_reachable 26 = .ok (.iload 5, 2) := by decide +kernel
theorem dX0_reachable_28 : decode cX0_reachable 28 = .ok (.iaload, 1) := by decide +kernel
theorem dX0_reachable_29 : decode cX0_reachable 29 = .ok (.istore 6, 2) := by decide +kernel
theorem dX0_reachable_31 : decode cX0_reachable 31 = .ok (.iload 4, 2) := by decide +kernel
theorem dX0_reachable_33 : decode cX0_reachable 33 = .ok (.iload 5, 2) := by decide +kernel
theorem dX0_reachable_35 : decode cX0_reachable 35 = .ok (.aload_n 1, 1) := by decide +kernel
theorem dX0_reachable_36 : decode cX0_reachable 36 = .ok (.aload_n 0, 1) := by decide +kernel
theorem dX0_reachable_37 : decode cX0_reachable 37 = .ok (.getfield 18, 3) := by decide +kernel
theorem dX0_reachable_40 : decode cX0_reachable 40 = .ok (.iload 6, 2) := by decide +kernel
theorem dX0_reachable_42 : decode cX0_reachable 42 = .ok (.iaload, 1) := by decide +kernel
theorem dX0_reachable_43 : decode cX0_reachable 43 = .ok (.aload_n 0, 1) := by decide +kernel
theorem dX0_reachable_44 : decode cX0_reachable 44 = .ok (.getfield 21, 3) := by decide +kernel
theorem dX0_reachable_47 : decode cX0_reachable 47 = .ok (.iload 6, 2) := by decide +kernel
theorem dX0_reachable_49 : decode cX0_reachable 49 = .ok (.iaload, 1) := by decide +kernel
theorem dX0_reachable_50 : decode cX0_reachable 50 = .ok (.invokevirtual 65, 3) := by decide +kernel
theorem dX0_reachable_53 : decode cX0_reachable 53 = .ok (.invokestatic 69, 3) := by decide +kernel
theorem dX0_reachable_56 : decode cX0_reachable 56 = .ok (.istore 4, 2) := by decide +kernel
theorem dX0_reachable_58 : decode cX0_reachable 58 = .ok (.iinc 5 1, 3) := by decide +kernel
theorem dX0_reachable_61 : decode cX0_reachable 61 = .ok (.goto (-48), 3) := by decide +kernel
theorem dX0_reachable_64 : decode cX0_reachable 64 = .ok (.iload 4, 2) := by decide +kernel
theorem dX0_reachable_66 : decode cX0_reachable 66 = .ok (.ireturn, 1) := by decide +kernel
theorem dX0_addMan_0 : decode cX0_addMan 0 = .ok (.iconst 1, 1) := by decide +kernel
theorem dX0_addMan_1 : decode cX0_addMan 1 = .ok (.istore_n 2, 1) := by decide +kernel
theorem dX0_addMan_2 : decode cX0_addMan 2 = .ok (.iload_n 2, 1) := by decide +kernel
theorem dX0_addMan_3 : decode cX0_addMan 3 = .ok (.iconst 1, 1) := by decide +kernel
theorem dX0_addMan_4 : decode cX0_addMan 4 = .ok (.aload_n 0, 1) := by decide +kernel
theorem dX0_addMan_5 : decode cX0_addMan 5 = .ok (.getfield 40, 3) := by decide +kernel
theorem dX0_addMan_8 : decode cX0_addMan 8 = .ok (.ishl, 1) := by decide +kernel
theorem dX0_addMan_9 : decode cX0_addMan 9 = .ok (.if_icmp .ge 21, 3) := by decide +kernel
theorem dX0_addMan_12 : decode cX0_addMan 12 = .ok (.aload_n 0, 1) := by decide +kernel
theorem dX0_addMan_13 : decode cX0_addMan 13 = .ok (.getfield 33, 3) := by decide +kernel
theorem dX0_addMan_16 : decode cX0_addMan 16 = .ok (.iload_n 2, 1) := by decide +kernel
theorem dX0_addMan_17 : decode cX0_addMan 17 = .ok (.aload_n 0, 1) := by decide +kernel
theorem dX0_addMan_18 : decode cX0_addMan 18 = .ok (.iload_n 2, 1) := by decide +kernel
theorem dX0_addMan_19 : decode cX0_addMan 19 = .ok (.iload_n 1, 1) := by decide +kernel
theorem dX0_addMan_20 : decode cX0_addMan 20 = .ok (.invokevirtual 73, 3) := by decide +kernel
theorem dX0_addMan_23 : decode cX0_addMan 23 = .ok (.bastore, 1) := by decide +kernel
theorem dX0_addMan_24 : decode cX0_addMan 24 = .ok (.iinc 2 1, 3) := by decide +kernel
theorem dX0_addMan_27 : decode cX0_addMan 27 = .ok (.goto (-25), 3) := by decide +kernel
theorem dX0_addMan_30 : decode cX0_addMan 30 = .ok (.iconst 1, 1) := by decide +kernel
theorem dX0_addMan_31 : decode cX0_addMan 31 = .ok (.aload_n 0, 1) := by decide +kernel
theorem dX0_addMan_32 : decode cX0_addMan 32 = .ok (.getfield 40, 3) := by decide +kernel
theorem dX0_addMan_35 : decode cX0_addMan 35 = .ok (.ishl, 1) := by decide +kernel
theorem dX0_addMan_36 : decode cX0_addMan 36 = .ok (.iconst 1, 1) := by decide +kernel
theorem dX0_addMan_37 : decode cX0_addMan 37 = .ok (.isub, 1) := by decide +kernel
theorem dX0_addMan_38 : decode cX0_addMan 38 = .ok (.istore_n 2, 1) := by decide +kernel
theorem dX0_addMan_39 : decode cX0_addMan 39 = .ok (.iload_n 2, 1) := by decide +kernel
theorem dX0_addMan_40 : decode cX0_addMan 40 = .ok (.ifCond .le 64, 3) := by decide +kernel
theorem dX0_addMan_43 : decode cX0_addMan 43 = .ok (.iload_n 2, 1) := by decide +kernel
theorem dX0_addMan_44 : decode cX0_addMan 44 = .ok (.istore_n 3, 1) := by decide +kernel
theorem dX0_addMan_45 : decode cX0_addMan 45 = .ok (.iload_n 3, 1) := by decide +kernel
theorem dX0_addMan_46 : decode cX0_addMan 46 = .ok (.ifCond .le 52, 3) := by decide +kernel
theorem dX0_addMan_49 : decode cX0_addMan 49 = .ok (.aload_n 0, 1) := by decide +kernel
theorem dX0_addMan_50 : decode cX0_addMan 50 = .ok (.getfield 37, 3) := by decide +kernel
theorem dX0_addMan_53 : decode cX0_addMan 53 = .ok (.iload_n 2, 1) := by decide +kernel
theorem dX0_addMan_54 : decode cX0_addMan 54 = .ok (.baload, 1) := by decide +kernel
theorem dX0_addMan_55 : decode cX0_addMan 55 = .ok (.ifCond .ne 43, 3) := by decide +kernel
theorem dX0_addMan_58 : decode cX0_addMan 58 = .ok (.aload_n 0, 1) := by decide +kernel
theorem dX0_addMan_59 : decode cX0_addMan 59 = .ok (.getfield 37, 3) := by decide +kernel
theorem dX0_addMan_62 : decode cX0_addMan 62 = .ok (.iload_n 2, 1) := by decide +kernel
theorem dX0_addMan_63 : decode cX0_addMan 63 = .ok (.aload_n 0, 1) := by decide +kernel
theorem dX0_addMan_64 : decode cX0_addMan 64 = .ok (.getfield 33, 3) := by decide +kernel
theorem dX0_addMan_67 : decode cX0_addMan 67 = .ok (.iload_n 3, 1) := by decide +kernel
theorem dX0_addMan_68 : decode cX0_addMan 68 = .ok (.baload, 1) := by decide +kernel
theorem dX0_addMan_69 : decode cX0_addMan 69 = .ok (.ifCond .eq 18, 3) := by decide +kernel
theorem dX0_addMan_72 : decode cX0_addMan 72 = .ok (.aload_n 0, 1) := by decide +kernel
theorem dX0_addMan_73 : decode cX0_addMan 73 = .ok (.getfield 37, 3) := by decide +kernel
theorem dX0_addMan_76 : decode cX0_addMan 76 = .ok (.iload_n 2, 1) := by decide +kernel
theorem dX0_addMan_77 : decode cX0_addMan 77 = .ok (.iload_n 3, 1) := by decide +kernel
theorem dX0_addMan_78 : decode cX0_addMan 78 = .ok (.ixor, 1) := by decide +kernel
theorem dX0_addMan_79 : decode cX0_addMan 79 = .ok (.baload, 1) := by decide +kernel
theorem dX0_addMan_80 : decode cX0_addMan 80 = .ok (.ifCond .eq 7, 3) := by decide +kernel
theorem dX0_addMan_83 : decode cX0_addMan 83 = .ok (.iconst 1, 1) := by decide +kernel
theorem dX0_addMan_84 : decode cX0_addMan 84 = .ok (.goto 4, 3) := by decide +kernel
theorem dX0_addMan_87 : decode cX0_addMan 87 = .ok (.iconst 0, 1) := by decide +kernel
theorem dX0_addMan_88 : decode cX0_addMan 88 = .ok (.bastore, 1) := by decide +kernel
theorem dX0_addMan_89 : decode cX0_addMan 89 = .ok (.iload_n 3, 1) := by decide +kernel
theorem dX0_addMan_90 : decode cX0_addMan 90 = .ok (.iconst 1, 1) := by decide +kernel
theorem dX0_addMan_91 : decode cX0_addMan 91 = .ok (.isub, 1) := by decide +kernel
theorem dX0_addMan_92 : decode cX0_addMan 92 = .ok (.iload_n 2, 1) := by decide +kernel
theorem dX0_addMan_93 : decode cX0_addMan 93 = .ok (.iand, 1) := by decide +kernel
theorem dX0_addMan_94 : decode cX0_addMan 94 = .ok (.istore_n 3, 1) := by decide +kernel
theorem dX0_addMan_95 : decode cX0_addMan 95 = .ok (.goto (-50), 3) := by decide +kernel
theorem dX0_addMan_98 : decode cX0_addMan 98 = .ok (.iinc 2 (-1), 3) := by decide +kernel
theorem dX0_addMan_101 : decode cX0_addMan 101 = .ok (.goto (-62), 3) := by decide +kernel
theorem dX0_addMan_104 : decode cX0_addMan 104 = .ok (.return_, 1) := by decide +kernel
theorem dX0_canDo_0 : decode cX0_canDo 0 = .ok (.iload_n 1, 1) := by decide +kernel
theorem dX0_canDo_1 : decode cX0_canDo 1 = .ok (.invokestatic 76, 3) := by decide +kernel
theorem dX0_canDo_4 : decode cX0_canDo 4 = .ok (.istore_n 3, 1) := by decide +kernel
theorem dX0_canDo_5 : decode cX0_canDo 5 = .ok (.iload_n 1, 1) := by decide +kernel
theorem dX0_canDo_6 : decode cX0_canDo 6 = .ok (.iload_n 3, 1) := by decide +kernel
theorem dX0_canDo_7 : decode cX0_canDo 7 = .ok (.iconst 0, 1) := by decide +kernel
theorem dX0_canDo_8 : decode cX0_canDo 8 = .ok (.invokestatic 69, 3) := by decide +kernel
theorem dX0_canDo_11 : decode cX0_canDo 11 = .ok (.istore 4, 2) := by decide +kernel
theorem dX0_canDo_13 : decode cX0_canDo 13 = .ok (.iload 4, 2) := by decide +kernel
theorem dX0_canDo_15 : decode cX0_canDo 15 = .ok (.ifCond .ne 9, 3) := by decide +kernel
theorem dX0_canDo_18 : decode cX0_canDo 18 = .ok (.iload_n 2, 1) := by decide +kernel
theorem dX0_canDo_19 : decode cX0_canDo 19 = .ok (.iload_n 3, 1) := by decide +kernel
theorem dX0_canDo_20 : decode cX0_canDo 20 = .ok (.invokestatic 80, 3) := by decide +kernel
theorem dX0_canDo_23 : decode cX0_canDo 23 = .ok (.ireturn, 1) := by decide +kernel
theorem dX0_canDo_24 : decode cX0_canDo 24 = .ok (.aload_n 0, 1) := by decide +kernel
theorem dX0_canDo_25 : decode cX0_canDo 25 = .ok (.getfield 33, 3) := by decide +kernel
theorem dX0_canDo_28 : decode cX0_canDo 28 = .ok (.iload 4, 2) := by decide +kernel
theorem dX0_canDo_30 : decode cX0_canDo 30 = .ok (.baload, 1) := by decide +kernel
theorem dX0_canDo_31 : decode cX0_canDo 31 = .ok (.ifCond .eq 24, 3) := by decide +kernel
theorem dX0_canDo_34 : decode cX0_canDo 34 = .ok (.aload_n 0, 1) := by decide +kernel
theorem dX0_canDo_35 : decode cX0_canDo 35 = .ok (.getfield 30, 3) := by decide +kernel
theorem dX0_canDo_38 : decode cX0_canDo 38 = .ok (.iload 4, 2) := by decide +kernel
theorem dX0_canDo_40 : decode cX0_canDo 40 = .ok (.invokestatic 76, 3) := by decide +kernel
theorem dX0_canDo_43 : decode cX0_canDo 43 = .ok (.iaload, 1) := by decide +kernel
theorem dX0_canDo_44 : decode cX0_canDo 44 = .ok (.iload_n 3, 1) := by decide +kernel
theorem dX0_canDo_45 : decode cX0_canDo 45 = .ok (.invokestatic 80, 3) := by decide +kernel
theorem dX0_canDo_48 : decode cX0_canDo 48 = .ok (.ifCond .eq 7, 3) := by decide +kernel
theorem dX0_canDo_51 : decode cX0_canDo 51 = .ok (.iconst 1, 1) := by decide +kernel
theorem dX0_canDo_52 : decode cX0_canDo 52 = .ok (.goto 4, 3) := by decide +kernel
theorem dX0_canDo_55 : decode cX0_canDo 55 = .ok (.iconst 0, 1) := by decide +kernel
theorem dX0_canDo_56 : decode cX0_canDo 56 = .ok (.ireturn, 1) := by decide +kernel
theorem dX0_highest_0 : decode cX0_highest 0 = .ok (.bipush 31, 2) := by decide +kernel
theorem dX0_highest_2 : decode cX0_highest 2 = .ok (.iload_n 0, 1) := by decide +kernel
theorem dX0_highest_3 : decode cX0_highest 3 = .ok (.iconst 1, 1) := by decide +kernel
theorem dX0_highest_4 : decode cX0_highest 4 = .ok (.ior, 1) := by decide +kernel
theorem dX0_highest_5 : decode cX0_highest 5 = .ok (.invokestatic 83, 3) := by decide +kernel
theorem dX0_highest_8 : decode cX0_highest 8 = .ok (.isub, 1) := by decide +kernel
theorem dX0_highest_9 : decode cX0_highest 9 = .ok (.ireturn, 1) := by decide +kernel
theorem dX0_chooseBest_0 : decode cX0_chooseBest 0 = .ok (.aload_n 0, 1) := by decide +kernel
theorem dX0_chooseBest_1 : decode cX0_chooseBest 1 = .ok (.iconst 0, 1) := by decide +kernel
theorem dX0_chooseBest_2 : decode cX0_chooseBest 2 = .ok (.putfield 88, 3) := by decide +kernel
theorem dX0_chooseBest_5 : decode cX0_chooseBest 5 = .ok (.aload_n 0, 1) := by decide +kernel
theorem dX0_chooseBest_6 : decode cX0_chooseBest 6 = .ok (.iconst 0, 1) := by decide +kernel
theorem dX0_chooseBest_7 : decode cX0_chooseBest 7 = .ok (.putfield 91, 3) := by decide +kernel
theorem dX0_chooseBest_10 : decode cX0_chooseBest 10 = .ok (.aload_n 0, 1) := by decide +kernel
theorem dX0_chooseBest_11 : decode cX0_chooseBest 11 = .ok (.iconst 0, 1) := by decide +kernel
theorem dX0_chooseBest_12 : decode cX0_chooseBest 12 = .ok (.putfield 94, 3) := by decide +kernel
theorem dX0_chooseBest_15 : decode cX0_chooseBest 15 = .ok (.iconst 1, 1) := by decide +kernel
theorem dX0_chooseBest_16 : decode cX0_chooseBest 16 = .ok (.istore_n 1, 1) := by decide +kernel
theorem dX0_chooseBest_17 : decode cX0_chooseBest 17 = .ok (.iload_n 1, 1) := by decide +kernel
theorem dX0_chooseBest_18 : decode cX0_chooseBest 18 = .ok (.iconst 1, 1) := by decide +kernel
theorem dX0_chooseBest_19 : decode cX0_chooseBest 19 = .ok (.aload_n 0, 1) := by decide +kernel
theorem dX0_chooseBest_20 : decode cX0_chooseBest 20 = .ok (.getfield 40, 3) := by decide +kernel
theorem dX0_chooseBest_23 : decode cX0_chooseBest 23 = .ok (.ishl, 1) := by decide +kernel
theorem dX0_chooseBest_24 : decode cX0_chooseBest 24 = .ok (.if_icmp .ge 23, 3) := by decide +kernel
theorem dX0_chooseBest_27 : decode cX0_chooseBest 27 = .ok (.aload_n 0, 1) := by decide +kernel
theorem dX0_chooseBest_28 : decode cX0_chooseBest 28 = .ok (.getfield 37, 3) := by decide +kernel
theorem dX0_chooseBest_31 : decode cX0_chooseBest 31 = .ok (.iload_n 1, 1) := by decide +kernel
theorem dX0_chooseBest_32 : decode cX0_chooseBest 32 = .ok (.baload, 1) := by decide +kernel
theorem dX0_chooseBest_33 : decode cX0_chooseBest 33 = .ok (.ifCond .eq 8, 3) := by decide +kernel
theorem dX0_chooseBest_36 : decode cX0_chooseBest 36 = .ok (.aload_n 0, 1) := by decide +kernel
theorem dX0_chooseBest_37 : decode cX0_chooseBest 37 = .ok (.iload_n 1, 1) := by decide +kernel
theorem dX0_chooseBest_38 : decode cX0_chooseBest 38 = .ok (.invokevirtual 97, 3) := by decide +kernel
theorem dX0_chooseBest_41 : decode cX0_chooseBest 41 = .ok (.iinc 1 1, 3) := by decide +kernel
theorem dX0_chooseBest_44 : decode cX0_chooseBest 44 = .ok (.goto (-27), 3) := by decide +kernel
theorem dX0_chooseBest_47 : decode cX0_chooseBest 47 = .ok (.return_, 1) := by decide +kernel
theorem dX0_offer_0 : decode cX0_offer 0 = .ok (.iconst 0, 1) := by decide +kernel
theorem dX0_offer_1 : decode cX0_offer 1 = .ok (.istore_n 2, 1) := by decide +kernel
theorem dX0_offer_2 : decode cX0_offer 2 = .ok (.iconst 0, 1) := by decide +kernel
theorem dX0_offer_3 : decode cX0_offer 3 = .ok (.istore_n 3, 1) := by decide +kernel
theorem dX0_offer_4 : decode cX0_offer 4 = .ok (.iconst 0, 1) := by decide +kernel
theorem dX0_offer_5 : decode cX0_offer 5 = .ok (.istore 4, 2) := by decide +kernel
theorem dX0_offer_7 : decode cX0_offer 7 = .ok (.iload 4, 2) := by decide +kernel
theorem dX0_offer_9 : decode cX0_offer 9 = .ok (.aload_n 0, 1) := by decide +kernel
theorem dX0_offer_10 : decode cX0_offer 10 = .ok (.getfield 40, 3) := by decide +kernel
theorem dX0_offer_13 : decode cX0_offer 13 = .ok (.if_icmp .ge 46, 3) := by decide +kernel
theorem dX0_offer_16 : decode cX0_offer 16 = .ok (.iload_n 1, 1) := by decide +kernel
theorem dX0_offer_17 : decode cX0_offer 17 = .ok (.iload 4, 2) := by decide +kernel
theorem dX0_offer_19 : decode cX0_offer 19 = .ok (.invokestatic 80, 3) := by decide +kernel
theorem dX0_offer_22 : decode cX0_offer 22 = .ok (.ifCond .eq 31, 3) := by decide +kernel
theorem dX0_offer_25 : decode cX0_offer 25 = .ok (.iload_n 2, 1) := by decide +kernel
theorem dX0_offer_26 : decode cX0_offer 26 = .ok (.aload_n 0, 1) := by decide +kernel
theorem dX0_offer_27 : decode cX0_offer 27 = .ok (.getfield 24, 3) := by decide +kernel
theorem dX0_offer_30 : decode cX0_offer 30 = .ok (.aload_n 0, 1) := by decide +kernel
theorem dX0_offer_31 : decode cX0_offer 31 = .ok (.getfield 27, 3) := by decide +kernel
theorem dX0_offer_34 : decode cX0_offer 34 = .ok (.iload 4, 2) := by decide +kernel
theorem dX0_offer_36 : decode cX0_offer 36 = .ok (.iaload, 1) := by decide +kernel
theorem dX0_offer_37 : decode cX0_offer 37 = .ok (.iaload, 1) := by decide +kernel
theorem dX0_offer_38 : decode cX0_offer 38 = .ok (.iadd, 1) := by decide +kernel
theorem dX0_offer_39 : decode cX0_offer 39 = .ok (.istore_n 2, 1) := by decide +kernel
theorem dX0_offer_40 : decode cX0_offer 40 = .ok (.iload_n 3, 1) := by decide +kernel
theorem dX0_offer_41 : decode cX0_offer 41 = .ok (.aload_n 0, 1) := by decide +kernel
theorem dX0_offer_42 : decode cX0_offer 42 = .ok (.getfield 27, 3) := by decide +kernel
theorem dX0_offer_45 : decode cX0_offer 45 = .ok (.iload 4, 2) := by decide +kernel
theorem dX0_offer_47 : decode cX0_offer 47 = .ok (.iaload, 1) := by decide +kernel
theorem dX0_offer_48 : decode cX0_offer 48 = .ok (.iconst 1, 1) := by decide +kernel
theorem dX0_offer_49 : decode cX0_offer 49 = .ok (.invokestatic 69, 3) := by decide +kernel
theorem dX0_offer_52 : decode cX0_offer 52 = .ok (.istore_n 3, 1) := by decide +kernel
theorem dX0_offer_53 : decode cX0_offer 53 = .ok (.iinc 4 1, 3) := by decide +kernel
theorem dX0_offer_56 : decode cX0_offer 56 = .ok (.goto (-49), 3) := by decide +kernel
theorem dX0_offer_59 : decode cX0_offer 59 = .ok (.iload_n 2, 1) := by decide +kernel
theorem dX0_offer_60 : decode cX0_offer 60 = .ok (.aload_n 0, 1) := by decide +kernel
theorem dX0_offer_61 : decode cX0_offer 61 = .ok (.getfield 88, 3) := by decide +kernel
theorem dX0_offer_64 : decode cX0_offer 64 = .ok (.if_icmp .le 21, 3) := by decide +kernel
theorem dX0_offer_67 : decode cX0_offer 67 = .ok (.aload_n 0, 1) := by decide +kernel
theorem dX0_offer_68 : decode cX0_offer 68 = .ok (.iload_n 2, 1) := by decide +kernel
theorem dX0_offer_69 : decode cX0_offer 69 = .ok (.putfield 88, 3) := by decide +kernel
theorem dX0_offer_72 : decode cX0_offer 72 = .ok (.aload_n 0, 1) := by decide +kernel
theorem dX0_offer_73 : decode cX0_offer 73 = .ok (.iload_n 3, 1) := by decide +kernel
theorem dX0_offer_74 : decode cX0_offer 74 = .ok (.putfield 91, 3) := by decide +kernel
theorem dX0_offer_77 : decode cX0_offer 77 = .ok (.aload_n 0, 1) := by decide +kernel
theorem dX0_offer_78 : decode cX0_offer 78 = .ok (.iload_n 3, 1) := by decide +kernel
theorem dX0_offer_79 : decode cX0_offer 79 = .ok (.putfield 94, 3) := by decide +kernel
theorem dX0_offer_82 : decode cX0_offer 82 = .ok (.goto 31, 3) := by decide +kernel
theorem dX0_offer_85 : decode cX0_offer 85 = .ok (.iload_n 2, 1) := by decide +kernel
theorem dX0_offer_86 : decode cX0_offer 86 = .ok (.aload_n 0, 1) := by decide +kernel
theorem dX0_offer_87 : decode cX0_offer 87 = .ok (.getfield 88, 3) := by decide +kernel
theorem dX0_offer_90 : decode cX0_offer 90 = .ok (.if_icmp .ne 23, 3) := by decide +kernel
theorem dX0_offer_93 : decode cX0_offer 93 = .ok (.aload_n 0, 1) := by decide +kernel
theorem dX0_offer_94 : decode cX0_offer 94 = .ok (.dup, 1) := by decide +kernel
theorem dX0_offer_95 : decode cX0_offer 95 = .ok (.getfield 91, 3) := by decide +kernel
theorem dX0_offer_98 : decode cX0_offer 98 = .ok (.iload_n 3, 1) := by decide +kernel
theorem dX0_offer_99 : decode cX0_offer 99 = .ok (.iand, 1) := by decide +kernel
theorem dX0_offer_100 : decode cX0_offer 100 = .ok (.putfield 91, 3) := by decide +kernel
theorem dX0_offer_103 : decode cX0_offer 103 = .ok (.aload_n 0, 1) := by decide +kernel
theorem dX0_offer_104 : decode cX0_offer 104 = .ok (.dup, 1) := by decide +kernel
theorem dX0_offer_105 : decode cX0_offer 105 = .ok (.getfield 94, 3) := by decide +kernel
theorem dX0_offer_108 : decode cX0_offer 108 = .ok (.iload_n 3, 1) := by decide +kernel
theorem dX0_offer_109 : decode cX0_offer 109 = .ok (.ior, 1) := by decide +kernel
theorem dX0_offer_110 : decode cX0_offer 110 = .ok (.putfield 94, 3) := by decide +kernel
theorem dX0_offer_113 : decode cX0_offer 113 = .ok (.return_, 1) := by decide +kernel
theorem dX1_init_0 : decode cX1_init 0 = .ok (.aload_n 0, 1) := by decide +kernel
theorem dX1_init_1 : decode cX1_init 1 = .ok (.invokespecial 3, 3) := by decide +kernel
theorem dX1_init_4 : decode cX1_init 4 = .ok (.aload_n 0, 1) := by decide +kernel
theorem dX1_init_5 : decode cX1_init 5 = .ok (.bipush 8, 2) := by decide +kernel
theorem dX1_init_7 : decode cX1_init 7 = .ok (.newarray .int, 2) := by decide +kernel
theorem dX1_init_9 : decode cX1_init 9 = .ok (.dup, 1) := by decide +kernel
theorem dX1_init_10 : decode cX1_init 10 = .ok (.iconst 0, 1) := by decide +kernel
theorem dX1_init_11 : decode cX1_init 11 = .ok (.sipush 255, 3) := by decide +kernel
theorem dX1_init_14 : decode cX1_init 14 = .ok (.iastore, 1) := by decide +kernel
theorem dX1_init_15 : decode cX1_init 15 = .ok (.dup, 1) := by decide +kernel
theorem dX1_init_16 : decode cX1_init 16 = .ok (.iconst 1, 1) := by decide +kernel
theorem dX1_init_17 : decode cX1_init 17 = .ok (.sipush 255, 3) := by decide +kernel
theorem dX1_init_20 : decode cX1_init 20 = .ok (.iastore, 1) := by decide +kernel
theorem dX1_init_21 : decode cX1_init 21 = .ok (.dup, 1) := by decide +kernel
theorem dX1_init_22 : decode cX1_init 22 = .ok (.iconst 2, 1) := by decide +kernel
theorem dX1_init_23 : decode cX1_init 23 = .ok (.sipush 255, 3) := by decide +kernel
theorem dX1_init_26 : decode cX1_init 26 = .ok (.iastore, 1) := by decide +kernel
theorem dX1_init_27 : decode cX1_init 27 = .ok (.dup, 1) := by decide +kernel
theorem dX1_init_28 : decode cX1_init 28 = .ok (.iconst 3, 1) := by decide +kernel
theorem dX1_init_29 : decode cX1_init 29 = .ok (.sipush 255, 3) := by decide +kernel
theorem dX1_init_32 : decode cX1_init 32 = .ok (.iastore, 1) := by decide +kernel
theorem dX1_init_33 : decode cX1_init 33 = .ok (.dup, 1) := by decide +kernel
theorem dX1_init_34 : decode cX1_init 34 = .ok (.iconst 4, 1) := by decide +kernel
theorem dX1_init_35 : decode cX1_init 35 = .ok (.sipush 255, 3) := by decide +kernel
theorem dX1_init_38 : decode cX1_init 38 = .ok (.iastore, 1) := by decide +kernel
theorem dX1_init_39 : decode cX1_init 39 = .ok (.dup, 1) := by decide +kernel
theorem dX1_init_40 : decode cX1_init 40 = .ok (.iconst 5, 1) := by decide +kernel
theorem dX1_init_41 : decode cX1_init 41 = .ok (.sipush 255, 3) := by decide +kernel
theorem dX1_init_44 : decode cX1_init 44 = .ok (.iastore, 1) := by decide +kernel
theorem dX1_init_45 : decode cX1_init 45 = .ok (.dup, 1) := by decide +kernel
theorem dX1_init_46 : decode cX1_init 46 = .ok (.bipush 6, 2) := by decide +kernel
theorem dX1_init_48 : decode cX1_init 48 = .ok (.sipush 255, 3) := by decide +kernel
theorem dX1_init_51 : decode cX1_init 51 = .ok (.iastore, 1) := by decide +kernel
theorem dX1_init_52 : decode cX1_init 52 = .ok (.dup, 1) := by decide +kernel
theorem dX1_init_53 : decode cX1_init 53 = .ok (.bipush 7, 2) := by decide +kernel
theorem dX1_init_55 : decode cX1_init 55 = .ok (.sipush 255, 3) := by decide +kernel
theorem dX1_init_58 : decode cX1_init 58 = .ok (.iastore, 1) := by decide +kernel
theorem dX1_init_59 : decode cX1_init 59 = .ok (.putfield 9, 3) := by decide +kernel
theorem dX1_init_62 : decode cX1_init 62 = .ok (.aload_n 0, 1) := by decide +kernel
theorem dX1_init_63 : decode cX1_init 63 = .ok (.bipush 8, 2) := by decide +kernel
theorem dX1_init_65 : decode cX1_init 65 = .ok (.newarray .int, 2) := by decide +kernel
theorem dX1_init_67 : decode cX1_init 67 = .ok (.putfield 15, 3) := by decide +kernel
theorem dX1_init_70 : decode cX1_init 70 = .ok (.aload_n 0, 1) := by decide +kernel
theorem dX1_init_71 : decode cX1_init 71 = .ok (.bipush 8, 2) := by decide +kernel
theorem dX1_init_73 : decode cX1_init 73 = .ok (.newarray .int, 2) := by decide +kernel
theorem dX1_init_75 : decode cX1_init 75 = .ok (.dup, 1) := by decide +kernel
theorem dX1_init_76 : decode cX1_init 76 = .ok (.iconst 0, 1) := by decide +kernel
theorem dX1_init_77 : decode cX1_init 77 = .ok (.sipush 364, 3) := by decide +kernel
theorem dX1_init_80 : decode cX1_init 80 = .ok (.iastore, 1) := by decide +kernel
theorem dX1_init_81 : decode cX1_init 81 = .ok (.dup, 1) := by decide +kernel
theorem dX1_init_82 : decode cX1_init 82 = .ok (.iconst 1, 1) := by decide +kernel
theorem dX1_init_83 : decode cX1_init 83 = .ok (.sipush 364, 3) := by decide +kernel
theorem dX1_init_86 : decode cX1_init 86 = .ok (.iastore, 1) := by decide +kernel
theorem dX1_init_87 : decode cX1_init 87 = .ok (.dup, 1) := by decide +kernel
theorem dX1_init_88 : decode cX1_init 88 = .ok (.iconst 2, 1) := by decide +kernel
theorem dX1_init_89 : decode cX1_init 89 = .ok (.sipush 364, 3) := by decide +kernel
theorem dX1_init_92 : decode cX1_init 92 = .ok (.iastore, 1) := by decide +kernel
theorem dX1_init_93 : decode cX1_init 93 = .ok (.dup, 1) := by decide +kernel
theorem dX1_init_94 : decode cX1_init 94 = .ok (.iconst 3, 1) := by decide +kernel
theorem dX1_init_95 : decode cX1_init 95 = .ok (.sipush 364, 3) := by decide +kernel
theorem dX1_init_98 : decode cX1_init 98 = .ok (.iastore, 1) := by decide +kernel
theorem dX1_init_99 : decode cX1_init 99 = .ok (.dup, 1) := by decide +kernel
theorem dX1_init_100 : decode cX1_init 100 = .ok (.iconst 4, 1) := by decide +kernel
theorem dX1_init_101 : decode cX1_init 101 = .ok (.sipush 364, 3) := by decide +kernel
theorem dX1_init_104 : decode cX1_init 104 = .ok (.iastore, 1) := by decide +kernel
theorem dX1_init_105 : decode cX1_init 105 = .ok (.dup, 1) := by decide +kernel
theorem dX1_init_106 : decode cX1_init 106 = .ok (.iconst 5, 1) := by decide +kernel
theorem dX1_init_107 : decode cX1_init 107 = .ok (.sipush 364, 3) := by decide +kernel
theorem dX1_init_110 : decode cX1_init 110 = .ok (.iastore, 1) := by decide +kernel
theorem dX1_init_111 : decode cX1_init 111 = .ok (.dup, 1) := by decide +kernel
theorem dX1_init_112 : decode cX1_init 112 = .ok (.bipush 6, 2) := by decide +kernel
theorem dX1_init_114 : decode cX1_init 114 = .ok (.sipush 364, 3) := by decide +kernel
theorem dX1_init_117 : decode cX1_init 117 = .ok (.iastore, 1) := by decide +kernel
theorem dX1_init_118 : decode cX1_init 118 = .ok (.dup, 1) := by decide +kernel
theorem dX1_init_119 : decode cX1_init 119 = .ok (.bipush 7, 2) := by decide +kernel
theorem dX1_init_121 : decode cX1_init 121 = .ok (.sipush 364, 3) := by decide +kernel
theorem dX1_init_124 : decode cX1_init 124 = .ok (.iastore, 1) := by decide +kernel
theorem dX1_init_125 : decode cX1_init 125 = .ok (.putfield 18, 3) := by decide +kernel
theorem dX1_init_128 : decode cX1_init 128 = .ok (.return_, 1) := by decide +kernel
theorem dX1_learn_0 : decode cX1_learn 0 = .ok (.aload_n 0, 1) := by decide +kernel
theorem dX1_learn_1 : decode cX1_learn 1 = .ok (.getfield 9, 3) := by decide +kernel
theorem dX1_learn_4 : decode cX1_learn 4 = .ok (.iload_n 1, 1) := by decide +kernel
theorem dX1_learn_5 : decode cX1_learn 5 = .ok (.iload_n 2, 1) := by decide +kernel
theorem dX1_learn_6 : decode cX1_learn 6 = .ok (.iastore, 1) := by decide +kernel
theorem dX1_learn_7 : decode cX1_learn 7 = .ok (.aload_n 0, 1) := by decide +kernel
theorem dX1_learn_8 : decode cX1_learn 8 = .ok (.getfield 15, 3) := by decide +kernel
theorem dX1_learn_11 : decode cX1_learn 11 = .ok (.iload_n 1, 1) := by decide +kernel
theorem dX1_learn_12 : decode cX1_learn 12 = .ok (.iload_n 3, 1) := by decide +kernel
theorem dX1_learn_13 : decode cX1_learn 13 = .ok (.iastore, 1) := by decide +kernel
theorem dX1_learn_14 : decode cX1_learn 14 = .ok (.aload_n 0, 1) := by decide +kernel
theorem dX1_learn_15 : decode cX1_learn 15 = .ok (.getfield 18, 3) := by decide +kernel
theorem dX1_learn_18 : decode cX1_learn 18 = .ok (.iload_n 1, 1) := by decide +kernel
theorem dX1_learn_19 : decode cX1_learn 19 = .ok (.iload 4, 2) := by decide +kernel
theorem dX1_learn_21 : decode cX1_learn 21 = .ok (.iastore, 1) := by decide +kernel
theorem dX1_learn_22 : decode cX1_learn 22 = .ok (.return_, 1) := by decide +kernel
theorem dX1_canBe_0 : decode cX1_canBe 0 = .ok (.iload_n 3, 1) := by decide +kernel
theorem dX1_canBe_1 : decode cX1_canBe 1 = .ok (.invokestatic 21, 3) := by decide +kernel
theorem dX1_canBe_4 : decode cX1_canBe 4 = .ok (.sipush 365, 3) := by decide +kernel
theorem dX1_canBe_7 : decode cX1_canBe 7 = .ok (.irem, 1) := by decide +kernel
theorem dX1_canBe_8 : decode cX1_canBe 8 = .ok (.istore 4, 2) := by decide +kernel
theorem dX1_canBe_10 : decode cX1_canBe 10 = .ok (.aload_n 0, 1) := by decide +kernel
theorem dX1_canBe_11 : decode cX1_canBe 11 = .ok (.getfield 15, 3) := by decide +kernel
theorem dX1_canBe_14 : decode cX1_canBe 14 = .ok (.iload_n 1, 1) := by decide +kernel
theorem dX1_canBe_15 : decode cX1_canBe 15 = .ok (.iaload, 1) := by decide +kernel
theorem dX1_canBe_16 : decode cX1_canBe 16 = .ok (.istore 5, 2) := by decide +kernel
theorem dX1_canBe_18 : decode cX1_canBe 18 = .ok (.aload_n 0, 1) := by decide +kernel
theorem dX1_canBe_19 : decode cX1_canBe 19 = .ok (.getfield 18, 3) := by decide +kernel
theorem dX1_canBe_22 : decode cX1_canBe 22 = .ok (.iload_n 1, 1) := by decide +kernel
theorem dX1_canBe_23 : decode cX1_canBe 23 = .ok (.iaload, 1) := by decide +kernel
theorem dX1_canBe_24 : decode cX1_canBe 24 = .ok (.istore 6, 2) := by decide +kernel
theorem dX1_canBe_26 : decode cX1_canBe 26 = .ok (.iload 5, 2) := by decide +kernel
theorem dX1_canBe_28 : decode cX1_canBe 28 = .ok (.iload 6, 2) := by decide +kernel
theorem dX1_canBe_30 : decode cX1_canBe 30 = .ok (.if_icmp .gt 15, 3) := by decide +kernel
theorem dX1_canBe_33 : decode cX1_canBe 33 = .ok (.iload 4, 2) := by decide +kernel
theorem dX1_canBe_35 : decode cX1_canBe 35 = .ok (.iload 5, 2) := by decide +kernel
theorem dX1_canBe_37 : decode cX1_canBe 37 = .ok (.iload 6, 2) := by decide +kernel
theorem dX1_canBe_39 : decode cX1_canBe 39 = .ok (.invokestatic 25, 3) := by decide +kernel
theorem dX1_canBe_42 : decode cX1_canBe 42 = .ok (.goto 22, 3) := by decide +kernel
theorem dX1_canBe_45 : decode cX1_canBe 45 = .ok (.iload 4, 2) := by decide +kernel
theorem dX1_canBe_47 : decode cX1_canBe 47 = .ok (.iload 5, 2) := by decide +kernel
theorem dX1_canBe_49 : decode cX1_canBe 49 = .ok (.if_icmp .ge 10, 3) := by decide +kernel
theorem dX1_canBe_52 : decode cX1_canBe 52 = .ok (.iload 4, 2) := by decide +kernel
theorem dX1_canBe_54 : decode cX1_canBe 54 = .ok (.iload 6, 2) := by decide +kernel
theorem dX1_canBe_56 : decode cX1_canBe 56 = .ok (.if_icmp .gt 7, 3) := by decide +kernel
theorem dX1_canBe_59 : decode cX1_canBe 59 = .ok (.iconst 1, 1) := by decide +kernel
theorem dX1_canBe_60 : decode cX1_canBe 60 = .ok (.goto 4, 3) := by decide +kernel
theorem dX1_canBe_63 : decode cX1_canBe 63 = .ok (.iconst 0, 1) := by decide +kernel
theorem dX1_canBe_64 : decode cX1_canBe 64 = .ok (.istore 7, 2) := by decide +kernel
theorem dX1_canBe_66 : decode cX1_canBe 66 = .ok (.iload 7, 2) := by decide +kernel
theorem dX1_canBe_68 : decode cX1_canBe 68 = .ok (.ifCond .eq 20, 3) := by decide +kernel
theorem dX1_canBe_71 : decode cX1_canBe 71 = .ok (.aload_n 0, 1) := by decide +kernel
theorem dX1_canBe_72 : decode cX1_canBe 72 = .ok (.getfield 9, 3) := by decide +kernel
theorem dX1_canBe_75 : decode cX1_canBe 75 = .ok (.iload_n 1, 1) := by decide +kernel
theorem dX1_canBe_76 : decode cX1_canBe 76 = .ok (.iaload, 1) := by decide +kernel
theorem dX1_canBe_77 : decode cX1_canBe 77 = .ok (.iload_n 2, 1) := by decide +kernel
theorem dX1_canBe_78 : decode cX1_canBe 78 = .ok (.invokestatic 29, 3) := by decide +kernel
theorem dX1_canBe_81 : decode cX1_canBe 81 = .ok (.ifCond .eq 7, 3) := by decide +kernel
theorem dX1_canBe_84 : decode cX1_canBe 84 = .ok (.iconst 1, 1) := by decide +kernel
theorem dX1_canBe_85 : decode cX1_canBe 85 = .ok (.goto 4, 3) := by decide +kernel
theorem dX1_canBe_88 : decode cX1_canBe 88 = .ok (.iconst 0, 1) := by decide +kernel
theorem dX1_canBe_89 : decode cX1_canBe 89 = .ok (.ireturn, 1) := by decide +kernel
theorem dX1_firstLie_0 : decode cX1_firstLie 0 = .ok (.iconst 0, 1) := by decide +kernel
theorem dX1_firstLie_1 : decode cX1_firstLie 1 = .ok (.istore 4, 2) := by decide +kernel
theorem dX1_firstLie_3 : decode cX1_firstLie 3 = .ok (.iload 4, 2) := by decide +kernel
theorem dX1_firstLie_5 : decode cX1_firstLie 5 = .ok (.bipush 8, 2) := by decide +kernel
theorem dX1_firstLie_7 : decode cX1_firstLie 7 = .ok (.if_icmp .ge 32, 3) := by decide +kernel
theorem dX1_firstLie_10 : decode cX1_firstLie 10 = .ok (.iload_n 1, 1) := by decide +kernel
theorem dX1_firstLie_11 : decode cX1_firstLie 11 = .ok (.iload 4, 2) := by decide +kernel
theorem dX1_firstLie_13 : decode cX1_firstLie 13 = .ok (.invokestatic 29, 3) := by decide +kernel
theorem dX1_firstLie_16 : decode cX1_firstLie 16 = .ok (.ifCond .eq 17, 3) := by decide +kernel
theorem dX1_firstLie_19 : decode cX1_firstLie 19 = .ok (.aload_n 0, 1) := by decide +kernel
theorem dX1_firstLie_20 : decode cX1_firstLie 20 = .ok (.iload 4, 2) := by decide +kernel
theorem dX1_firstLie_22 : decode cX1_firstLie 22 = .ok (.iload_n 2, 1) := by decide +kernel
theorem dX1_firstLie_23 : decode cX1_firstLie 23 = .ok (.iload_n 3, 1) := by decide +kernel
theorem dX1_firstLie_24 : decode cX1_firstLie 24 = .ok (.invokevirtual 33, 3) := by decide +kernel
theorem dX1_firstLie_27 : decode cX1_firstLie 27 = .ok (.ifCond .ne 6, 3) := by decide +kernel
theorem dX1_firstLie_30 : decode cX1_firstLie 30 = .ok (.iload 4, 2) := by decide +kernel
theorem dX1_firstLie_32 : decode cX1_firstLie 32 = .ok (.ireturn, 1) := by decide +kernel
theorem dX1_firstLie_33 : decode cX1_firstLie 33 = .ok (.iinc 4 1, 3) := by decide +kernel
theorem dX1_firstLie_36 : decode cX1_firstLie 36 = .ok (.goto (-33), 3) := by decide +kernel
theorem dX1_firstLie_39 : decode cX1_firstLie 39 = .ok (.bipush (-9), 2) := by decide +kernel
theorem dX1_firstLie_41 : decode cX1_firstLie 41 = .ok (.ireturn, 1) := by decide +kernel
theorem dX2_init_0 : decode cX2_init 0 = .ok (.aload_n 0, 1) := by decide +kernel
theorem dX2_init_1 : decode cX2_init 1 = .ok (.invokespecial 3, 3) := by decide +kernel
theorem dX2_init_4 : decode cX2_init 4 = .ok (.aload_n 0, 1) := by decide +kernel
theorem dX2_init_5 : decode cX2_init 5 = .ok (.bipush 8, 2) := by decide +kernel
theorem dX2_init_7 : decode cX2_init 7 = .ok (.newarray .int, 2) := by decide +kernel
theorem dX2_init_9 : decode cX2_init 9 = .ok (.putfield 9, 3) := by decide +kernel
theorem dX2_init_12 : decode cX2_init 12 = .ok (.aload_n 0, 1) := by decide +kernel
theorem dX2_init_13 : decode cX2_init 13 = .ok (.bipush 8, 2) := by decide +kernel
theorem dX2_init_15 : decode cX2_init 15 = .ok (.newarray .int, 2) := by decide +kernel
theorem dX2_init_17 : decode cX2_init 17 = .ok (.putfield 15, 3) := by decide +kernel
theorem dX2_init_20 : decode cX2_init 20 = .ok (.aload_n 0, 1) := by decide +kernel
theorem dX2_init_21 : decode cX2_init 21 = .ok (.bipush 8, 2) := by decide +kernel
theorem dX2_init_23 : decode cX2_init 23 = .ok (.newarray .int, 2) := by decide +kernel
theorem dX2_init_25 : decode cX2_init 25 = .ok (.putfield 18, 3) := by decide +kernel
theorem dX2_init_28 : decode cX2_init 28 = .ok (.aload_n 0, 1) := by decide +kernel
theorem dX2_init_29 : decode cX2_init 29 = .ok (.bipush 9, 2) := by decide +kernel
theorem dX2_init_31 : decode cX2_init 31 = .ok (.newarray .int, 2) := by decide +kernel
theorem dX2_init_33 : decode cX2_init 33 = .ok (.dup, 1) := by decide +kernel
theorem dX2_init_34 : decode cX2_init 34 = .ok (.iconst 0, 1) := by decide +kernel
theorem dX2_init_35 : decode cX2_init 35 = .ok (.bipush 100, 2) := by decide +kernel
theorem dX2_init_37 : decode cX2_init 37 = .ok (.iastore, 1) := by decide +kernel
theorem dX2_init_38 : decode cX2_init 38 = .ok (.dup, 1) := by decide +kernel
theorem dX2_init_39 : decode cX2_init 39 = .ok (.iconst 1, 1) := by decide +kernel
theorem dX2_init_40 : decode cX2_init 40 = .ok (.bipush 100, 2) := by decide +kernel
theorem dX2_init_42 : decode cX2_init 42 = .ok (.iastore, 1) := by decide +kernel
theorem dX2_init_43 : decode cX2_init 43 = .ok (.dup, 1) := by decide +kernel
theorem dX2_init_44 : decode cX2_init 44 = .ok (.iconst 2, 1) := by decide +kernel
theorem dX2_init_45 : decode cX2_init 45 = .ok (.bipush 100, 2) := by decide +kernel
theorem dX2_init_47 : decode cX2_init 47 = .ok (.iastore, 1) := by decide +kernel
theorem dX2_init_48 : decode cX2_init 48 = .ok (.dup, 1) := by decide +kernel
theorem dX2_init_49 : decode cX2_init 49 = .ok (.iconst 3, 1) := by decide +kernel
theorem dX2_init_50 : decode cX2_init 50 = .ok (.bipush 100, 2) := by decide +kernel
theorem dX2_init_52 : decode cX2_init 52 = .ok (.iastore, 1) := by decide +kernel
theorem dX2_init_53 : decode cX2_init 53 = .ok (.dup, 1) := by decide +kernel
theorem dX2_init_54 : decode cX2_init 54 = .ok (.iconst 4, 1) := by decide +kernel
theorem dX2_init_55 : decode cX2_init 55 = .ok (.bipush 100, 2) := by decide +kernel
theorem dX2_init_57 : decode cX2_init 57 = .ok (.iastore, 1) := by decide +kernel
theorem dX2_init_58 : decode cX2_init 58 = .ok (.dup, 1) := by decide +kernel
theorem dX2_init_59 : decode cX2_init 59 = .ok (.iconst 5, 1) := by decide +kernel
theorem dX2_init_60 : decode cX2_init 60 = .ok (.bipush 100, 2) := by decide +kernel
theorem dX2_init_62 : decode cX2_init 62 = .ok (.iastore, 1) := by decide +kernel
theorem dX2_init_63 : decode cX2_init 63 = .ok (.dup, 1) := by decide +kernel
theorem dX2_init_64 : decode cX2_init 64 = .ok (.bipush 6, 2) := by decide +kernel
theorem dX2_init_66 : decode cX2_init 66 = .ok (.bipush 100, 2) := by decide +kernel
theorem dX2_init_68 : decode cX2_init 68 = .ok (.iastore, 1) := by decide +kernel
theorem dX2_init_69 : decode cX2_init 69 = .ok (.dup, 1) := by decide +kernel
theorem dX2_init_70 : decode cX2_init 70 = .ok (.bipush 7, 2) := by decide +kernel
theorem dX2_init_72 : decode cX2_init 72 = .ok (.bipush 100, 2) := by decide +kernel
theorem dX2_init_74 : decode cX2_init 74 = .ok (.iastore, 1) := by decide +kernel
theorem dX2_init_75 : decode cX2_init 75 = .ok (.dup, 1) := by decide +kernel
theorem dX2_init_76 : decode cX2_init 76 = .ok (.bipush 8, 2) := by decide +kernel
theorem dX2_init_78 : decode cX2_init 78 = .ok (.bipush 100, 2) := by decide +kernel
theorem dX2_init_80 : decode cX2_init 80 = .ok (.iastore, 1) := by decide +kernel
theorem dX2_init_81 : decode cX2_init 81 = .ok (.putfield 21, 3) := by decide +kernel
theorem dX2_init_84 : decode cX2_init 84 = .ok (.aload_n 0, 1) := by decide +kernel
theorem dX2_init_85 : decode cX2_init 85 = .ok (.iconst 1, 1) := by decide +kernel
theorem dX2_init_86 : decode cX2_init 86 = .ok (.putfield 24, 3) := by decide +kernel
theorem dX2_init_89 : decode cX2_init 89 = .ok (.aload_n 0, 1) := by decide +kernel
theorem dX2_init_90 : decode cX2_init 90 = .ok (.bipush 8, 2) := by decide +kernel
theorem dX2_init_92 : decode cX2_init 92 = .ok (.newarray .long, 2) := by decide +kernel
theorem dX2_init_94 : decode cX2_init 94 = .ok (.putfield 28, 3) := by decide +kernel
theorem dX2_init_97 : decode cX2_init 97 = .ok (.aload_n 0, 1) := by decide +kernel
theorem dX2_init_98 : decode cX2_init 98 = .ok (.sipush 256, 3) := by decide +kernel
theorem dX2_init_101 : decode cX2_init 101 = .ok (.newarray .long, 2) := by decide +kernel
theorem dX2_init_103 : decode cX2_init 103 = .ok (.putfield 32, 3) := by decide +kernel
theorem dX2_init_106 : decode cX2_init 106 = .ok (.return_, 1) := by decide +kernel
theorem dX2_add_0 : decode cX2_add 0 = .ok (.aload_n 0, 1) := by decide +kernel
theorem dX2_add_1 : decode cX2_add 1 = .ok (.getfield 35, 3) := by decide +kernel
theorem dX2_add_4 : decode cX2_add 4 = .ok (.bipush 8, 2) := by decide +kernel
theorem dX2_add_6 : decode cX2_add 6 = .ok (.if_icmp .lt 6, 3) := by decide +kernel
theorem dX2_add_9 : decode cX2_add 9 = .ok (.bipush (-4), 2) := by decide +kernel
theorem dX2_add_11 : decode cX2_add 11 = .ok (.ireturn, 1) := by decide +kernel
theorem dX2_add_12 : decode cX2_add 12 = .ok (.aload_n 0, 1) := by decide +kernel
theorem dX2_add_13 : decode cX2_add 13 = .ok (.getfield 9, 3) := by decide +kernel
theorem dX2_add_16 : decode cX2_add 16 = .ok (.aload_n 0, 1) := by decide +kernel
theorem dX2_add_17 : decode cX2_add 17 = .ok (.getfield 35, 3) := by decide +kernel
theorem dX2_add_20 : decode cX2_add 20 = .ok (.iload_n 1, 1) := by decide +kernel
theorem dX2_add_21 : decode cX2_add 21 = .ok (.iastore, 1) := by decide +kernel
theorem dX2_add_22 : decode cX2_add 22 = .ok (.aload_n 0, 1) := by decide +kernel
theorem dX2_add_23 : decode cX2_add 23 = .ok (.getfield 15, 3) := by decide +kernel
theorem dX2_add_26 : decode cX2_add 26 = .ok (.aload_n 0, 1) := by decide +kernel
theorem dX2_add_27 : decode cX2_add 27 = .ok (.getfield 35, 3) := by decide +kernel
theorem dX2_add_30 : decode cX2_add 30 = .ok (.iload_n 2, 1) := by decide +kernel
theorem dX2_add_31 : decode cX2_add 31 = .ok (.iastore, 1) := by decide +kernel
theorem dX2_add_32 : decode cX2_add 32 = .ok (.aload_n 0, 1) := by decide +kernel
theorem dX2_add_33 : decode cX2_add 33 = .ok (.getfield 18, 3) := by decide +kernel
theorem dX2_add_36 : decode cX2_add 36 = .ok (.aload_n 0, 1) := by decide +kernel
theorem dX2_add_37 : decode cX2_add 37 = .ok (.getfield 35, 3) := by decide +kernel
theorem dX2_add_40 : decode cX2_add 40 = .ok (.iload_n 3, 1) := by decide +kernel
theorem dX2_add_41 : decode cX2_add 41 = .ok (.iastore, 1) := by decide +kernel
theorem dX2_add_42 : decode cX2_add 42 = .ok (.aload_n 0, 1) := by decide +kernel
theorem dX2_add_43 : decode cX2_add 43 = .ok (.dup, 1) := by decide +kernel
theorem dX2_add_44 : decode cX2_add 44 = .ok (.getfield 35, 3) := by decide +kernel
theorem dX2_add_47 : decode cX2_add 47 = .ok (.iconst 1, 1) := by decide +kernel
theorem dX2_add_48 : decode cX2_add 48 = .ok (.iadd, 1) := by decide +kernel
theorem dX2_add_49 : decode cX2_add 49 = .ok (.putfield 35, 3) := by decide +kernel
theorem dX2_add_52 : decode cX2_add 52 = .ok (.aload_n 0, 1) := by decide +kernel
theorem dX2_add_53 : decode cX2_add 53 = .ok (.iconst 0, 1) := by decide +kernel
theorem dX2_add_54 : decode cX2_add 54 = .ok (.putfield 38, 3) := by decide +kernel
theorem dX2_add_57 : decode cX2_add 57 = .ok (.aload_n 0, 1) := by decide +kernel
theorem dX2_add_58 : decode cX2_add 58 = .ok (.getfield 35, 3) := by decide +kernel
theorem dX2_add_61 : decode cX2_add 61 = .ok (.iconst 1, 1) := by decide +kernel
theorem dX2_add_62 : decode cX2_add 62 = .ok (.isub, 1) := by decide +kernel
theorem dX2_add_63 : decode cX2_add 63 = .ok (.ireturn, 1) := by decide +kernel
theorem dX2_changePart_0 : decode cX2_changePart 0 = .ok (.aload_n 0, 1) := by decide +kernel
theorem dX2_changePart_1 : decode cX2_changePart 1 = .ok (.getfield 21, 3) := by decide +kernel
theorem dX2_changePart_4 : decode cX2_changePart 4 = .ok (.iload_n 1, 1) := by decide +kernel
theorem dX2_changePart_5 : decode cX2_changePart 5 = .ok (.iaload, 1) := by decide +kernel
theorem dX2_changePart_6 : decode cX2_changePart 6 = .ok (.istore_n 3, 1) := by decide +kernel
theorem dX2_changePart_7 : decode cX2_changePart 7 = .ok (.aload_n 0, 1) := by decide +kernel
theorem dX2_changePart_8 : decode cX2_changePart 8 = .ok (.getfield 21, 3) := by decide +kernel
theorem dX2_changePart_11 : decode cX2_changePart 11 = .ok (.iload_n 1, 1) := by decide +kernel
theorem dX2_changePart_12 : decode cX2_changePart 12 = .ok (.iload_n 2, 1) := by decide +kernel
theorem dX2_changePart_13 : decode cX2_changePart 13 = .ok (.iastore, 1) := by decide +kernel
theorem dX2_changePart_14 : decode cX2_changePart 14 = .ok (.aload_n 0, 1) := by decide +kernel
theorem dX2_changePart_15 : decode cX2_changePart 15 = .ok (.iconst 0, 1) := by decide +kernel
theorem dX2_changePart_16 : decode cX2_changePart 16 = .ok (.putfield 38, 3) := by decide +kernel
theorem dX2_changePart_19 : decode cX2_changePart 19 = .ok (.iload_n 3, 1) := by decide +kernel
theorem dX2_changePart_20 : decode cX2_changePart 20 = .ok (.ireturn, 1) := by decide +kernel
theorem dX2_changePrints_0 : decode cX2_changePrints 0 = .ok (.aload_n 0, 1) := by decide +kernel
theorem dX2_changePrints_1 : decode cX2_changePrints 1 = .ok (.getfield 24, 3) := by decide +kernel
theorem dX2_changePrints_4 : decode cX2_changePrints 4 = .ok (.istore_n 2, 1) := by decide +kernel
theorem dX2_changePrints_5 : decode cX2_changePrints 5 = .ok (.aload_n 0, 1) := by decide +kernel
theorem dX2_changePrints_6 : decode cX2_changePrints 6 = .ok (.iload_n 1, 1) := by decide +kernel
theorem dX2_changePrints_7 : decode cX2_changePrints 7 = .ok (.putfield 24, 3) := by decide +kernel
theorem dX2_changePrints_10 : decode cX2_changePrints 10 = .ok (.aload_n 0, 1) := by decide +kernel
theorem dX2_changePrints_11 : decode cX2_changePrints 11 = .ok (.iconst 0, 1) := by decide +kernel
theorem dX2_changePrints_12 : decode cX2_changePrints 12 = .ok (.putfield 38, 3) := by decide +kernel
theorem dX2_changePrints_15 : decode cX2_changePrints 15 = .ok (.iload_n 2, 1) := by decide +kernel
theorem dX2_changePrints_16 : decode cX2_changePrints 16 = .ok (.ireturn, 1) := by decide +kernel
theorem dX2_earnings_0 : decode cX2_earnings 0 = .ok (.aload_n 0, 1) := by decide +kernel
theorem dX2_earnings_1 : decode cX2_earnings 1 = .ok (.invokevirtual 42, 3) := by decide +kernel
theorem dX2_earnings_4 : decode cX2_earnings 4 = .ok (.ldc2_w 46, 3) := by decide +kernel
theorem dX2_earnings_7 : decode cX2_earnings 7 = .ok (.ldiv, 1) := by decide +kernel
theorem dX2_earnings_8 : decode cX2_earnings 8 = .ok (.l2i, 1) := by decide +kernel
theorem dX2_earnings_9 : decode cX2_earnings 9 = .ok (.ireturn, 1) := by decide +kernel
theorem dX2_bestWeek_0 : decode cX2_bestWeek 0 = .ok (.aload_n 0, 1) := by decide +kernel
theorem dX2_bestWeek_1 : decode cX2_bestWeek 1 = .ok (.invokevirtual 42, 3) := by decide +kernel
theorem dX2_bestWeek_4 : decode cX2_bestWeek 4 = .ok (.lstore_n 2, 1) := by decide +kernel
theorem dX2_bestWeek_5 : decode cX2_bestWeek 5 = .ok (.bipush 7, 2) := by decide +kernel
theorem dX2_bestWeek_7 : decode cX2_bestWeek 7 = .ok (.istore 4, 2) := by decide +kernel
theorem dX2_bestWeek_9 : decode cX2_bestWeek 9 = .ok (.iload 4, 2) := by decide +kernel
theorem dX2_bestWeek_11 : decode cX2_bestWeek 11 = .ok (.iload_n 1, 1) := by decide +kernel
theorem dX2_bestWeek_12 : decode cX2_bestWeek 12 = .ok (.if_icmp .le 15, 3) := by decide +kernel
theorem dX2_bestWeek_15 : decode cX2_bestWeek 15 = .ok (.lload_n 2, 1) := by decide +kernel
theorem dX2_bestWeek_16 : decode cX2_bestWeek 16 = .ok (.ldc2_w 48, 3) := by decide +kernel
theorem dX2_bestWeek_19 : decode cX2_bestWeek 19 = .ok (.ldiv, 1) := by decide +kernel
theorem dX2_bestWeek_20 : decode cX2_bestWeek 20 = .ok (.lstore_n 2, 1) := by decide +kernel
theorem dX2_bestWeek_21 : decode cX2_bestWeek 21 = .ok (.iinc 4 (-1), 3) := by decide +kernel
theorem dX2_bestWeek_24 : decode cX2_bestWeek 24 = .ok (.goto (-15), 3) := by decide +kernel
theorem dX2_bestWeek_27 : decode cX2_bestWeek 27 = .ok (.lload_n 2, 1) := by decide +kernel
theorem dX2_bestWeek_28 : decode cX2_bestWeek 28 = .ok (.ldc2_w 48, 3) := by decide +kernel
theorem dX2_bestWeek_31 : decode cX2_bestWeek 31 = .ok (.lrem, 1) := by decide +kernel
theorem dX2_bestWeek_32 : decode cX2_bestWeek 32 = .ok (.l2i, 1) := by decide +kernel
theorem dX2_bestWeek_33 : decode cX2_bestWeek 33 = .ok (.istore 4, 2) := by decide +kernel
theorem dX2_bestWeek_35 : decode cX2_bestWeek 35 = .ok (.iload 4, 2) := by decide +kernel
theorem dX2_bestWeek_37 : decode cX2_bestWeek 37 = .ok (.ifCond .ne 8, 3) := by decide +kernel
theorem dX2_bestWeek_40 : decode cX2_bestWeek 40 = .ok (.bipush (-9), 2) := by decide +kernel
theorem dX2_bestWeek_42 : decode cX2_bestWeek 42 = .ok (.goto 8, 3) := by decide +kernel
theorem dX2_bestWeek_45 : decode cX2_bestWeek 45 = .ok (.bipush 9, 2) := by decide +kernel
theorem dX2_bestWeek_47 : decode cX2_bestWeek 47 = .ok (.iload 4, 2) := by decide +kernel
theorem dX2_bestWeek_49 : decode cX2_bestWeek 49 = .ok (.isub, 1) := by decide +kernel
theorem dX2_bestWeek_50 : decode cX2_bestWeek 50 = .ok (.ireturn, 1) := by decide +kernel
theorem dX2_bestRun_0 : decode cX2_bestRun 0 = .ok (.aload_n 0, 1) := by decide +kernel
theorem dX2_bestRun_1 : decode cX2_bestRun 1 = .ok (.getfield 38, 3) := by decide +kernel
theorem dX2_bestRun_4 : decode cX2_bestRun 4 = .ok (.ifCond .ne 12, 3) := by decide +kernel
theorem dX2_bestRun_7 : decode cX2_bestRun 7 = .ok (.aload_n 0, 1) := by decide +kernel
theorem dX2_bestRun_8 : decode cX2_bestRun 8 = .ok (.invokevirtual 50, 3) := by decide +kernel
theorem dX2_bestRun_11 : decode cX2_bestRun 11 = .ok (.aload_n 0, 1) := by decide +kernel
theorem dX2_bestRun_12 : decode cX2_bestRun 12 = .ok (.iconst 1, 1) := by decide +kernel
theorem dX2_bestRun_13 : decode cX2_bestRun 13 = .ok (.putfield 38, 3) := by decide +kernel
theorem dX2_bestRun_16 : decode cX2_bestRun 16 = .ok (.aload_n 0, 1) := by decide +kernel
theorem dX2_bestRun_17 : decode cX2_bestRun 17 = .ok (.getfield 32, 3) := by decide +kernel
theorem dX2_bestRun_20 : decode cX2_bestRun 20 = .ok (.iconst 1, 1) := by decide +kernel
theorem dX2_bestRun_21 : decode cX2_bestRun 21 = .ok (.aload_n 0, 1) := by decide +kernel
theorem dX2_bestRun_22 : decode cX2_bestRun 22 = .ok (.getfield 35, 3) := by decide +kernel
theorem dX2_bestRun_25 : decode cX2_bestRun 25 = .ok (.ishl, 1) := by decide +kernel
theorem dX2_bestRun_26 : decode cX2_bestRun 26 = .ok (.iconst 1, 1) := by decide +kernel
theorem dX2_bestRun_27 : decode cX2_bestRun 27 = .ok (.isub, 1) := by decide +kernel
theorem dX2_bestRun_28 : decode cX2_bestRun 28 = .ok (.laload, 1) := by decide +kernel
theorem dX2_bestRun_29 : decode cX2_bestRun 29 = .ok (.lreturn, 1) := by decide +kernel
theorem dX2_search_0 : decode cX2_search 0 = .ok (.aload_n 0, 1) := by decide +kernel
theorem dX2_search_1 : decode cX2_search 1 = .ok (.getfield 32, 3) := by decide +kernel
theorem dX2_search_4 : decode cX2_search 4 = .ok (.lconst 0, 1) := by decide +kernel
theorem dX2_search_5 : decode cX2_search 5 = .ok (.invokestatic 53, 3) := by decide +kernel
theorem dX2_search_8 : decode cX2_search 8 = .ok (.iconst 0, 1) := by decide +kernel
theorem dX2_search_9 : decode cX2_search 9 = .ok (.istore_n 1, 1) := by decide +kernel
theorem dX2_search_10 : decode cX2_search 10 = .ok (.iload_n 1, 1) := by decide +kernel
theorem dX2_search_11 : decode cX2_search 11 = .ok (.bipush 9, 2) := by decide +kernel
theorem dX2_search_13 : decode cX2_search 13 = .ok (.if_icmp .ge 47, 3) := by decide +kernel
theorem dX2_search_16 : decode cX2_search 16 = .ok (.aload_n 0, 1) := by decide +kernel
theorem dX2_search_17 : decode cX2_search 17 = .ok (.iload_n 1, 1) := by decide +kernel
theorem dX2_search_18 : decode cX2_search 18 = .ok (.invokevirtual 59, 3) := by decide +kernel
theorem dX2_search_21 : decode cX2_search 21 = .ok (.istore_n 2, 1) := by decide +kernel
theorem dX2_search_22 : decode cX2_search 22 = .ok (.aload_n 0, 1) := by decide +kernel
theorem dX2_search_23 : decode cX2_search 23 = .ok (.getfield 24, 3) := by decide +kernel
theorem dX2_search_26 : decode cX2_search 26 = .ok (.iload_n 2, 1) := by decide +kernel
theorem dX2_search_27 : decode cX2_search 27 = .ok (.invokestatic 63, 3) := by decide +kernel
theorem dX2_search_30 : decode cX2_search 30 = .ok (.invokestatic 68, 3) := by decide +kernel
theorem dX2_search_33 : decode cX2_search 33 = .ok (.istore_n 3, 1) := by decide +kernel
theorem dX2_search_34 : decode cX2_search 34 = .ok (.iconst 0, 1) := by decide +kernel
theorem dX2_search_35 : decode cX2_search 35 = .ok (.istore 4, 2) := by decide +kernel
theorem dX2_search_37 : decode cX2_search 37 = .ok (.iload 4, 2) := by decide +kernel
theorem dX2_search_39 : decode cX2_search 39 = .ok (.iload_n 3, 1) := by decide +kernel
theorem dX2_search_40 : decode cX2_search 40 = .ok (.if_icmp .ge 14, 3) := by decide +kernel
theorem dX2_search_43 : decode cX2_search 43 = .ok (.aload_n 0, 1) := by decide +kernel
theorem dX2_search_44 : decode cX2_search 44 = .ok (.iload_n 2, 1) := by decide +kernel
theorem dX2_search_45 : decode cX2_search 45 = .ok (.invokevirtual 74, 3) := by decide +kernel
theorem dX2_search_48 : decode cX2_search 48 = .ok (.iinc 4 1, 3) := by decide +kernel
theorem dX2_search_51 : decode cX2_search 51 = .ok (.goto (-14), 3) := by decide +kernel
theorem dX2_search_54 : decode cX2_search 54 = .ok (.iinc 1 1, 3) := by decide +kernel
theorem dX2_search_57 : decode cX2_search 57 = .ok (.goto (-47), 3) := by decide +kernel
theorem dX2_search_60 : decode cX2_search 60 = .ok (.return_, 1) := by decide +kernel
theorem dX2_openIn_0 : decode cX2_openIn 0 = .ok (.iconst 0, 1) := by decide +kernel
theorem dX2_openIn_1 : decode cX2_openIn 1 = .ok (.istore_n 2, 1) := by decide +kernel
theorem dX2_openIn_2 : decode cX2_openIn 2 = .ok (.iconst 0, 1) := by decide +kernel
theorem dX2_openIn_3 : decode cX2_openIn 3 = .ok (.istore_n 3, 1) := by decide +kernel
theorem dX2_openIn_4 : decode cX2_openIn 4 = .ok (.iload_n 3, 1) := by decide +kernel
theorem dX2_openIn_5 : decode cX2_openIn 5 = .ok (.aload_n 0, 1) := by decide +kernel
theorem dX2_openIn_6 : decode cX2_openIn 6 = .ok (.getfield 35, 3) := by decide +kernel
theorem dX2_openIn_9 : decode cX2_openIn 9 = .ok (.if_icmp .ge 77, 3) := by decide +kernel
theorem dX2_openIn_12 : decode cX2_openIn 12 = .ok (.aload_n 0, 1) := by decide +kernel
theorem dX2_openIn_13 : decode cX2_openIn 13 = .ok (.getfield 18, 3) := by decide +kernel
theorem dX2_openIn_16 : decode cX2_openIn 16 = .ok (.iload_n 3, 1) := by decide +kernel
theorem dX2_openIn_17 : decode cX2_openIn 17 = .ok (.iaload, 1) := by decide +kernel
theorem dX2_openIn_18 : decode cX2_openIn 18 = .ok (.aload_n 0, 1) := by decide +kernel
theorem dX2_openIn_19 : decode cX2_openIn 19 = .ok (.getfield 21, 3) := by decide +kernel
theorem dX2_openIn_22 : decode cX2_openIn 22 = .ok (.iload_n 1, 1) := by decide +kernel
theorem dX2_openIn_23 : decode cX2_openIn 23 = .ok (.iaload, 1) := by decide +kernel
theorem dX2_openIn_24 : decode cX2_openIn 24 = .ok (.imul, 1) := by decide +kernel
theorem dX2_openIn_25 : decode cX2_openIn 25 = .ok (.bipush 100, 2) := by decide +kernel
theorem dX2_openIn_27 : decode cX2_openIn 27 = .ok (.idiv, 1) := by decide +kernel
theorem dX2_openIn_28 : decode cX2_openIn 28 = .ok (.i2l, 1) := by decide +kernel
theorem dX2_openIn_29 : decode cX2_openIn 29 = .ok (.lstore 4, 2) := by decide +kernel
theorem dX2_openIn_31 : decode cX2_openIn 31 = .ok (.aload_n 0, 1) := by decide +kernel
theorem dX2_openIn_32 : decode cX2_openIn 32 = .ok (.getfield 28, 3) := by decide +kernel
theorem dX2_openIn_35 : decode cX2_openIn 35 = .ok (.iload_n 3, 1) := by decide +kernel
theorem dX2_openIn_36 : decode cX2_openIn 36 = .ok (.lload 4, 2) := by decide +kernel
theorem dX2_openIn_38 : decode cX2_openIn 38 = .ok (.ldc2_w 46, 3) := by decide +kernel
theorem dX2_openIn_41 : decode cX2_openIn 41 = .ok (.lmul, 1) := by decide +kernel
theorem dX2_openIn_42 : decode cX2_openIn 42 = .ok (.bipush 9, 2) := by decide +kernel
theorem dX2_openIn_44 : decode cX2_openIn 44 = .ok (.iload_n 1, 1) := by decide +kernel
theorem dX2_openIn_45 : decode cX2_openIn 45 = .ok (.isub, 1) := by decide +kernel
theorem dX2_openIn_46 : decode cX2_openIn 46 = .ok (.getstatic 78, 3) := by decide +kernel
theorem dX2_openIn_49 : decode cX2_openIn 49 = .ok (.bipush 7, 2) := by decide +kernel
theorem dX2_openIn_51 : decode cX2_openIn 51 = .ok (.iload_n 3, 1) := by decide +kernel
theorem dX2_openIn_52 : decode cX2_openIn 52 = .ok (.isub, 1) := by decide +kernel
theorem dX2_openIn_53 : decode cX2_openIn 53 = .ok (.iaload, 1) := by decide +kernel
theorem dX2_openIn_54 : decode cX2_openIn 54 = .ok (.imul, 1) := by decide +kernel
theorem dX2_openIn_55 : decode cX2_openIn 55 = .ok (.i2l, 1) := by decide +kernel
theorem dX2_openIn_56 : decode cX2_openIn 56 = .ok (.ladd, 1) := by decide +kernel
theorem dX2_openIn_57 : decode cX2_openIn 57 = .ok (.lastore, 1) := by decide +kernel
theorem dX2_openIn_58 : decode cX2_openIn 58 = .ok (.iload_n 2, 1) := by decide +kernel
theorem dX2_openIn_59 : decode cX2_openIn 59 = .ok (.iload_n 3, 1) := by decide +kernel
theorem dX2_openIn_60 : decode cX2_openIn 60 = .ok (.iload_n 1, 1) := by decide +kernel
theorem dX2_openIn_61 : decode cX2_openIn 61 = .ok (.aload_n 0, 1) := by decide +kernel
theorem dX2_openIn_62 : decode cX2_openIn 62 = .ok (.getfield 9, 3) := by decide +kernel
theorem dX2_openIn_65 : decode cX2_openIn 65 = .ok (.iload_n 3, 1) := by decide +kernel
theorem dX2_openIn_66 : decode cX2_openIn 66 = .ok (.iaload, 1) := by decide +kernel
theorem dX2_openIn_67 : decode cX2_openIn 67 = .ok (.aload_n 0, 1) := by decide +kernel
theorem dX2_openIn_68 : decode cX2_openIn 68 = .ok (.getfield 15, 3) := by decide +kernel
theorem dX2_openIn_71 : decode cX2_openIn 71 = .ok (.iload_n 3, 1) := by decide +kernel
theorem dX2_openIn_72 : decode cX2_openIn 72 = .ok (.iaload, 1) := by decide +kernel
theorem dX2_openIn_73 : decode cX2_openIn 73 = .ok (.invokestatic 81, 3) := by decide +kernel
theorem dX2_openIn_76 : decode cX2_openIn 76 = .ok (.invokestatic 85, 3) := by decide +kernel
theorem dX2_openIn_79 : decode cX2_openIn 79 = .ok (.istore_n 2, 1) := by decide +kernel
theorem dX2_openIn_80 : decode cX2_openIn 80 = .ok (.iinc 3 1, 3) := by decide +kernel
theorem dX2_openIn_83 : decode cX2_openIn 83 = .ok (.goto (-79), 3) := by decide +kernel
theorem dX2_openIn_86 : decode cX2_openIn 86 = .ok (.iload_n 2, 1) := by decide +kernel
theorem dX2_openIn_87 : decode cX2_openIn 87 = .ok (.ireturn, 1) := by decide +kernel
theorem dX2_addPrint_0 : decode cX2_addPrint 0 = .ok (.iconst 1, 1) := by decide +kernel
theorem dX2_addPrint_1 : decode cX2_addPrint 1 = .ok (.aload_n 0, 1) := by decide +kernel
theorem dX2_addPrint_2 : decode cX2_addPrint 2 = .ok (.getfield 35, 3) := by decide +kernel
theorem dX2_addPrint_5 : decode cX2_addPrint 5 = .ok (.ishl, 1) := by decide +kernel
theorem dX2_addPrint_6 : decode cX2_addPrint 6 = .ok (.iconst 1, 1) := by decide +kernel
theorem dX2_addPrint_7 : decode cX2_addPrint 7 = .ok (.isub, 1) := by decide +kernel
theorem dX2_addPrint_8 : decode cX2_addPrint 8 = .ok (.istore_n 2, 1) := by decide +kernel
theorem dX2_addPrint_9 : decode cX2_addPrint 9 = .ok (.iload_n 2, 1) := by decide +kernel
theorem dX2_addPrint_10 : decode cX2_addPrint 10 = .ok (.ifCond .le 67, 3) := by decide +kernel
theorem dX2_addPrint_13 : decode cX2_addPrint 13 = .ok (.iconst 0, 1) := by decide +kernel
theorem dX2_addPrint_14 : decode cX2_addPrint 14 = .ok (.istore_n 3, 1) := by decide +kernel
theorem dX2_addPrint_15 : decode cX2_addPrint 15 = .ok (.iload_n 3, 1) := by decide +kernel
theorem dX2_addPrint_16 : decode cX2_addPrint 16 = .ok (.aload_n 0, 1) := by decide +kernel
theorem dX2_addPrint_17 : decode cX2_addPrint 17 = .ok (.getfield 35, 3) := by decide +kernel
theorem dX2_addPrint_20 : decode cX2_addPrint 20 = .ok (.if_icmp .ge 51, 3) := by decide +kernel
theorem dX2_addPrint_23 : decode cX2_addPrint 23 = .ok (.iload_n 2, 1) := by decide +kernel
theorem dX2_addPrint_24 : decode cX2_addPrint 24 = .ok (.iload_n 1, 1) := by decide +kernel
theorem dX2_addPrint_25 : decode cX2_addPrint 25 = .ok (.iand, 1) := by decide +kernel
theorem dX2_addPrint_26 : decode cX2_addPrint 26 = .ok (.iload_n 3, 1) := by decide +kernel
theorem dX2_addPrint_27 : decode cX2_addPrint 27 = .ok (.invokestatic 89, 3) := by decide +kernel
theorem dX2_addPrint_30 : decode cX2_addPrint 30 = .ok (.ifCond .eq 35, 3) := by decide +kernel
theorem dX2_addPrint_33 : decode cX2_addPrint 33 = .ok (.aload_n 0, 1) := by decide +kernel
theorem dX2_addPrint_34 : decode cX2_addPrint 34 = .ok (.getfield 32, 3) := by decide +kernel
theorem dX2_addPrint_37 : decode cX2_addPrint 37 = .ok (.iload_n 2, 1) := by decide +kernel
theorem dX2_addPrint_38 : decode cX2_addPrint 38 = .ok (.aload_n 0, 1) := by decide +kernel
theorem dX2_addPrint_39 : decode cX2_addPrint 39 = .ok (.getfield 32, 3) := by decide +kernel
theorem dX2_addPrint_42 : decode cX2_addPrint 42 = .ok (.iload_n 2, 1) := by decide +kernel
theorem dX2_addPrint_43 : decode cX2_addPrint 43 = .ok (.laload, 1) := by decide +kernel
theorem dX2_addPrint_44 : decode cX2_addPrint 44 = .ok (.aload_n 0, 1) := by decide +kernel
theorem dX2_addPrint_45 : decode cX2_addPrint 45 = .ok (.getfield 32, 3) := by decide +kernel
theorem dX2_addPrint_48 : decode cX2_addPrint 48 = .ok (.iload_n 2, 1) := by decide +kernel
theorem dX2_addPrint_49 : decode cX2_addPrint 49 = .ok (.iconst 1, 1) := by decide +kernel
theorem dX2_addPrint_50 : decode cX2_addPrint 50 = .ok (.iload_n 3, 1) := by decide +kernel
theorem dX2_addPrint_51 : decode cX2_addPrint 51 = .ok (.ishl, 1) := by decide +kernel
theorem dX2_addPrint_52 : decode cX2_addPrint 52 = .ok (.ixor, 1) := by decide +kernel
theorem dX2_addPrint_53 : decode cX2_addPrint 53 = .ok (.laload, 1) := by decide +kernel
theorem dX2_addPrint_54 : decode cX2_addPrint 54 = .ok (.aload_n 0, 1) := by decide +kernel
theorem dX2_addPrint_55 : decode cX2_addPrint 55 = .ok (.getfield 28, 3) := by decide +kernel
theorem dX2_addPrint_58 : decode cX2_addPrint 58 = .ok (.iload_n 3, 1) := by decide +kernel
theorem dX2_addPrint_59 : decode cX2_addPrint 59 = .ok (.laload, 1) := by decide +kernel
theorem dX2_addPrint_60 : decode cX2_addPrint 60 = .ok (.ladd, 1) := by decide +kernel
theorem dX2_addPrint_61 : decode cX2_addPrint 61 = .ok (.invokestatic 93, 3) := by decide +kernel
theorem dX2_addPrint_64 : decode cX2_addPrint 64 = .ok (.lastore, 1) := by decide +kernel
theorem dX2_addPrint_65 : decode cX2_addPrint 65 = .ok (.iinc 3 1, 3) := by decide +kernel
theorem dX2_addPrint_68 : decode cX2_addPrint 68 = .ok (.goto (-53), 3) := by decide +kernel
theorem dX2_addPrint_71 : decode cX2_addPrint 71 = .ok (.iinc 2 (-1), 3) := by decide +kernel
theorem dX2_addPrint_74 : decode cX2_addPrint 74 = .ok (.goto (-65), 3) := by decide +kernel
theorem dX2_addPrint_77 : decode cX2_addPrint 77 = .ok (.return_, 1) := by decide +kernel
theorem dX3_init_0 : decode cX3_init 0 = .ok (.aload_n 0, 1) := by decide +kernel
theorem dX3_init_1 : decode cX3_init 1 = .ok (.invokespecial 3, 3) := by decide +kernel
theorem dX3_init_4 : decode cX3_init 4 = .ok (.aload_n 0, 1) := by decide +kernel
theorem dX3_init_5 : decode cX3_init 5 = .ok (.bipush 8, 2) := by decide +kernel
theorem dX3_init_7 : decode cX3_init 7 = .ok (.newarray .int, 2) := by decide +kernel
theorem dX3_init_9 : decode cX3_init 9 = .ok (.putfield 9, 3) := by decide +kernel
theorem dX3_init_12 : decode cX3_init 12 = .ok (.aload_n 0, 1) := by decide +kernel
theorem dX3_init_13 : decode cX3_init 13 = .ok (.bipush 81, 2) := by decide +kernel
theorem dX3_init_15 : decode cX3_init 15 = .ok (.newarray .boolean, 2) := by decide +kernel
theorem dX3_init_17 : decode cX3_init 17 = .ok (.putfield 15, 3) := by decide +kernel
theorem dX3_init_20 : decode cX3_init 20 = .ok (.aload_n 0, 1) := by decide +kernel
theorem dX3_init_21 : decode cX3_init 21 = .ok (.bipush 81, 2) := by decide +kernel
theorem dX3_init_23 : decode cX3_init 23 = .ok (.newarray .boolean, 2) := by decide +kernel
theorem dX3_init_25 : decode cX3_init 25 = .ok (.putfield 19, 3) := by decide +kernel
theorem dX3_init_28 : decode cX3_init 28 = .ok (.aload_n 0, 1) := by decide +kernel
theorem dX3_init_29 : decode cX3_init 29 = .ok (.bipush 81, 2) := by decide +kernel
theorem dX3_init_31 : decode cX3_init 31 = .ok (.newarray .boolean, 2) := by decide +kernel
theorem dX3_init_33 : decode cX3_init 33 = .ok (.putfield 22, 3) := by decide +kernel
theorem dX3_init_36 : decode cX3_init 36 = .ok (.return_, 1) := by decide +kernel
theorem dX3_look_0 : decode cX3_look 0 = .ok (.aload_n 0, 1) := by decide +kernel
theorem dX3_look_1 : decode cX3_look 1 = .ok (.getfield 9, 3) := by decide +kernel
theorem dX3_look_4 : decode cX3_look 4 = .ok (.iconst 0, 1) := by decide +kernel
theorem dX3_look_5 : decode cX3_look 5 = .ok (.aload_n 1, 1) := by decide +kernel
theorem dX3_look_6 : decode cX3_look 6 = .ok (.getfield 25, 3) := by decide +kernel
theorem dX3_look_9 : decode cX3_look 9 = .ok (.iastore, 1) := by decide +kernel
theorem dX3_look_10 : decode cX3_look 10 = .ok (.aload_n 0, 1) := by decide +kernel
theorem dX3_look_11 : decode cX3_look 11 = .ok (.getfield 9, 3) := by decide +kernel
theorem dX3_look_14 : decode cX3_look 14 = .ok (.iconst 1, 1) := by decide +kernel
theorem dX3_look_15 : decode cX3_look 15 = .ok (.aload_n 1, 1) := by decide +kernel
theorem dX3_look_16 : decode cX3_look 16 = .ok (.getfield 31, 3) := by decide +kernel
theorem dX3_look_19 : decode cX3_look 19 = .ok (.iastore, 1) := by decide +kernel
theorem dX3_look_20 : decode cX3_look 20 = .ok (.aload_n 0, 1) := by decide +kernel
theorem dX3_look_21 : decode cX3_look 21 = .ok (.getfield 9, 3) := by decide +kernel
theorem dX3_look_24 : decode cX3_look 24 = .ok (.iconst 2, 1) := by decide +kernel
theorem dX3_look_25 : decode cX3_look 25 = .ok (.iload_n 2, 1) := by decide +kernel
theorem dX3_look_26 : decode cX3_look 26 = .ok (.iastore, 1) := by decide +kernel
theorem dX3_look_27 : decode cX3_look 27 = .ok (.aload_n 0, 1) := by decide +kernel
theorem dX3_look_28 : decode cX3_look 28 = .ok (.getfield 9, 3) := by decide +kernel
theorem dX3_look_31 : decode cX3_look 31 = .ok (.iconst 3, 1) := by decide +kernel
theorem dX3_look_32 : decode cX3_look 32 = .ok (.aload_n 1, 1) := by decide +kernel
theorem dX3_look_33 : decode cX3_look 33 = .ok (.invokevirtual 34, 3) := by decide +kernel
theorem dX3_look_36 : decode cX3_look 36 = .ok (.iastore, 1) := by decide +kernel
theorem dX3_look_37 : decode cX3_look 37 = .ok (.aload_n 0, 1) := by decide +kernel
theorem dX3_look_38 : decode cX3_look 38 = .ok (.getfield 9, 3) := by decide +kernel
theorem dX3_look_41 : decode cX3_look 41 = .ok (.iconst 4, 1) := by decide +kernel
theorem dX3_look_42 : decode cX3_look 42 = .ok (.iload_n 3, 1) := by decide +kernel
theorem dX3_look_43 : decode cX3_look 43 = .ok (.iastore, 1) := by decide +kernel
theorem dX3_look_44 : decode cX3_look 44 = .ok (.aload_n 0, 1) := by decide +kernel
theorem dX3_look_45 : decode cX3_look 45 = .ok (.getfield 9, 3) := by decide +kernel
theorem dX3_look_48 : decode cX3_look 48 = .ok (.iconst 5, 1) := by decide +kernel
theorem dX3_look_49 : decode cX3_look 49 = .ok (.aload_n 1, 1) := by decide +kernel
theorem dX3_look_50 : decode cX3_look 50 = .ok (.getfield 38, 3) := by decide +kernel
theorem dX3_look_53 : decode cX3_look 53 = .ok (.ifCond .eq 7, 3) := by decide +kernel
theorem dX3_look_56 : decode cX3_look 56 = .ok (.iconst 0, 1) := by decide +kernel
theorem dX3_look_57 : decode cX3_look 57 = .ok (.goto 4, 3) := by decide +kernel
theorem dX3_look_60 : decode cX3_look 60 = .ok (.iload_n 3, 1) := by decide +kernel
theorem dX3_look_61 : decode cX3_look 61 = .ok (.iastore, 1) := by decide +kernel
theorem dX3_look_62 : decode cX3_look 62 = .ok (.aload_n 0, 1) := by decide +kernel
theorem dX3_look_63 : decode cX3_look 63 = .ok (.getfield 9, 3) := by decide +kernel
theorem dX3_look_66 : decode cX3_look 66 = .ok (.bipush 6, 2) := by decide +kernel
theorem dX3_look_68 : decode cX3_look 68 = .ok (.iload 4, 2) := by decide +kernel
theorem dX3_look_70 : decode cX3_look 70 = .ok (.iastore, 1) := by decide +kernel
theorem dX3_look_71 : decode cX3_look 71 = .ok (.aload_n 0, 1) := by decide +kernel
theorem dX3_look_72 : decode cX3_look 72 = .ok (.getfield 9, 3) := by decide +kernel
theorem dX3_look_75 : decode cX3_look 75 = .ok (.bipush 7, 2) := by decide +kernel
theorem dX3_look_77 : decode cX3_look 77 = .ok (.aload_n 1, 1) := by decide +kernel
theorem dX3_look_78 : decode cX3_look 78 = .ok (.invokevirtual 42, 3) := by decide +kernel
theorem dX3_look_81 : decode cX3_look 81 = .ok (.iastore, 1) := by decide +kernel
theorem dX3_look_82 : decode cX3_look 82 = .ok (.return_, 1) := by decide +kernel
theorem dX3_letterIndex_0 : decode cX3_letterIndex 0 = .ok (.iload_n 0, 1) := by decide +kernel
theorem dX3_letterIndex_1 : decode cX3_letterIndex 1 = .ok (.tableswitch 109 102 120 #[97, 109, 109, 109, 109, 106, 95, 109, 109, 99, 93, 109, 109, 91, 109, 101, 109, 109, 103], 91) := by decide +kernel
theorem dX3_letterIndex_92 : decode cX3_letterIndex 92 = .ok (.iconst 0, 1) := by decide +kernel
theorem dX3_letterIndex_93 : decode cX3_letterIndex 93 = .ok (.ireturn, 1) := by decide +kernel
theorem dX3_letterIndex_94 : decode cX3_letterIndex 94 = .ok (.iconst 1, 1) := by decide +kernel
theorem dX3_letterIndex_95 : decode cX3_letterIndex 95 = .ok (.ireturn, 1) := by decide +kernel
theorem dX3_letterIndex_96 : decode cX3_letterIndex 96 = .ok (.iconst 2, 1) := by decide +kernel
theorem dX3_letterIndex_97 : decode cX3_letterIndex 97 = .ok (.ireturn, 1) := by decide +kernel
theorem dX3_letterIndex_98 : decode cX3_letterIndex 98 = .ok (.iconst 3, 1) := by decide +kernel
theorem dX3_letterIndex_99 : decode cX3_letterIndex 99 = .ok (.ireturn, 1) := by decide +kernel
theorem dX3_letterIndex_100 : decode cX3_letterIndex 100 = .ok (.iconst 4, 1) := by decide +kernel
theorem dX3_letterIndex_101 : decode cX3_letterIndex 101 = .ok (.ireturn, 1) := by decide +kernel
theorem dX3_letterIndex_102 : decode cX3_letterIndex 102 = .ok (.iconst 5, 1) := by decide +kernel
theorem dX3_letterIndex_103 : decode cX3_letterIndex 103 = .ok (.ireturn, 1) := by decide +kernel
theorem dX3_letterIndex_104 : decode cX3_letterIndex 104 = .ok (.bipush 6, 2) := by decide +kernel
theorem dX3_letterIndex_106 : decode cX3_letterIndex 106 = .ok (.ireturn, 1) := by decide +kernel
theorem dX3_letterIndex_107 : decode cX3_letterIndex 107 = .ok (.bipush 7, 2) := by decide +kernel
theorem dX3_letterIndex_109 : decode cX3_letterIndex 109 = .ok (.ireturn, 1) := by decide +kernel
theorem dX3_letterIndex_110 : decode cX3_letterIndex 110 = .ok (.iconst (-1), 1) := by decide +kernel
theorem dX3_letterIndex_111 : decode cX3_letterIndex 111 = .ok (.ireturn, 1) := by decide +kernel
theorem dX3_held_0 : decode cX3_held 0 = .ok (.aload_n 0, 1) := by decide +kernel
theorem dX3_held_1 : decode cX3_held 1 = .ok (.getfield 15, 3) := by decide +kernel
theorem dX3_held_4 : decode cX3_held 4 = .ok (.iconst 0, 1) := by decide +kernel
theorem dX3_held_5 : decode cX3_held 5 = .ok (.baload, 1) := by decide +kernel
theorem dX3_held_6 : decode cX3_held 6 = .ok (.ifCond .ne 12, 3) := by decide +kernel
theorem dX3_held_9 : decode cX3_held 9 = .ok (.aload_n 0, 1) := by decide +kernel
theorem dX3_held_10 : decode cX3_held 10 = .ok (.getfield 19, 3) := by decide +kernel
theorem dX3_held_13 : decode cX3_held 13 = .ok (.iconst 0, 1) := by decide +kernel
theorem dX3_held_14 : decode cX3_held 14 = .ok (.baload, 1) := by decide +kernel
theorem dX3_held_15 : decode cX3_held 15 = .ok (.ifCond .eq 7, 3) := by decide +kernel
theorem dX3_held_18 : decode cX3_held 18 = .ok (.iconst 1, 1) := by decide +kernel
theorem dX3_held_19 : decode cX3_held 19 = .ok (.goto 4, 3) := by decide +kernel
theorem dX3_held_22 : decode cX3_held 22 = .ok (.iconst 0, 1) := by decide +kernel
theorem dX3_held_23 : decode cX3_held 23 = .ok (.ireturn, 1) := by decide +kernel
theorem dX3_read_0 : decode cX3_read 0 = .ok (.aload_n 0, 1) := by decide +kernel
theorem dX3_read_1 : decode cX3_read 1 = .ok (.iconst 0, 1) := by decide +kernel
theorem dX3_read_2 : decode cX3_read 2 = .ok (.putfield 45, 3) := by decide +kernel
theorem dX3_read_5 : decode cX3_read 5 = .ok (.aload_n 0, 1) := by decide +kernel
theorem dX3_read_6 : decode cX3_read 6 = .ok (.invokevirtual 48, 3) := by decide +kernel
theorem dX3_read_9 : decode cX3_read 9 = .ok (.iconst 0, 1) := by decide +kernel
theorem dX3_read_10 : decode cX3_read 10 = .ok (.istore_n 2, 1) := by decide +kernel
theorem dX3_read_11 : decode cX3_read 11 = .ok (.iload_n 2, 1) := by decide +kernel
theorem dX3_read_12 : decode cX3_read 12 = .ok (.aload_n 1, 1) := by decide +kernel
theorem dX3_read_13 : decode cX3_read 13 = .ok (.getfield 51, 3) := by decide +kernel
theorem dX3_read_16 : decode cX3_read 16 = .ok (.if_icmp .ge 24, 3) := by decide +kernel
theorem dX3_read_19 : decode cX3_read 19 = .ok (.aload_n 0, 1) := by decide +kernel
theorem dX3_read_20 : decode cX3_read 20 = .ok (.aload_n 1, 1) := by decide +kernel
theorem dX3_read_21 : decode cX3_read 21 = .ok (.getfield 56, 3) := by decide +kernel
theorem dX3_read_24 : decode cX3_read 24 = .ok (.iload_n 2, 1) := by decide +kernel
theorem dX3_read_25 : decode cX3_read 25 = .ok (.iaload, 1) := by decide +kernel
theorem dX3_read_26 : decode cX3_read 26 = .ok (.invokevirtual 59, 3) := by decide +kernel
theorem dX3_read_29 : decode cX3_read 29 = .ok (.ifCond .ne 5, 3) := by decide +kernel
theorem dX3_read_32 : decode cX3_read 32 = .ok (.iload_n 2, 1) := by decide +kernel
theorem dX3_read_33 : decode cX3_read 33 = .ok (.ireturn, 1) := by decide +kernel
theorem dX3_read_34 : decode cX3_read 34 = .ok (.iinc 2 1, 3) := by decide +kernel
theorem dX3_read_37 : decode cX3_read 37 = .ok (.goto (-26), 3) := by decide +kernel
theorem dX3_read_40 : decode cX3_read 40 = .ok (.aload_n 0, 1) := by decide +kernel
theorem dX3_read_41 : decode cX3_read 41 = .ok (.invokevirtual 63, 3) := by decide +kernel
theorem dX3_read_44 : decode cX3_read 44 = .ok (.aload_n 0, 1) := by decide +kernel
theorem dX3_read_45 : decode cX3_read 45 = .ok (.getfield 66, 3) := by decide +kernel
theorem dX3_read_48 : decode cX3_read 48 = .ok (.iconst 4, 1) := by decide +kernel
theorem dX3_read_49 : decode cX3_read 49 = .ok (.if_icmp .ne 15, 3) := by decide +kernel
theorem dX3_read_52 : decode cX3_read 52 = .ok (.aload_n 0, 1) := by decide +kernel
theorem dX3_read_53 : decode cX3_read 53 = .ok (.getfield 45, 3) := by decide +kernel
theorem dX3_read_56 : decode cX3_read 56 = .ok (.ifCond .ne 8, 3) := by decide +kernel
theorem dX3_read_59 : decode cX3_read 59 = .ok (.bipush (-9), 2) := by decide +kernel
theorem dX3_read_61 : decode cX3_read 61 = .ok (.goto 7, 3) := by decide +kernel
theorem dX3_read_64 : decode cX3_read 64 = .ok (.aload_n 1, 1) := by decide +kernel
theorem dX3_read_65 : decode cX3_read 65 = .ok (.getfield 51, 3) := by decide +kernel
theorem dX3_read_68 : decode cX3_read 68 = .ok (.ireturn, 1) := by decide +kernel
theorem dX3_take_0 : decode cX3_take 0 = .ok (.aload_n 0, 1) := by decide +kernel
theorem dX3_take_1 : decode cX3_take 1 = .ok (.getfield 66, 3) := by decide +kernel
theorem dX3_take_4 : decode cX3_take 4 = .ok (.iconst 3, 1) := by decide +kernel
theorem dX3_take_5 : decode cX3_take 5 = .ok (.if_icmp .ne 24, 3) := by decide +kernel
theorem dX3_take_8 : decode cX3_take 8 = .ok (.iload_n 1, 1) := by decide +kernel
theorem dX3_take_9 : decode cX3_take 9 = .ok (.invokestatic 69, 3) := by decide +kernel
theorem dX3_take_12 : decode cX3_take 12 = .ok (.ifCond .eq 17, 3) := by decide +kernel
theorem dX3_take_15 : decode cX3_take 15 = .ok (.aload_n 0, 1) := by decide +kernel
theorem dX3_take_16 : decode cX3_take 16 = .ok (.getfield 72, 3) := by decide +kernel
theorem dX3_take_19 : decode cX3_take 19 = .ok (.iconst 4, 1) := by decide +kernel
theorem dX3_take_20 : decode cX3_take 20 = .ok (.if_icmp .ge 9, 3) := by decide +kernel
theorem dX3_take_23 : decode cX3_take 23 = .ok (.aload_n 0, 1) := by decide +kernel
theorem dX3_take_24 : decode cX3_take 24 = .ok (.iload_n 1, 1) := by decide +kernel
theorem dX3_take_25 : decode cX3_take 25 = .ok (.invokevirtual 75, 3) := by decide +kernel
theorem dX3_take_28 : decode cX3_take 28 = .ok (.ireturn, 1) := by decide +kernel
theorem dX3_take_29 : decode cX3_take 29 = .ok (.aload_n 0, 1) := by decide +kernel
theorem dX3_take_30 : decode cX3_take 30 = .ok (.invokevirtual 63, 3) := by decide +kernel
theorem dX3_take_33 : decode cX3_take 33 = .ok (.iload_n 1, 1) := by decide +kernel
theorem dX3_take_34 : decode cX3_take 34 = .ok (.bipush 32, 2) := by decide +kernel
theorem dX3_take_36 : decode cX3_take 36 = .ok (.if_icmp .ne 5, 3) := by decide +kernel
theorem dX3_take_39 : decode cX3_take 39 = .ok (.iconst 1, 1) := by decide +kernel
theorem dX3_take_40 : decode cX3_take 40 = .ok (.ireturn, 1) := by decide +kernel
theorem dX3_take_41 : decode cX3_take 41 = .ok (.aload_n 0, 1) := by decide +kernel
theorem dX3_take_42 : decode cX3_take 42 = .ok (.getfield 66, 3) := by decide +kernel
theorem dX3_take_45 : decode cX3_take 45 = .ok (.tableswitch 60 0 2 #[27, 33, 39], 27) := by decide +kernel
theorem dX3_take_72 : decode cX3_take 72 = .ok (.aload_n 0, 1) := by decide +kernel
theorem dX3_take_73 : decode cX3_take 73 = .ok (.iload_n 1, 1) := by decide +kernel
theorem dX3_take_74 : decode cX3_take 74 = .ok (.invokevirtual 78, 3) := by decide +kernel
theorem dX3_take_77 : decode cX3_take 77 = .ok (.ireturn, 1) := by decide +kernel
theorem dX3_take_78 : decode cX3_take 78 = .ok (.aload_n 0, 1) := by decide +kernel
theorem dX3_take_79 : decode cX3_take 79 = .ok (.iload_n 1, 1) := by decide +kernel
theorem dX3_take_80 : decode cX3_take 80 = .ok (.invokevirtual 81, 3) := by decide +kernel
theorem dX3_take_83 : decode cX3_take 83 = .ok (.ireturn, 1) := by decide +kernel
theorem dX3_take_84 : decode cX3_take 84 = .ok (.iload_n 1, 1) := by decide +kernel
theorem dX3_take_85 : decode cX3_take 85 = .ok (.invokestatic 69, 3) := by decide +kernel
theorem dX3_take_88 : decode cX3_take 88 = .ok (.ifCond .eq 15, 3) := by decide +kernel
theorem dX3_take_91 : decode cX3_take 91 = .ok (.aload_n 0, 1) := by decide +kernel
theorem dX3_take_92 : decode cX3_take 92 = .ok (.iload_n 1, 1) := by decide +kernel
theorem dX3_take_93 : decode cX3_take 93 = .ok (.invokevirtual 75, 3) := by decide +kernel
theorem dX3_take_96 : decode cX3_take 96 = .ok (.ifCond .eq 7, 3) := by decide +kernel
theorem dX3_take_99 : decode cX3_take 99 = .ok (.iconst 1, 1) := by decide +kernel
theorem dX3_take_100 : decode cX3_take 100 = .ok (.goto 4, 3) := by decide +kernel
theorem dX3_take_103 : decode cX3_take 103 = .ok (.iconst 0, 1) := by decide +kernel
theorem dX3_take_104 : decode cX3_take 104 = .ok (.ireturn, 1) := by decide +kernel
theorem dX3_take_105 : decode cX3_take 105 = .ok (.aload_n 0, 1) := by decide +kernel
theorem dX3_take_106 : decode cX3_take 106 = .ok (.iload_n 1, 1) := by decide +kernel
theorem dX3_take_107 : decode cX3_take 107 = .ok (.invokevirtual 84, 3) := by decide +kernel
theorem dX3_take_110 : decode cX3_take 110 = .ok (.ireturn, 1) := by decide +kernel
theorem dX3_takeOne_0 : decode cX3_takeOne 0 = .ok (.iload_n 1, 1) := by decide +kernel
theorem dX3_takeOne_1 : decode cX3_takeOne 1 = .ok (.bipush 33, 2) := by decide +kernel
theorem dX3_takeOne_3 : decode cX3_takeOne 3 = .ok (.if_icmp .ne 31, 3) := by decide +kernel
theorem dX3_takeOne_6 : decode cX3_takeOne 6 = .ok (.aload_n 0, 1) := by decide +kernel
theorem dX3_takeOne_7 : decode cX3_takeOne 7 = .ok (.getfield 22, 3) := by decide +kernel
theorem dX3_takeOne_10 : decode cX3_takeOne 10 = .ok (.aload_n 0, 1) := by decide +kernel
theorem dX3_takeOne_11 : decode cX3_takeOne 11 = .ok (.getfield 45, 3) := by decide +kernel
theorem dX3_takeOne_14 : decode cX3_takeOne 14 = .ok (.aload_n 0, 1) := by decide +kernel
theorem dX3_takeOne_15 : decode cX3_takeOne 15 = .ok (.getfield 22, 3) := by decide +kernel
theorem dX3_takeOne_18 : decode cX3_takeOne 18 = .ok (.aload_n 0, 1) := by decide +kernel
theorem dX3_takeOne_19 : decode cX3_takeOne 19 = .ok (.getfield 45, 3) := by decide +kernel
theorem dX3_takeOne_22 : decode cX3_takeOne 22 = .ok (.baload, 1) := by decide +kernel
theorem dX3_takeOne_23 : decode cX3_takeOne 23 = .ok (.ifCond .ne 7, 3) := by decide +kernel
theorem dX3_takeOne_26 : decode cX3_takeOne 26 = .ok (.iconst 1, 1) := by decide +kernel
theorem dX3_takeOne_27 : decode cX3_takeOne 27 = .ok (.goto 4, 3) := by decide +kernel
theorem dX3_takeOne_30 : decode cX3_takeOne 30 = .ok (.iconst 0, 1) := by decide +kernel
theorem dX3_takeOne_31 : decode cX3_takeOne 31 = .ok (.bastore, 1) := by decide +kernel
theorem dX3_takeOne_32 : decode cX3_takeOne 32 = .ok (.iconst 1, 1) := by decide +kernel
theorem dX3_takeOne_33 : decode cX3_takeOne 33 = .ok (.ireturn, 1) := by decide +kernel
theorem dX3_takeOne_34 : decode cX3_takeOne 34 = .ok (.iload_n 1, 1) := by decide +kernel
theorem dX3_takeOne_35 : decode cX3_takeOne 35 = .ok (.bipush 40, 2) := by decide +kernel
theorem dX3_takeOne_37 : decode cX3_takeOne 37 = .ok (.if_icmp .ne 28, 3) := by decide +kernel
theorem dX3_takeOne_40 : decode cX3_takeOne 40 = .ok (.aload_n 0, 1) := by decide +kernel
theorem dX3_takeOne_41 : decode cX3_takeOne 41 = .ok (.getfield 45, 3) := by decide +kernel
theorem dX3_takeOne_44 : decode cX3_takeOne 44 = .ok (.bipush 80, 2) := by decide +kernel
theorem dX3_takeOne_46 : decode cX3_takeOne 46 = .ok (.if_icmp .ge 19, 3) := by decide +kernel
theorem dX3_takeOne_49 : decode cX3_takeOne 49 = .ok (.aload_n 0, 1) := by decide +kernel
theorem dX3_takeOne_50 : decode cX3_takeOne 50 = .ok (.dup, 1) := by decide +kernel
theorem dX3_takeOne_51 : decode cX3_takeOne 51 = .ok (.getfield 45, 3) := by decide +kernel
theorem dX3_takeOne_54 : decode cX3_takeOne 54 = .ok (.iconst 1, 1) := by decide +kernel
theorem dX3_takeOne_55 : decode cX3_takeOne 55 = .ok (.iadd, 1) := by decide +kernel
theorem dX3_takeOne_56 : decode cX3_takeOne 56 = .ok (.putfield 45, 3) := by decide +kernel
theorem dX3_takeOne_59 : decode cX3_takeOne 59 = .ok (.aload_n 0, 1) := by decide +kernel
theorem dX3_takeOne_60 : decode cX3_takeOne 60 = .ok (.invokevirtual 48, 3) := by decide +kernel
theorem dX3_takeOne_63 : decode cX3_takeOne 63 = .ok (.iconst 1, 1) := by decide +kernel
theorem dX3_takeOne_64 : decode cX3_takeOne 64 = .ok (.ireturn, 1) := by decide +kernel
theorem dX3_takeOne_65 : decode cX3_takeOne 65 = .ok (.aload_n 0, 1) := by decide +kernel
theorem dX3_takeOne_66 : decode cX3_takeOne 66 = .ok (.iload_n 1, 1) := by decide +kernel
theorem dX3_takeOne_67 : decode cX3_takeOne 67 = .ok (.invokestatic 87, 3) := by decide +kernel
theorem dX3_takeOne_70 : decode cX3_takeOne 70 = .ok (.putfield 91, 3) := by decide +kernel
theorem dX3_takeOne_73 : decode cX3_takeOne 73 = .ok (.aload_n 0, 1) := by decide +kernel
theorem dX3_takeOne_74 : decode cX3_takeOne 74 = .ok (.iconst 1, 1) := by decide +kernel
theorem dX3_takeOne_75 : decode cX3_takeOne 75 = .ok (.putfield 66, 3) := by decide +kernel
theorem dX3_takeOne_78 : decode cX3_takeOne 78 = .ok (.aload_n 0, 1) := by decide +kernel
theorem dX3_takeOne_79 : decode cX3_takeOne 79 = .ok (.getfield 91, 3) := by decide +kernel
theorem dX3_takeOne_82 : decode cX3_takeOne 82 = .ok (.ifCond .lt 7, 3) := by decide +kernel
theorem dX3_takeOne_85 : decode cX3_takeOne 85 = .ok (.iconst 1, 1) := by decide +kernel
theorem dX3_takeOne_86 : decode cX3_takeOne 86 = .ok (.goto 4, 3) := by decide +kernel
theorem dX3_takeOne_89 : decode cX3_takeOne 89 = .ok (.iconst 0, 1) := by decide +kernel
theorem dX3_takeOne_90 : decode cX3_takeOne 90 = .ok (.ireturn, 1) := by decide +kernel
theorem dX3_takeSign_0 : decode cX3_takeSign 0 = .ok (.aload_n 0, 1) := by decide +kernel
theorem dX3_takeSign_1 : decode cX3_takeSign 1 = .ok (.iload_n 1, 1) := by decide +kernel
theorem dX3_takeSign_2 : decode cX3_takeSign 2 = .ok (.putfield 94, 3) := by decide +kernel
theorem dX3_takeSign_5 : decode cX3_takeSign 5 = .ok (.aload_n 0, 1) := by decide +kernel
theorem dX3_takeSign_6 : decode cX3_takeSign 6 = .ok (.iconst 0, 1) := by decide +kernel
theorem dX3_takeSign_7 : decode cX3_takeSign 7 = .ok (.putfield 97, 3) := by decide +kernel
theorem dX3_takeSign_10 : decode cX3_takeSign 10 = .ok (.aload_n 0, 1) := by decide +kernel
theorem dX3_takeSign_11 : decode cX3_takeSign 11 = .ok (.iconst 0, 1) := by decide +kernel
theorem dX3_takeSign_12 : decode cX3_takeSign 12 = .ok (.putfield 72, 3) := by decide +kernel
theorem dX3_takeSign_15 : decode cX3_takeSign 15 = .ok (.aload_n 0, 1) := by decide +kernel
theorem dX3_takeSign_16 : decode cX3_takeSign 16 = .ok (.iconst 2, 1) := by decide +kernel
theorem dX3_takeSign_17 : decode cX3_takeSign 17 = .ok (.putfield 66, 3) := by decide +kernel
theorem dX3_takeSign_20 : decode cX3_takeSign 20 = .ok (.iload_n 1, 1) := by decide +kernel
theorem dX3_takeSign_21 : decode cX3_takeSign 21 = .ok (.bipush 60, 2) := by decide +kernel
theorem dX3_takeSign_23 : decode cX3_takeSign 23 = .ok (.if_icmp .eq 15, 3) := by decide +kernel
theorem dX3_takeSign_26 : decode cX3_takeSign 26 = .ok (.iload_n 1, 1) := by decide +kernel
theorem dX3_takeSign_27 : decode cX3_takeSign 27 = .ok (.bipush 61, 2) := by decide +kernel
theorem dX3_takeSign_29 : decode cX3_takeSign 29 = .ok (.if_icmp .eq 9, 3) := by decide +kernel
theorem dX3_takeSign_32 : decode cX3_takeSign 32 = .ok (.iload_n 1, 1) := by decide +kernel
theorem dX3_takeSign_33 : decode cX3_takeSign 33 = .ok (.bipush 62, 2) := by decide +kernel
theorem dX3_takeSign_35 : decode cX3_takeSign 35 = .ok (.if_icmp .ne 7, 3) := by decide +kernel
theorem dX3_takeSign_38 : decode cX3_takeSign 38 = .ok (.iconst 1, 1) := by decide +kernel
theorem dX3_takeSign_39 : decode cX3_takeSign 39 = .ok (.goto 4, 3) := by decide +kernel
theorem dX3_takeSign_42 : decode cX3_takeSign 42 = .ok (.iconst 0, 1) := by decide +kernel
theorem dX3_takeSign_43 : decode cX3_takeSign 43 = .ok (.ireturn, 1) := by decide +kernel
theorem dX3_takeDigit_0 : decode cX3_takeDigit 0 = .ok (.aload_n 0, 1) := by decide +kernel
theorem dX3_takeDigit_1 : decode cX3_takeDigit 1 = .ok (.aload_n 0, 1) := by decide +kernel
theorem dX3_takeDigit_2 : decode cX3_takeDigit 2 = .ok (.getfield 97, 3) := by decide +kernel
theorem dX3_takeDigit_5 : decode cX3_takeDigit 5 = .ok (.bipush 10, 2) := by decide +kernel
theorem dX3_takeDigit_7 : decode cX3_takeDigit 7 = .ok (.imul, 1) := by decide +kernel
theorem dX3_takeDigit_8 : decode cX3_takeDigit 8 = .ok (.iload_n 1, 1) := by decide +kernel
theorem dX3_takeDigit_9 : decode cX3_takeDigit 9 = .ok (.iadd, 1) := by decide +kernel
theorem dX3_takeDigit_10 : decode cX3_takeDigit 10 = .ok (.bipush 48, 2) := by decide +kernel
theorem dX3_takeDigit_12 : decode cX3_takeDigit 12 = .ok (.isub, 1) := by decide +kernel
theorem dX3_takeDigit_13 : decode cX3_takeDigit 13 = .ok (.putfield 97, 3) := by decide +kernel
theorem dX3_takeDigit_16 : decode cX3_takeDigit 16 = .ok (.aload_n 0, 1) := by decide +kernel
theorem dX3_takeDigit_17 : decode cX3_takeDigit 17 = .ok (.dup, 1) := by decide +kernel
theorem dX3_takeDigit_18 : decode cX3_takeDigit 18 = .ok (.getfield 72, 3) := by decide +kernel
theorem dX3_takeDigit_21 : decode cX3_takeDigit 21 = .ok (.iconst 1, 1) := by decide +kernel
theorem dX3_takeDigit_22 : decode cX3_takeDigit 22 = .ok (.iadd, 1) := by decide +kernel
theorem dX3_takeDigit_23 : decode cX3_takeDigit 23 = .ok (.putfield 72, 3) := by decide +kernel
theorem dX3_takeDigit_26 : decode cX3_takeDigit 26 = .ok (.aload_n 0, 1) := by decide +kernel
theorem dX3_takeDigit_27 : decode cX3_takeDigit 27 = .ok (.iconst 3, 1) := by decide +kernel
theorem dX3_takeDigit_28 : decode cX3_takeDigit 28 = .ok (.putfield 66, 3) := by decide +kernel
theorem dX3_takeDigit_31 : decode cX3_takeDigit 31 = .ok (.iconst 1, 1) := by decide +kernel
theorem dX3_takeDigit_32 : decode cX3_takeDigit 32 = .ok (.ireturn, 1) := by decide +kernel
theorem dX3_takeJoint_0 : decode cX3_takeJoint 0 = .ok (.iload_n 1, 1) := by decide +kernel
theorem dX3_takeJoint_1 : decode cX3_takeJoint 1 = .ok (.bipush 41, 2) := by decide +kernel
theorem dX3_takeJoint_3 : decode cX3_takeJoint 3 = .ok (.if_icmp .ne 57, 3) := by decide +kernel
theorem dX3_takeJoint_6 : decode cX3_takeJoint 6 = .ok (.aload_n 0, 1) := by decide +kernel
theorem dX3_takeJoint_7 : decode cX3_takeJoint 7 = .ok (.getfield 45, 3) := by decide +kernel
theorem dX3_takeJoint_10 : decode cX3_takeJoint 10 = .ok (.ifCond .le 50, 3) := by decide +kernel
theorem dX3_takeJoint_13 : decode cX3_takeJoint 13 = .ok (.aload_n 0, 1) := by decide +kernel
theorem dX3_takeJoint_14 : decode cX3_takeJoint 14 = .ok (.getfield 15, 3) := by decide +kernel
theorem dX3_takeJoint_17 : decode cX3_takeJoint 17 = .ok (.aload_n 0, 1) := by decide +kernel
theorem dX3_takeJoint_18 : decode cX3_takeJoint 18 = .ok (.getfield 45, 3) := by decide +kernel
theorem dX3_takeJoint_21 : decode cX3_takeJoint 21 = .ok (.baload, 1) := by decide +kernel
theorem dX3_takeJoint_22 : decode cX3_takeJoint 22 = .ok (.ifCond .ne 15, 3) := by decide +kernel
theorem dX3_takeJoint_25 : decode cX3_takeJoint 25 = .ok (.aload_n 0, 1) := by decide +kernel
theorem dX3_takeJoint_26 : decode cX3_takeJoint 26 = .ok (.getfield 19, 3) := by decide +kernel
theorem dX3_takeJoint_29 : decode cX3_takeJoint 29 = .ok (.aload_n 0, 1) := by decide +kernel
theorem dX3_takeJoint_30 : decode cX3_takeJoint 30 = .ok (.getfield 45, 3) := by decide +kernel
theorem dX3_takeJoint_33 : decode cX3_takeJoint 33 = .ok (.baload, 1) := by decide +kernel
theorem dX3_takeJoint_34 : decode cX3_takeJoint 34 = .ok (.ifCond .eq 7, 3) := by decide +kernel
theorem dX3_takeJoint_37 : decode cX3_takeJoint 37 = .ok (.iconst 1, 1) := by decide +kernel
theorem dX3_takeJoint_38 : decode cX3_takeJoint 38 = .ok (.goto 4, 3) := by decide +kernel
theorem dX3_takeJoint_41 : decode cX3_takeJoint 41 = .ok (.iconst 0, 1) := by decide +kernel
theorem dX3_takeJoint_42 : decode cX3_takeJoint 42 = .ok (.istore_n 2, 1) := by decide +kernel
theorem dX3_takeJoint_43 : decode cX3_takeJoint 43 = .ok (.aload_n 0, 1) := by decide +kernel
theorem dX3_takeJoint_44 : decode cX3_takeJoint 44 = .ok (.dup, 1) := by decide +kernel
theorem dX3_takeJoint_45 : decode cX3_takeJoint 45 = .ok (.getfield 45, 3) := by decide +kernel
theorem dX3_takeJoint_48 : decode cX3_takeJoint 48 = .ok (.iconst 1, 1) := by decide +kernel
theorem dX3_takeJoint_49 : decode cX3_takeJoint 49 = .ok (.isub, 1) := by decide +kernel
theorem dX3_takeJoint_50 : decode cX3_takeJoint 50 = .ok (.putfield 45, 3) := by decide +kernel
theorem dX3_takeJoint_53 : decode cX3_takeJoint 53 = .ok (.aload_n 0, 1) := by decide +kernel
theorem dX3_takeJoint_54 : decode cX3_takeJoint 54 = .ok (.iload_n 2, 1) := by decide +kernel
theorem dX3_takeJoint_55 : decode cX3_takeJoint 55 = .ok (.invokevirtual 100, 3) := by decide +kernel
theorem dX3_takeJoint_58 : decode cX3_takeJoint 58 = .ok (.iconst 1, 1) := by decide +kernel
theorem dX3_takeJoint_59 : decode cX3_takeJoint 59 = .ok (.ireturn, 1) := by decide +kernel
theorem dX3_takeJoint_60 : decode cX3_takeJoint 60 = .ok (.iload_n 1, 1) := by decide +kernel
theorem dX3_takeJoint_61 : decode cX3_takeJoint 61 = .ok (.bipush 124, 2) := by decide +kernel
theorem dX3_takeJoint_63 : decode cX3_takeJoint 63 = .ok (.if_icmp .ne 51, 3) := by decide +kernel
theorem dX3_takeJoint_66 : decode cX3_takeJoint 66 = .ok (.aload_n 0, 1) := by decide +kernel
theorem dX3_takeJoint_67 : decode cX3_takeJoint 67 = .ok (.getfield 15, 3) := by decide +kernel
theorem dX3_takeJoint_70 : decode cX3_takeJoint 70 = .ok (.aload_n 0, 1) := by decide +kernel
theorem dX3_takeJoint_71 : decode cX3_takeJoint 71 = .ok (.getfield 45, 3) := by decide +kernel
theorem dX3_takeJoint_74 : decode cX3_takeJoint 74 = .ok (.aload_n 0, 1) := by decide +kernel
theorem dX3_takeJoint_75 : decode cX3_takeJoint 75 = .ok (.getfield 15, 3) := by decide +kernel
theorem dX3_takeJoint_78 : decode cX3_takeJoint 78 = .ok (.aload_n 0, 1) := by decide +kernel
theorem dX3_takeJoint_79 : decode cX3_takeJoint 79 = .ok (.getfield 45, 3) := by decide +kernel
theorem dX3_takeJoint_82 : decode cX3_takeJoint 82 = .ok (.baload, 1) := by decide +kernel
theorem dX3_takeJoint_83 : decode cX3_takeJoint 83 = .ok (.ifCond .ne 15, 3) := by decide +kernel
theorem dX3_takeJoint_86 : decode cX3_takeJoint 86 = .ok (.aload_n 0, 1) := by decide +kernel
theorem dX3_takeJoint_87 : decode cX3_takeJoint 87 = .ok (.getfield 19, 3) := by decide +kernel
theorem dX3_takeJoint_90 : decode cX3_takeJoint 90 = .ok (.aload_n 0, 1) := by decide +kernel
theorem dX3_takeJoint_91 : decode cX3_takeJoint 91 = .ok (.getfield 45, 3) := by decide +kernel
theorem dX3_takeJoint_94 : decode cX3_takeJoint 94 = .ok (.baload, 1) := by decide +kernel
theorem dX3_takeJoint_95 : decode cX3_takeJoint 95 = .ok (.ifCond .eq 7, 3) := by decide +kernel
theorem dX3_takeJoint_98 : decode cX3_takeJoint 98 = .ok (.iconst 1, 1) := by decide +kernel
theorem dX3_takeJoint_99 : decode cX3_takeJoint 99 = .ok (.goto 4, 3) := by decide +kernel
theorem dX3_takeJoint_102 : decode cX3_takeJoint 102 = .ok (.iconst 0, 1) := by decide +kernel
theorem dX3_takeJoint_103 : decode cX3_takeJoint 103 = .ok (.bastore, 1) := by decide +kernel
theorem dX3_takeJoint_104 : decode cX3_takeJoint 104 = .ok (.aload_n 0, 1) := by decide +kernel
theorem dX3_takeJoint_105 : decode cX3_takeJoint 105 = .ok (.getfield 19, 3) := by decide +kernel
theorem dX3_takeJoint_108 : decode cX3_takeJoint 108 = .ok (.aload_n 0, 1) := by decide +kernel
theorem dX3_takeJoint_109 : decode cX3_takeJoint 109 = .ok (.getfield 45, 3) := by decide +kernel
theorem dX3_takeJoint_112 : decode cX3_takeJoint 112 = .ok (.iconst 1, 1) := by decide +kernel
theorem dX3_takeJoint_113 : decode cX3_takeJoint 113 = .ok (.bastore, 1) := by decide +kernel
theorem dX3_takeJoint_114 : decode cX3_takeJoint 114 = .ok (.aload_n 0, 1) := by decide +kernel
theorem dX3_takeJoint_115 : decode cX3_takeJoint 115 = .ok (.iconst 0, 1) := by decide +kernel
theorem dX3_takeJoint_116 : decode cX3_takeJoint 116 = .ok (.putfield 66, 3) := by decide +kernel
theorem dX3_takeJoint_119 : decode cX3_takeJoint 119 = .ok (.iload_n 1, 1) := by decide +kernel
theorem dX3_takeJoint_120 : decode cX3_takeJoint 120 = .ok (.bipush 124, 2) := by decide +kernel
theorem dX3_takeJoint_122 : decode cX3_takeJoint 122 = .ok (.if_icmp .eq 9, 3) := by decide +kernel
theorem dX3_takeJoint_125 : decode cX3_takeJoint 125 = .ok (.iload_n 1, 1) := by decide +kernel
theorem dX3_takeJoint_126 : decode cX3_takeJoint 126 = .ok (.bipush 38, 2) := by decide +kernel
theorem dX3_takeJoint_128 : decode cX3_takeJoint 128 = .ok (.if_icmp .ne 7, 3) := by decide +kernel
theorem dX3_takeJoint_131 : decode cX3_takeJoint 131 = .ok (.iconst 1, 1) := by decide +kernel
theorem dX3_takeJoint_132 : decode cX3_takeJoint 132 = .ok (.goto 4, 3) := by decide +kernel
theorem dX3_takeJoint_135 : decode cX3_takeJoint 135 = .ok (.iconst 0, 1) := by decide +kernel
theorem dX3_takeJoint_136 : decode cX3_takeJoint 136 = .ok (.ireturn, 1) := by decide +kernel
theorem dX3_isDigit_0 : decode cX3_isDigit 0 = .ok (.iload_n 0, 1) := by decide +kernel
theorem dX3_isDigit_1 : decode cX3_isDigit 1 = .ok (.bipush 48, 2) := by decide +kernel
theorem dX3_isDigit_3 : decode cX3_isDigit 3 = .ok (.bipush 57, 2) := by decide +kernel
theorem dX3_isDigit_5 : decode cX3_isDigit 5 = .ok (.invokestatic 104, 3) := by decide +kernel
theorem dX3_isDigit_8 : decode cX3_isDigit 8 = .ok (.ireturn, 1) := by decide +kernel
theorem dX3_openLevel_0 : decode cX3_openLevel 0 = .ok (.aload_n 0, 1) := by decide +kernel
theorem dX3_openLevel_1 : decode cX3_openLevel 1 = .ok (.getfield 15, 3) := by decide +kernel
theorem dX3_openLevel_4 : decode cX3_openLevel 4 = .ok (.aload_n 0, 1) := by decide +kernel
theorem dX3_openLevel_5 : decode cX3_openLevel 5 = .ok (.getfield 45, 3) := by decide +kernel
theorem dX3_openLevel_8 : decode cX3_openLevel 8 = .ok (.iconst 0, 1) := by decide +kernel
theorem dX3_openLevel_9 : decode cX3_openLevel 9 = .ok (.bastore, 1) := by decide +kernel
theorem dX3_openLevel_10 : decode cX3_openLevel 10 = .ok (.aload_n 0, 1) := by decide +kernel
theorem dX3_openLevel_11 : decode cX3_openLevel 11 = .ok (.getfield 19, 3) := by decide +kernel
theorem dX3_openLevel_14 : decode cX3_openLevel 14 = .ok (.aload_n 0, 1) := by decide +kernel
theorem dX3_openLevel_15 : decode cX3_openLevel 15 = .ok (.getfield 45, 3) := by decide +kernel
theorem dX3_openLevel_18 : decode cX3_openLevel 18 = .ok (.iconst 1, 1) := by decide +kernel
theorem dX3_openLevel_19 : decode cX3_openLevel 19 = .ok (.bastore, 1) := by decide +kernel
theorem dX3_openLevel_20 : decode cX3_openLevel 20 = .ok (.aload_n 0, 1) := by decide +kernel
theorem dX3_openLevel_21 : decode cX3_openLevel 21 = .ok (.getfield 22, 3) := by decide +kernel
theorem dX3_openLevel_24 : decode cX3_openLevel 24 = .ok (.aload_n 0, 1) := by decide +kernel
theorem dX3_openLevel_25 : decode cX3_openLevel 25 = .ok (.getfield 45, 3) := by decide +kernel
theorem dX3_openLevel_28 : decode cX3_openLevel 28 = .ok (.iconst 0, 1) := by decide +kernel
theorem dX3_openLevel_29 : decode cX3_openLevel 29 = .ok (.bastore, 1) := by decide +kernel
theorem dX3_openLevel_30 : decode cX3_openLevel 30 = .ok (.aload_n 0, 1) := by decide +kernel
theorem dX3_openLevel_31 : decode cX3_openLevel 31 = .ok (.iconst 0, 1) := by decide +kernel
theorem dX3_openLevel_32 : decode cX3_openLevel 32 = .ok (.putfield 66, 3) := by decide +kernel
theorem dX3_openLevel_35 : decode cX3_openLevel 35 = .ok (.return_, 1) := by decide +kernel
theorem dX3_endNumber_0 : decode cX3_endNumber 0 = .ok (.aload_n 0, 1) := by decide +kernel
theorem dX3_endNumber_1 : decode cX3_endNumber 1 = .ok (.getfield 66, 3) := by decide +kernel
theorem dX3_endNumber_4 : decode cX3_endNumber 4 = .ok (.iconst 3, 1) := by decide +kernel
theorem dX3_endNumber_5 : decode cX3_endNumber 5 = .ok (.if_icmp .ne 11, 3) := by decide +kernel
theorem dX3_endNumber_8 : decode cX3_endNumber 8 = .ok (.aload_n 0, 1) := by decide +kernel
theorem dX3_endNumber_9 : decode cX3_endNumber 9 = .ok (.aload_n 0, 1) := by decide +kernel
theorem dX3_endNumber_10 : decode cX3_endNumber 10 = .ok (.invokevirtual 108, 3) := by decide +kernel
theorem dX3_endNumber_13 : decode cX3_endNumber 13 = .ok (.invokevirtual 100, 3) := by decide +kernel
theorem dX3_endNumber_16 : decode cX3_endNumber 16 = .ok (.return_, 1) := by decide +kernel
theorem dX3_compares_0 : decode cX3_compares 0 = .ok (.aload_n 0, 1) := by decide +kernel
theorem dX3_compares_1 : decode cX3_compares 1 = .ok (.getfield 9, 3) := by decide +kernel
theorem dX3_compares_4 : decode cX3_compares 4 = .ok (.aload_n 0, 1) := by decide +kernel
theorem dX3_compares_5 : decode cX3_compares 5 = .ok (.getfield 91, 3) := by decide +kernel
theorem dX3_compares_8 : decode cX3_compares 8 = .ok (.iaload, 1) := by decide +kernel
theorem dX3_compares_9 : decode cX3_compares 9 = .ok (.istore_n 1, 1) := by decide +kernel
theorem dX3_compares_10 : decode cX3_compares 10 = .ok (.aload_n 0, 1) := by decide +kernel
theorem dX3_compares_11 : decode cX3_compares 11 = .ok (.getfield 94, 3) := by decide +kernel
theorem dX3_compares_14 : decode cX3_compares 14 = .ok (.bipush 60, 2) := by decide +kernel
theorem dX3_compares_16 : decode cX3_compares 16 = .ok (.if_icmp .ne 17, 3) := by decide +kernel
theorem dX3_compares_19 : decode cX3_compares 19 = .ok (.iload_n 1, 1) := by decide +kernel
theorem dX3_compares_20 : decode cX3_compares 20 = .ok (.aload_n 0, 1) := by decide +kernel
theorem dX3_compares_21 : decode cX3_compares 21 = .ok (.getfield 97, 3) := by decide +kernel
theorem dX3_compares_24 : decode cX3_compares 24 = .ok (.if_icmp .ge 7, 3) := by decide +kernel
theorem dX3_compares_27 : decode cX3_compares 27 = .ok (.iconst 1, 1) := by decide +kernel
theorem dX3_compares_28 : decode cX3_compares 28 = .ok (.goto 4, 3) := by decide +kernel
theorem dX3_compares_31 : decode cX3_compares 31 = .ok (.iconst 0, 1) := by decide +kernel
theorem dX3_compares_32 : decode cX3_compares 32 = .ok (.ireturn, 1) := by decide +kernel
theorem dX3_compares_33 : decode cX3_compares 33 = .ok (.aload_n 0, 1) := by decide +kernel
theorem dX3_compares_34 : decode cX3_compares 34 = .ok (.getfield 94, 3) := by decide +kernel
theorem dX3_compares_37 : decode cX3_compares 37 = .ok (.bipush 62, 2) := by decide +kernel
theorem dX3_compares_39 : decode cX3_compares 39 = .ok (.if_icmp .ne 19, 3) := by decide +kernel
theorem dX3_compares_42 : decode cX3_compares 42 = .ok (.iload_n 1, 1) := by decide +kernel
theorem dX3_compares_43 : decode cX3_compares 43 = .ok (.aload_n 0, 1) := by decide +kernel
theorem dX3_compares_44 : decode cX3_compares 44 = .ok (.getfield 97, 3) := by decide +kernel
theorem dX3_compares_47 : decode cX3_compares 47 = .ok (.if_icmp .le 7, 3) := by decide +kernel
theorem dX3_compares_50 : decode cX3_compares 50 = .ok (.iconst 1, 1) := by decide +kernel
theorem dX3_compares_51 : decode cX3_compares 51 = .ok (.goto 20, 3) := by decide +kernel
theorem dX3_compares_54 : decode cX3_compares 54 = .ok (.iconst 0, 1) := by decide +kernel
theorem dX3_compares_55 : decode cX3_compares 55 = .ok (.goto 16, 3) := by decide +kernel
theorem dX3_compares_58 : decode cX3_compares 58 = .ok (.iload_n 1, 1) := by decide +kernel
theorem dX3_compares_59 : decode cX3_compares 59 = .ok (.aload_n 0, 1) := by decide +kernel
theorem dX3_compares_60 : decode cX3_compares 60 = .ok (.getfield 97, 3) := by decide +kernel
theorem dX3_compares_63 : decode cX3_compares 63 = .ok (.if_icmp .ne 7, 3) := by decide +kernel
theorem dX3_compares_66 : decode cX3_compares 66 = .ok (.iconst 1, 1) := by decide +kernel
theorem dX3_compares_67 : decode cX3_compares 67 = .ok (.goto 4, 3) := by decide +kernel
theorem dX3_compares_70 : decode cX3_compares 70 = .ok (.iconst 0, 1) := by decide +kernel
theorem dX3_compares_71 : decode cX3_compares 71 = .ok (.ireturn, 1) := by decide +kernel
theorem dX3_endOne_0 : decode cX3_endOne 0 = .ok (.aload_n 0, 1) := by decide +kernel
theorem dX3_endOne_1 : decode cX3_endOne 1 = .ok (.getfield 19, 3) := by decide +kernel
theorem dX3_endOne_4 : decode cX3_endOne 4 = .ok (.aload_n 0, 1) := by decide +kernel
theorem dX3_endOne_5 : decode cX3_endOne 5 = .ok (.getfield 45, 3) := by decide +kernel
theorem dX3_endOne_8 : decode cX3_endOne 8 = .ok (.aload_n 0, 1) := by decide +kernel
theorem dX3_endOne_9 : decode cX3_endOne 9 = .ok (.getfield 19, 3) := by decide +kernel
theorem dX3_endOne_12 : decode cX3_endOne 12 = .ok (.aload_n 0, 1) := by decide +kernel
theorem dX3_endOne_13 : decode cX3_endOne 13 = .ok (.getfield 45, 3) := by decide +kernel
theorem dX3_endOne_16 : decode cX3_endOne 16 = .ok (.baload, 1) := by decide +kernel
theorem dX3_endOne_17 : decode cX3_endOne 17 = .ok (.ifCond .eq 20, 3) := by decide +kernel
theorem dX3_endOne_20 : decode cX3_endOne 20 = .ok (.iload_n 1, 1) := by decide +kernel
theorem dX3_endOne_21 : decode cX3_endOne 21 = .ok (.aload_n 0, 1) := by decide +kernel
theorem dX3_endOne_22 : decode cX3_endOne 22 = .ok (.getfield 22, 3) := by decide +kernel
theorem dX3_endOne_25 : decode cX3_endOne 25 = .ok (.aload_n 0, 1) := by decide +kernel
theorem dX3_endOne_26 : decode cX3_endOne 26 = .ok (.getfield 45, 3) := by decide +kernel
theorem dX3_endOne_29 : decode cX3_endOne 29 = .ok (.baload, 1) := by decide +kernel
theorem dX3_endOne_30 : decode cX3_endOne 30 = .ok (.if_icmp .eq 7, 3) := by decide +kernel
theorem dX3_endOne_33 : decode cX3_endOne 33 = .ok (.iconst 1, 1) := by decide +kernel
theorem dX3_endOne_34 : decode cX3_endOne 34 = .ok (.goto 4, 3) := by decide +kernel
theorem dX3_endOne_37 : decode cX3_endOne 37 = .ok (.iconst 0, 1) := by decide +kernel
theorem dX3_endOne_38 : decode cX3_endOne 38 = .ok (.bastore, 1) := by decide +kernel
theorem dX3_endOne_39 : decode cX3_endOne 39 = .ok (.aload_n 0, 1) := by decide +kernel
theorem dX3_endOne_40 : decode cX3_endOne 40 = .ok (.getfield 22, 3) := by decide +kernel
theorem dX3_endOne_43 : decode cX3_endOne 43 = .ok (.aload_n 0, 1) := by decide +kernel
theorem dX3_endOne_44 : decode cX3_endOne 44 = .ok (.getfield 45, 3) := by decide +kernel
theorem dX3_endOne_47 : decode cX3_endOne 47 = .ok (.iconst 0, 1) := by decide +kernel
theorem dX3_endOne_48 : decode cX3_endOne 48 = .ok (.bastore, 1) := by decide +kernel
theorem dX3_endOne_49 : decode cX3_endOne 49 = .ok (.aload_n 0, 1) := by decide +kernel
theorem dX3_endOne_50 : decode cX3_endOne 50 = .ok (.iconst 4, 1) := by decide +kernel
theorem dX3_endOne_51 : decode cX3_endOne 51 = .ok (.putfield 66, 3) := by decide +kernel
theorem dX3_endOne_54 : decode cX3_endOne 54 = .ok (.return_, 1) := by decide +kernel
theorem dX4_init_0 : decode cX4_init 0 = .ok (.aload_n 0, 1) := by decide +kernel
theorem dX4_init_1 : decode cX4_init 1 = .ok (.invokespecial 3, 3) := by decide +kernel
theorem dX4_init_4 : decode cX4_init 4 = .ok (.aload_n 0, 1) := by decide +kernel
theorem dX4_init_5 : decode cX4_init 5 = .ok (.bipush 100, 2) := by decide +kernel
theorem dX4_init_7 : decode cX4_init 7 = .ok (.putfield 9, 3) := by decide +kernel
theorem dX4_init_10 : decode cX4_init 10 = .ok (.aload_n 0, 1) := by decide +kernel
theorem dX4_init_11 : decode cX4_init 11 = .ok (.sipush 900, 3) := by decide +kernel
theorem dX4_init_14 : decode cX4_init 14 = .ok (.putfield 15, 3) := by decide +kernel
theorem dX4_init_17 : decode cX4_init 17 = .ok (.aload_n 0, 1) := by decide +kernel
theorem dX4_init_18 : decode cX4_init 18 = .ok (.bipush 8, 2) := by decide +kernel
theorem dX4_init_20 : decode cX4_init 20 = .ok (.newarray .int, 2) := by decide +kernel
theorem dX4_init_22 : decode cX4_init 22 = .ok (.putfield 18, 3) := by decide +kernel
theorem dX4_init_25 : decode cX4_init 25 = .ok (.aload_n 0, 1) := by decide +kernel
theorem dX4_init_26 : decode cX4_init 26 = .ok (.bipush 8, 2) := by decide +kernel
theorem dX4_init_28 : decode cX4_init 28 = .ok (.newarray .int, 2) := by decide +kernel
theorem dX4_init_30 : decode cX4_init 30 = .ok (.putfield 22, 3) := by decide +kernel
theorem dX4_init_33 : decode cX4_init 33 = .ok (.aload_n 0, 1) := by decide +kernel
theorem dX4_init_34 : decode cX4_init 34 = .ok (.bipush 8, 2) := by decide +kernel
theorem dX4_init_36 : decode cX4_init 36 = .ok (.newarray .int, 2) := by decide +kernel
theorem dX4_init_38 : decode cX4_init 38 = .ok (.putfield 25, 3) := by decide +kernel
theorem dX4_init_41 : decode cX4_init 41 = .ok (.aload_n 0, 1) := by decide +kernel
theorem dX4_init_42 : decode cX4_init 42 = .ok (.sipush 2048, 3) := by decide +kernel
theorem dX4_init_45 : decode cX4_init 45 = .ok (.newarray .int, 2) := by decide +kernel
theorem dX4_init_47 : decode cX4_init 47 = .ok (.putfield 28, 3) := by decide +kernel
theorem dX4_init_50 : decode cX4_init 50 = .ok (.return_, 1) := by decide +kernel
theorem dX4_changeLength_0 : decode cX4_changeLength 0 = .ok (.iload_n 1, 1) := by decide +kernel
theorem dX4_changeLength_1 : decode cX4_changeLength 1 = .ok (.ifCond .eq 14, 3) := by decide +kernel
theorem dX4_changeLength_4 : decode cX4_changeLength 4 = .ok (.iload_n 2, 1) := by decide +kernel
theorem dX4_changeLength_5 : decode cX4_changeLength 5 = .ok (.aload_n 0, 1) := by decide +kernel
theorem dX4_changeLength_6 : decode cX4_changeLength 6 = .ok (.getfield 9, 3) := by decide +kernel
theorem dX4_changeLength_9 : decode cX4_changeLength 9 = .ok (.if_icmp .ge 17, 3) := by decide +kernel
theorem dX4_changeLength_12 : decode cX4_changeLength 12 = .ok (.goto 11, 3) := by decide +kernel
theorem dX4_changeLength_15 : decode cX4_changeLength 15 = .ok (.iload_n 2, 1) := by decide +kernel
theorem dX4_changeLength_16 : decode cX4_changeLength 16 = .ok (.aload_n 0, 1) := by decide +kernel
theorem dX4_changeLength_17 : decode cX4_changeLength 17 = .ok (.getfield 15, 3) := by decide +kernel
theorem dX4_changeLength_20 : decode cX4_changeLength 20 = .ok (.if_icmp .le 6, 3) := by decide +kernel
theorem dX4_changeLength_23 : decode cX4_changeLength 23 = .ok (.bipush (-3), 2) := by decide +kernel
theorem dX4_changeLength_25 : decode cX4_changeLength 25 = .ok (.ireturn, 1) := by decide +kernel
theorem dX4_changeLength_26 : decode cX4_changeLength 26 = .ok (.iload_n 1, 1) := by decide +kernel
theorem dX4_changeLength_27 : decode cX4_changeLength 27 = .ok (.ifCond .eq 10, 3) := by decide +kernel
theorem dX4_changeLength_30 : decode cX4_changeLength 30 = .ok (.aload_n 0, 1) := by decide +kernel
theorem dX4_changeLength_31 : decode cX4_changeLength 31 = .ok (.getfield 15, 3) := by decide +kernel
theorem dX4_changeLength_34 : decode cX4_changeLength 34 = .ok (.goto 7, 3) := by decide +kernel
theorem dX4_changeLength_37 : decode cX4_changeLength 37 = .ok (.aload_n 0, 1) := by decide +kernel
theorem dX4_changeLength_38 : decode cX4_changeLength 38 = .ok (.getfield 9, 3) := by decide +kernel
theorem dX4_changeLength_41 : decode cX4_changeLength 41 = .ok (.istore_n 3, 1) := by decide +kernel
theorem dX4_changeLength_42 : decode cX4_changeLength 42 = .ok (.iload_n 1, 1) := by decide +kernel
theorem dX4_changeLength_43 : decode cX4_changeLength 43 = .ok (.ifCond .eq 11, 3) := by decide +kernel
theorem dX4_changeLength_46 : decode cX4_changeLength 46 = .ok (.aload_n 0, 1) := by decide +kernel
theorem dX4_changeLength_47 : decode cX4_changeLength 47 = .ok (.iload_n 2, 1) := by decide +kernel
theorem dX4_changeLength_48 : decode cX4_changeLength 48 = .ok (.putfield 15, 3) := by decide +kernel
theorem dX4_changeLength_51 : decode cX4_changeLength 51 = .ok (.goto 8, 3) := by decide +kernel
theorem dX4_changeLength_54 : decode cX4_changeLength 54 = .ok (.aload_n 0, 1) := by decide +kernel
theorem dX4_changeLength_55 : decode cX4_changeLength 55 = .ok (.iload_n 2, 1) := by decide +kernel
theorem dX4_changeLength_56 : decode cX4_changeLength 56 = .ok (.putfield 9, 3) := by decide +kernel
theorem dX4_changeLength_59 : decode cX4_changeLength 59 = .ok (.iload_n 3, 1) := by decide +kernel
theorem dX4_changeLength_60 : decode cX4_changeLength 60 = .ok (.ireturn, 1) := by decide +kernel
theorem dX4_keepApart_0 : decode cX4_keepApart 0 = .ok (.aload_n 0, 1) := by decide +kernel
theorem dX4_keepApart_1 : decode cX4_keepApart 1 = .ok (.getfield 18, 3) := by decide +kernel
theorem dX4_keepApart_4 : decode cX4_keepApart 4 = .ok (.iload_n 1, 1) := by decide +kernel
theorem dX4_keepApart_5 : decode cX4_keepApart 5 = .ok (.iaload, 1) := by decide +kernel
theorem dX4_keepApart_6 : decode cX4_keepApart 6 = .ok (.iload_n 2, 1) := by decide +kernel
theorem dX4_keepApart_7 : decode cX4_keepApart 7 = .ok (.invokestatic 31, 3) := by decide +kernel
theorem dX4_keepApart_10 : decode cX4_keepApart 10 = .ok (.istore 4, 2) := by decide +kernel
theorem dX4_keepApart_12 : decode cX4_keepApart 12 = .ok (.aload_n 0, 1) := by decide +kernel
theorem dX4_keepApart_13 : decode cX4_keepApart 13 = .ok (.getfield 18, 3) := by decide +kernel
theorem dX4_keepApart_16 : decode cX4_keepApart 16 = .ok (.iload_n 1, 1) := by decide +kernel
theorem dX4_keepApart_17 : decode cX4_keepApart 17 = .ok (.aload_n 0, 1) := by decide +kernel
theorem dX4_keepApart_18 : decode cX4_keepApart 18 = .ok (.getfield 18, 3) := by decide +kernel
theorem dX4_keepApart_21 : decode cX4_keepApart 21 = .ok (.iload_n 1, 1) := by decide +kernel
theorem dX4_keepApart_22 : decode cX4_keepApart 22 = .ok (.iaload, 1) := by decide +kernel
theorem dX4_keepApart_23 : decode cX4_keepApart 23 = .ok (.iload_n 2, 1) := by decide +kernel
theorem dX4_keepApart_24 : decode cX4_keepApart 24 = .ok (.iload_n 3, 1) := by decide +kernel
theorem dX4_keepApart_25 : decode cX4_keepApart 25 = .ok (.invokestatic 35, 3) := by decide +kernel
theorem dX4_keepApart_28 : decode cX4_keepApart 28 = .ok (.iastore, 1) := by decide +kernel
theorem dX4_keepApart_29 : decode cX4_keepApart 29 = .ok (.aload_n 0, 1) := by decide +kernel
theorem dX4_keepApart_30 : decode cX4_keepApart 30 = .ok (.getfield 18, 3) := by decide +kernel
theorem dX4_keepApart_33 : decode cX4_keepApart 33 = .ok (.iload_n 2, 1) := by decide +kernel
theorem dX4_keepApart_34 : decode cX4_keepApart 34 = .ok (.aload_n 0, 1) := by decide +kernel
theorem dX4_keepApart_35 : decode cX4_keepApart 35 = .ok (.getfield 18, 3) := by decide +kernel
theorem dX4_keepApart_38 : decode cX4_keepApart 38 = .ok (.iload_n 2, 1) := by decide +kernel
theorem dX4_keepApart_39 : decode cX4_keepApart 39 = .ok (.iaload, 1) := by decide +kernel
theorem dX4_keepApart_40 : decode cX4_keepApart 40 = .ok (.iload_n 1, 1) := by decide +kernel
theorem dX4_keepApart_41 : decode cX4_keepApart 41 = .ok (.iload_n 3, 1) := by decide +kernel
theorem dX4_keepApart_42 : decode cX4_keepApart 42 = .ok (.invokestatic 35, 3) := by decide +kernel
theorem dX4_keepApart_45 : decode cX4_keepApart 45 = .ok (.iastore, 1) := by decide +kernel
theorem dX4_keepApart_46 : decode cX4_keepApart 46 = .ok (.iload 4, 2) := by decide +kernel
theorem dX4_keepApart_48 : decode cX4_keepApart 48 = .ok (.invokestatic 39, 3) := by decide +kernel
theorem dX4_keepApart_51 : decode cX4_keepApart 51 = .ok (.ireturn, 1) := by decide +kernel
theorem dX4_clearList_0 : decode cX4_clearList 0 = .ok (.aload_n 0, 1) := by decide +kernel
theorem dX4_clearList_1 : decode cX4_clearList 1 = .ok (.iconst 0, 1) := by decide +kernel
theorem dX4_clearList_2 : decode cX4_clearList 2 = .ok (.putfield 43, 3) := by decide +kernel
theorem dX4_clearList_5 : decode cX4_clearList 5 = .ok (.aload_n 0, 1) := by decide +kernel
theorem dX4_clearList_6 : decode cX4_clearList 6 = .ok (.iconst 0, 1) := by decide +kernel
theorem dX4_clearList_7 : decode cX4_clearList 7 = .ok (.putfield 46, 3) := by decide +kernel
theorem dX4_clearList_10 : decode cX4_clearList 10 = .ok (.aload_n 0, 1) := by decide +kernel
theorem dX4_clearList_11 : decode cX4_clearList 11 = .ok (.iconst 0, 1) := by decide +kernel
theorem dX4_clearList_12 : decode cX4_clearList 12 = .ok (.putfield 49, 3) := by decide +kernel
theorem dX4_clearList_15 : decode cX4_clearList 15 = .ok (.aload_n 0, 1) := by decide +kernel
theorem dX4_clearList_16 : decode cX4_clearList 16 = .ok (.iconst 0, 1) := by decide +kernel
theorem dX4_clearList_17 : decode cX4_clearList 17 = .ok (.putfield 52, 3) := by decide +kernel
theorem dX4_clearList_20 : decode cX4_clearList 20 = .ok (.return_, 1) := by decide +kernel
theorem dX4_list_0 : decode cX4_list 0 = .ok (.aload_n 0, 1) := by decide +kernel
theorem dX4_list_1 : decode cX4_list 1 = .ok (.getfield 43, 3) := by decide +kernel
theorem dX4_list_4 : decode cX4_list 4 = .ok (.bipush 8, 2) := by decide +kernel
theorem dX4_list_6 : decode cX4_list 6 = .ok (.if_icmp .lt 4, 3) := by decide +kernel
theorem dX4_list_9 : decode cX4_list 9 = .ok (.return_, 1) := by decide +kernel
theorem dX4_list_10 : decode cX4_list 10 = .ok (.aload_n 0, 1) := by decide +kernel
theorem dX4_list_11 : decode cX4_list 11 = .ok (.aload_n 0, 1) := by decide +kernel
theorem dX4_list_12 : decode cX4_list 12 = .ok (.getfield 46, 3) := by decide +kernel
theorem dX4_list_15 : decode cX4_list 15 = .ok (.aload_n 0, 1) := by decide +kernel
theorem dX4_list_16 : decode cX4_list 16 = .ok (.getfield 43, 3) := by decide +kernel
theorem dX4_list_19 : decode cX4_list 19 = .ok (.iload_n 2, 1) := by decide +kernel
theorem dX4_list_20 : decode cX4_list 20 = .ok (.invokestatic 35, 3) := by decide +kernel
theorem dX4_list_23 : decode cX4_list 23 = .ok (.putfield 46, 3) := by decide +kernel
theorem dX4_list_26 : decode cX4_list 26 = .ok (.aload_n 0, 1) := by decide +kernel
theorem dX4_list_27 : decode cX4_list 27 = .ok (.aload_n 0, 1) := by decide +kernel
theorem dX4_list_28 : decode cX4_list 28 = .ok (.getfield 49, 3) := by decide +kernel
theorem dX4_list_31 : decode cX4_list 31 = .ok (.aload_n 0, 1) := by decide +kernel
theorem dX4_list_32 : decode cX4_list 32 = .ok (.getfield 43, 3) := by decide +kernel
theorem dX4_list_35 : decode cX4_list 35 = .ok (.iload_n 3, 1) := by decide +kernel
theorem dX4_list_36 : decode cX4_list 36 = .ok (.invokestatic 35, 3) := by decide +kernel
theorem dX4_list_39 : decode cX4_list 39 = .ok (.putfield 49, 3) := by decide +kernel
theorem dX4_list_42 : decode cX4_list 42 = .ok (.aload_n 0, 1) := by decide +kernel
theorem dX4_list_43 : decode cX4_list 43 = .ok (.aload_n 0, 1) := by decide +kernel
theorem dX4_list_44 : decode cX4_list 44 = .ok (.getfield 52, 3) := by decide +kernel
theorem dX4_list_47 : decode cX4_list 47 = .ok (.aload_n 0, 1) := by decide +kernel
theorem dX4_list_48 : decode cX4_list 48 = .ok (.getfield 43, 3) := by decide +kernel
theorem dX4_list_51 : decode cX4_list 51 = .ok (.aload_n 1, 1) := by decide +kernel
theorem dX4_list_52 : decode cX4_list 52 = .ok (.getfield 55, 3) := by decide +kernel
theorem dX4_list_55 : decode cX4_list 55 = .ok (.ifCond .eq 15, 3) := by decide +kernel
theorem dX4_list_58 : decode cX4_list 58 = .ok (.iload_n 2, 1) := by decide +kernel
theorem dX4_list_59 : decode cX4_list 59 = .ok (.ifCond .eq 11, 3) := by decide +kernel
theorem dX4_list_62 : decode cX4_list 62 = .ok (.iload_n 3, 1) := by decide +kernel
theorem dX4_list_63 : decode cX4_list 63 = .ok (.ifCond .eq 7, 3) := by decide +kernel
theorem dX4_list_66 : decode cX4_list 66 = .ok (.iconst 1, 1) := by decide +kernel
theorem dX4_list_67 : decode cX4_list 67 = .ok (.goto 4, 3) := by decide +kernel
theorem dX4_list_70 : decode cX4_list 70 = .ok (.iconst 0, 1) := by decide +kernel
theorem dX4_list_71 : decode cX4_list 71 = .ok (.invokestatic 35, 3) := by decide +kernel
theorem dX4_list_74 : decode cX4_list 74 = .ok (.putfield 52, 3) := by decide +kernel
theorem dX4_list_77 : decode cX4_list 77 = .ok (.aload_n 0, 1) := by decide +kernel
theorem dX4_list_78 : decode cX4_list 78 = .ok (.getfield 22, 3) := by decide +kernel
theorem dX4_list_81 : decode cX4_list 81 = .ok (.aload_n 0, 1) := by decide +kernel
theorem dX4_list_82 : decode cX4_list 82 = .ok (.getfield 43, 3) := by decide +kernel
theorem dX4_list_85 : decode cX4_list 85 = .ok (.aload_n 1, 1) := by decide +kernel
theorem dX4_list_86 : decode cX4_list 86 = .ok (.invokevirtual 61, 3) := by decide +kernel
theorem dX4_list_89 : decode cX4_list 89 = .ok (.iastore, 1) := by decide +kernel
theorem dX4_list_90 : decode cX4_list 90 = .ok (.aload_n 0, 1) := by decide +kernel
theorem dX4_list_91 : decode cX4_list 91 = .ok (.getfield 25, 3) := by decide +kernel
theorem dX4_list_94 : decode cX4_list 94 = .ok (.aload_n 0, 1) := by decide +kernel
theorem dX4_list_95 : decode cX4_list 95 = .ok (.getfield 43, 3) := by decide +kernel
theorem dX4_list_98 : decode cX4_list 98 = .ok (.aload_n 0, 1) := by decide +kernel
theorem dX4_list_99 : decode cX4_list 99 = .ok (.getfield 65, 3) := by decide +kernel
theorem dX4_list_102 : decode cX4_list 102 = .ok (.aload_n 1, 1) := by decide +kernel
theorem dX4_list_103 : decode cX4_list 103 = .ok (.getfield 68, 3) := by decide +kernel
theorem dX4_list_106 : decode cX4_list 106 = .ok (.invokestatic 31, 3) := by decide +kernel
theorem dX4_list_109 : decode cX4_list 109 = .ok (.ifCond .eq 12, 3) := by decide +kernel
theorem dX4_list_112 : decode cX4_list 112 = .ok (.aload_n 1, 1) := by decide +kernel
theorem dX4_list_113 : decode cX4_list 113 = .ok (.getfield 71, 3) := by decide +kernel
theorem dX4_list_116 : decode cX4_list 116 = .ok (.iconst 2, 1) := by decide +kernel
theorem dX4_list_117 : decode cX4_list 117 = .ok (.idiv, 1) := by decide +kernel
theorem dX4_list_118 : decode cX4_list 118 = .ok (.goto 7, 3) := by decide +kernel
theorem dX4_list_121 : decode cX4_list 121 = .ok (.aload_n 1, 1) := by decide +kernel
theorem dX4_list_122 : decode cX4_list 122 = .ok (.getfield 71, 3) := by decide +kernel
theorem dX4_list_125 : decode cX4_list 125 = .ok (.iastore, 1) := by decide +kernel
theorem dX4_list_126 : decode cX4_list 126 = .ok (.aload_n 0, 1) := by decide +kernel
theorem dX4_list_127 : decode cX4_list 127 = .ok (.dup, 1) := by decide +kernel
theorem dX4_list_128 : decode cX4_list 128 = .ok (.getfield 43, 3) := by decide +kernel
theorem dX4_list_131 : decode cX4_list 131 = .ok (.iconst 1, 1) := by decide +kernel
theorem dX4_list_132 : decode cX4_list 132 = .ok (.iadd, 1) := by decide +kernel
theorem dX4_list_133 : decode cX4_list 133 = .ok (.putfield 43, 3) := by decide +kernel
theorem dX4_list_136 : decode cX4_list 136 = .ok (.return_, 1) := by decide +kernel
theorem dX4_sumOver_0 : decode cX4_sumOver 0 = .ok (.iconst 0, 1) := by decide +kernel
theorem dX4_sumOver_1 : decode cX4_sumOver 1 = .ok (.istore_n 3, 1) := by decide +kernel
theorem dX4_sumOver_2 : decode cX4_sumOver 2 = .ok (.iconst 0, 1) := by decide +kernel
theorem dX4_sumOver_3 : decode cX4_sumOver 3 = .ok (.istore 4, 2) := by decide +kernel
theorem dX4_sumOver_5 : decode cX4_sumOver 5 = .ok (.iload 4, 2) := by decide +kernel
theorem dX4_sumOver_7 : decode cX4_sumOver 7 = .ok (.aload_n 0, 1) := by decide +kernel
theorem dX4_sumOver_8 : decode cX4_sumOver 8 = .ok (.getfield 43, 3) := by decide +kernel
theorem dX4_sumOver_11 : decode cX4_sumOver 11 = .ok (.if_icmp .ge 25, 3) := by decide +kernel
theorem dX4_sumOver_14 : decode cX4_sumOver 14 = .ok (.iload_n 1, 1) := by decide +kernel
theorem dX4_sumOver_15 : decode cX4_sumOver 15 = .ok (.iload 4, 2) := by decide +kernel
theorem dX4_sumOver_17 : decode cX4_sumOver 17 = .ok (.invokestatic 31, 3) := by decide +kernel
theorem dX4_sumOver_20 : decode cX4_sumOver 20 = .ok (.ifCond .eq 10, 3) := by decide +kernel
theorem dX4_sumOver_23 : decode cX4_sumOver 23 = .ok (.iload_n 3, 1) := by decide +kernel
theorem dX4_sumOver_24 : decode cX4_sumOver 24 = .ok (.aload_n 2, 1) := by decide +kernel
theorem dX4_sumOver_25 : decode cX4_sumOver 25 = .ok (.iload 4, 2) := by decide +kernel
theorem dX4_sumOver_27 : decode cX4_sumOver 27 = .ok (.iaload, 1) := by decide +kernel
theorem dX4_sumOver_28 : decode cX4_sumOver 28 = .ok (.iadd, 1) := by decide +kernel
theorem dX4_sumOver_29 : decode cX4_sumOver 29 = .ok (.istore_n 3, 1) := by decide +kernel
theorem dX4_sumOver_30 : decode cX4_sumOver 30 = .ok (.iinc 4 1, 3) := by decide +kernel
theorem dX4_sumOver_33 : decode cX4_sumOver 33 = .ok (.goto (-28), 3) := by decide +kernel
theorem dX4_sumOver_36 : decode cX4_sumOver 36 = .ok (.iload_n 3, 1) := by decide +kernel
theorem dX4_sumOver_37 : decode cX4_sumOver 37 = .ok (.ireturn, 1) := by decide +kernel
theorem dX4_hasLength_0 : decode cX4_hasLength 0 = .ok (.aload_n 0, 1) := by decide +kernel
theorem dX4_hasLength_1 : decode cX4_hasLength 1 = .ok (.iload_n 1, 1) := by decide +kernel
theorem dX4_hasLength_2 : decode cX4_hasLength 2 = .ok (.aload_n 0, 1) := by decide +kernel
theorem dX4_hasLength_3 : decode cX4_hasLength 3 = .ok (.getfield 22, 3) := by decide +kernel
theorem dX4_hasLength_6 : decode cX4_hasLength 6 = .ok (.invokevirtual 73, 3) := by decide +kernel
theorem dX4_hasLength_9 : decode cX4_hasLength 9 = .ok (.aload_n 0, 1) := by decide +kernel
theorem dX4_hasLength_10 : decode cX4_hasLength 10 = .ok (.getfield 9, 3) := by decide +kernel
theorem dX4_hasLength_13 : decode cX4_hasLength 13 = .ok (.aload_n 0, 1) := by decide +kernel
theorem dX4_hasLength_14 : decode cX4_hasLength 14 = .ok (.getfield 15, 3) := by decide +kernel
theorem dX4_hasLength_17 : decode cX4_hasLength 17 = .ok (.invokestatic 77, 3) := by decide +kernel
theorem dX4_hasLength_20 : decode cX4_hasLength 20 = .ok (.ireturn, 1) := by decide +kernel
theorem dX4_lack_0 : decode cX4_lack 0 = .ok (.iconst 0, 1) := by decide +kernel
theorem dX4_lack_1 : decode cX4_lack 1 = .ok (.istore_n 3, 1) := by decide +kernel
theorem dX4_lack_2 : decode cX4_lack 2 = .ok (.iconst (-1), 1) := by decide +kernel
theorem dX4_lack_3 : decode cX4_lack 3 = .ok (.istore 4, 2) := by decide +kernel
theorem dX4_lack_5 : decode cX4_lack 5 = .ok (.iconst 0, 1) := by decide +kernel
theorem dX4_lack_6 : decode cX4_lack 6 = .ok (.istore 5, 2) := by decide +kernel
theorem dX4_lack_8 : decode cX4_lack 8 = .ok (.iconst 0, 1) := by decide +kernel
theorem dX4_lack_9 : decode cX4_lack 9 = .ok (.istore 6, 2) := by decide +kernel
theorem dX4_lack_11 : decode cX4_lack 11 = .ok (.iload 6, 2) := by decide +kernel
theorem dX4_lack_13 : decode cX4_lack 13 = .ok (.bipush 16, 2) := by decide +kernel
theorem dX4_lack_15 : decode cX4_lack 15 = .ok (.if_icmp .ge 96, 3) := by decide +kernel
theorem dX4_lack_18 : decode cX4_lack 18 = .ok (.lload_n 1, 1) := by decide +kernel
theorem dX4_lack_19 : decode cX4_lack 19 = .ok (.iconst 4, 1) := by decide +kernel
theorem dX4_lack_20 : decode cX4_lack 20 = .ok (.iload 6, 2) := by decide +kernel
theorem dX4_lack_22 : decode cX4_lack 22 = .ok (.imul, 1) := by decide +kernel
theorem dX4_lack_23 : decode cX4_lack 23 = .ok (.lushr, 1) := by decide +kernel
theorem dX4_lack_24 : decode cX4_lack 24 = .ok (.ldc2_w 81, 3) := by decide +kernel
theorem dX4_lack_27 : decode cX4_lack 27 = .ok (.land, 1) := by decide +kernel
theorem dX4_lack_28 : decode cX4_lack 28 = .ok (.l2i, 1) := by decide +kernel
theorem dX4_lack_29 : decode cX4_lack 29 = .ok (.iconst 1, 1) := by decide +kernel
theorem dX4_lack_30 : decode cX4_lack 30 = .ok (.isub, 1) := by decide +kernel
theorem dX4_lack_31 : decode cX4_lack 31 = .ok (.istore 7, 2) := by decide +kernel
theorem dX4_lack_33 : decode cX4_lack 33 = .ok (.iload 7, 2) := by decide +kernel
theorem dX4_lack_35 : decode cX4_lack 35 = .ok (.ifCond .ge 6, 3) := by decide +kernel
theorem dX4_lack_38 : decode cX4_lack 38 = .ok (.goto 73, 3) := by decide +kernel
theorem dX4_lack_41 : decode cX4_lack 41 = .ok (.iload 7, 2) := by decide +kernel
theorem dX4_lack_43 : decode cX4_lack 43 = .ok (.aload_n 0, 1) := by decide +kernel
theorem dX4_lack_44 : decode cX4_lack 44 = .ok (.getfield 43, 3) := by decide +kernel
theorem dX4_lack_47 : decode cX4_lack 47 = .ok (.if_icmp .ge 12, 3) := by decide +kernel
theorem dX4_lack_50 : decode cX4_lack 50 = .ok (.iload_n 3, 1) := by decide +kernel
theorem dX4_lack_51 : decode cX4_lack 51 = .ok (.iload 7, 2) := by decide +kernel
theorem dX4_lack_53 : decode cX4_lack 53 = .ok (.invokestatic 31, 3) := by decide +kernel
theorem dX4_lack_56 : decode cX4_lack 56 = .ok (.ifCond .eq 5, 3) := by decide +kernel
theorem dX4_lack_59 : decode cX4_lack 59 = .ok (.iconst 1, 1) := by decide +kernel
theorem dX4_lack_60 : decode cX4_lack 60 = .ok (.ireturn, 1) := by decide +kernel
theorem dX4_lack_61 : decode cX4_lack 61 = .ok (.iload 5, 2) := by decide +kernel
theorem dX4_lack_63 : decode cX4_lack 63 = .ok (.ifCond .ne 23, 3) := by decide +kernel
theorem dX4_lack_66 : decode cX4_lack 66 = .ok (.iload 4, 2) := by decide +kernel
theorem dX4_lack_68 : decode cX4_lack 68 = .ok (.ifCond .lt 22, 3) := by decide +kernel
theorem dX4_lack_71 : decode cX4_lack 71 = .ok (.aload_n 0, 1) := by decide +kernel
theorem dX4_lack_72 : decode cX4_lack 72 = .ok (.getfield 18, 3) := by decide +kernel
theorem dX4_lack_75 : decode cX4_lack 75 = .ok (.iload 7, 2) := by decide +kernel
theorem dX4_lack_77 : decode cX4_lack 77 = .ok (.iaload, 1) := by decide +kernel
theorem dX4_lack_78 : decode cX4_lack 78 = .ok (.iload 4, 2) := by decide +kernel
theorem dX4_lack_80 : decode cX4_lack 80 = .ok (.invokestatic 31, 3) := by decide +kernel
theorem dX4_lack_83 : decode cX4_lack 83 = .ok (.ifCond .eq 7, 3) := by decide +kernel
theorem dX4_lack_86 : decode cX4_lack 86 = .ok (.iconst 1, 1) := by decide +kernel
theorem dX4_lack_87 : decode cX4_lack 87 = .ok (.goto 4, 3) := by decide +kernel
theorem dX4_lack_90 : decode cX4_lack 90 = .ok (.iconst 0, 1) := by decide +kernel
theorem dX4_lack_91 : decode cX4_lack 91 = .ok (.istore 5, 2) := by decide +kernel
theorem dX4_lack_93 : decode cX4_lack 93 = .ok (.iload_n 3, 1) := by decide +kernel
theorem dX4_lack_94 : decode cX4_lack 94 = .ok (.iload 7, 2) := by decide +kernel
theorem dX4_lack_96 : decode cX4_lack 96 = .ok (.iconst 1, 1) := by decide +kernel
theorem dX4_lack_97 : decode cX4_lack 97 = .ok (.invokestatic 35, 3) := by decide +kernel
theorem dX4_lack_100 : decode cX4_lack 100 = .ok (.istore_n 3, 1) := by decide +kernel
theorem dX4_lack_101 : decode cX4_lack 101 = .ok (.iload 7, 2) := by decide +kernel
theorem dX4_lack_103 : decode cX4_lack 103 = .ok (.istore 4, 2) := by decide +kernel
theorem dX4_lack_105 : decode cX4_lack 105 = .ok (.iinc 6 1, 3) := by decide +kernel
theorem dX4_lack_108 : decode cX4_lack 108 = .ok (.goto (-97), 3) := by decide +kernel
theorem dX4_lack_111 : decode cX4_lack 111 = .ok (.iload_n 3, 1) := by decide +kernel
theorem dX4_lack_112 : decode cX4_lack 112 = .ok (.aload_n 0, 1) := by decide +kernel
theorem dX4_lack_113 : decode cX4_lack 113 = .ok (.getfield 46, 3) := by decide +kernel
theorem dX4_lack_116 : decode cX4_lack 116 = .ok (.iconst (-1), 1) := by decide +kernel
theorem dX4_lack_117 : decode cX4_lack 117 = .ok (.ixor, 1) := by decide +kernel
theorem dX4_lack_118 : decode cX4_lack 118 = .ok (.iand, 1) := by decide +kernel
theorem dX4_lack_119 : decode cX4_lack 119 = .ok (.ifCond .eq 5, 3) := by decide +kernel
theorem dX4_lack_122 : decode cX4_lack 122 = .ok (.iconst 2, 1) := by decide +kernel
theorem dX4_lack_123 : decode cX4_lack 123 = .ok (.ireturn, 1) := by decide +kernel
theorem dX4_lack_124 : decode cX4_lack 124 = .ok (.iload_n 3, 1) := by decide +kernel
theorem dX4_lack_125 : decode cX4_lack 125 = .ok (.aload_n 0, 1) := by decide +kernel
theorem dX4_lack_126 : decode cX4_lack 126 = .ok (.getfield 49, 3) := by decide +kernel
theorem dX4_lack_129 : decode cX4_lack 129 = .ok (.iconst (-1), 1) := by decide +kernel
theorem dX4_lack_130 : decode cX4_lack 130 = .ok (.ixor, 1) := by decide +kernel
theorem dX4_lack_131 : decode cX4_lack 131 = .ok (.iand, 1) := by decide +kernel
theorem dX4_lack_132 : decode cX4_lack 132 = .ok (.ifCond .eq 5, 3) := by decide +kernel
theorem dX4_lack_135 : decode cX4_lack 135 = .ok (.iconst 3, 1) := by decide +kernel
theorem dX4_lack_136 : decode cX4_lack 136 = .ok (.ireturn, 1) := by decide +kernel
theorem dX4_lack_137 : decode cX4_lack 137 = .ok (.iload 5, 2) := by decide +kernel
theorem dX4_lack_139 : decode cX4_lack 139 = .ok (.ifCond .eq 5, 3) := by decide +kernel
theorem dX4_lack_142 : decode cX4_lack 142 = .ok (.iconst 4, 1) := by decide +kernel
theorem dX4_lack_143 : decode cX4_lack 143 = .ok (.ireturn, 1) := by decide +kernel
theorem dX4_lack_144 : decode cX4_lack 144 = .ok (.aload_n 0, 1) := by decide +kernel
theorem dX4_lack_145 : decode cX4_lack 145 = .ok (.iload_n 3, 1) := by decide +kernel
theorem dX4_lack_146 : decode cX4_lack 146 = .ok (.invokevirtual 83, 3) := by decide +kernel
theorem dX4_lack_149 : decode cX4_lack 149 = .ok (.ifCond .ne 5, 3) := by decide +kernel
theorem dX4_lack_152 : decode cX4_lack 152 = .ok (.iconst 5, 1) := by decide +kernel
theorem dX4_lack_153 : decode cX4_lack 153 = .ok (.ireturn, 1) := by decide +kernel
theorem dX4_lack_154 : decode cX4_lack 154 = .ok (.aload_n 0, 1) := by decide +kernel
theorem dX4_lack_155 : decode cX4_lack 155 = .ok (.getfield 52, 3) := by decide +kernel
theorem dX4_lack_158 : decode cX4_lack 158 = .ok (.iload_n 3, 1) := by decide +kernel
theorem dX4_lack_159 : decode cX4_lack 159 = .ok (.iconst (-1), 1) := by decide +kernel
theorem dX4_lack_160 : decode cX4_lack 160 = .ok (.ixor, 1) := by decide +kernel
theorem dX4_lack_161 : decode cX4_lack 161 = .ok (.iand, 1) := by decide +kernel
theorem dX4_lack_162 : decode cX4_lack 162 = .ok (.ifCond .eq 8, 3) := by decide +kernel
theorem dX4_lack_165 : decode cX4_lack 165 = .ok (.bipush 6, 2) := by decide +kernel
theorem dX4_lack_167 : decode cX4_lack 167 = .ok (.goto 4, 3) := by decide +kernel
theorem dX4_lack_170 : decode cX4_lack 170 = .ok (.iconst 0, 1) := by decide +kernel
theorem dX4_lack_171 : decode cX4_lack 171 = .ok (.ireturn, 1) := by decide +kernel
theorem dX4_search_0 : decode cX4_search 0 = .ok (.aload_n 0, 1) := by decide +kernel
theorem dX4_search_1 : decode cX4_search 1 = .ok (.bipush (-9), 2) := by decide +kernel
theorem dX4_search_3 : decode cX4_search 3 = .ok (.putfield 87, 3) := by decide +kernel
theorem dX4_search_6 : decode cX4_search 6 = .ok (.aload_n 0, 1) := by decide +kernel
theorem dX4_search_7 : decode cX4_search 7 = .ok (.iconst (-1), 1) := by decide +kernel
theorem dX4_search_8 : decode cX4_search 8 = .ok (.putfield 90, 3) := by decide +kernel
theorem dX4_search_11 : decode cX4_search 11 = .ok (.aload_n 0, 1) := by decide +kernel
theorem dX4_search_12 : decode cX4_search 12 = .ok (.getfield 46, 3) := by decide +kernel
theorem dX4_search_15 : decode cX4_search 15 = .ok (.aload_n 0, 1) := by decide +kernel
theorem dX4_search_16 : decode cX4_search 16 = .ok (.getfield 49, 3) := by decide +kernel
theorem dX4_search_19 : decode cX4_search 19 = .ok (.iand, 1) := by decide +kernel
theorem dX4_search_20 : decode cX4_search 20 = .ok (.istore_n 1, 1) := by decide +kernel
theorem dX4_search_21 : decode cX4_search 21 = .ok (.iconst 1, 1) := by decide +kernel
theorem dX4_search_22 : decode cX4_search 22 = .ok (.istore_n 2, 1) := by decide +kernel
theorem dX4_search_23 : decode cX4_search 23 = .ok (.iload_n 2, 1) := by decide +kernel
theorem dX4_search_24 : decode cX4_search 24 = .ok (.iconst 1, 1) := by decide +kernel
theorem dX4_search_25 : decode cX4_search 25 = .ok (.aload_n 0, 1) := by decide +kernel
theorem dX4_search_26 : decode cX4_search 26 = .ok (.getfield 43, 3) := by decide +kernel
theorem dX4_search_29 : decode cX4_search 29 = .ok (.ishl, 1) := by decide +kernel
theorem dX4_search_30 : decode cX4_search 30 = .ok (.if_icmp .ge 74, 3) := by decide +kernel
theorem dX4_search_33 : decode cX4_search 33 = .ok (.iload_n 2, 1) := by decide +kernel
theorem dX4_search_34 : decode cX4_search 34 = .ok (.iload_n 1, 1) := by decide +kernel
theorem dX4_search_35 : decode cX4_search 35 = .ok (.iconst (-1), 1) := by decide +kernel
theorem dX4_search_36 : decode cX4_search 36 = .ok (.ixor, 1) := by decide +kernel
theorem dX4_search_37 : decode cX4_search 37 = .ok (.iand, 1) := by decide +kernel
theorem dX4_search_38 : decode cX4_search 38 = .ok (.ifCond .ne 60, 3) := by decide +kernel
theorem dX4_search_41 : decode cX4_search 41 = .ok (.aload_n 0, 1) := by decide +kernel
theorem dX4_search_42 : decode cX4_search 42 = .ok (.iload_n 2, 1) := by decide +kernel
theorem dX4_search_43 : decode cX4_search 43 = .ok (.invokevirtual 93, 3) := by decide +kernel
theorem dX4_search_46 : decode cX4_search 46 = .ok (.istore_n 3, 1) := by decide +kernel
theorem dX4_search_47 : decode cX4_search 47 = .ok (.iload_n 3, 1) := by decide +kernel
theorem dX4_search_48 : decode cX4_search 48 = .ok (.ifCond .lt 50, 3) := by decide +kernel
theorem dX4_search_51 : decode cX4_search 51 = .ok (.aload_n 0, 1) := by decide +kernel
theorem dX4_search_52 : decode cX4_search 52 = .ok (.getfield 52, 3) := by decide +kernel
theorem dX4_search_55 : decode cX4_search 55 = .ok (.iload_n 2, 1) := by decide +kernel
theorem dX4_search_56 : decode cX4_search 56 = .ok (.iconst (-1), 1) := by decide +kernel
theorem dX4_search_57 : decode cX4_search 57 = .ok (.ixor, 1) := by decide +kernel
theorem dX4_search_58 : decode cX4_search 58 = .ok (.iand, 1) := by decide +kernel
theorem dX4_search_59 : decode cX4_search 59 = .ok (.ifCond .ne 39, 3) := by decide +kernel
theorem dX4_search_62 : decode cX4_search 62 = .ok (.aload_n 0, 1) := by decide +kernel
theorem dX4_search_63 : decode cX4_search 63 = .ok (.iload_n 2, 1) := by decide +kernel
theorem dX4_search_64 : decode cX4_search 64 = .ok (.invokevirtual 83, 3) := by decide +kernel
theorem dX4_search_67 : decode cX4_search 67 = .ok (.ifCond .eq 31, 3) := by decide +kernel
theorem dX4_search_70 : decode cX4_search 70 = .ok (.aload_n 0, 1) := by decide +kernel
theorem dX4_search_71 : decode cX4_search 71 = .ok (.aload_n 0, 1) := by decide +kernel
theorem dX4_search_72 : decode cX4_search 72 = .ok (.iload_n 2, 1) := by decide +kernel
theorem dX4_search_73 : decode cX4_search 73 = .ok (.aload_n 0, 1) := by decide +kernel
theorem dX4_search_74 : decode cX4_search 74 = .ok (.getfield 25, 3) := by decide +kernel
theorem dX4_search_77 : decode cX4_search 77 = .ok (.invokevirtual 73, 3) := by decide +kernel
theorem dX4_search_80 : decode cX4_search 80 = .ok (.iload_n 3, 1) := by decide +kernel
theorem dX4_search_81 : decode cX4_search 81 = .ok (.getstatic 97, 3) := by decide +kernel
theorem dX4_search_84 : decode cX4_search 84 = .ok (.bipush 8, 2) := by decide +kernel
theorem dX4_search_86 : decode cX4_search 86 = .ok (.iload_n 2, 1) := by decide +kernel
theorem dX4_search_87 : decode cX4_search 87 = .ok (.invokestatic 100, 3) := by decide +kernel
theorem dX4_search_90 : decode cX4_search 90 = .ok (.isub, 1) := by decide +kernel
theorem dX4_search_91 : decode cX4_search 91 = .ok (.iaload, 1) := by decide +kernel
theorem dX4_search_92 : decode cX4_search 92 = .ok (.iadd, 1) := by decide +kernel
theorem dX4_search_93 : decode cX4_search 93 = .ok (.iconst 1, 1) := by decide +kernel
theorem dX4_search_94 : decode cX4_search 94 = .ok (.isub, 1) := by decide +kernel
theorem dX4_search_95 : decode cX4_search 95 = .ok (.invokevirtual 105, 3) := by decide +kernel
theorem dX4_search_98 : decode cX4_search 98 = .ok (.iinc 2 1, 3) := by decide +kernel
theorem dX4_search_101 : decode cX4_search 101 = .ok (.goto (-78), 3) := by decide +kernel
theorem dX4_search_104 : decode cX4_search 104 = .ok (.return_, 1) := by decide +kernel
theorem dX4_greatestRow_0 : decode cX4_greatestRow 0 = .ok (.iconst (-1), 1) := by decide +kernel
theorem dX4_greatestRow_1 : decode cX4_greatestRow 1 = .ok (.istore_n 2, 1) := by decide +kernel
theorem dX4_greatestRow_2 : decode cX4_greatestRow 2 = .ok (.iconst 0, 1) := by decide +kernel
theorem dX4_greatestRow_3 : decode cX4_greatestRow 3 = .ok (.istore_n 3, 1) := by decide +kernel
theorem dX4_greatestRow_4 : decode cX4_greatestRow 4 = .ok (.iload_n 3, 1) := by decide +kernel
theorem dX4_greatestRow_5 : decode cX4_greatestRow 5 = .ok (.aload_n 0, 1) := by decide +kernel
theorem dX4_greatestRow_6 : decode cX4_greatestRow 6 = .ok (.getfield 43, 3) := by decide +kernel
theorem dX4_greatestRow_9 : decode cX4_greatestRow 9 = .ok (.if_icmp .ge 45, 3) := by decide +kernel
theorem dX4_greatestRow_12 : decode cX4_greatestRow 12 = .ok (.iload_n 1, 1) := by decide +kernel
theorem dX4_greatestRow_13 : decode cX4_greatestRow 13 = .ok (.iload_n 3, 1) := by decide +kernel
theorem dX4_greatestRow_14 : decode cX4_greatestRow 14 = .ok (.invokestatic 31, 3) := by decide +kernel
theorem dX4_greatestRow_17 : decode cX4_greatestRow 17 = .ok (.ifCond .eq 31, 3) := by decide +kernel
theorem dX4_greatestRow_20 : decode cX4_greatestRow 20 = .ok (.aload_n 0, 1) := by decide +kernel
theorem dX4_greatestRow_21 : decode cX4_greatestRow 21 = .ok (.iload_n 1, 1) := by decide +kernel
theorem dX4_greatestRow_22 : decode cX4_greatestRow 22 = .ok (.iload_n 3, 1) := by decide +kernel
theorem dX4_greatestRow_23 : decode cX4_greatestRow 23 = .ok (.invokevirtual 109, 3) := by decide +kernel
theorem dX4_greatestRow_26 : decode cX4_greatestRow 26 = .ok (.istore 4, 2) := by decide +kernel
theorem dX4_greatestRow_28 : decode cX4_greatestRow 28 = .ok (.aload_n 0, 1) := by decide +kernel
theorem dX4_greatestRow_29 : decode cX4_greatestRow 29 = .ok (.getfield 28, 3) := by decide +kernel
theorem dX4_greatestRow_32 : decode cX4_greatestRow 32 = .ok (.iload_n 1, 1) := by decide +kernel
theorem dX4_greatestRow_33 : decode cX4_greatestRow 33 = .ok (.bipush 8, 2) := by decide +kernel
theorem dX4_greatestRow_35 : decode cX4_greatestRow 35 = .ok (.imul, 1) := by decide +kernel
theorem dX4_greatestRow_36 : decode cX4_greatestRow 36 = .ok (.iload_n 3, 1) := by decide +kernel
theorem dX4_greatestRow_37 : decode cX4_greatestRow 37 = .ok (.iadd, 1) := by decide +kernel
theorem dX4_greatestRow_38 : decode cX4_greatestRow 38 = .ok (.iload 4, 2) := by decide +kernel
theorem dX4_greatestRow_40 : decode cX4_greatestRow 40 = .ok (.iastore, 1) := by decide +kernel
theorem dX4_greatestRow_41 : decode cX4_greatestRow 41 = .ok (.iload_n 2, 1) := by decide +kernel
theorem dX4_greatestRow_42 : decode cX4_greatestRow 42 = .ok (.iload 4, 2) := by decide +kernel
theorem dX4_greatestRow_44 : decode cX4_greatestRow 44 = .ok (.invokestatic 113, 3) := by decide +kernel
theorem dX4_greatestRow_47 : decode cX4_greatestRow 47 = .ok (.istore_n 2, 1) := by decide +kernel
theorem dX4_greatestRow_48 : decode cX4_greatestRow 48 = .ok (.iinc 3 1, 3) := by decide +kernel
theorem dX4_greatestRow_51 : decode cX4_greatestRow 51 = .ok (.goto (-47), 3) := by decide +kernel
theorem dX4_greatestRow_54 : decode cX4_greatestRow 54 = .ok (.iload_n 2, 1) := by decide +kernel
theorem dX4_greatestRow_55 : decode cX4_greatestRow 55 = .ok (.ireturn, 1) := by decide +kernel
theorem dX4_greatestRowTo_0 : decode cX4_greatestRowTo 0 = .ok (.iload_n 1, 1) := by decide +kernel
theorem dX4_greatestRowTo_1 : decode cX4_greatestRowTo 1 = .ok (.iload_n 2, 1) := by decide +kernel
theorem dX4_greatestRowTo_2 : decode cX4_greatestRowTo 2 = .ok (.iconst 0, 1) := by decide +kernel
theorem dX4_greatestRowTo_3 : decode cX4_greatestRowTo 3 = .ok (.invokestatic 35, 3) := by decide +kernel
theorem dX4_greatestRowTo_6 : decode cX4_greatestRowTo 6 = .ok (.istore_n 3, 1) := by decide +kernel
theorem dX4_greatestRowTo_7 : decode cX4_greatestRowTo 7 = .ok (.iload_n 3, 1) := by decide +kernel
theorem dX4_greatestRowTo_8 : decode cX4_greatestRowTo 8 = .ok (.ifCond .ne 7, 3) := by decide +kernel
theorem dX4_greatestRowTo_11 : decode cX4_greatestRowTo 11 = .ok (.iconst 0, 1) := by decide +kernel
theorem dX4_greatestRowTo_12 : decode cX4_greatestRowTo 12 = .ok (.goto 4, 3) := by decide +kernel
theorem dX4_greatestRowTo_15 : decode cX4_greatestRowTo 15 = .ok (.iconst (-1), 1) := by decide +kernel
theorem dX4_greatestRowTo_16 : decode cX4_greatestRowTo 16 = .ok (.istore 4, 2) := by decide +kernel
theorem dX4_greatestRowTo_18 : decode cX4_greatestRowTo 18 = .ok (.iconst 0, 1) := by decide +kernel
theorem dX4_greatestRowTo_19 : decode cX4_greatestRowTo 19 = .ok (.istore 5, 2) := by decide +kernel
theorem dX4_greatestRowTo_21 : decode cX4_greatestRowTo 21 = .ok (.iload 5, 2) := by decide +kernel
theorem dX4_greatestRowTo_23 : decode cX4_greatestRowTo 23 = .ok (.aload_n 0, 1) := by decide +kernel
theorem dX4_greatestRowTo_24 : decode cX4_greatestRowTo 24 = .ok (.getfield 43, 3) := by decide +kernel
theorem dX4_greatestRowTo_27 : decode cX4_greatestRowTo 27 = .ok (.if_icmp .ge 46, 3) := by decide +kernel
theorem dX4_greatestRowTo_30 : decode cX4_greatestRowTo 30 = .ok (.iload_n 3, 1) := by decide +kernel
theorem dX4_greatestRowTo_31 : decode cX4_greatestRowTo 31 = .ok (.aload_n 0, 1) := by decide +kernel
theorem dX4_greatestRowTo_32 : decode cX4_greatestRowTo 32 = .ok (.getfield 18, 3) := by decide +kernel
theorem dX4_greatestRowTo_35 : decode cX4_greatestRowTo 35 = .ok (.iload_n 2, 1) := by decide +kernel
theorem dX4_greatestRowTo_36 : decode cX4_greatestRowTo 36 = .ok (.iaload, 1) := by decide +kernel
theorem dX4_greatestRowTo_37 : decode cX4_greatestRowTo 37 = .ok (.iconst (-1), 1) := by decide +kernel
theorem dX4_greatestRowTo_38 : decode cX4_greatestRowTo 38 = .ok (.ixor, 1) := by decide +kernel
theorem dX4_greatestRowTo_39 : decode cX4_greatestRowTo 39 = .ok (.iand, 1) := by decide +kernel
theorem dX4_greatestRowTo_40 : decode cX4_greatestRowTo 40 = .ok (.iload 5, 2) := by decide +kernel
theorem dX4_greatestRowTo_42 : decode cX4_greatestRowTo 42 = .ok (.invokestatic 31, 3) := by decide +kernel
theorem dX4_greatestRowTo_45 : decode cX4_greatestRowTo 45 = .ok (.ifCond .eq 22, 3) := by decide +kernel
theorem dX4_greatestRowTo_48 : decode cX4_greatestRowTo 48 = .ok (.iload 4, 2) := by decide +kernel
theorem dX4_greatestRowTo_50 : decode cX4_greatestRowTo 50 = .ok (.aload_n 0, 1) := by decide +kernel
theorem dX4_greatestRowTo_51 : decode cX4_greatestRowTo 51 = .ok (.getfield 28, 3) := by decide +kernel
theorem dX4_greatestRowTo_54 : decode cX4_greatestRowTo 54 = .ok (.iload_n 3, 1) := by decide +kernel
theorem dX4_greatestRowTo_55 : decode cX4_greatestRowTo 55 = .ok (.bipush 8, 2) := by decide +kernel
theorem dX4_greatestRowTo_57 : decode cX4_greatestRowTo 57 = .ok (.imul, 1) := by decide +kernel
theorem dX4_greatestRowTo_58 : decode cX4_greatestRowTo 58 = .ok (.iload 5, 2) := by decide +kernel
theorem dX4_greatestRowTo_60 : decode cX4_greatestRowTo 60 = .ok (.iadd, 1) := by decide +kernel
theorem dX4_greatestRowTo_61 : decode cX4_greatestRowTo 61 = .ok (.iaload, 1) := by decide +kernel
theorem dX4_greatestRowTo_62 : decode cX4_greatestRowTo 62 = .ok (.invokestatic 113, 3) := by decide +kernel
theorem dX4_greatestRowTo_65 : decode cX4_greatestRowTo 65 = .ok (.istore 4, 2) := by decide +kernel
theorem dX4_greatestRowTo_67 : decode cX4_greatestRowTo 67 = .ok (.iinc 5 1, 3) := by decide +kernel
theorem dX4_greatestRowTo_70 : decode cX4_greatestRowTo 70 = .ok (.goto (-49), 3) := by decide +kernel
theorem dX4_greatestRowTo_73 : decode cX4_greatestRowTo 73 = .ok (.bipush 7, 2) := by decide +kernel
theorem dX4_greatestRowTo_75 : decode cX4_greatestRowTo 75 = .ok (.iload_n 2, 1) := by decide +kernel
theorem dX4_greatestRowTo_76 : decode cX4_greatestRowTo 76 = .ok (.isub, 1) := by decide +kernel
theorem dX4_greatestRowTo_77 : decode cX4_greatestRowTo 77 = .ok (.getstatic 97, 3) := by decide +kernel
theorem dX4_greatestRowTo_80 : decode cX4_greatestRowTo 80 = .ok (.bipush 8, 2) := by decide +kernel
theorem dX4_greatestRowTo_82 : decode cX4_greatestRowTo 82 = .ok (.iload_n 1, 1) := by decide +kernel
theorem dX4_greatestRowTo_83 : decode cX4_greatestRowTo 83 = .ok (.invokestatic 100, 3) := by decide +kernel
theorem dX4_greatestRowTo_86 : decode cX4_greatestRowTo 86 = .ok (.isub, 1) := by decide +kernel
theorem dX4_greatestRowTo_87 : decode cX4_greatestRowTo 87 = .ok (.iaload, 1) := by decide +kernel
theorem dX4_greatestRowTo_88 : decode cX4_greatestRowTo 88 = .ok (.imul, 1) := by decide +kernel
theorem dX4_greatestRowTo_89 : decode cX4_greatestRowTo 89 = .ok (.istore 5, 2) := by decide +kernel
theorem dX4_greatestRowTo_91 : decode cX4_greatestRowTo 91 = .ok (.iload 4, 2) := by decide +kernel
theorem dX4_greatestRowTo_93 : decode cX4_greatestRowTo 93 = .ok (.ifCond .ge 7, 3) := by decide +kernel
theorem dX4_greatestRowTo_96 : decode cX4_greatestRowTo 96 = .ok (.iconst (-1), 1) := by decide +kernel
theorem dX4_greatestRowTo_97 : decode cX4_greatestRowTo 97 = .ok (.goto 8, 3) := by decide +kernel
theorem dX4_greatestRowTo_100 : decode cX4_greatestRowTo 100 = .ok (.iload 4, 2) := by decide +kernel
theorem dX4_greatestRowTo_102 : decode cX4_greatestRowTo 102 = .ok (.iload 5, 2) := by decide +kernel
theorem dX4_greatestRowTo_104 : decode cX4_greatestRowTo 104 = .ok (.iadd, 1) := by decide +kernel
theorem dX4_greatestRowTo_105 : decode cX4_greatestRowTo 105 = .ok (.ireturn, 1) := by decide +kernel
theorem dX4_offer_0 : decode cX4_offer 0 = .ok (.iload_n 1, 1) := by decide +kernel
theorem dX4_offer_1 : decode cX4_offer 1 = .ok (.aload_n 0, 1) := by decide +kernel
theorem dX4_offer_2 : decode cX4_offer 2 = .ok (.getfield 87, 3) := by decide +kernel
theorem dX4_offer_5 : decode cX4_offer 5 = .ok (.if_icmp .gt 19, 3) := by decide +kernel
theorem dX4_offer_8 : decode cX4_offer 8 = .ok (.iload_n 1, 1) := by decide +kernel
theorem dX4_offer_9 : decode cX4_offer 9 = .ok (.aload_n 0, 1) := by decide +kernel
theorem dX4_offer_10 : decode cX4_offer 10 = .ok (.getfield 87, 3) := by decide +kernel
theorem dX4_offer_13 : decode cX4_offer 13 = .ok (.if_icmp .ne 21, 3) := by decide +kernel
theorem dX4_offer_16 : decode cX4_offer 16 = .ok (.iload_n 2, 1) := by decide +kernel
theorem dX4_offer_17 : decode cX4_offer 17 = .ok (.aload_n 0, 1) := by decide +kernel
theorem dX4_offer_18 : decode cX4_offer 18 = .ok (.getfield 90, 3) := by decide +kernel
theorem dX4_offer_21 : decode cX4_offer 21 = .ok (.if_icmp .le 13, 3) := by decide +kernel
theorem dX4_offer_24 : decode cX4_offer 24 = .ok (.aload_n 0, 1) := by decide +kernel
theorem dX4_offer_25 : decode cX4_offer 25 = .ok (.iload_n 1, 1) := by decide +kernel
theorem dX4_offer_26 : decode cX4_offer 26 = .ok (.putfield 87, 3) := by decide +kernel
theorem dX4_offer_29 : decode cX4_offer 29 = .ok (.aload_n 0, 1) := by decide +kernel
theorem dX4_offer_30 : decode cX4_offer 30 = .ok (.iload_n 2, 1) := by decide +kernel
theorem dX4_offer_31 : decode cX4_offer 31 = .ok (.putfield 90, 3) := by decide +kernel
theorem dX4_offer_34 : decode cX4_offer 34 = .ok (.return_, 1) := by decide +kernel
theorem dX4_bestStory_0 : decode cX4_bestStory 0 = .ok (.aload_n 0, 1) := by decide +kernel
theorem dX4_bestStory_1 : decode cX4_bestStory 1 = .ok (.getfield 90, 3) := by decide +kernel
theorem dX4_bestStory_4 : decode cX4_bestStory 4 = .ok (.ifCond .lt 13, 3) := by decide +kernel
theorem dX4_bestStory_7 : decode cX4_bestStory 7 = .ok (.iload_n 1, 1) := by decide +kernel
theorem dX4_bestStory_8 : decode cX4_bestStory 8 = .ok (.iconst 0, 1) := by decide +kernel
theorem dX4_bestStory_9 : decode cX4_bestStory 9 = .ok (.bipush 7, 2) := by decide +kernel
theorem dX4_bestStory_11 : decode cX4_bestStory 11 = .ok (.invokestatic 77, 3) := by decide +kernel
theorem dX4_bestStory_14 : decode cX4_bestStory 14 = .ok (.ifCond .ne 6, 3) := by decide +kernel
theorem dX4_bestStory_17 : decode cX4_bestStory 17 = .ok (.bipush (-9), 2) := by decide +kernel
theorem dX4_bestStory_19 : decode cX4_bestStory 19 = .ok (.ireturn, 1) := by decide +kernel
theorem dX4_bestStory_20 : decode cX4_bestStory 20 = .ok (.aload_n 0, 1) := by decide +kernel
theorem dX4_bestStory_21 : decode cX4_bestStory 21 = .ok (.getfield 90, 3) := by decide +kernel
theorem dX4_bestStory_24 : decode cX4_bestStory 24 = .ok (.istore_n 2, 1) := by decide +kernel
theorem dX4_bestStory_25 : decode cX4_bestStory 25 = .ok (.bipush 7, 2) := by decide +kernel
theorem dX4_bestStory_27 : decode cX4_bestStory 27 = .ok (.istore_n 3, 1) := by decide +kernel
theorem dX4_bestStory_28 : decode cX4_bestStory 28 = .ok (.iload_n 3, 1) := by decide +kernel
theorem dX4_bestStory_29 : decode cX4_bestStory 29 = .ok (.iload_n 1, 1) := by decide +kernel
theorem dX4_bestStory_30 : decode cX4_bestStory 30 = .ok (.if_icmp .le 14, 3) := by decide +kernel
theorem dX4_bestStory_33 : decode cX4_bestStory 33 = .ok (.iload_n 2, 1) := by decide +kernel
theorem dX4_bestStory_34 : decode cX4_bestStory 34 = .ok (.bipush 9, 2) := by decide +kernel
theorem dX4_bestStory_36 : decode cX4_bestStory 36 = .ok (.idiv, 1) := by decide +kernel
theorem dX4_bestStory_37 : decode cX4_bestStory 37 = .ok (.istore_n 2, 1) := by decide +kernel
theorem dX4_bestStory_38 : decode cX4_bestStory 38 = .ok (.iinc 3 (-1), 3) := by decide +kernel
theorem dX4_bestStory_41 : decode cX4_bestStory 41 = .ok (.goto (-13), 3) := by decide +kernel
theorem dX4_bestStory_44 : decode cX4_bestStory 44 = .ok (.iload_n 2, 1) := by decide +kernel
theorem dX4_bestStory_45 : decode cX4_bestStory 45 = .ok (.bipush 9, 2) := by decide +kernel
theorem dX4_bestStory_47 : decode cX4_bestStory 47 = .ok (.irem, 1) := by decide +kernel
theorem dX4_bestStory_48 : decode cX4_bestStory 48 = .ok (.istore_n 3, 1) := by decide +kernel
theorem dX4_bestStory_49 : decode cX4_bestStory 49 = .ok (.iload_n 3, 1) := by decide +kernel
theorem dX4_bestStory_50 : decode cX4_bestStory 50 = .ok (.bipush 8, 2) := by decide +kernel
theorem dX4_bestStory_52 : decode cX4_bestStory 52 = .ok (.if_icmp .ne 8, 3) := by decide +kernel
theorem dX4_bestStory_55 : decode cX4_bestStory 55 = .ok (.bipush (-9), 2) := by decide +kernel
theorem dX4_bestStory_57 : decode cX4_bestStory 57 = .ok (.goto 7, 3) := by decide +kernel
theorem dX4_bestStory_60 : decode cX4_bestStory 60 = .ok (.bipush 7, 2) := by decide +kernel
theorem dX4_bestStory_62 : decode cX4_bestStory 62 = .ok (.iload_n 3, 1) := by decide +kernel
theorem dX4_bestStory_63 : decode cX4_bestStory 63 = .ok (.isub, 1) := by decide +kernel
theorem dX4_bestStory_64 : decode cX4_bestStory 64 = .ok (.ireturn, 1) := by decide +kernel
theorem dX5_init_0 : decode cX5_init 0 = .ok (.aload_n 0, 1) := by decide +kernel
theorem dX5_init_1 : decode cX5_init 1 = .ok (.invokespecial 1, 3) := by decide +kernel
theorem dX5_init_4 : decode cX5_init 4 = .ok (.aload_n 0, 1) := by decide +kernel
theorem dX5_init_5 : decode cX5_init 5 = .ok (.iload_n 1, 1) := by decide +kernel
theorem dX5_init_6 : decode cX5_init 6 = .ok (.putfield 7, 3) := by decide +kernel
theorem dX5_init_9 : decode cX5_init 9 = .ok (.aload_n 0, 1) := by decide +kernel
theorem dX5_init_10 : decode cX5_init 10 = .ok (.iload_n 2, 1) := by decide +kernel
theorem dX5_init_11 : decode cX5_init 11 = .ok (.putfield 13, 3) := by decide +kernel
theorem dX5_init_14 : decode cX5_init 14 = .ok (.aload_n 0, 1) := by decide +kernel
theorem dX5_init_15 : decode cX5_init 15 = .ok (.iload_n 3, 1) := by decide +kernel
theorem dX5_init_16 : decode cX5_init 16 = .ok (.putfield 16, 3) := by decide +kernel
theorem dX5_init_19 : decode cX5_init 19 = .ok (.aload_n 0, 1) := by decide +kernel
theorem dX5_init_20 : decode cX5_init 20 = .ok (.iload 4, 2) := by decide +kernel
theorem dX5_init_22 : decode cX5_init 22 = .ok (.putfield 19, 3) := by decide +kernel
theorem dX5_init_25 : decode cX5_init 25 = .ok (.aload_n 0, 1) := by decide +kernel
theorem dX5_init_26 : decode cX5_init 26 = .ok (.iload 5, 2) := by decide +kernel
theorem dX5_init_28 : decode cX5_init 28 = .ok (.putfield 22, 3) := by decide +kernel
theorem dX5_init_31 : decode cX5_init 31 = .ok (.return_, 1) := by decide +kernel
theorem dX5_serves_0 : decode cX5_serves 0 = .ok (.aload_n 0, 1) := by decide +kernel
theorem dX5_serves_1 : decode cX5_serves 1 = .ok (.getfield 7, 3) := by decide +kernel
theorem dX5_serves_4 : decode cX5_serves 4 = .ok (.iload_n 1, 1) := by decide +kernel
theorem dX5_serves_5 : decode cX5_serves 5 = .ok (.if_icmp .ne 40, 3) := by decide +kernel
theorem dX5_serves_8 : decode cX5_serves 8 = .ok (.aload_n 0, 1) := by decide +kernel
theorem dX5_serves_9 : decode cX5_serves 9 = .ok (.getfield 13, 3) := by decide +kernel
theorem dX5_serves_12 : decode cX5_serves 12 = .ok (.iload_n 2, 1) := by decide +kernel
theorem dX5_serves_13 : decode cX5_serves 13 = .ok (.invokestatic 25, 3) := by decide +kernel
theorem dX5_serves_16 : decode cX5_serves 16 = .ok (.ifCond .eq 29, 3) := by decide +kernel
theorem dX5_serves_19 : decode cX5_serves 19 = .ok (.iload_n 3, 1) := by decide +kernel
theorem dX5_serves_20 : decode cX5_serves 20 = .ok (.aload_n 0, 1) := by decide +kernel
theorem dX5_serves_21 : decode cX5_serves 21 = .ok (.getfield 16, 3) := by decide +kernel
theorem dX5_serves_24 : decode cX5_serves 24 = .ok (.aload_n 0, 1) := by decide +kernel
theorem dX5_serves_25 : decode cX5_serves 25 = .ok (.getfield 19, 3) := by decide +kernel
theorem dX5_serves_28 : decode cX5_serves 28 = .ok (.invokestatic 31, 3) := by decide +kernel
theorem dX5_serves_31 : decode cX5_serves 31 = .ok (.ifCond .eq 14, 3) := by decide +kernel
theorem dX5_serves_34 : decode cX5_serves 34 = .ok (.aload_n 0, 1) := by decide +kernel
theorem dX5_serves_35 : decode cX5_serves 35 = .ok (.getfield 22, 3) := by decide +kernel
theorem dX5_serves_38 : decode cX5_serves 38 = .ok (.ifCond .le 7, 3) := by decide +kernel
theorem dX5_serves_41 : decode cX5_serves 41 = .ok (.iconst 1, 1) := by decide +kernel
theorem dX5_serves_42 : decode cX5_serves 42 = .ok (.goto 4, 3) := by decide +kernel
theorem dX5_serves_45 : decode cX5_serves 45 = .ok (.iconst 0, 1) := by decide +kernel
theorem dX5_serves_46 : decode cX5_serves 46 = .ok (.ireturn, 1) := by decide +kernel
theorem dX6_init_0 : decode cX6_init 0 = .ok (.aload_n 0, 1) := by decide +kernel
theorem dX6_init_1 : decode cX6_init 1 = .ok (.invokespecial 3, 3) := by decide +kernel
theorem dX6_init_4 : decode cX6_init 4 = .ok (.aload_n 0, 1) := by decide +kernel
theorem dX6_init_5 : decode cX6_init 5 = .ok (.ldc 9, 2) := by decide +kernel
theorem dX6_init_7 : decode cX6_init 7 = .ok (.putfield 10, 3) := by decide +kernel
theorem dX6_init_10 : decode cX6_init 10 = .ok (.aload_n 0, 1) := by decide +kernel
theorem dX6_init_11 : decode cX6_init 11 = .ok (.bipush 80, 2) := by decide +kernel
theorem dX6_init_13 : decode cX6_init 13 = .ok (.newarray .int, 2) := by decide +kernel
theorem dX6_init_15 : decode cX6_init 15 = .ok (.putfield 16, 3) := by decide +kernel
theorem dX6_init_18 : decode cX6_init 18 = .ok (.aload_n 0, 1) := by decide +kernel
theorem dX6_init_19 : decode cX6_init 19 = .ok (.iload_n 1, 1) := by decide +kernel
theorem dX6_init_20 : decode cX6_init 20 = .ok (.putfield 20, 3) := by decide +kernel
theorem dX6_init_23 : decode cX6_init 23 = .ok (.return_, 1) := by decide +kernel
theorem dX6_append_0 : decode cX6_append 0 = .ok (.iconst 0, 1) := by decide +kernel
theorem dX6_append_1 : decode cX6_append 1 = .ok (.istore_n 3, 1) := by decide +kernel
theorem dX6_append_2 : decode cX6_append 2 = .ok (.iload_n 3, 1) := by decide +kernel
theorem dX6_append_3 : decode cX6_append 3 = .ok (.bipush 8, 2) := by decide +kernel
theorem dX6_append_5 : decode cX6_append 5 = .ok (.if_icmp .ge 17, 3) := by decide +kernel
theorem dX6_append_8 : decode cX6_append 8 = .ok (.lload_n 1, 1) := by decide +kernel
theorem dX6_append_9 : decode cX6_append 9 = .ok (.iload_n 3, 1) := by decide +kernel
theorem dX6_append_10 : decode cX6_append 10 = .ok (.invokestatic 23, 3) := by decide +kernel
theorem dX6_append_13 : decode cX6_append 13 = .ok (.ifCond .eq 9, 3) := by decide +kernel
theorem dX6_append_16 : decode cX6_append 16 = .ok (.iinc 3 1, 3) := by decide +kernel
theorem dX6_append_19 : decode cX6_append 19 = .ok (.goto (-17), 3) := by decide +kernel
theorem dX6_append_22 : decode cX6_append 22 = .ok (.aload_n 0, 1) := by decide +kernel
theorem dX6_append_23 : decode cX6_append 23 = .ok (.getfield 27, 3) := by decide +kernel
theorem dX6_append_26 : decode cX6_append 26 = .ok (.iload_n 3, 1) := by decide +kernel
theorem dX6_append_27 : decode cX6_append 27 = .ok (.iadd, 1) := by decide +kernel
theorem dX6_append_28 : decode cX6_append 28 = .ok (.bipush 80, 2) := by decide +kernel
theorem dX6_append_30 : decode cX6_append 30 = .ok (.if_icmp .le 6, 3) := by decide +kernel
theorem dX6_append_33 : decode cX6_append 33 = .ok (.bipush (-4), 2) := by decide +kernel
theorem dX6_append_35 : decode cX6_append 35 = .ok (.ireturn, 1) := by decide +kernel
theorem dX6_append_36 : decode cX6_append 36 = .ok (.iconst 0, 1) := by decide +kernel
theorem dX6_append_37 : decode cX6_append 37 = .ok (.istore 4, 2) := by decide +kernel
theorem dX6_append_39 : decode cX6_append 39 = .ok (.iload 4, 2) := by decide +kernel
theorem dX6_append_41 : decode cX6_append 41 = .ok (.iload_n 3, 1) := by decide +kernel
theorem dX6_append_42 : decode cX6_append 42 = .ok (.if_icmp .ge 27, 3) := by decide +kernel
theorem dX6_append_45 : decode cX6_append 45 = .ok (.aload_n 0, 1) := by decide +kernel
theorem dX6_append_46 : decode cX6_append 46 = .ok (.getfield 16, 3) := by decide +kernel
theorem dX6_append_49 : decode cX6_append 49 = .ok (.aload_n 0, 1) := by decide +kernel
theorem dX6_append_50 : decode cX6_append 50 = .ok (.getfield 27, 3) := by decide +kernel
theorem dX6_append_53 : decode cX6_append 53 = .ok (.iload 4, 2) := by decide +kernel
theorem dX6_append_55 : decode cX6_append 55 = .ok (.iadd, 1) := by decide +kernel
theorem dX6_append_56 : decode cX6_append 56 = .ok (.lload_n 1, 1) := by decide +kernel
theorem dX6_append_57 : decode cX6_append 57 = .ok (.iload 4, 2) := by decide +kernel
theorem dX6_append_59 : decode cX6_append 59 = .ok (.invokestatic 23, 3) := by decide +kernel
theorem dX6_append_62 : decode cX6_append 62 = .ok (.iastore, 1) := by decide +kernel
theorem dX6_append_63 : decode cX6_append 63 = .ok (.iinc 4 1, 3) := by decide +kernel
theorem dX6_append_66 : decode cX6_append 66 = .ok (.goto (-27), 3) := by decide +kernel
theorem dX6_append_69 : decode cX6_append 69 = .ok (.aload_n 0, 1) := by decide +kernel
theorem dX6_append_70 : decode cX6_append 70 = .ok (.dup, 1) := by decide +kernel
theorem dX6_append_71 : decode cX6_append 71 = .ok (.getfield 27, 3) := by decide +kernel
theorem dX6_append_74 : decode cX6_append 74 = .ok (.iload_n 3, 1) := by decide +kernel
theorem dX6_append_75 : decode cX6_append 75 = .ok (.iadd, 1) := by decide +kernel
theorem dX6_append_76 : decode cX6_append 76 = .ok (.putfield 27, 3) := by decide +kernel
theorem dX6_append_79 : decode cX6_append 79 = .ok (.aload_n 0, 1) := by decide +kernel
theorem dX6_append_80 : decode cX6_append 80 = .ok (.getfield 27, 3) := by decide +kernel
theorem dX6_append_83 : decode cX6_append 83 = .ok (.ireturn, 1) := by decide +kernel
theorem dX6_byteAt_0 : decode cX6_byteAt 0 = .ok (.lload_n 0, 1) := by decide +kernel
theorem dX6_byteAt_1 : decode cX6_byteAt 1 = .ok (.bipush 8, 2) := by decide +kernel
theorem dX6_byteAt_3 : decode cX6_byteAt 3 = .ok (.iload_n 2, 1) := by decide +kernel
theorem dX6_byteAt_4 : decode cX6_byteAt 4 = .ok (.imul, 1) := by decide +kernel
theorem dX6_byteAt_5 : decode cX6_byteAt 5 = .ok (.lushr, 1) := by decide +kernel
theorem dX6_byteAt_6 : decode cX6_byteAt 6 = .ok (.ldc2_w 30, 3) := by decide +kernel
theorem dX6_byteAt_9 : decode cX6_byteAt 9 = .ok (.land, 1) := by decide +kernel
theorem dX6_byteAt_10 : decode cX6_byteAt 10 = .ok (.l2i, 1) := by decide +kernel
theorem dX6_byteAt_11 : decode cX6_byteAt 11 = .ok (.ireturn, 1) := by decide +kernel
theorem dX6_isInForce_0 : decode cX6_isInForce 0 = .ok (.iload_n 1, 1) := by decide +kernel
theorem dX6_isInForce_1 : decode cX6_isInForce 1 = .ok (.aload_n 0, 1) := by decide +kernel
theorem dX6_isInForce_2 : decode cX6_isInForce 2 = .ok (.getfield 20, 3) := by decide +kernel
theorem dX6_isInForce_5 : decode cX6_isInForce 5 = .ok (.if_icmp .lt 15, 3) := by decide +kernel
theorem dX6_isInForce_8 : decode cX6_isInForce 8 = .ok (.iload_n 1, 1) := by decide +kernel
theorem dX6_isInForce_9 : decode cX6_isInForce 9 = .ok (.aload_n 0, 1) := by decide +kernel
theorem dX6_isInForce_10 : decode cX6_isInForce 10 = .ok (.getfield 10, 3) := by decide +kernel
theorem dX6_isInForce_13 : decode cX6_isInForce 13 = .ok (.if_icmp .ge 7, 3) := by decide +kernel
theorem dX6_isInForce_16 : decode cX6_isInForce 16 = .ok (.iconst 1, 1) := by decide +kernel
theorem dX6_isInForce_17 : decode cX6_isInForce 17 = .ok (.goto 4, 3) := by decide +kernel
theorem dX6_isInForce_20 : decode cX6_isInForce 20 = .ok (.iconst 0, 1) := by decide +kernel
theorem dX6_isInForce_21 : decode cX6_isInForce 21 = .ok (.ireturn, 1) := by decide +kernel
theorem dX7_init_0 : decode cX7_init 0 = .ok (.aload_n 0, 1) := by decide +kernel
theorem dX7_init_1 : decode cX7_init 1 = .ok (.invokespecial 3, 3) := by decide +kernel
theorem dX7_init_4 : decode cX7_init 4 = .ok (.aload_n 0, 1) := by decide +kernel
theorem dX7_init_5 : decode cX7_init 5 = .ok (.ldc 9, 2) := by decide +kernel
theorem dX7_init_7 : decode cX7_init 7 = .ok (.putfield 10, 3) := by decide +kernel
theorem dX7_init_10 : decode cX7_init 10 = .ok (.aload_n 0, 1) := by decide +kernel
theorem dX7_init_11 : decode cX7_init 11 = .ok (.ldc 9, 2) := by decide +kernel
theorem dX7_init_13 : decode cX7_init 13 = .ok (.putfield 16, 3) := by decide +kernel
theorem dX7_init_16 : decode cX7_init 16 = .ok (.aload_n 0, 1) := by decide +kernel
theorem dX7_init_17 : decode cX7_init 17 = .ok (.ldc 9, 2) := by decide +kernel
theorem dX7_init_19 : decode cX7_init 19 = .ok (.putfield 19, 3) := by decide +kernel
theorem dX7_init_22 : decode cX7_init 22 = .ok (.aload_n 0, 1) := by decide +kernel
theorem dX7_init_23 : decode cX7_init 23 = .ok (.bipush (-9), 2) := by decide +kernel
theorem dX7_init_25 : decode cX7_init 25 = .ok (.putfield 22, 3) := by decide +kernel
theorem dX7_init_28 : decode cX7_init 28 = .ok (.aload_n 0, 1) := by decide +kernel
theorem dX7_init_29 : decode cX7_init 29 = .ok (.bipush (-9), 2) := by decide +kernel
theorem dX7_init_31 : decode cX7_init 31 = .ok (.putfield 25, 3) := by decide +kernel
theorem dX7_init_34 : decode cX7_init 34 = .ok (.aload_n 0, 1) := by decide +kernel
theorem dX7_init_35 : decode cX7_init 35 = .ok (.iload_n 1, 1) := by decide +kernel
theorem dX7_init_36 : decode cX7_init 36 = .ok (.putfield 28, 3) := by decide +kernel
theorem dX7_init_39 : decode cX7_init 39 = .ok (.aload_n 0, 1) := by decide +kernel
theorem dX7_init_40 : decode cX7_init 40 = .ok (.iload_n 2, 1) := by decide +kernel
theorem dX7_init_41 : decode cX7_init 41 = .ok (.putfield 31, 3) := by decide +kernel
theorem dX7_init_44 : decode cX7_init 44 = .ok (.aload_n 0, 1) := by decide +kernel
theorem dX7_init_45 : decode cX7_init 45 = .ok (.iload_n 3, 1) := by decide +kernel
theorem dX7_init_46 : decode cX7_init 46 = .ok (.putfield 34, 3) := by decide +kernel
theorem dX7_init_49 : decode cX7_init 49 = .ok (.aload_n 0, 1) := by decide +kernel
theorem dX7_init_50 : decode cX7_init 50 = .ok (.iload 4, 2) := by decide +kernel
theorem dX7_init_52 : decode cX7_init 52 = .ok (.putfield 37, 3) := by decide +kernel
theorem dX7_init_55 : decode cX7_init 55 = .ok (.aload_n 0, 1) := by decide +kernel
theorem dX7_init_56 : decode cX7_init 56 = .ok (.iload 5, 2) := by decide +kernel
theorem dX7_init_58 : decode cX7_init 58 = .ok (.putfield 40, 3) := by decide +kernel
theorem dX7_init_61 : decode cX7_init 61 = .ok (.aload_n 0, 1) := by decide +kernel
theorem dX7_init_62 : decode cX7_init 62 = .ok (.iload 6, 2) := by decide +kernel
theorem dX7_init_64 : decode cX7_init 64 = .ok (.putfield 43, 3) := by decide +kernel
theorem dX7_init_67 : decode cX7_init 67 = .ok (.aload_n 0, 1) := by decide +kernel
theorem dX7_init_68 : decode cX7_init 68 = .ok (.iload 7, 2) := by decide +kernel
theorem dX7_init_70 : decode cX7_init 70 = .ok (.putfield 46, 3) := by decide +kernel
theorem dX7_init_73 : decode cX7_init 73 = .ok (.return_, 1) := by decide +kernel
theorem dX7_tell_0 : decode cX7_tell 0 = .ok (.aload_n 0, 1) := by decide +kernel
theorem dX7_tell_1 : decode cX7_tell 1 = .ok (.iload_n 1, 1) := by decide +kernel
theorem dX7_tell_2 : decode cX7_tell 2 = .ok (.putfield 49, 3) := by decide +kernel
theorem dX7_tell_5 : decode cX7_tell 5 = .ok (.aload_n 0, 1) := by decide +kernel
theorem dX7_tell_6 : decode cX7_tell 6 = .ok (.getfield 46, 3) := by decide +kernel
theorem dX7_tell_9 : decode cX7_tell 9 = .ok (.ifCond .eq 8, 3) := by decide +kernel
theorem dX7_tell_12 : decode cX7_tell 12 = .ok (.aload_n 0, 1) := by decide +kernel
theorem dX7_tell_13 : decode cX7_tell 13 = .ok (.iload_n 1, 1) := by decide +kernel
theorem dX7_tell_14 : decode cX7_tell 14 = .ok (.putfield 16, 3) := by decide +kernel
theorem dX7_tell_17 : decode cX7_tell 17 = .ok (.return_, 1) := by decide +kernel
theorem dX7_whereAt_0 : decode cX7_whereAt 0 = .ok (.iload_n 1, 1) := by decide +kernel
theorem dX7_whereAt_1 : decode cX7_whereAt 1 = .ok (.aload_n 0, 1) := by decide +kernel
theorem dX7_whereAt_2 : decode cX7_whereAt 2 = .ok (.getfield 49, 3) := by decide +kernel
theorem dX7_whereAt_5 : decode cX7_whereAt 5 = .ok (.if_icmp .ge 5, 3) := by decide +kernel
theorem dX7_whereAt_8 : decode cX7_whereAt 8 = .ok (.iconst 0, 1) := by decide +kernel
theorem dX7_whereAt_9 : decode cX7_whereAt 9 = .ok (.ireturn, 1) := by decide +kernel
theorem dX7_whereAt_10 : decode cX7_whereAt 10 = .ok (.iload_n 1, 1) := by decide +kernel
theorem dX7_whereAt_11 : decode cX7_whereAt 11 = .ok (.aload_n 0, 1) := by decide +kernel
theorem dX7_whereAt_12 : decode cX7_whereAt 12 = .ok (.getfield 19, 3) := by decide +kernel
theorem dX7_whereAt_15 : decode cX7_whereAt 15 = .ok (.if_icmp .lt 5, 3) := by decide +kernel
theorem dX7_whereAt_18 : decode cX7_whereAt 18 = .ok (.iconst 4, 1) := by decide +kernel
theorem dX7_whereAt_19 : decode cX7_whereAt 19 = .ok (.ireturn, 1) := by decide +kernel
theorem dX7_whereAt_20 : decode cX7_whereAt 20 = .ok (.iload_n 1, 1) := by decide +kernel
theorem dX7_whereAt_21 : decode cX7_whereAt 21 = .ok (.aload_n 0, 1) := by decide +kernel
theorem dX7_whereAt_22 : decode cX7_whereAt 22 = .ok (.getfield 16, 3) := by decide +kernel
theorem dX7_whereAt_25 : decode cX7_whereAt 25 = .ok (.if_icmp .lt 5, 3) := by decide +kernel
theorem dX7_whereAt_28 : decode cX7_whereAt 28 = .ok (.iconst 3, 1) := by decide +kernel
theorem dX7_whereAt_29 : decode cX7_whereAt 29 = .ok (.ireturn, 1) := by decide +kernel
theorem dX7_whereAt_30 : decode cX7_whereAt 30 = .ok (.iload_n 1, 1) := by decide +kernel
theorem dX7_whereAt_31 : decode cX7_whereAt 31 = .ok (.aload_n 0, 1) := by decide +kernel
theorem dX7_whereAt_32 : decode cX7_whereAt 32 = .ok (.getfield 10, 3) := by decide +kernel
theorem dX7_whereAt_35 : decode cX7_whereAt 35 = .ok (.if_icmp .lt 7, 3) := by decide +kernel
theorem dX7_whereAt_38 : decode cX7_whereAt 38 = .ok (.iconst 2, 1) := by decide +kernel
theorem dX7_whereAt_39 : decode cX7_whereAt 39 = .ok (.goto 4, 3) := by decide +kernel
theorem dX7_whereAt_42 : decode cX7_whereAt 42 = .ok (.iconst 1, 1) := by decide +kernel
theorem dX7_whereAt_43 : decode cX7_whereAt 43 = .ok (.ireturn, 1) := by decide +kernel
theorem dX8_init_0 : decode cX8_init 0 = .ok (.aload_n 0, 1) := by decide +kernel
theorem dX8_init_1 : decode cX8_init 1 = .ok (.invokespecial 3, 3) := by decide +kernel
theorem dX8_init_4 : decode cX8_init 4 = .ok (.aload_n 0, 1) := by decide +kernel
theorem dX8_init_5 : decode cX8_init 5 = .ok (.bipush 6, 2) := by decide +kernel
theorem dX8_init_7 : decode cX8_init 7 = .ok (.anewarray 9, 3) := by decide +kernel
theorem dX8_init_10 : decode cX8_init 10 = .ok (.putfield 11, 3) := by decide +kernel
theorem dX8_init_13 : decode cX8_init 13 = .ok (.aload_n 0, 1) := by decide +kernel
theorem dX8_init_14 : decode cX8_init 14 = .ok (.iload_n 1, 1) := by decide +kernel
theorem dX8_init_15 : decode cX8_init 15 = .ok (.putfield 17, 3) := by decide +kernel
theorem dX8_init_18 : decode cX8_init 18 = .ok (.aload_n 0, 1) := by decide +kernel
theorem dX8_init_19 : decode cX8_init 19 = .ok (.iload_n 2, 1) := by decide +kernel
theorem dX8_init_20 : decode cX8_init 20 = .ok (.putfield 21, 3) := by decide +kernel
theorem dX8_init_23 : decode cX8_init 23 = .ok (.aload_n 0, 1) := by decide +kernel
theorem dX8_init_24 : decode cX8_init 24 = .ok (.iload_n 3, 1) := by decide +kernel
theorem dX8_init_25 : decode cX8_init 25 = .ok (.putfield 24, 3) := by decide +kernel
theorem dX8_init_28 : decode cX8_init 28 = .ok (.aload_n 0, 1) := by decide +kernel
theorem dX8_init_29 : decode cX8_init 29 = .ok (.iload 4, 2) := by decide +kernel
theorem dX8_init_31 : decode cX8_init 31 = .ok (.putfield 27, 3) := by decide +kernel
theorem dX8_init_34 : decode cX8_init 34 = .ok (.return_, 1) := by decide +kernel
theorem dX8_has_0 : decode cX8_has 0 = .ok (.iconst 0, 1) := by decide +kernel
theorem dX8_has_1 : decode cX8_has 1 = .ok (.istore_n 2, 1) := by decide +kernel
theorem dX8_has_2 : decode cX8_has 2 = .ok (.iload_n 2, 1) := by decide +kernel
theorem dX8_has_3 : decode cX8_has 3 = .ok (.aload_n 0, 1) := by decide +kernel
theorem dX8_has_4 : decode cX8_has 4 = .ok (.getfield 30, 3) := by decide +kernel
theorem dX8_has_7 : decode cX8_has 7 = .ok (.if_icmp .ge 21, 3) := by decide +kernel
theorem dX8_has_10 : decode cX8_has 10 = .ok (.aload_n 0, 1) := by decide +kernel
theorem dX8_has_11 : decode cX8_has 11 = .ok (.getfield 11, 3) := by decide +kernel
theorem dX8_has_14 : decode cX8_has 14 = .ok (.iload_n 2, 1) := by decide +kernel
theorem dX8_has_15 : decode cX8_has 15 = .ok (.aaload, 1) := by decide +kernel
theorem dX8_has_16 : decode cX8_has 16 = .ok (.aload_n 1, 1) := by decide +kernel
theorem dX8_has_17 : decode cX8_has 17 = .ok (.if_acmp .ne 5, 3) := by decide +kernel
theorem dX8_has_20 : decode cX8_has 20 = .ok (.iconst 1, 1) := by decide +kernel
theorem dX8_has_21 : decode cX8_has 21 = .ok (.ireturn, 1) := by decide +kernel
theorem dX8_has_22 : decode cX8_has 22 = .ok (.iinc 2 1, 3) := by decide +kernel
theorem dX8_has_25 : decode cX8_has 25 = .ok (.goto (-23), 3) := by decide +kernel
theorem dX8_has_28 : decode cX8_has 28 = .ok (.iconst 0, 1) := by decide +kernel
theorem dX8_has_29 : decode cX8_has 29 = .ok (.ireturn, 1) := by decide +kernel
theorem dX8_append_0 : decode cX8_append 0 = .ok (.aload_n 0, 1) := by decide +kernel
theorem dX8_append_1 : decode cX8_append 1 = .ok (.getfield 30, 3) := by decide +kernel
theorem dX8_append_4 : decode cX8_append 4 = .ok (.bipush 6, 2) := by decide +kernel
theorem dX8_append_6 : decode cX8_append 6 = .ok (.if_icmp .lt 6, 3) := by decide +kernel
theorem dX8_append_9 : decode cX8_append 9 = .ok (.bipush (-4), 2) := by decide +kernel
theorem dX8_append_11 : decode cX8_append 11 = .ok (.ireturn, 1) := by decide +kernel
theorem dX8_append_12 : decode cX8_append 12 = .ok (.aload_n 0, 1) := by decide +kernel
theorem dX8_append_13 : decode cX8_append 13 = .ok (.getfield 11, 3) := by decide +kernel
theorem dX8_append_16 : decode cX8_append 16 = .ok (.aload_n 0, 1) := by decide +kernel
theorem dX8_append_17 : decode cX8_append 17 = .ok (.getfield 30, 3) := by decide +kernel
theorem dX8_append_20 : decode cX8_append 20 = .ok (.aload_n 1, 1) := by decide +kernel
theorem dX8_append_21 : decode cX8_append 21 = .ok (.aastore, 1) := by decide +kernel
theorem dX8_append_22 : decode cX8_append 22 = .ok (.aload_n 0, 1) := by decide +kernel
theorem dX8_append_23 : decode cX8_append 23 = .ok (.dup, 1) := by decide +kernel
theorem dX8_append_24 : decode cX8_append 24 = .ok (.getfield 30, 3) := by decide +kernel
theorem dX8_append_27 : decode cX8_append 27 = .ok (.iconst 1, 1) := by decide +kernel
theorem dX8_append_28 : decode cX8_append 28 = .ok (.iadd, 1) := by decide +kernel
theorem dX8_append_29 : decode cX8_append 29 = .ok (.putfield 30, 3) := by decide +kernel
theorem dX8_append_32 : decode cX8_append 32 = .ok (.aload_n 0, 1) := by decide +kernel
theorem dX8_append_33 : decode cX8_append 33 = .ok (.getfield 30, 3) := by decide +kernel
theorem dX8_append_36 : decode cX8_append 36 = .ok (.ireturn, 1) := by decide +kernel
theorem dX8_remove_0 : decode cX8_remove 0 = .ok (.iload_n 1, 1) := by decide +kernel
theorem dX8_remove_1 : decode cX8_remove 1 = .ok (.iconst 0, 1) := by decide +kernel
theorem dX8_remove_2 : decode cX8_remove 2 = .ok (.aload_n 0, 1) := by decide +kernel
theorem dX8_remove_3 : decode cX8_remove 3 = .ok (.getfield 30, 3) := by decide +kernel
theorem dX8_remove_6 : decode cX8_remove 6 = .ok (.iconst 1, 1) := by decide +kernel
theorem dX8_remove_7 : decode cX8_remove 7 = .ok (.isub, 1) := by decide +kernel
theorem dX8_remove_8 : decode cX8_remove 8 = .ok (.invokestatic 33, 3) := by decide +kernel
theorem dX8_remove_11 : decode cX8_remove 11 = .ok (.ifCond .ne 6, 3) := by decide +kernel
theorem dX8_remove_14 : decode cX8_remove 14 = .ok (.bipush (-2), 2) := by decide +kernel
theorem dX8_remove_16 : decode cX8_remove 16 = .ok (.ireturn, 1) := by decide +kernel
theorem dX8_remove_17 : decode cX8_remove 17 = .ok (.aload_n 0, 1) := by decide +kernel
theorem dX8_remove_18 : decode cX8_remove 18 = .ok (.getfield 11, 3) := by decide +kernel
theorem dX8_remove_21 : decode cX8_remove 21 = .ok (.iload_n 1, 1) := by decide +kernel
theorem dX8_remove_22 : decode cX8_remove 22 = .ok (.aaload, 1) := by decide +kernel
theorem dX8_remove_23 : decode cX8_remove 23 = .ok (.getfield 37, 3) := by decide +kernel
theorem dX8_remove_26 : decode cX8_remove 26 = .ok (.istore_n 2, 1) := by decide +kernel
theorem dX8_remove_27 : decode cX8_remove 27 = .ok (.iload_n 1, 1) := by decide +kernel
theorem dX8_remove_28 : decode cX8_remove 28 = .ok (.iconst 1, 1) := by decide +kernel
theorem dX8_remove_29 : decode cX8_remove 29 = .ok (.iadd, 1) := by decide +kernel
theorem dX8_remove_30 : decode cX8_remove 30 = .ok (.istore_n 3, 1) := by decide +kernel
theorem dX8_remove_31 : decode cX8_remove 31 = .ok (.iload_n 3, 1) := by decide +kernel
theorem dX8_remove_32 : decode cX8_remove 32 = .ok (.aload_n 0, 1) := by decide +kernel
theorem dX8_remove_33 : decode cX8_remove 33 = .ok (.getfield 30, 3) := by decide +kernel
theorem dX8_remove_36 : decode cX8_remove 36 = .ok (.if_icmp .ge 23, 3) := by decide +kernel
theorem dX8_remove_39 : decode cX8_remove 39 = .ok (.aload_n 0, 1) := by decide +kernel
theorem dX8_remove_40 : decode cX8_remove 40 = .ok (.getfield 11, 3) := by decide +kernel
theorem dX8_remove_43 : decode cX8_remove 43 = .ok (.iload_n 3, 1) := by decide +kernel
theorem dX8_remove_44 : decode cX8_remove 44 = .ok (.iconst 1, 1) := by decide +kernel
theorem dX8_remove_45 : decode cX8_remove 45 = .ok (.isub, 1) := by decide +kernel
theorem dX8_remove_46 : decode cX8_remove 46 = .ok (.aload_n 0, 1) := by decide +kernel
theorem dX8_remove_47 : decode cX8_remove 47 = .ok (.getfield 11, 3) := by decide +kernel
theorem dX8_remove_50 : decode cX8_remove 50 = .ok (.iload_n 3, 1) := by decide +kernel
theorem dX8_remove_51 : decode cX8_remove 51 = .ok (.aaload, 1) := by decide +kernel
theorem dX8_remove_52 : decode cX8_remove 52 = .ok (.aastore, 1) := by decide +kernel
theorem dX8_remove_53 : decode cX8_remove 53 = .ok (.iinc 3 1, 3) := by decide +kernel
theorem dX8_remove_56 : decode cX8_remove 56 = .ok (.goto (-25), 3) := by decide +kernel
theorem dX8_remove_59 : decode cX8_remove 59 = .ok (.aload_n 0, 1) := by decide +kernel
theorem dX8_remove_60 : decode cX8_remove 60 = .ok (.dup, 1) := by decide +kernel
theorem dX8_remove_61 : decode cX8_remove 61 = .ok (.getfield 30, 3) := by decide +kernel
theorem dX8_remove_64 : decode cX8_remove 64 = .ok (.iconst 1, 1) := by decide +kernel
theorem dX8_remove_65 : decode cX8_remove 65 = .ok (.isub, 1) := by decide +kernel
theorem dX8_remove_66 : decode cX8_remove 66 = .ok (.putfield 30, 3) := by decide +kernel
theorem dX8_remove_69 : decode cX8_remove 69 = .ok (.iload_n 2, 1) := by decide +kernel
theorem dX8_remove_70 : decode cX8_remove 70 = .ok (.ireturn, 1) := by decide +kernel
theorem dX8_allFeet_0 : decode cX8_allFeet 0 = .ok (.iconst 0, 1) := by decide +kernel
theorem dX8_allFeet_1 : decode cX8_allFeet 1 = .ok (.istore_n 1, 1) := by decide +kernel
theorem dX8_allFeet_2 : decode cX8_allFeet 2 = .ok (.iconst 0, 1) := by decide +kernel
theorem dX8_allFeet_3 : decode cX8_allFeet 3 = .ok (.istore_n 2, 1) := by decide +kernel
theorem dX8_allFeet_4 : decode cX8_allFeet 4 = .ok (.iload_n 2, 1) := by decide +kernel
theorem dX8_allFeet_5 : decode cX8_allFeet 5 = .ok (.aload_n 0, 1) := by decide +kernel
theorem dX8_allFeet_6 : decode cX8_allFeet 6 = .ok (.getfield 30, 3) := by decide +kernel
theorem dX8_allFeet_9 : decode cX8_allFeet 9 = .ok (.if_icmp .ge 21, 3) := by decide +kernel
theorem dX8_allFeet_12 : decode cX8_allFeet 12 = .ok (.iload_n 1, 1) := by decide +kernel
theorem dX8_allFeet_13 : decode cX8_allFeet 13 = .ok (.aload_n 0, 1) := by decide +kernel
theorem dX8_allFeet_14 : decode cX8_allFeet 14 = .ok (.getfield 11, 3) := by decide +kernel
theorem dX8_allFeet_17 : decode cX8_allFeet 17 = .ok (.iload_n 2, 1) := by decide +kernel
theorem dX8_allFeet_18 : decode cX8_allFeet 18 = .ok (.aaload, 1) := by decide +kernel
theorem dX8_allFeet_19 : decode cX8_allFeet 19 = .ok (.getfield 40, 3) := by decide +kernel
theorem dX8_allFeet_22 : decode cX8_allFeet 22 = .ok (.iadd, 1) := by decide +kernel
theorem dX8_allFeet_23 : decode cX8_allFeet 23 = .ok (.istore_n 1, 1) := by decide +kernel
theorem dX8_allFeet_24 : decode cX8_allFeet 24 = .ok (.iinc 2 1, 3) := by decide +kernel
theorem dX8_allFeet_27 : decode cX8_allFeet 27 = .ok (.goto (-23), 3) := by decide +kernel
theorem dX8_allFeet_30 : decode cX8_allFeet 30 = .ok (.iload_n 1, 1) := by decide +kernel
theorem dX8_allFeet_31 : decode cX8_allFeet 31 = .ok (.ireturn, 1) := by decide +kernel
theorem dX8_disorder_0 : decode cX8_disorder 0 = .ok (.iconst 1, 1) := by decide +kernel
theorem dX8_disorder_1 : decode cX8_disorder 1 = .ok (.istore_n 1, 1) := by decide +kernel
theorem dX8_disorder_2 : decode cX8_disorder 2 = .ok (.iload_n 1, 1) := by decide +kernel
theorem dX8_disorder_3 : decode cX8_disorder 3 = .ok (.aload_n 0, 1) := by decide +kernel
theorem dX8_disorder_4 : decode cX8_disorder 4 = .ok (.getfield 30, 3) := by decide +kernel
theorem dX8_disorder_7 : decode cX8_disorder 7 = .ok (.if_icmp .ge 49, 3) := by decide +kernel
theorem dX8_disorder_10 : decode cX8_disorder 10 = .ok (.aload_n 0, 1) := by decide +kernel
theorem dX8_disorder_11 : decode cX8_disorder 11 = .ok (.getfield 11, 3) := by decide +kernel
theorem dX8_disorder_14 : decode cX8_disorder 14 = .ok (.iload_n 1, 1) := by decide +kernel
theorem dX8_disorder_15 : decode cX8_disorder 15 = .ok (.iconst 1, 1) := by decide +kernel
theorem dX8_disorder_16 : decode cX8_disorder 16 = .ok (.isub, 1) := by decide +kernel
theorem dX8_disorder_17 : decode cX8_disorder 17 = .ok (.aaload, 1) := by decide +kernel
theorem dX8_disorder_18 : decode cX8_disorder 18 = .ok (.getfield 43, 3) := by decide +kernel
theorem dX8_disorder_21 : decode cX8_disorder 21 = .ok (.istore_n 2, 1) := by decide +kernel
theorem dX8_disorder_22 : decode cX8_disorder 22 = .ok (.aload_n 0, 1) := by decide +kernel
theorem dX8_disorder_23 : decode cX8_disorder 23 = .ok (.getfield 11, 3) := by decide +kernel
theorem dX8_disorder_26 : decode cX8_disorder 26 = .ok (.iload_n 1, 1) := by decide +kernel
theorem dX8_disorder_27 : decode cX8_disorder 27 = .ok (.aaload, 1) := by decide +kernel
theorem dX8_disorder_28 : decode cX8_disorder 28 = .ok (.getfield 43, 3) := by decide +kernel
theorem dX8_disorder_31 : decode cX8_disorder 31 = .ok (.istore_n 3, 1) := by decide +kernel
theorem dX8_disorder_32 : decode cX8_disorder 32 = .ok (.iload_n 3, 1) := by decide +kernel
theorem dX8_disorder_33 : decode cX8_disorder 33 = .ok (.iload_n 2, 1) := by decide +kernel
theorem dX8_disorder_34 : decode cX8_disorder 34 = .ok (.if_icmp .lt 14, 3) := by decide +kernel
theorem dX8_disorder_37 : decode cX8_disorder 37 = .ok (.iload_n 3, 1) := by decide +kernel
theorem dX8_disorder_38 : decode cX8_disorder 38 = .ok (.invokestatic 44, 3) := by decide +kernel
theorem dX8_disorder_41 : decode cX8_disorder 41 = .ok (.iload_n 2, 1) := by decide +kernel
theorem dX8_disorder_42 : decode cX8_disorder 42 = .ok (.invokestatic 44, 3) := by decide +kernel
theorem dX8_disorder_45 : decode cX8_disorder 45 = .ok (.if_icmp .eq 5, 3) := by decide +kernel
theorem dX8_disorder_48 : decode cX8_disorder 48 = .ok (.iload_n 1, 1) := by decide +kernel
theorem dX8_disorder_49 : decode cX8_disorder 49 = .ok (.ireturn, 1) := by decide +kernel
theorem dX8_disorder_50 : decode cX8_disorder 50 = .ok (.iinc 1 1, 3) := by decide +kernel
theorem dX8_disorder_53 : decode cX8_disorder 53 = .ok (.goto (-51), 3) := by decide +kernel
theorem dX8_disorder_56 : decode cX8_disorder 56 = .ok (.bipush (-9), 2) := by decide +kernel
theorem dX8_disorder_58 : decode cX8_disorder 58 = .ok (.ireturn, 1) := by decide +kernel
theorem dX8_oldOnes_0 : decode cX8_oldOnes 0 = .ok (.iconst 0, 1) := by decide +kernel
theorem dX8_oldOnes_1 : decode cX8_oldOnes 1 = .ok (.istore_n 2, 1) := by decide +kernel
theorem dX8_oldOnes_2 : decode cX8_oldOnes 2 = .ok (.iconst 0, 1) := by decide +kernel
theorem dX8_oldOnes_3 : decode cX8_oldOnes 3 = .ok (.istore_n 3, 1) := by decide +kernel
theorem dX8_oldOnes_4 : decode cX8_oldOnes 4 = .ok (.iload_n 3, 1) := by decide +kernel
theorem dX8_oldOnes_5 : decode cX8_oldOnes 5 = .ok (.aload_n 0, 1) := by decide +kernel
theorem dX8_oldOnes_6 : decode cX8_oldOnes 6 = .ok (.getfield 30, 3) := by decide +kernel
theorem dX8_oldOnes_9 : decode cX8_oldOnes 9 = .ok (.if_icmp .ge 36, 3) := by decide +kernel
theorem dX8_oldOnes_12 : decode cX8_oldOnes 12 = .ok (.aload_n 0, 1) := by decide +kernel
theorem dX8_oldOnes_13 : decode cX8_oldOnes 13 = .ok (.getfield 24, 3) := by decide +kernel
theorem dX8_oldOnes_16 : decode cX8_oldOnes 16 = .ok (.invokestatic 44, 3) := by decide +kernel
theorem dX8_oldOnes_19 : decode cX8_oldOnes 19 = .ok (.aload_n 0, 1) := by decide +kernel
theorem dX8_oldOnes_20 : decode cX8_oldOnes 20 = .ok (.getfield 11, 3) := by decide +kernel
theorem dX8_oldOnes_23 : decode cX8_oldOnes 23 = .ok (.iload_n 3, 1) := by decide +kernel
theorem dX8_oldOnes_24 : decode cX8_oldOnes 24 = .ok (.aaload, 1) := by decide +kernel
theorem dX8_oldOnes_25 : decode cX8_oldOnes 25 = .ok (.getfield 43, 3) := by decide +kernel
theorem dX8_oldOnes_28 : decode cX8_oldOnes 28 = .ok (.invokestatic 44, 3) := by decide +kernel
theorem dX8_oldOnes_31 : decode cX8_oldOnes 31 = .ok (.isub, 1) := by decide +kernel
theorem dX8_oldOnes_32 : decode cX8_oldOnes 32 = .ok (.iload_n 1, 1) := by decide +kernel
theorem dX8_oldOnes_33 : decode cX8_oldOnes 33 = .ok (.if_icmp .le 6, 3) := by decide +kernel
theorem dX8_oldOnes_36 : decode cX8_oldOnes 36 = .ok (.iinc 2 1, 3) := by decide +kernel
theorem dX8_oldOnes_39 : decode cX8_oldOnes 39 = .ok (.iinc 3 1, 3) := by decide +kernel
theorem dX8_oldOnes_42 : decode cX8_oldOnes 42 = .ok (.goto (-38), 3) := by decide +kernel
theorem dX8_oldOnes_45 : decode cX8_oldOnes 45 = .ok (.iload_n 2, 1) := by decide +kernel
theorem dX8_oldOnes_46 : decode cX8_oldOnes 46 = .ok (.ireturn, 1) := by decide +kernel
theorem dX8_falseOnes_0 : decode cX8_falseOnes 0 = .ok (.iconst 0, 1) := by decide +kernel
theorem dX8_falseOnes_1 : decode cX8_falseOnes 1 = .ok (.istore_n 2, 1) := by decide +kernel
theorem dX8_falseOnes_2 : decode cX8_falseOnes 2 = .ok (.iconst 0, 1) := by decide +kernel
theorem dX8_falseOnes_3 : decode cX8_falseOnes 3 = .ok (.istore_n 3, 1) := by decide +kernel
theorem dX8_falseOnes_4 : decode cX8_falseOnes 4 = .ok (.iload_n 3, 1) := by decide +kernel
theorem dX8_falseOnes_5 : decode cX8_falseOnes 5 = .ok (.aload_n 0, 1) := by decide +kernel
theorem dX8_falseOnes_6 : decode cX8_falseOnes 6 = .ok (.getfield 30, 3) := by decide +kernel
theorem dX8_falseOnes_9 : decode cX8_falseOnes 9 = .ok (.if_icmp .ge 38, 3) := by decide +kernel
theorem dX8_falseOnes_12 : decode cX8_falseOnes 12 = .ok (.aload_n 1, 1) := by decide +kernel
theorem dX8_falseOnes_13 : decode cX8_falseOnes 13 = .ok (.aload_n 0, 1) := by decide +kernel
theorem dX8_falseOnes_14 : decode cX8_falseOnes 14 = .ok (.getfield 11, 3) := by decide +kernel
theorem dX8_falseOnes_17 : decode cX8_falseOnes 17 = .ok (.iload_n 3, 1) := by decide +kernel
theorem dX8_falseOnes_18 : decode cX8_falseOnes 18 = .ok (.aaload, 1) := by decide +kernel
theorem dX8_falseOnes_19 : decode cX8_falseOnes 19 = .ok (.getfield 48, 3) := by decide +kernel
theorem dX8_falseOnes_22 : decode cX8_falseOnes 22 = .ok (.aload_n 0, 1) := by decide +kernel
theorem dX8_falseOnes_23 : decode cX8_falseOnes 23 = .ok (.getfield 21, 3) := by decide +kernel
theorem dX8_falseOnes_26 : decode cX8_falseOnes 26 = .ok (.aload_n 0, 1) := by decide +kernel
theorem dX8_falseOnes_27 : decode cX8_falseOnes 27 = .ok (.getfield 24, 3) := by decide +kernel
theorem dX8_falseOnes_30 : decode cX8_falseOnes 30 = .ok (.invokevirtual 51, 3) := by decide +kernel
theorem dX8_falseOnes_33 : decode cX8_falseOnes 33 = .ok (.bipush (-9), 2) := by decide +kernel
theorem dX8_falseOnes_35 : decode cX8_falseOnes 35 = .ok (.if_icmp .eq 6, 3) := by decide +kernel
theorem dX8_falseOnes_38 : decode cX8_falseOnes 38 = .ok (.iinc 2 1, 3) := by decide +kernel
theorem dX8_falseOnes_41 : decode cX8_falseOnes 41 = .ok (.iinc 3 1, 3) := by decide +kernel
theorem dX8_falseOnes_44 : decode cX8_falseOnes 44 = .ok (.goto (-40), 3) := by decide +kernel
theorem dX8_falseOnes_47 : decode cX8_falseOnes 47 = .ok (.iload_n 2, 1) := by decide +kernel
theorem dX8_falseOnes_48 : decode cX8_falseOnes 48 = .ok (.ireturn, 1) := by decide +kernel
theorem dX8_lentOnes_0 : decode cX8_lentOnes 0 = .ok (.iconst 0, 1) := by decide +kernel
theorem dX8_lentOnes_1 : decode cX8_lentOnes 1 = .ok (.istore_n 1, 1) := by decide +kernel
theorem dX8_lentOnes_2 : decode cX8_lentOnes 2 = .ok (.iconst 0, 1) := by decide +kernel
theorem dX8_lentOnes_3 : decode cX8_lentOnes 3 = .ok (.istore_n 2, 1) := by decide +kernel
theorem dX8_lentOnes_4 : decode cX8_lentOnes 4 = .ok (.iload_n 2, 1) := by decide +kernel
theorem dX8_lentOnes_5 : decode cX8_lentOnes 5 = .ok (.aload_n 0, 1) := by decide +kernel
theorem dX8_lentOnes_6 : decode cX8_lentOnes 6 = .ok (.getfield 30, 3) := by decide +kernel
theorem dX8_lentOnes_9 : decode cX8_lentOnes 9 = .ok (.if_icmp .ge 25, 3) := by decide +kernel
theorem dX8_lentOnes_12 : decode cX8_lentOnes 12 = .ok (.aload_n 0, 1) := by decide +kernel
theorem dX8_lentOnes_13 : decode cX8_lentOnes 13 = .ok (.getfield 11, 3) := by decide +kernel
theorem dX8_lentOnes_16 : decode cX8_lentOnes 16 = .ok (.iload_n 2, 1) := by decide +kernel
theorem dX8_lentOnes_17 : decode cX8_lentOnes 17 = .ok (.aaload, 1) := by decide +kernel
theorem dX8_lentOnes_18 : decode cX8_lentOnes 18 = .ok (.getfield 57, 3) := by decide +kernel
theorem dX8_lentOnes_21 : decode cX8_lentOnes 21 = .ok (.iconst 2, 1) := by decide +kernel
theorem dX8_lentOnes_22 : decode cX8_lentOnes 22 = .ok (.if_icmp .ne 6, 3) := by decide +kernel
theorem dX8_lentOnes_25 : decode cX8_lentOnes 25 = .ok (.iinc 1 1, 3) := by decide +kernel
theorem dX8_lentOnes_28 : decode cX8_lentOnes 28 = .ok (.iinc 2 1, 3) := by decide +kernel
theorem dX8_lentOnes_31 : decode cX8_lentOnes 31 = .ok (.goto (-27), 3) := by decide +kernel
theorem dX8_lentOnes_34 : decode cX8_lentOnes 34 = .ok (.iload_n 1, 1) := by decide +kernel
theorem dX8_lentOnes_35 : decode cX8_lentOnes 35 = .ok (.ireturn, 1) := by decide +kernel
theorem dX8_isReady_0 : decode cX8_isReady 0 = .ok (.iconst 0, 1) := by decide +kernel
theorem dX8_isReady_1 : decode cX8_isReady 1 = .ok (.istore_n 2, 1) := by decide +kernel
theorem dX8_isReady_2 : decode cX8_isReady 2 = .ok (.iload_n 2, 1) := by decide +kernel
theorem dX8_isReady_3 : decode cX8_isReady 3 = .ok (.aload_n 0, 1) := by decide +kernel
theorem dX8_isReady_4 : decode cX8_isReady 4 = .ok (.getfield 30, 3) := by decide +kernel
theorem dX8_isReady_7 : decode cX8_isReady 7 = .ok (.if_icmp .ge 25, 3) := by decide +kernel
theorem dX8_isReady_10 : decode cX8_isReady 10 = .ok (.aload_n 0, 1) := by decide +kernel
theorem dX8_isReady_11 : decode cX8_isReady 11 = .ok (.getfield 11, 3) := by decide +kernel
theorem dX8_isReady_14 : decode cX8_isReady 14 = .ok (.iload_n 2, 1) := by decide +kernel
theorem dX8_isReady_15 : decode cX8_isReady 15 = .ok (.aaload, 1) := by decide +kernel
theorem dX8_isReady_16 : decode cX8_isReady 16 = .ok (.iload_n 1, 1) := by decide +kernel
theorem dX8_isReady_17 : decode cX8_isReady 17 = .ok (.invokevirtual 60, 3) := by decide +kernel
theorem dX8_isReady_20 : decode cX8_isReady 20 = .ok (.iconst 3, 1) := by decide +kernel
theorem dX8_isReady_21 : decode cX8_isReady 21 = .ok (.if_icmp .eq 5, 3) := by decide +kernel
theorem dX8_isReady_24 : decode cX8_isReady 24 = .ok (.iconst 0, 1) := by decide +kernel
theorem dX8_isReady_25 : decode cX8_isReady 25 = .ok (.ireturn, 1) := by decide +kernel
theorem dX8_isReady_26 : decode cX8_isReady 26 = .ok (.iinc 2 1, 3) := by decide +kernel
theorem dX8_isReady_29 : decode cX8_isReady 29 = .ok (.goto (-27), 3) := by decide +kernel
theorem dX8_isReady_32 : decode cX8_isReady 32 = .ok (.aload_n 0, 1) := by decide +kernel
theorem dX8_isReady_33 : decode cX8_isReady 33 = .ok (.getfield 30, 3) := by decide +kernel
theorem dX8_isReady_36 : decode cX8_isReady 36 = .ok (.ifCond .le 7, 3) := by decide +kernel
theorem dX8_isReady_39 : decode cX8_isReady 39 = .ok (.iconst 1, 1) := by decide +kernel
theorem dX8_isReady_40 : decode cX8_isReady 40 = .ok (.goto 4, 3) := by decide +kernel
theorem dX8_isReady_43 : decode cX8_isReady 43 = .ok (.iconst 0, 1) := by decide +kernel
theorem dX8_isReady_44 : decode cX8_isReady 44 = .ok (.ireturn, 1) := by decide +kernel
theorem dX8_price_0 : decode cX8_price 0 = .ok (.iconst 0, 1) := by decide +kernel
theorem dX8_price_1 : decode cX8_price 1 = .ok (.istore_n 2, 1) := by decide +kernel
theorem dX8_price_2 : decode cX8_price 2 = .ok (.iconst 0, 1) := by decide +kernel
theorem dX8_price_3 : decode cX8_price 3 = .ok (.istore_n 3, 1) := by decide +kernel
theorem dX8_price_4 : decode cX8_price 4 = .ok (.iload_n 3, 1) := by decide +kernel
theorem dX8_price_5 : decode cX8_price 5 = .ok (.aload_n 0, 1) := by decide +kernel
theorem dX8_price_6 : decode cX8_price 6 = .ok (.getfield 30, 3) := by decide +kernel
theorem dX8_price_9 : decode cX8_price 9 = .ok (.if_icmp .ge 33, 3) := by decide +kernel
theorem dX8_price_12 : decode cX8_price 12 = .ok (.iload_n 2, 1) := by decide +kernel
theorem dX8_price_13 : decode cX8_price 13 = .ok (.aload_n 0, 1) := by decide +kernel
theorem dX8_price_14 : decode cX8_price 14 = .ok (.getfield 11, 3) := by decide +kernel
theorem dX8_price_17 : decode cX8_price 17 = .ok (.iload_n 3, 1) := by decide +kernel
theorem dX8_price_18 : decode cX8_price 18 = .ok (.aaload, 1) := by decide +kernel
theorem dX8_price_19 : decode cX8_price 19 = .ok (.getfield 40, 3) := by decide +kernel
theorem dX8_price_22 : decode cX8_price 22 = .ok (.aload_n 1, 1) := by decide +kernel
theorem dX8_price_23 : decode cX8_price 23 = .ok (.aload_n 0, 1) := by decide +kernel
theorem dX8_price_24 : decode cX8_price 24 = .ok (.getfield 11, 3) := by decide +kernel
theorem dX8_price_27 : decode cX8_price 27 = .ok (.iload_n 3, 1) := by decide +kernel
theorem dX8_price_28 : decode cX8_price 28 = .ok (.aaload, 1) := by decide +kernel
theorem dX8_price_29 : decode cX8_price 29 = .ok (.getfield 57, 3) := by decide +kernel
theorem dX8_price_32 : decode cX8_price 32 = .ok (.iaload, 1) := by decide +kernel
theorem dX8_price_33 : decode cX8_price 33 = .ok (.imul, 1) := by decide +kernel
theorem dX8_price_34 : decode cX8_price 34 = .ok (.iadd, 1) := by decide +kernel
theorem dX8_price_35 : decode cX8_price 35 = .ok (.istore_n 2, 1) := by decide +kernel
theorem dX8_price_36 : decode cX8_price 36 = .ok (.iinc 3 1, 3) := by decide +kernel
theorem dX8_price_39 : decode cX8_price 39 = .ok (.goto (-35), 3) := by decide +kernel
theorem dX8_price_42 : decode cX8_price 42 = .ok (.iload_n 2, 1) := by decide +kernel
theorem dX8_price_43 : decode cX8_price 43 = .ok (.ireturn, 1) := by decide +kernel
theorem dX9_init_0 : decode cX9_init 0 = .ok (.aload_n 0, 1) := by decide +kernel
theorem dX9_init_1 : decode cX9_init 1 = .ok (.invokespecial 3, 3) := by decide +kernel
theorem dX9_init_4 : decode cX9_init 4 = .ok (.aload_n 0, 1) := by decide +kernel
theorem dX9_init_5 : decode cX9_init 5 = .ok (.bipush 24, 2) := by decide +kernel
theorem dX9_init_7 : decode cX9_init 7 = .ok (.anewarray 9, 3) := by decide +kernel
theorem dX9_init_10 : decode cX9_init 10 = .ok (.putfield 11, 3) := by decide +kernel
theorem dX9_init_13 : decode cX9_init 13 = .ok (.aload_n 0, 1) := by decide +kernel
theorem dX9_init_14 : decode cX9_init 14 = .ok (.bipush 8, 2) := by decide +kernel
theorem dX9_init_16 : decode cX9_init 16 = .ok (.newarray .int, 2) := by decide +kernel
theorem dX9_init_18 : decode cX9_init 18 = .ok (.putfield 17, 3) := by decide +kernel
theorem dX9_init_21 : decode cX9_init 21 = .ok (.return_, 1) := by decide +kernel
theorem dX9_isFull_0 : decode cX9_isFull 0 = .ok (.aload_n 0, 1) := by decide +kernel
theorem dX9_isFull_1 : decode cX9_isFull 1 = .ok (.getfield 21, 3) := by decide +kernel
theorem dX9_isFull_4 : decode cX9_isFull 4 = .ok (.bipush 24, 2) := by decide +kernel
theorem dX9_isFull_6 : decode cX9_isFull 6 = .ok (.if_icmp .lt 7, 3) := by decide +kernel
theorem dX9_isFull_9 : decode cX9_isFull 9 = .ok (.iconst 1, 1) := by decide +kernel
theorem dX9_isFull_10 : decode cX9_isFull 10 = .ok (.goto 4, 3) := by decide +kernel
theorem dX9_isFull_13 : decode cX9_isFull 13 = .ok (.iconst 0, 1) := by decide +kernel
theorem dX9_isFull_14 : decode cX9_isFull 14 = .ok (.ireturn, 1) := by decide +kernel
theorem dX9_add_0 : decode cX9_add 0 = .ok (.aload_n 0, 1) := by decide +kernel
theorem dX9_add_1 : decode cX9_add 1 = .ok (.invokevirtual 25, 3) := by decide +kernel
theorem dX9_add_4 : decode cX9_add 4 = .ok (.ifCond .eq 6, 3) := by decide +kernel
theorem dX9_add_7 : decode cX9_add 7 = .ok (.bipush (-4), 2) := by decide +kernel
theorem dX9_add_9 : decode cX9_add 9 = .ok (.ireturn, 1) := by decide +kernel
theorem dX9_add_10 : decode cX9_add 10 = .ok (.aload_n 0, 1) := by decide +kernel
theorem dX9_add_11 : decode cX9_add 11 = .ok (.getfield 11, 3) := by decide +kernel
theorem dX9_add_14 : decode cX9_add 14 = .ok (.aload_n 0, 1) := by decide +kernel
theorem dX9_add_15 : decode cX9_add 15 = .ok (.getfield 21, 3) := by decide +kernel
theorem dX9_add_18 : decode cX9_add 18 = .ok (.aload_n 1, 1) := by decide +kernel
theorem dX9_add_19 : decode cX9_add 19 = .ok (.aastore, 1) := by decide +kernel
theorem dX9_add_20 : decode cX9_add 20 = .ok (.aload_n 0, 1) := by decide +kernel
theorem dX9_add_21 : decode cX9_add 21 = .ok (.dup, 1) := by decide +kernel
theorem dX9_add_22 : decode cX9_add 22 = .ok (.getfield 21, 3) := by decide +kernel
theorem dX9_add_25 : decode cX9_add 25 = .ok (.iconst 1, 1) := by decide +kernel
theorem dX9_add_26 : decode cX9_add 26 = .ok (.iadd, 1) := by decide +kernel
theorem dX9_add_27 : decode cX9_add 27 = .ok (.putfield 21, 3) := by decide +kernel
theorem dX9_add_30 : decode cX9_add 30 = .ok (.aload_n 0, 1) := by decide +kernel
theorem dX9_add_31 : decode cX9_add 31 = .ok (.getfield 21, 3) := by decide +kernel
theorem dX9_add_34 : decode cX9_add 34 = .ok (.iconst 1, 1) := by decide +kernel
theorem dX9_add_35 : decode cX9_add 35 = .ok (.isub, 1) := by decide +kernel
theorem dX9_add_36 : decode cX9_add 36 = .ok (.ireturn, 1) := by decide +kernel
theorem dX9_numbered_0 : decode cX9_numbered 0 = .ok (.iload_n 1, 1) := by decide +kernel
theorem dX9_numbered_1 : decode cX9_numbered 1 = .ok (.iconst 0, 1) := by decide +kernel
theorem dX9_numbered_2 : decode cX9_numbered 2 = .ok (.aload_n 0, 1) := by decide +kernel
theorem dX9_numbered_3 : decode cX9_numbered 3 = .ok (.getfield 21, 3) := by decide +kernel
theorem dX9_numbered_6 : decode cX9_numbered 6 = .ok (.iconst 1, 1) := by decide +kernel
theorem dX9_numbered_7 : decode cX9_numbered 7 = .ok (.isub, 1) := by decide +kernel
theorem dX9_numbered_8 : decode cX9_numbered 8 = .ok (.invokestatic 29, 3) := by decide +kernel
theorem dX9_numbered_11 : decode cX9_numbered 11 = .ok (.ifCond .eq 12, 3) := by decide +kernel
theorem dX9_numbered_14 : decode cX9_numbered 14 = .ok (.aload_n 0, 1) := by decide +kernel
theorem dX9_numbered_15 : decode cX9_numbered 15 = .ok (.getfield 11, 3) := by decide +kernel
theorem dX9_numbered_18 : decode cX9_numbered 18 = .ok (.iload_n 1, 1) := by decide +kernel
theorem dX9_numbered_19 : decode cX9_numbered 19 = .ok (.aaload, 1) := by decide +kernel
theorem dX9_numbered_20 : decode cX9_numbered 20 = .ok (.goto 4, 3) := by decide +kernel
theorem dX9_numbered_23 : decode cX9_numbered 23 = .ok (.aconst_null, 1) := by decide +kernel
theorem dX9_numbered_24 : decode cX9_numbered 24 = .ok (.areturn, 1) := by decide +kernel
theorem dX9_travel_0 : decode cX9_travel 0 = .ok (.aload_n 0, 1) := by decide +kernel
theorem dX9_travel_1 : decode cX9_travel 1 = .ok (.getfield 17, 3) := by decide +kernel
theorem dX9_travel_4 : decode cX9_travel 4 = .ok (.ldc 33, 2) := by decide +kernel
theorem dX9_travel_6 : decode cX9_travel 6 = .ok (.invokestatic 34, 3) := by decide +kernel
theorem dX9_travel_9 : decode cX9_travel 9 = .ok (.aload_n 0, 1) := by decide +kernel
theorem dX9_travel_10 : decode cX9_travel 10 = .ok (.getfield 17, 3) := by decide +kernel
theorem dX9_travel_13 : decode cX9_travel 13 = .ok (.iload_n 1, 1) := by decide +kernel
theorem dX9_travel_14 : decode cX9_travel 14 = .ok (.iload_n 2, 1) := by decide +kernel
theorem dX9_travel_15 : decode cX9_travel 15 = .ok (.iastore, 1) := by decide +kernel
theorem dX9_travel_16 : decode cX9_travel 16 = .ok (.iconst 1, 1) := by decide +kernel
theorem dX9_travel_17 : decode cX9_travel 17 = .ok (.istore 4, 2) := by decide +kernel
theorem dX9_travel_19 : decode cX9_travel 19 = .ok (.iconst 0, 1) := by decide +kernel
theorem dX9_travel_20 : decode cX9_travel 20 = .ok (.istore 5, 2) := by decide +kernel
theorem dX9_travel_22 : decode cX9_travel 22 = .ok (.iload 5, 2) := by decide +kernel
theorem dX9_travel_24 : decode cX9_travel 24 = .ok (.bipush 8, 2) := by decide +kernel
theorem dX9_travel_26 : decode cX9_travel 26 = .ok (.if_icmp .ge 92, 3) := by decide +kernel
theorem dX9_travel_29 : decode cX9_travel 29 = .ok (.iload 4, 2) := by decide +kernel
theorem dX9_travel_31 : decode cX9_travel 31 = .ok (.ifCond .eq 87, 3) := by decide +kernel
theorem dX9_travel_34 : decode cX9_travel 34 = .ok (.iconst 0, 1) := by decide +kernel
theorem dX9_travel_35 : decode cX9_travel 35 = .ok (.istore 4, 2) := by decide +kernel
theorem dX9_travel_37 : decode cX9_travel 37 = .ok (.iconst 0, 1) := by decide +kernel
theorem dX9_travel_38 : decode cX9_travel 38 = .ok (.istore 6, 2) := by decide +kernel
theorem dX9_travel_40 : decode cX9_travel 40 = .ok (.iload 6, 2) := by decide +kernel
theorem dX9_travel_42 : decode cX9_travel 42 = .ok (.aload_n 0, 1) := by decide +kernel
theorem dX9_travel_43 : decode cX9_travel 43 = .ok (.getfield 21, 3) := by decide +kernel
theorem dX9_travel_46 : decode cX9_travel 46 = .ok (.if_icmp .ge 66, 3) := by decide +kernel
theorem dX9_travel_49 : decode cX9_travel 49 = .ok (.aload_n 0, 1) := by decide +kernel
theorem dX9_travel_50 : decode cX9_travel 50 = .ok (.getfield 11, 3) := by decide +kernel
theorem dX9_travel_53 : decode cX9_travel 53 = .ok (.iload 6, 2) := by decide +kernel
theorem dX9_travel_55 : decode cX9_travel 55 = .ok (.aaload, 1) := by decide +kernel
theorem dX9_travel_56 : decode cX9_travel 56 = .ok (.astore 7, 2) := by decide +kernel
theorem dX9_travel_58 : decode cX9_travel 58 = .ok (.aload 7, 2) := by decide +kernel
theorem dX9_travel_60 : decode cX9_travel 60 = .ok (.aload_n 0, 1) := by decide +kernel
theorem dX9_travel_61 : decode cX9_travel 61 = .ok (.getfield 17, 3) := by decide +kernel
theorem dX9_travel_64 : decode cX9_travel 64 = .ok (.aload 7, 2) := by decide +kernel
theorem dX9_travel_66 : decode cX9_travel 66 = .ok (.getfield 40, 3) := by decide +kernel
theorem dX9_travel_69 : decode cX9_travel 69 = .ok (.iaload, 1) := by decide +kernel
theorem dX9_travel_70 : decode cX9_travel 70 = .ok (.iload_n 3, 1) := by decide +kernel
theorem dX9_travel_71 : decode cX9_travel 71 = .ok (.invokevirtual 43, 3) := by decide +kernel
theorem dX9_travel_74 : decode cX9_travel 74 = .ok (.istore 8, 2) := by decide +kernel
theorem dX9_travel_76 : decode cX9_travel 76 = .ok (.iload 8, 2) := by decide +kernel
theorem dX9_travel_78 : decode cX9_travel 78 = .ok (.aload_n 0, 1) := by decide +kernel
theorem dX9_travel_79 : decode cX9_travel 79 = .ok (.getfield 17, 3) := by decide +kernel
theorem dX9_travel_82 : decode cX9_travel 82 = .ok (.aload 7, 2) := by decide +kernel
theorem dX9_travel_84 : decode cX9_travel 84 = .ok (.getfield 47, 3) := by decide +kernel
theorem dX9_travel_87 : decode cX9_travel 87 = .ok (.iaload, 1) := by decide +kernel
theorem dX9_travel_88 : decode cX9_travel 88 = .ok (.if_icmp .ge 18, 3) := by decide +kernel
theorem dX9_travel_91 : decode cX9_travel 91 = .ok (.aload_n 0, 1) := by decide +kernel
theorem dX9_travel_92 : decode cX9_travel 92 = .ok (.getfield 17, 3) := by decide +kernel
theorem dX9_travel_95 : decode cX9_travel 95 = .ok (.aload 7, 2) := by decide +kernel
theorem dX9_travel_97 : decode cX9_travel 97 = .ok (.getfield 47, 3) := by decide +kernel
theorem dX9_travel_100 : decode cX9_travel 100 = .ok (.iload 8, 2) := by decide +kernel
theorem dX9_travel_102 : decode cX9_travel 102 = .ok (.iastore, 1) := by decide +kernel
theorem dX9_travel_103 : decode cX9_travel 103 = .ok (.iconst 1, 1) := by decide +kernel
theorem dX9_travel_104 : decode cX9_travel 104 = .ok (.istore 4, 2) := by decide +kernel
theorem dX9_travel_106 : decode cX9_travel 106 = .ok (.iinc 6 1, 3) := by decide +kernel
theorem dX9_travel_109 : decode cX9_travel 109 = .ok (.goto (-69), 3) := by decide +kernel
theorem dX9_travel_112 : decode cX9_travel 112 = .ok (.iinc 5 1, 3) := by decide +kernel
theorem dX9_travel_115 : decode cX9_travel 115 = .ok (.goto (-93), 3) := by decide +kernel
theorem dX9_travel_118 : decode cX9_travel 118 = .ok (.return_, 1) := by decide +kernel
theorem dX9_isThereBy_0 : decode cX9_isThereBy 0 = .ok (.aload_n 0, 1) := by decide +kernel
theorem dX9_isThereBy_1 : decode cX9_isThereBy 1 = .ok (.getfield 17, 3) := by decide +kernel
theorem dX9_isThereBy_4 : decode cX9_isThereBy 4 = .ok (.iload_n 1, 1) := by decide +kernel
theorem dX9_isThereBy_5 : decode cX9_isThereBy 5 = .ok (.iaload, 1) := by decide +kernel
theorem dX9_isThereBy_6 : decode cX9_isThereBy 6 = .ok (.iload_n 2, 1) := by decide +kernel
theorem dX9_isThereBy_7 : decode cX9_isThereBy 7 = .ok (.if_icmp .gt 7, 3) := by decide +kernel
theorem dX9_isThereBy_10 : decode cX9_isThereBy 10 = .ok (.iconst 1, 1) := by decide +kernel
theorem dX9_isThereBy_11 : decode cX9_isThereBy 11 = .ok (.goto 4, 3) := by decide +kernel
theorem dX9_isThereBy_14 : decode cX9_isThereBy 14 = .ok (.iconst 0, 1) := by decide +kernel
theorem dX9_isThereBy_15 : decode cX9_isThereBy 15 = .ok (.ireturn, 1) := by decide +kernel
theorem dX9_earliest_0 : decode cX9_earliest 0 = .ok (.aload_n 0, 1) := by decide +kernel
theorem dX9_earliest_1 : decode cX9_earliest 1 = .ok (.iload_n 1, 1) := by decide +kernel
theorem dX9_earliest_2 : decode cX9_earliest 2 = .ok (.iload_n 2, 1) := by decide +kernel
theorem dX9_earliest_3 : decode cX9_earliest 3 = .ok (.iload 4, 2) := by decide +kernel
theorem dX9_earliest_5 : decode cX9_earliest 5 = .ok (.invokevirtual 50, 3) := by decide +kernel
theorem dX9_earliest_8 : decode cX9_earliest 8 = .ok (.aload_n 0, 1) := by decide +kernel
theorem dX9_earliest_9 : decode cX9_earliest 9 = .ok (.getfield 17, 3) := by decide +kernel
theorem dX9_earliest_12 : decode cX9_earliest 12 = .ok (.iload_n 3, 1) := by decide +kernel
theorem dX9_earliest_13 : decode cX9_earliest 13 = .ok (.iaload, 1) := by decide +kernel
theorem dX9_earliest_14 : decode cX9_earliest 14 = .ok (.ldc 33, 2) := by decide +kernel
theorem dX9_earliest_16 : decode cX9_earliest 16 = .ok (.if_icmp .ne 8, 3) := by decide +kernel
theorem dX9_earliest_19 : decode cX9_earliest 19 = .ok (.bipush (-9), 2) := by decide +kernel
theorem dX9_earliest_21 : decode cX9_earliest 21 = .ok (.goto 9, 3) := by decide +kernel
theorem dX9_earliest_24 : decode cX9_earliest 24 = .ok (.aload_n 0, 1) := by decide +kernel
theorem dX9_earliest_25 : decode cX9_earliest 25 = .ok (.getfield 17, 3) := by decide +kernel
theorem dX9_earliest_28 : decode cX9_earliest 28 = .ok (.iload_n 3, 1) := by decide +kernel
theorem dX9_earliest_29 : decode cX9_earliest 29 = .ok (.iaload, 1) := by decide +kernel
theorem dX9_earliest_30 : decode cX9_earliest 30 = .ok (.ireturn, 1) := by decide +kernel
theorem dX10_init_0 : decode cX10_init 0 = .ok (.aload_n 0, 1) := by decide +kernel
theorem dX10_init_1 : decode cX10_init 1 = .ok (.invokespecial 3, 3) := by decide +kernel
theorem dX10_init_4 : decode cX10_init 4 = .ok (.aload_n 0, 1) := by decide +kernel
theorem dX10_init_5 : decode cX10_init 5 = .ok (.iload_n 1, 1) := by decide +kernel
theorem dX10_init_6 : decode cX10_init 6 = .ok (.putfield 9, 3) := by decide +kernel
theorem dX10_init_9 : decode cX10_init 9 = .ok (.aload_n 0, 1) := by decide +kernel
theorem dX10_init_10 : decode cX10_init 10 = .ok (.iload_n 2, 1) := by decide +kernel
theorem dX10_init_11 : decode cX10_init 11 = .ok (.putfield 15, 3) := by decide +kernel
theorem dX10_init_14 : decode cX10_init 14 = .ok (.aload_n 0, 1) := by decide +kernel
theorem dX10_init_15 : decode cX10_init 15 = .ok (.iload_n 3, 1) := by decide +kernel
theorem dX10_init_16 : decode cX10_init 16 = .ok (.putfield 18, 3) := by decide +kernel
theorem dX10_init_19 : decode cX10_init 19 = .ok (.aload_n 0, 1) := by decide +kernel
theorem dX10_init_20 : decode cX10_init 20 = .ok (.iload 4, 2) := by decide +kernel
theorem dX10_init_22 : decode cX10_init 22 = .ok (.putfield 21, 3) := by decide +kernel
theorem dX10_init_25 : decode cX10_init 25 = .ok (.aload_n 0, 1) := by decide +kernel
theorem dX10_init_26 : decode cX10_init 26 = .ok (.iload 5, 2) := by decide +kernel
theorem dX10_init_28 : decode cX10_init 28 = .ok (.putfield 24, 3) := by decide +kernel
theorem dX10_init_31 : decode cX10_init 31 = .ok (.aload_n 0, 1) := by decide +kernel
theorem dX10_init_32 : decode cX10_init 32 = .ok (.iload 6, 2) := by decide +kernel
theorem dX10_init_34 : decode cX10_init 34 = .ok (.putfield 27, 3) := by decide +kernel
theorem dX10_init_37 : decode cX10_init 37 = .ok (.return_, 1) := by decide +kernel
theorem dX10_leaves_0 : decode cX10_leaves 0 = .ok (.iload_n 1, 1) := by decide +kernel
theorem dX10_leaves_1 : decode cX10_leaves 1 = .ok (.aload_n 0, 1) := by decide +kernel
theorem dX10_leaves_2 : decode cX10_leaves 2 = .ok (.getfield 18, 3) := by decide +kernel
theorem dX10_leaves_5 : decode cX10_leaves 5 = .ok (.if_icmp .le 11, 3) := by decide +kernel
theorem dX10_leaves_8 : decode cX10_leaves 8 = .ok (.aload_n 0, 1) := by decide +kernel
theorem dX10_leaves_9 : decode cX10_leaves 9 = .ok (.getfield 21, 3) := by decide +kernel
theorem dX10_leaves_12 : decode cX10_leaves 12 = .ok (.iconst 1, 1) := by decide +kernel
theorem dX10_leaves_13 : decode cX10_leaves 13 = .ok (.if_icmp .ge 8, 3) := by decide +kernel
theorem dX10_leaves_16 : decode cX10_leaves 16 = .ok (.aload_n 0, 1) := by decide +kernel
theorem dX10_leaves_17 : decode cX10_leaves 17 = .ok (.getfield 18, 3) := by decide +kernel
theorem dX10_leaves_20 : decode cX10_leaves 20 = .ok (.ireturn, 1) := by decide +kernel
theorem dX10_leaves_21 : decode cX10_leaves 21 = .ok (.iload_n 1, 1) := by decide +kernel
theorem dX10_leaves_22 : decode cX10_leaves 22 = .ok (.aload_n 0, 1) := by decide +kernel
theorem dX10_leaves_23 : decode cX10_leaves 23 = .ok (.getfield 18, 3) := by decide +kernel
theorem dX10_leaves_26 : decode cX10_leaves 26 = .ok (.isub, 1) := by decide +kernel
theorem dX10_leaves_27 : decode cX10_leaves 27 = .ok (.aload_n 0, 1) := by decide +kernel
theorem dX10_leaves_28 : decode cX10_leaves 28 = .ok (.getfield 21, 3) := by decide +kernel
theorem dX10_leaves_31 : decode cX10_leaves 31 = .ok (.iadd, 1) := by decide +kernel
theorem dX10_leaves_32 : decode cX10_leaves 32 = .ok (.iconst 1, 1) := by decide +kernel
theorem dX10_leaves_33 : decode cX10_leaves 33 = .ok (.isub, 1) := by decide +kernel
theorem dX10_leaves_34 : decode cX10_leaves 34 = .ok (.aload_n 0, 1) := by decide +kernel
theorem dX10_leaves_35 : decode cX10_leaves 35 = .ok (.getfield 21, 3) := by decide +kernel
theorem dX10_leaves_38 : decode cX10_leaves 38 = .ok (.idiv, 1) := by decide +kernel
theorem dX10_leaves_39 : decode cX10_leaves 39 = .ok (.istore_n 2, 1) := by decide +kernel
theorem dX10_leaves_40 : decode cX10_leaves 40 = .ok (.aload_n 0, 1) := by decide +kernel
theorem dX10_leaves_41 : decode cX10_leaves 41 = .ok (.getfield 18, 3) := by decide +kernel
theorem dX10_leaves_44 : decode cX10_leaves 44 = .ok (.iload_n 2, 1) := by decide +kernel
theorem dX10_leaves_45 : decode cX10_leaves 45 = .ok (.aload_n 0, 1) := by decide +kernel
theorem dX10_leaves_46 : decode cX10_leaves 46 = .ok (.getfield 21, 3) := by decide +kernel
theorem dX10_leaves_49 : decode cX10_leaves 49 = .ok (.imul, 1) := by decide +kernel
theorem dX10_leaves_50 : decode cX10_leaves 50 = .ok (.iadd, 1) := by decide +kernel
theorem dX10_leaves_51 : decode cX10_leaves 51 = .ok (.ireturn, 1) := by decide +kernel
theorem dX10_arrives_0 : decode cX10_arrives 0 = .ok (.aload_n 0, 1) := by decide +kernel
theorem dX10_arrives_1 : decode cX10_arrives 1 = .ok (.getfield 30, 3) := by decide +kernel
theorem dX10_arrives_4 : decode cX10_arrives 4 = .ok (.ifCond .ne 21, 3) := by decide +kernel
theorem dX10_arrives_7 : decode cX10_arrives 7 = .ok (.iload_n 1, 1) := by decide +kernel
theorem dX10_arrives_8 : decode cX10_arrives 8 = .ok (.sipush 9999, 3) := by decide +kernel
theorem dX10_arrives_11 : decode cX10_arrives 11 = .ok (.if_icmp .gt 14, 3) := by decide +kernel
theorem dX10_arrives_14 : decode cX10_arrives 14 = .ok (.aload_n 0, 1) := by decide +kernel
theorem dX10_arrives_15 : decode cX10_arrives 15 = .ok (.iload_n 1, 1) := by decide +kernel
theorem dX10_arrives_16 : decode cX10_arrives 16 = .ok (.invokevirtual 34, 3) := by decide +kernel
theorem dX10_arrives_19 : decode cX10_arrives 19 = .ok (.sipush 9999, 3) := by decide +kernel
theorem dX10_arrives_22 : decode cX10_arrives 22 = .ok (.if_icmp .le 6, 3) := by decide +kernel
theorem dX10_arrives_25 : decode cX10_arrives 25 = .ok (.ldc 38, 2) := by decide +kernel
theorem dX10_arrives_27 : decode cX10_arrives 27 = .ok (.ireturn, 1) := by decide +kernel
theorem dX10_arrives_28 : decode cX10_arrives 28 = .ok (.aload_n 0, 1) := by decide +kernel
theorem dX10_arrives_29 : decode cX10_arrives 29 = .ok (.iload_n 1, 1) := by decide +kernel
theorem dX10_arrives_30 : decode cX10_arrives 30 = .ok (.invokevirtual 34, 3) := by decide +kernel
theorem dX10_arrives_33 : decode cX10_arrives 33 = .ok (.aload_n 0, 1) := by decide +kernel
theorem dX10_arrives_34 : decode cX10_arrives 34 = .ok (.getfield 24, 3) := by decide +kernel
theorem dX10_arrives_37 : decode cX10_arrives 37 = .ok (.iadd, 1) := by decide +kernel
theorem dX10_arrives_38 : decode cX10_arrives 38 = .ok (.iload_n 2, 1) := by decide +kernel
theorem dX10_arrives_39 : decode cX10_arrives 39 = .ok (.ifCond .eq 10, 3) := by decide +kernel
theorem dX10_arrives_42 : decode cX10_arrives 42 = .ok (.aload_n 0, 1) := by decide +kernel
theorem dX10_arrives_43 : decode cX10_arrives 43 = .ok (.getfield 27, 3) := by decide +kernel
theorem dX10_arrives_46 : decode cX10_arrives 46 = .ok (.goto 4, 3) := by decide +kernel
theorem dX10_arrives_49 : decode cX10_arrives 49 = .ok (.iconst 0, 1) := by decide +kernel
theorem dX10_arrives_50 : decode cX10_arrives 50 = .ok (.iadd, 1) := by decide +kernel
theorem dX10_arrives_51 : decode cX10_arrives 51 = .ok (.ireturn, 1) := by decide +kernel
theorem dX11_init_0 : decode cX11_init 0 = .ok (.aload_n 0, 1) := by decide +kernel
theorem dX11_init_1 : decode cX11_init 1 = .ok (.invokespecial 1, 3) := by decide +kernel
theorem dX11_init_4 : decode cX11_init 4 = .ok (.aload_n 0, 1) := by decide +kernel
theorem dX11_init_5 : decode cX11_init 5 = .ok (.new 7, 3) := by decide +kernel
theorem dX11_init_8 : decode cX11_init 8 = .ok (.dup, 1) := by decide +kernel
theorem dX11_init_9 : decode cX11_init 9 = .ok (.invokespecial 9, 3) := by decide +kernel
theorem dX11_init_12 : decode cX11_init 12 = .ok (.putfield 10, 3) := by decide +kernel
theorem dX11_init_15 : decode cX11_init 15 = .ok (.aload_n 0, 1) := by decide +kernel
theorem dX11_init_16 : decode cX11_init 16 = .ok (.new 16, 3) := by decide +kernel
theorem dX11_init_19 : decode cX11_init 19 = .ok (.dup, 1) := by decide +kernel
theorem dX11_init_20 : decode cX11_init 20 = .ok (.invokespecial 18, 3) := by decide +kernel
theorem dX11_init_23 : decode cX11_init 23 = .ok (.putfield 19, 3) := by decide +kernel
theorem dX11_init_26 : decode cX11_init 26 = .ok (.aload_n 0, 1) := by decide +kernel
theorem dX11_init_27 : decode cX11_init 27 = .ok (.bipush 40, 2) := by decide +kernel
theorem dX11_init_29 : decode cX11_init 29 = .ok (.anewarray 23, 3) := by decide +kernel
theorem dX11_init_32 : decode cX11_init 32 = .ok (.putfield 25, 3) := by decide +kernel
theorem dX11_init_35 : decode cX11_init 35 = .ok (.aload_n 0, 1) := by decide +kernel
theorem dX11_init_36 : decode cX11_init 36 = .ok (.bipush 8, 2) := by decide +kernel
theorem dX11_init_38 : decode cX11_init 38 = .ok (.anewarray 29, 3) := by decide +kernel
theorem dX11_init_41 : decode cX11_init 41 = .ok (.putfield 31, 3) := by decide +kernel
theorem dX11_init_44 : decode cX11_init 44 = .ok (.aload_n 0, 1) := by decide +kernel
theorem dX11_init_45 : decode cX11_init 45 = .ok (.bipush 30, 2) := by decide +kernel
theorem dX11_init_47 : decode cX11_init 47 = .ok (.putfield 35, 3) := by decide +kernel
theorem dX11_init_50 : decode cX11_init 50 = .ok (.aload_n 0, 1) := by decide +kernel
theorem dX11_init_51 : decode cX11_init 51 = .ok (.iconst 3, 1) := by decide +kernel
theorem dX11_init_52 : decode cX11_init 52 = .ok (.newarray .int, 2) := by decide +kernel
theorem dX11_init_54 : decode cX11_init 54 = .ok (.dup, 1) := by decide +kernel
theorem dX11_init_55 : decode cX11_init 55 = .ok (.iconst 0, 1) := by decide +kernel
theorem dX11_init_56 : decode cX11_init 56 = .ok (.iconst 3, 1) := by decide +kernel
theorem dX11_init_57 : decode cX11_init 57 = .ok (.iastore, 1) := by decide +kernel
theorem dX11_init_58 : decode cX11_init 58 = .ok (.dup, 1) := by decide +kernel
theorem dX11_init_59 : decode cX11_init 59 = .ok (.iconst 1, 1) := by decide +kernel
theorem dX11_init_60 : decode cX11_init 60 = .ok (.iconst 1, 1) := by decide +kernel
theorem dX11_init_61 : decode cX11_init 61 = .ok (.iastore, 1) := by decide +kernel
theorem dX11_init_62 : decode cX11_init 62 = .ok (.dup, 1) := by decide +kernel
theorem dX11_init_63 : decode cX11_init 63 = .ok (.iconst 2, 1) := by decide +kernel
theorem dX11_init_64 : decode cX11_init 64 = .ok (.iconst 5, 1) := by decide +kernel
theorem dX11_init_65 : decode cX11_init 65 = .ok (.iastore, 1) := by decide +kernel
theorem dX11_init_66 : decode cX11_init 66 = .ok (.putfield 39, 3) := by decide +kernel
theorem dX11_init_69 : decode cX11_init 69 = .ok (.aload_n 0, 1) := by decide +kernel
theorem dX11_init_70 : decode cX11_init 70 = .ok (.bipush 6, 2) := by decide +kernel
theorem dX11_init_72 : decode cX11_init 72 = .ok (.anewarray 43, 3) := by decide +kernel
theorem dX11_init_75 : decode cX11_init 75 = .ok (.putfield 45, 3) := by decide +kernel
theorem dX11_init_78 : decode cX11_init 78 = .ok (.aload_n 0, 1) := by decide +kernel
theorem dX11_init_79 : decode cX11_init 79 = .ok (.new 49, 3) := by decide +kernel
theorem dX11_init_82 : decode cX11_init 82 = .ok (.dup, 1) := by decide +kernel
theorem dX11_init_83 : decode cX11_init 83 = .ok (.invokespecial 51, 3) := by decide +kernel
theorem dX11_init_86 : decode cX11_init 86 = .ok (.putfield 52, 3) := by decide +kernel
theorem dX11_init_89 : decode cX11_init 89 = .ok (.aload_n 0, 1) := by decide +kernel
theorem dX11_init_90 : decode cX11_init 90 = .ok (.bipush 8, 2) := by decide +kernel
theorem dX11_init_92 : decode cX11_init 92 = .ok (.anewarray 56, 3) := by decide +kernel
theorem dX11_init_95 : decode cX11_init 95 = .ok (.putfield 58, 3) := by decide +kernel
theorem dX11_init_98 : decode cX11_init 98 = .ok (.aload_n 0, 1) := by decide +kernel
theorem dX11_init_99 : decode cX11_init 99 = .ok (.new 62, 3) := by decide +kernel
theorem dX11_init_102 : decode cX11_init 102 = .ok (.dup, 1) := by decide +kernel
theorem dX11_init_103 : decode cX11_init 103 = .ok (.invokespecial 64, 3) := by decide +kernel
theorem dX11_init_106 : decode cX11_init 106 = .ok (.putfield 65, 3) := by decide +kernel
theorem dX11_init_109 : decode cX11_init 109 = .ok (.aload_n 0, 1) := by decide +kernel
theorem dX11_init_110 : decode cX11_init 110 = .ok (.new 69, 3) := by decide +kernel
theorem dX11_init_113 : decode cX11_init 113 = .ok (.dup, 1) := by decide +kernel
theorem dX11_init_114 : decode cX11_init 114 = .ok (.invokespecial 71, 3) := by decide +kernel
theorem dX11_init_117 : decode cX11_init 117 = .ok (.putfield 72, 3) := by decide +kernel
theorem dX11_init_120 : decode cX11_init 120 = .ok (.aload_n 0, 1) := by decide +kernel
theorem dX11_init_121 : decode cX11_init 121 = .ok (.new 76, 3) := by decide +kernel
theorem dX11_init_124 : decode cX11_init 124 = .ok (.dup, 1) := by decide +kernel
theorem dX11_init_125 : decode cX11_init 125 = .ok (.invokespecial 78, 3) := by decide +kernel
