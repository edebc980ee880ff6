theorem dX11_init_128 : decode cX11_init 128 = .ok (.putfield 79, 3) := by decide +kernel
theorem dX11_init_131 : decode cX11_init 131 = .ok (.return_, 1) := by decide +kernel
theorem dX11_pass_0 : decode cX11_pass 0 = .ok (.iload_n 1, 1) := by decide +kernel
theorem dX11_pass_1 : decode cX11_pass 1 = .ok (.iconst 1, 1) := by decide +kernel
theorem dX11_pass_2 : decode cX11_pass 2 = .ok (.sipush 500, 3) := by decide +kernel
theorem dX11_pass_5 : decode cX11_pass 5 = .ok (.invokestatic 83, 3) := by decide +kernel
theorem dX11_pass_8 : decode cX11_pass 8 = .ok (.ifCond .ne 6, 3) := by decide +kernel
theorem dX11_pass_11 : decode cX11_pass 11 = .ok (.bipush (-2), 2) := by decide +kernel
theorem dX11_pass_13 : decode cX11_pass 13 = .ok (.ireturn, 1) := by decide +kernel
theorem dX11_pass_14 : decode cX11_pass 14 = .ok (.aload_n 0, 1) := by decide +kernel
theorem dX11_pass_15 : decode cX11_pass 15 = .ok (.getfield 87, 3) := by decide +kernel
theorem dX11_pass_18 : decode cX11_pass 18 = .ok (.iload_n 1, 1) := by decide +kernel
theorem dX11_pass_19 : decode cX11_pass 19 = .ok (.iadd, 1) := by decide +kernel
theorem dX11_pass_20 : decode cX11_pass 20 = .ok (.sipush 9999, 3) := by decide +kernel
theorem dX11_pass_23 : decode cX11_pass 23 = .ok (.if_icmp .le 6, 3) := by decide +kernel
theorem dX11_pass_26 : decode cX11_pass 26 = .ok (.bipush (-4), 2) := by decide +kernel
theorem dX11_pass_28 : decode cX11_pass 28 = .ok (.ireturn, 1) := by decide +kernel
theorem dX11_pass_29 : decode cX11_pass 29 = .ok (.aload_n 0, 1) := by decide +kernel
theorem dX11_pass_30 : decode cX11_pass 30 = .ok (.dup, 1) := by decide +kernel
theorem dX11_pass_31 : decode cX11_pass 31 = .ok (.getfield 87, 3) := by decide +kernel
theorem dX11_pass_34 : decode cX11_pass 34 = .ok (.iload_n 1, 1) := by decide +kernel
theorem dX11_pass_35 : decode cX11_pass 35 = .ok (.iadd, 1) := by decide +kernel
theorem dX11_pass_36 : decode cX11_pass 36 = .ok (.putfield 87, 3) := by decide +kernel
theorem dX11_pass_39 : decode cX11_pass 39 = .ok (.aload_n 0, 1) := by decide +kernel
theorem dX11_pass_40 : decode cX11_pass 40 = .ok (.getfield 87, 3) := by decide +kernel
theorem dX11_pass_43 : decode cX11_pass 43 = .ok (.ireturn, 1) := by decide +kernel
theorem dX11_way_0 : decode cX11_way 0 = .ok (.iload_n 1, 1) := by decide +kernel
theorem dX11_way_1 : decode cX11_way 1 = .ok (.invokestatic 90, 3) := by decide +kernel
theorem dX11_way_4 : decode cX11_way 4 = .ok (.ifCond .eq 10, 3) := by decide +kernel
theorem dX11_way_7 : decode cX11_way 7 = .ok (.iload_n 2, 1) := by decide +kernel
theorem dX11_way_8 : decode cX11_way 8 = .ok (.invokestatic 90, 3) := by decide +kernel
theorem dX11_way_11 : decode cX11_way 11 = .ok (.ifCond .ne 5, 3) := by decide +kernel
theorem dX11_way_14 : decode cX11_way 14 = .ok (.iconst (-1), 1) := by decide +kernel
theorem dX11_way_15 : decode cX11_way 15 = .ok (.ireturn, 1) := by decide +kernel
theorem dX11_way_16 : decode cX11_way 16 = .ok (.iload_n 3, 1) := by decide +kernel
theorem dX11_way_17 : decode cX11_way 17 = .ok (.invokestatic 94, 3) := by decide +kernel
theorem dX11_way_20 : decode cX11_way 20 = .ok (.ifCond .eq 39, 3) := by decide +kernel
theorem dX11_way_23 : decode cX11_way 23 = .ok (.iload 4, 2) := by decide +kernel
theorem dX11_way_25 : decode cX11_way 25 = .ok (.iconst 1, 1) := by decide +kernel
theorem dX11_way_26 : decode cX11_way 26 = .ok (.sipush 500, 3) := by decide +kernel
theorem dX11_way_29 : decode cX11_way 29 = .ok (.invokestatic 83, 3) := by decide +kernel
theorem dX11_way_32 : decode cX11_way 32 = .ok (.ifCond .eq 27, 3) := by decide +kernel
theorem dX11_way_35 : decode cX11_way 35 = .ok (.iload 5, 2) := by decide +kernel
theorem dX11_way_37 : decode cX11_way 37 = .ok (.iconst 1, 1) := by decide +kernel
theorem dX11_way_38 : decode cX11_way 38 = .ok (.sipush 500, 3) := by decide +kernel
theorem dX11_way_41 : decode cX11_way 41 = .ok (.invokestatic 83, 3) := by decide +kernel
theorem dX11_way_44 : decode cX11_way 44 = .ok (.ifCond .eq 15, 3) := by decide +kernel
theorem dX11_way_47 : decode cX11_way 47 = .ok (.iload 6, 2) := by decide +kernel
theorem dX11_way_49 : decode cX11_way 49 = .ok (.iconst 0, 1) := by decide +kernel
theorem dX11_way_50 : decode cX11_way 50 = .ok (.sipush 200, 3) := by decide +kernel
theorem dX11_way_53 : decode cX11_way 53 = .ok (.invokestatic 83, 3) := by decide +kernel
theorem dX11_way_56 : decode cX11_way 56 = .ok (.ifCond .ne 6, 3) := by decide +kernel
theorem dX11_way_59 : decode cX11_way 59 = .ok (.bipush (-2), 2) := by decide +kernel
theorem dX11_way_61 : decode cX11_way 61 = .ok (.ireturn, 1) := by decide +kernel
theorem dX11_way_62 : decode cX11_way 62 = .ok (.iload_n 1, 1) := by decide +kernel
theorem dX11_way_63 : decode cX11_way 63 = .ok (.iload_n 2, 1) := by decide +kernel
theorem dX11_way_64 : decode cX11_way 64 = .ok (.if_icmp .ne 6, 3) := by decide +kernel
theorem dX11_way_67 : decode cX11_way 67 = .ok (.bipush (-3), 2) := by decide +kernel
theorem dX11_way_69 : decode cX11_way 69 = .ok (.ireturn, 1) := by decide +kernel
theorem dX11_way_70 : decode cX11_way 70 = .ok (.aload_n 0, 1) := by decide +kernel
theorem dX11_way_71 : decode cX11_way 71 = .ok (.getfield 10, 3) := by decide +kernel
theorem dX11_way_74 : decode cX11_way 74 = .ok (.invokevirtual 97, 3) := by decide +kernel
theorem dX11_way_77 : decode cX11_way 77 = .ok (.ifCond .eq 6, 3) := by decide +kernel
theorem dX11_way_80 : decode cX11_way 80 = .ok (.bipush (-4), 2) := by decide +kernel
theorem dX11_way_82 : decode cX11_way 82 = .ok (.ireturn, 1) := by decide +kernel
theorem dX11_way_83 : decode cX11_way 83 = .ok (.aload_n 0, 1) := by decide +kernel
theorem dX11_way_84 : decode cX11_way 84 = .ok (.getfield 10, 3) := by decide +kernel
theorem dX11_way_87 : decode cX11_way 87 = .ok (.new 101, 3) := by decide +kernel
theorem dX11_way_90 : decode cX11_way 90 = .ok (.dup, 1) := by decide +kernel
theorem dX11_way_91 : decode cX11_way 91 = .ok (.iload_n 1, 1) := by decide +kernel
theorem dX11_way_92 : decode cX11_way 92 = .ok (.iload_n 2, 1) := by decide +kernel
theorem dX11_way_93 : decode cX11_way 93 = .ok (.iload_n 3, 1) := by decide +kernel
theorem dX11_way_94 : decode cX11_way 94 = .ok (.iload 4, 2) := by decide +kernel
theorem dX11_way_96 : decode cX11_way 96 = .ok (.iload 5, 2) := by decide +kernel
theorem dX11_way_98 : decode cX11_way 98 = .ok (.iload 6, 2) := by decide +kernel
theorem dX11_way_100 : decode cX11_way 100 = .ok (.invokespecial 103, 3) := by decide +kernel
theorem dX11_way_103 : decode cX11_way 103 = .ok (.invokevirtual 106, 3) := by decide +kernel
theorem dX11_way_106 : decode cX11_way 106 = .ok (.ireturn, 1) := by decide +kernel
theorem dX11_shut_0 : decode cX11_shut 0 = .ok (.aload_n 0, 1) := by decide +kernel
theorem dX11_shut_1 : decode cX11_shut 1 = .ok (.getfield 10, 3) := by decide +kernel
theorem dX11_shut_4 : decode cX11_shut 4 = .ok (.iload_n 1, 1) := by decide +kernel
theorem dX11_shut_5 : decode cX11_shut 5 = .ok (.invokevirtual 110, 3) := by decide +kernel
theorem dX11_shut_8 : decode cX11_shut 8 = .ok (.astore_n 2, 1) := by decide +kernel
theorem dX11_shut_9 : decode cX11_shut 9 = .ok (.aload_n 2, 1) := by decide +kernel
theorem dX11_shut_10 : decode cX11_shut 10 = .ok (.ifnonnull 5, 3) := by decide +kernel
theorem dX11_shut_13 : decode cX11_shut 13 = .ok (.iconst (-1), 1) := by decide +kernel
theorem dX11_shut_14 : decode cX11_shut 14 = .ok (.ireturn, 1) := by decide +kernel
theorem dX11_shut_15 : decode cX11_shut 15 = .ok (.aload_n 2, 1) := by decide +kernel
theorem dX11_shut_16 : decode cX11_shut 16 = .ok (.getfield 114, 3) := by decide +kernel
theorem dX11_shut_19 : decode cX11_shut 19 = .ok (.ifCond .eq 6, 3) := by decide +kernel
theorem dX11_shut_22 : decode cX11_shut 22 = .ok (.bipush (-3), 2) := by decide +kernel
theorem dX11_shut_24 : decode cX11_shut 24 = .ok (.ireturn, 1) := by decide +kernel
theorem dX11_shut_25 : decode cX11_shut 25 = .ok (.aload_n 2, 1) := by decide +kernel
theorem dX11_shut_26 : decode cX11_shut 26 = .ok (.iconst 1, 1) := by decide +kernel
theorem dX11_shut_27 : decode cX11_shut 27 = .ok (.putfield 114, 3) := by decide +kernel
theorem dX11_shut_30 : decode cX11_shut 30 = .ok (.iconst 1, 1) := by decide +kernel
theorem dX11_shut_31 : decode cX11_shut 31 = .ok (.ireturn, 1) := by decide +kernel
theorem dX11_arrival_0 : decode cX11_arrival 0 = .ok (.iload_n 1, 1) := by decide +kernel
theorem dX11_arrival_1 : decode cX11_arrival 1 = .ok (.invokestatic 90, 3) := by decide +kernel
theorem dX11_arrival_4 : decode cX11_arrival 4 = .ok (.ifCond .eq 10, 3) := by decide +kernel
theorem dX11_arrival_7 : decode cX11_arrival 7 = .ok (.iload_n 3, 1) := by decide +kernel
theorem dX11_arrival_8 : decode cX11_arrival 8 = .ok (.invokestatic 90, 3) := by decide +kernel
theorem dX11_arrival_11 : decode cX11_arrival 11 = .ok (.ifCond .ne 5, 3) := by decide +kernel
theorem dX11_arrival_14 : decode cX11_arrival 14 = .ok (.iconst (-1), 1) := by decide +kernel
theorem dX11_arrival_15 : decode cX11_arrival 15 = .ok (.ireturn, 1) := by decide +kernel
theorem dX11_arrival_16 : decode cX11_arrival 16 = .ok (.iload_n 2, 1) := by decide +kernel
theorem dX11_arrival_17 : decode cX11_arrival 17 = .ok (.invokestatic 94, 3) := by decide +kernel
theorem dX11_arrival_20 : decode cX11_arrival 20 = .ok (.ifCond .ne 6, 3) := by decide +kernel
theorem dX11_arrival_23 : decode cX11_arrival 23 = .ok (.bipush (-2), 2) := by decide +kernel
theorem dX11_arrival_25 : decode cX11_arrival 25 = .ok (.ireturn, 1) := by decide +kernel
theorem dX11_arrival_26 : decode cX11_arrival 26 = .ok (.aload_n 0, 1) := by decide +kernel
theorem dX11_arrival_27 : decode cX11_arrival 27 = .ok (.getfield 10, 3) := by decide +kernel
theorem dX11_arrival_30 : decode cX11_arrival 30 = .ok (.iload_n 1, 1) := by decide +kernel
theorem dX11_arrival_31 : decode cX11_arrival 31 = .ok (.iload_n 2, 1) := by decide +kernel
theorem dX11_arrival_32 : decode cX11_arrival 32 = .ok (.iload_n 3, 1) := by decide +kernel
theorem dX11_arrival_33 : decode cX11_arrival 33 = .ok (.iload 4, 2) := by decide +kernel
theorem dX11_arrival_35 : decode cX11_arrival 35 = .ok (.invokevirtual 118, 3) := by decide +kernel
theorem dX11_arrival_38 : decode cX11_arrival 38 = .ok (.ireturn, 1) := by decide +kernel
theorem dX11_shot_0 : decode cX11_shot 0 = .ok (.iload_n 1, 1) := by decide +kernel
theorem dX11_shot_1 : decode cX11_shot 1 = .ok (.invokestatic 90, 3) := by decide +kernel
theorem dX11_shot_4 : decode cX11_shot 4 = .ok (.ifCond .ne 5, 3) := by decide +kernel
theorem dX11_shot_7 : decode cX11_shot 7 = .ok (.iconst (-1), 1) := by decide +kernel
theorem dX11_shot_8 : decode cX11_shot 8 = .ok (.ireturn, 1) := by decide +kernel
theorem dX11_shot_9 : decode cX11_shot 9 = .ok (.iload_n 2, 1) := by decide +kernel
theorem dX11_shot_10 : decode cX11_shot 10 = .ok (.iconst 0, 1) := by decide +kernel
theorem dX11_shot_11 : decode cX11_shot 11 = .ok (.aload_n 0, 1) := by decide +kernel
theorem dX11_shot_12 : decode cX11_shot 12 = .ok (.getfield 87, 3) := by decide +kernel
theorem dX11_shot_15 : decode cX11_shot 15 = .ok (.invokestatic 83, 3) := by decide +kernel
theorem dX11_shot_18 : decode cX11_shot 18 = .ok (.ifCond .eq 22, 3) := by decide +kernel
theorem dX11_shot_21 : decode cX11_shot 21 = .ok (.iload_n 3, 1) := by decide +kernel
theorem dX11_shot_22 : decode cX11_shot 22 = .ok (.iconst 1, 1) := by decide +kernel
theorem dX11_shot_23 : decode cX11_shot 23 = .ok (.sipush 900, 3) := by decide +kernel
theorem dX11_shot_26 : decode cX11_shot 26 = .ok (.invokestatic 83, 3) := by decide +kernel
theorem dX11_shot_29 : decode cX11_shot 29 = .ok (.ifCond .eq 11, 3) := by decide +kernel
theorem dX11_shot_32 : decode cX11_shot 32 = .ok (.iload 4, 2) := by decide +kernel
theorem dX11_shot_34 : decode cX11_shot 34 = .ok (.invokestatic 122, 3) := by decide +kernel
theorem dX11_shot_37 : decode cX11_shot 37 = .ok (.ifCond .ne 6, 3) := by decide +kernel
theorem dX11_shot_40 : decode cX11_shot 40 = .ok (.bipush (-2), 2) := by decide +kernel
theorem dX11_shot_42 : decode cX11_shot 42 = .ok (.ireturn, 1) := by decide +kernel
theorem dX11_shot_43 : decode cX11_shot 43 = .ok (.iload 5, 2) := by decide +kernel
theorem dX11_shot_45 : decode cX11_shot 45 = .ok (.invokestatic 125, 3) := by decide +kernel
theorem dX11_shot_48 : decode cX11_shot 48 = .ok (.ifCond .eq 11, 3) := by decide +kernel
theorem dX11_shot_51 : decode cX11_shot 51 = .ok (.iload 6, 2) := by decide +kernel
theorem dX11_shot_53 : decode cX11_shot 53 = .ok (.invokestatic 128, 3) := by decide +kernel
theorem dX11_shot_56 : decode cX11_shot 56 = .ok (.ifCond .ne 6, 3) := by decide +kernel
theorem dX11_shot_59 : decode cX11_shot 59 = .ok (.bipush (-2), 2) := by decide +kernel
theorem dX11_shot_61 : decode cX11_shot 61 = .ok (.ireturn, 1) := by decide +kernel
theorem dX11_shot_62 : decode cX11_shot 62 = .ok (.aload_n 0, 1) := by decide +kernel
theorem dX11_shot_63 : decode cX11_shot 63 = .ok (.getfield 131, 3) := by decide +kernel
theorem dX11_shot_66 : decode cX11_shot 66 = .ok (.bipush 40, 2) := by decide +kernel
theorem dX11_shot_68 : decode cX11_shot 68 = .ok (.if_icmp .lt 6, 3) := by decide +kernel
theorem dX11_shot_71 : decode cX11_shot 71 = .ok (.bipush (-4), 2) := by decide +kernel
theorem dX11_shot_73 : decode cX11_shot 73 = .ok (.ireturn, 1) := by decide +kernel
theorem dX11_shot_74 : decode cX11_shot 74 = .ok (.new 23, 3) := by decide +kernel
theorem dX11_shot_77 : decode cX11_shot 77 = .ok (.dup, 1) := by decide +kernel
theorem dX11_shot_78 : decode cX11_shot 78 = .ok (.aload_n 0, 1) := by decide +kernel
theorem dX11_shot_79 : decode cX11_shot 79 = .ok (.getfield 131, 3) := by decide +kernel
theorem dX11_shot_82 : decode cX11_shot 82 = .ok (.iload_n 1, 1) := by decide +kernel
theorem dX11_shot_83 : decode cX11_shot 83 = .ok (.iload_n 2, 1) := by decide +kernel
theorem dX11_shot_84 : decode cX11_shot 84 = .ok (.iload_n 3, 1) := by decide +kernel
theorem dX11_shot_85 : decode cX11_shot 85 = .ok (.iload 4, 2) := by decide +kernel
theorem dX11_shot_87 : decode cX11_shot 87 = .ok (.iload 5, 2) := by decide +kernel
theorem dX11_shot_89 : decode cX11_shot 89 = .ok (.iload 6, 2) := by decide +kernel
theorem dX11_shot_91 : decode cX11_shot 91 = .ok (.invokespecial 134, 3) := by decide +kernel
theorem dX11_shot_94 : decode cX11_shot 94 = .ok (.astore 7, 2) := by decide +kernel
theorem dX11_shot_96 : decode cX11_shot 96 = .ok (.aload 7, 2) := by decide +kernel
theorem dX11_shot_98 : decode cX11_shot 98 = .ok (.aload_n 0, 1) := by decide +kernel
theorem dX11_shot_99 : decode cX11_shot 99 = .ok (.getfield 87, 3) := by decide +kernel
theorem dX11_shot_102 : decode cX11_shot 102 = .ok (.invokevirtual 137, 3) := by decide +kernel
theorem dX11_shot_105 : decode cX11_shot 105 = .ok (.aload_n 0, 1) := by decide +kernel
theorem dX11_shot_106 : decode cX11_shot 106 = .ok (.getfield 25, 3) := by decide +kernel
theorem dX11_shot_109 : decode cX11_shot 109 = .ok (.aload_n 0, 1) := by decide +kernel
theorem dX11_shot_110 : decode cX11_shot 110 = .ok (.getfield 131, 3) := by decide +kernel
theorem dX11_shot_113 : decode cX11_shot 113 = .ok (.aload 7, 2) := by decide +kernel
theorem dX11_shot_115 : decode cX11_shot 115 = .ok (.aastore, 1) := by decide +kernel
theorem dX11_shot_116 : decode cX11_shot 116 = .ok (.aload_n 0, 1) := by decide +kernel
theorem dX11_shot_117 : decode cX11_shot 117 = .ok (.dup, 1) := by decide +kernel
theorem dX11_shot_118 : decode cX11_shot 118 = .ok (.getfield 131, 3) := by decide +kernel
theorem dX11_shot_121 : decode cX11_shot 121 = .ok (.iconst 1, 1) := by decide +kernel
theorem dX11_shot_122 : decode cX11_shot 122 = .ok (.iadd, 1) := by decide +kernel
theorem dX11_shot_123 : decode cX11_shot 123 = .ok (.putfield 131, 3) := by decide +kernel
theorem dX11_shot_126 : decode cX11_shot 126 = .ok (.aload 7, 2) := by decide +kernel
theorem dX11_shot_128 : decode cX11_shot 128 = .ok (.getfield 141, 3) := by decide +kernel
theorem dX11_shot_131 : decode cX11_shot 131 = .ok (.ireturn, 1) := by decide +kernel
theorem dX11_about_0 : decode cX11_about 0 = .ok (.aload_n 0, 1) := by decide +kernel
theorem dX11_about_1 : decode cX11_about 1 = .ok (.iload_n 1, 1) := by decide +kernel
theorem dX11_about_2 : decode cX11_about 2 = .ok (.invokevirtual 144, 3) := by decide +kernel
theorem dX11_about_5 : decode cX11_about 5 = .ok (.astore_n 3, 1) := by decide +kernel
theorem dX11_about_6 : decode cX11_about 6 = .ok (.aload_n 3, 1) := by decide +kernel
theorem dX11_about_7 : decode cX11_about 7 = .ok (.ifnonnull 5, 3) := by decide +kernel
theorem dX11_about_10 : decode cX11_about 10 = .ok (.iconst (-1), 1) := by decide +kernel
theorem dX11_about_11 : decode cX11_about 11 = .ok (.ireturn, 1) := by decide +kernel
theorem dX11_about_12 : decode cX11_about 12 = .ok (.iload_n 2, 1) := by decide +kernel
theorem dX11_about_13 : decode cX11_about 13 = .ok (.tableswitch 69 0 5 #[39, 44, 49, 54, 59, 64], 39) := by decide +kernel
theorem dX11_about_52 : decode cX11_about 52 = .ok (.aload_n 3, 1) := by decide +kernel
theorem dX11_about_53 : decode cX11_about 53 = .ok (.getfield 148, 3) := by decide +kernel
theorem dX11_about_56 : decode cX11_about 56 = .ok (.ireturn, 1) := by decide +kernel
theorem dX11_about_57 : decode cX11_about 57 = .ok (.aload_n 3, 1) := by decide +kernel
theorem dX11_about_58 : decode cX11_about 58 = .ok (.getfield 151, 3) := by decide +kernel
theorem dX11_about_61 : decode cX11_about 61 = .ok (.ireturn, 1) := by decide +kernel
theorem dX11_about_62 : decode cX11_about 62 = .ok (.aload_n 3, 1) := by decide +kernel
theorem dX11_about_63 : decode cX11_about 63 = .ok (.getfield 154, 3) := by decide +kernel
theorem dX11_about_66 : decode cX11_about 66 = .ok (.ireturn, 1) := by decide +kernel
theorem dX11_about_67 : decode cX11_about 67 = .ok (.aload_n 3, 1) := by decide +kernel
theorem dX11_about_68 : decode cX11_about 68 = .ok (.getfield 157, 3) := by decide +kernel
theorem dX11_about_71 : decode cX11_about 71 = .ok (.ireturn, 1) := by decide +kernel
theorem dX11_about_72 : decode cX11_about 72 = .ok (.aload_n 3, 1) := by decide +kernel
theorem dX11_about_73 : decode cX11_about 73 = .ok (.getfield 160, 3) := by decide +kernel
theorem dX11_about_76 : decode cX11_about 76 = .ok (.ireturn, 1) := by decide +kernel
theorem dX11_about_77 : decode cX11_about 77 = .ok (.aload_n 3, 1) := by decide +kernel
theorem dX11_about_78 : decode cX11_about 78 = .ok (.getfield 163, 3) := by decide +kernel
theorem dX11_about_81 : decode cX11_about 81 = .ok (.ireturn, 1) := by decide +kernel
theorem dX11_about_82 : decode cX11_about 82 = .ok (.bipush (-2), 2) := by decide +kernel
theorem dX11_about_84 : decode cX11_about 84 = .ok (.ireturn, 1) := by decide +kernel
theorem dX11_send_0 : decode cX11_send 0 = .ok (.aload_n 0, 1) := by decide +kernel
theorem dX11_send_1 : decode cX11_send 1 = .ok (.iload_n 1, 1) := by decide +kernel
theorem dX11_send_2 : decode cX11_send 2 = .ok (.invokevirtual 144, 3) := by decide +kernel
theorem dX11_send_5 : decode cX11_send 5 = .ok (.astore_n 2, 1) := by decide +kernel
theorem dX11_send_6 : decode cX11_send 6 = .ok (.aload_n 2, 1) := by decide +kernel
theorem dX11_send_7 : decode cX11_send 7 = .ok (.ifnonnull 5, 3) := by decide +kernel
theorem dX11_send_10 : decode cX11_send 10 = .ok (.iconst (-1), 1) := by decide +kernel
theorem dX11_send_11 : decode cX11_send 11 = .ok (.ireturn, 1) := by decide +kernel
theorem dX11_send_12 : decode cX11_send 12 = .ok (.aload_n 2, 1) := by decide +kernel
theorem dX11_send_13 : decode cX11_send 13 = .ok (.aload_n 0, 1) := by decide +kernel
theorem dX11_send_14 : decode cX11_send 14 = .ok (.getfield 87, 3) := by decide +kernel
theorem dX11_send_17 : decode cX11_send 17 = .ok (.invokevirtual 166, 3) := by decide +kernel
theorem dX11_send_20 : decode cX11_send 20 = .ok (.iconst 1, 1) := by decide +kernel
theorem dX11_send_21 : decode cX11_send 21 = .ok (.if_icmp .eq 6, 3) := by decide +kernel
theorem dX11_send_24 : decode cX11_send 24 = .ok (.bipush (-3), 2) := by decide +kernel
theorem dX11_send_26 : decode cX11_send 26 = .ok (.ireturn, 1) := by decide +kernel
theorem dX11_send_27 : decode cX11_send 27 = .ok (.aload_n 0, 1) := by decide +kernel
theorem dX11_send_28 : decode cX11_send 28 = .ok (.getfield 10, 3) := by decide +kernel
theorem dX11_send_31 : decode cX11_send 31 = .ok (.aload_n 2, 1) := by decide +kernel
theorem dX11_send_32 : decode cX11_send 32 = .ok (.getfield 148, 3) := by decide +kernel
theorem dX11_send_35 : decode cX11_send 35 = .ok (.aload_n 0, 1) := by decide +kernel
theorem dX11_send_36 : decode cX11_send 36 = .ok (.getfield 87, 3) := by decide +kernel
theorem dX11_send_39 : decode cX11_send 39 = .ok (.iconst 0, 1) := by decide +kernel
theorem dX11_send_40 : decode cX11_send 40 = .ok (.iconst 0, 1) := by decide +kernel
theorem dX11_send_41 : decode cX11_send 41 = .ok (.invokevirtual 118, 3) := by decide +kernel
theorem dX11_send_44 : decode cX11_send 44 = .ok (.istore_n 3, 1) := by decide +kernel
theorem dX11_send_45 : decode cX11_send 45 = .ok (.aload_n 0, 1) := by decide +kernel
theorem dX11_send_46 : decode cX11_send 46 = .ok (.getfield 10, 3) := by decide +kernel
theorem dX11_send_49 : decode cX11_send 49 = .ok (.aload_n 2, 1) := by decide +kernel
theorem dX11_send_50 : decode cX11_send 50 = .ok (.getfield 148, 3) := by decide +kernel
theorem dX11_send_53 : decode cX11_send 53 = .ok (.aload_n 0, 1) := by decide +kernel
theorem dX11_send_54 : decode cX11_send 54 = .ok (.getfield 87, 3) := by decide +kernel
theorem dX11_send_57 : decode cX11_send 57 = .ok (.iconst 0, 1) := by decide +kernel
theorem dX11_send_58 : decode cX11_send 58 = .ok (.iconst 1, 1) := by decide +kernel
theorem dX11_send_59 : decode cX11_send 59 = .ok (.invokevirtual 118, 3) := by decide +kernel
theorem dX11_send_62 : decode cX11_send 62 = .ok (.istore 4, 2) := by decide +kernel
theorem dX11_send_64 : decode cX11_send 64 = .ok (.iload_n 3, 1) := by decide +kernel
theorem dX11_send_65 : decode cX11_send 65 = .ok (.bipush (-9), 2) := by decide +kernel
theorem dX11_send_67 : decode cX11_send 67 = .ok (.if_icmp .eq 10, 3) := by decide +kernel
theorem dX11_send_70 : decode cX11_send 70 = .ok (.iload 4, 2) := by decide +kernel
theorem dX11_send_72 : decode cX11_send 72 = .ok (.bipush (-9), 2) := by decide +kernel
theorem dX11_send_74 : decode cX11_send 74 = .ok (.if_icmp .ne 6, 3) := by decide +kernel
theorem dX11_send_77 : decode cX11_send 77 = .ok (.bipush (-3), 2) := by decide +kernel
theorem dX11_send_79 : decode cX11_send 79 = .ok (.ireturn, 1) := by decide +kernel
theorem dX11_send_80 : decode cX11_send 80 = .ok (.aload_n 2, 1) := by decide +kernel
theorem dX11_send_81 : decode cX11_send 81 = .ok (.aload_n 0, 1) := by decide +kernel
theorem dX11_send_82 : decode cX11_send 82 = .ok (.getfield 87, 3) := by decide +kernel
theorem dX11_send_85 : decode cX11_send 85 = .ok (.putfield 170, 3) := by decide +kernel
theorem dX11_send_88 : decode cX11_send 88 = .ok (.aload_n 2, 1) := by decide +kernel
theorem dX11_send_89 : decode cX11_send 89 = .ok (.iload_n 3, 1) := by decide +kernel
theorem dX11_send_90 : decode cX11_send 90 = .ok (.putfield 173, 3) := by decide +kernel
theorem dX11_send_93 : decode cX11_send 93 = .ok (.aload_n 2, 1) := by decide +kernel
theorem dX11_send_94 : decode cX11_send 94 = .ok (.iload 4, 2) := by decide +kernel
theorem dX11_send_96 : decode cX11_send 96 = .ok (.putfield 176, 3) := by decide +kernel
theorem dX11_send_99 : decode cX11_send 99 = .ok (.iload_n 3, 1) := by decide +kernel
theorem dX11_send_100 : decode cX11_send 100 = .ok (.ireturn, 1) := by decide +kernel
theorem dX11_expected_0 : decode cX11_expected 0 = .ok (.aload_n 0, 1) := by decide +kernel
theorem dX11_expected_1 : decode cX11_expected 1 = .ok (.iload_n 1, 1) := by decide +kernel
theorem dX11_expected_2 : decode cX11_expected 2 = .ok (.invokevirtual 144, 3) := by decide +kernel
theorem dX11_expected_5 : decode cX11_expected 5 = .ok (.astore_n 3, 1) := by decide +kernel
theorem dX11_expected_6 : decode cX11_expected 6 = .ok (.aload_n 3, 1) := by decide +kernel
theorem dX11_expected_7 : decode cX11_expected 7 = .ok (.ifnonnull 5, 3) := by decide +kernel
theorem dX11_expected_10 : decode cX11_expected 10 = .ok (.iconst (-1), 1) := by decide +kernel
theorem dX11_expected_11 : decode cX11_expected 11 = .ok (.ireturn, 1) := by decide +kernel
theorem dX11_expected_12 : decode cX11_expected 12 = .ok (.iload_n 2, 1) := by decide +kernel
theorem dX11_expected_13 : decode cX11_expected 13 = .ok (.ifCond .eq 10, 3) := by decide +kernel
theorem dX11_expected_16 : decode cX11_expected 16 = .ok (.aload_n 3, 1) := by decide +kernel
theorem dX11_expected_17 : decode cX11_expected 17 = .ok (.getfield 176, 3) := by decide +kernel
theorem dX11_expected_20 : decode cX11_expected 20 = .ok (.goto 7, 3) := by decide +kernel
theorem dX11_expected_23 : decode cX11_expected 23 = .ok (.aload_n 3, 1) := by decide +kernel
theorem dX11_expected_24 : decode cX11_expected 24 = .ok (.getfield 173, 3) := by decide +kernel
theorem dX11_expected_27 : decode cX11_expected 27 = .ok (.ireturn, 1) := by decide +kernel
theorem dX11_come_0 : decode cX11_come 0 = .ok (.aload_n 0, 1) := by decide +kernel
theorem dX11_come_1 : decode cX11_come 1 = .ok (.iload_n 1, 1) := by decide +kernel
theorem dX11_come_2 : decode cX11_come 2 = .ok (.invokevirtual 144, 3) := by decide +kernel
theorem dX11_come_5 : decode cX11_come 5 = .ok (.astore_n 2, 1) := by decide +kernel
theorem dX11_come_6 : decode cX11_come 6 = .ok (.aload_n 2, 1) := by decide +kernel
theorem dX11_come_7 : decode cX11_come 7 = .ok (.ifnonnull 5, 3) := by decide +kernel
theorem dX11_come_10 : decode cX11_come 10 = .ok (.iconst (-1), 1) := by decide +kernel
theorem dX11_come_11 : decode cX11_come 11 = .ok (.ireturn, 1) := by decide +kernel
theorem dX11_come_12 : decode cX11_come 12 = .ok (.aload_n 2, 1) := by decide +kernel
theorem dX11_come_13 : decode cX11_come 13 = .ok (.aload_n 0, 1) := by decide +kernel
theorem dX11_come_14 : decode cX11_come 14 = .ok (.getfield 87, 3) := by decide +kernel
theorem dX11_come_17 : decode cX11_come 17 = .ok (.invokevirtual 166, 3) := by decide +kernel
theorem dX11_come_20 : decode cX11_come 20 = .ok (.iconst 2, 1) := by decide +kernel
theorem dX11_come_21 : decode cX11_come 21 = .ok (.if_icmp .ne 14, 3) := by decide +kernel
theorem dX11_come_24 : decode cX11_come 24 = .ok (.aload_n 2, 1) := by decide +kernel
theorem dX11_come_25 : decode cX11_come 25 = .ok (.getfield 173, 3) := by decide +kernel
theorem dX11_come_28 : decode cX11_come 28 = .ok (.aload_n 0, 1) := by decide +kernel
theorem dX11_come_29 : decode cX11_come 29 = .ok (.getfield 87, 3) := by decide +kernel
theorem dX11_come_32 : decode cX11_come 32 = .ok (.if_icmp .le 6, 3) := by decide +kernel
theorem dX11_come_35 : decode cX11_come 35 = .ok (.bipush (-3), 2) := by decide +kernel
theorem dX11_come_37 : decode cX11_come 37 = .ok (.ireturn, 1) := by decide +kernel
theorem dX11_come_38 : decode cX11_come 38 = .ok (.aload_n 2, 1) := by decide +kernel
theorem dX11_come_39 : decode cX11_come 39 = .ok (.aload_n 0, 1) := by decide +kernel
theorem dX11_come_40 : decode cX11_come 40 = .ok (.getfield 87, 3) := by decide +kernel
theorem dX11_come_43 : decode cX11_come 43 = .ok (.putfield 179, 3) := by decide +kernel
theorem dX11_come_46 : decode cX11_come 46 = .ok (.aload_n 0, 1) := by decide +kernel
theorem dX11_come_47 : decode cX11_come 47 = .ok (.getfield 87, 3) := by decide +kernel
theorem dX11_come_50 : decode cX11_come 50 = .ok (.aload_n 2, 1) := by decide +kernel
theorem dX11_come_51 : decode cX11_come 51 = .ok (.getfield 173, 3) := by decide +kernel
theorem dX11_come_54 : decode cX11_come 54 = .ok (.isub, 1) := by decide +kernel
theorem dX11_come_55 : decode cX11_come 55 = .ok (.ireturn, 1) := by decide +kernel
theorem dX11_lose_0 : decode cX11_lose 0 = .ok (.aload_n 0, 1) := by decide +kernel
theorem dX11_lose_1 : decode cX11_lose 1 = .ok (.iload_n 1, 1) := by decide +kernel
theorem dX11_lose_2 : decode cX11_lose 2 = .ok (.invokevirtual 144, 3) := by decide +kernel
theorem dX11_lose_5 : decode cX11_lose 5 = .ok (.astore_n 2, 1) := by decide +kernel
theorem dX11_lose_6 : decode cX11_lose 6 = .ok (.aload_n 2, 1) := by decide +kernel
theorem dX11_lose_7 : decode cX11_lose 7 = .ok (.ifnonnull 5, 3) := by decide +kernel
theorem dX11_lose_10 : decode cX11_lose 10 = .ok (.iconst (-1), 1) := by decide +kernel
theorem dX11_lose_11 : decode cX11_lose 11 = .ok (.ireturn, 1) := by decide +kernel
theorem dX11_lose_12 : decode cX11_lose 12 = .ok (.aload_n 2, 1) := by decide +kernel
theorem dX11_lose_13 : decode cX11_lose 13 = .ok (.aload_n 0, 1) := by decide +kernel
theorem dX11_lose_14 : decode cX11_lose 14 = .ok (.getfield 87, 3) := by decide +kernel
theorem dX11_lose_17 : decode cX11_lose 17 = .ok (.invokevirtual 166, 3) := by decide +kernel
theorem dX11_lose_20 : decode cX11_lose 20 = .ok (.istore_n 3, 1) := by decide +kernel
theorem dX11_lose_21 : decode cX11_lose 21 = .ok (.iload_n 3, 1) := by decide +kernel
theorem dX11_lose_22 : decode cX11_lose 22 = .ok (.iconst 4, 1) := by decide +kernel
theorem dX11_lose_23 : decode cX11_lose 23 = .ok (.if_icmp .ne 6, 3) := by decide +kernel
theorem dX11_lose_26 : decode cX11_lose 26 = .ok (.bipush (-3), 2) := by decide +kernel
theorem dX11_lose_28 : decode cX11_lose 28 = .ok (.ireturn, 1) := by decide +kernel
theorem dX11_lose_29 : decode cX11_lose 29 = .ok (.aload_n 2, 1) := by decide +kernel
theorem dX11_lose_30 : decode cX11_lose 30 = .ok (.aload_n 0, 1) := by decide +kernel
theorem dX11_lose_31 : decode cX11_lose 31 = .ok (.getfield 87, 3) := by decide +kernel
theorem dX11_lose_34 : decode cX11_lose 34 = .ok (.putfield 182, 3) := by decide +kernel
theorem dX11_lose_37 : decode cX11_lose 37 = .ok (.iload_n 3, 1) := by decide +kernel
theorem dX11_lose_38 : decode cX11_lose 38 = .ok (.ireturn, 1) := by decide +kernel
theorem dX11_where_0 : decode cX11_where 0 = .ok (.aload_n 0, 1) := by decide +kernel
theorem dX11_where_1 : decode cX11_where 1 = .ok (.iload_n 1, 1) := by decide +kernel
theorem dX11_where_2 : decode cX11_where 2 = .ok (.invokevirtual 144, 3) := by decide +kernel
theorem dX11_where_5 : decode cX11_where 5 = .ok (.astore_n 3, 1) := by decide +kernel
theorem dX11_where_6 : decode cX11_where 6 = .ok (.aload_n 3, 1) := by decide +kernel
theorem dX11_where_7 : decode cX11_where 7 = .ok (.ifnonnull 5, 3) := by decide +kernel
theorem dX11_where_10 : decode cX11_where 10 = .ok (.iconst (-1), 1) := by decide +kernel
theorem dX11_where_11 : decode cX11_where 11 = .ok (.ireturn, 1) := by decide +kernel
theorem dX11_where_12 : decode cX11_where 12 = .ok (.iload_n 2, 1) := by decide +kernel
theorem dX11_where_13 : decode cX11_where 13 = .ok (.iconst 0, 1) := by decide +kernel
theorem dX11_where_14 : decode cX11_where 14 = .ok (.aload_n 0, 1) := by decide +kernel
theorem dX11_where_15 : decode cX11_where 15 = .ok (.getfield 87, 3) := by decide +kernel
theorem dX11_where_18 : decode cX11_where 18 = .ok (.invokestatic 83, 3) := by decide +kernel
theorem dX11_where_21 : decode cX11_where 21 = .ok (.ifCond .eq 11, 3) := by decide +kernel
theorem dX11_where_24 : decode cX11_where 24 = .ok (.aload_n 3, 1) := by decide +kernel
theorem dX11_where_25 : decode cX11_where 25 = .ok (.iload_n 2, 1) := by decide +kernel
theorem dX11_where_26 : decode cX11_where 26 = .ok (.invokevirtual 166, 3) := by decide +kernel
theorem dX11_where_29 : decode cX11_where 29 = .ok (.goto 5, 3) := by decide +kernel
theorem dX11_where_32 : decode cX11_where 32 = .ok (.bipush (-2), 2) := by decide +kernel
theorem dX11_where_34 : decode cX11_where 34 = .ok (.ireturn, 1) := by decide +kernel
theorem dX11_overdue_0 : decode cX11_overdue 0 = .ok (.iconst 0, 1) := by decide +kernel
theorem dX11_overdue_1 : decode cX11_overdue 1 = .ok (.istore_n 1, 1) := by decide +kernel
theorem dX11_overdue_2 : decode cX11_overdue 2 = .ok (.iconst 0, 1) := by decide +kernel
theorem dX11_overdue_3 : decode cX11_overdue 3 = .ok (.istore_n 2, 1) := by decide +kernel
theorem dX11_overdue_4 : decode cX11_overdue 4 = .ok (.iload_n 2, 1) := by decide +kernel
theorem dX11_overdue_5 : decode cX11_overdue 5 = .ok (.aload_n 0, 1) := by decide +kernel
theorem dX11_overdue_6 : decode cX11_overdue 6 = .ok (.getfield 131, 3) := by decide +kernel
theorem dX11_overdue_9 : decode cX11_overdue 9 = .ok (.if_icmp .ge 45, 3) := by decide +kernel
theorem dX11_overdue_12 : decode cX11_overdue 12 = .ok (.aload_n 0, 1) := by decide +kernel
theorem dX11_overdue_13 : decode cX11_overdue 13 = .ok (.getfield 25, 3) := by decide +kernel
theorem dX11_overdue_16 : decode cX11_overdue 16 = .ok (.iload_n 2, 1) := by decide +kernel
theorem dX11_overdue_17 : decode cX11_overdue 17 = .ok (.aaload, 1) := by decide +kernel
theorem dX11_overdue_18 : decode cX11_overdue 18 = .ok (.aload_n 0, 1) := by decide +kernel
theorem dX11_overdue_19 : decode cX11_overdue 19 = .ok (.getfield 87, 3) := by decide +kernel
theorem dX11_overdue_22 : decode cX11_overdue 22 = .ok (.invokevirtual 166, 3) := by decide +kernel
theorem dX11_overdue_25 : decode cX11_overdue 25 = .ok (.iconst 2, 1) := by decide +kernel
theorem dX11_overdue_26 : decode cX11_overdue 26 = .ok (.if_icmp .ne 22, 3) := by decide +kernel
theorem dX11_overdue_29 : decode cX11_overdue 29 = .ok (.aload_n 0, 1) := by decide +kernel
theorem dX11_overdue_30 : decode cX11_overdue 30 = .ok (.getfield 25, 3) := by decide +kernel
theorem dX11_overdue_33 : decode cX11_overdue 33 = .ok (.iload_n 2, 1) := by decide +kernel
theorem dX11_overdue_34 : decode cX11_overdue 34 = .ok (.aaload, 1) := by decide +kernel
theorem dX11_overdue_35 : decode cX11_overdue 35 = .ok (.getfield 176, 3) := by decide +kernel
theorem dX11_overdue_38 : decode cX11_overdue 38 = .ok (.aload_n 0, 1) := by decide +kernel
theorem dX11_overdue_39 : decode cX11_overdue 39 = .ok (.getfield 87, 3) := by decide +kernel
theorem dX11_overdue_42 : decode cX11_overdue 42 = .ok (.if_icmp .ge 6, 3) := by decide +kernel
theorem dX11_overdue_45 : decode cX11_overdue 45 = .ok (.iinc 1 1, 3) := by decide +kernel
theorem dX11_overdue_48 : decode cX11_overdue 48 = .ok (.iinc 2 1, 3) := by decide +kernel
theorem dX11_overdue_51 : decode cX11_overdue 51 = .ok (.goto (-47), 3) := by decide +kernel
theorem dX11_overdue_54 : decode cX11_overdue 54 = .ok (.iload_n 1, 1) := by decide +kernel
theorem dX11_overdue_55 : decode cX11_overdue 55 = .ok (.ireturn, 1) := by decide +kernel
theorem dX11_fact_0 : decode cX11_fact 0 = .ok (.iload_n 1, 1) := by decide +kernel
theorem dX11_fact_1 : decode cX11_fact 1 = .ok (.iconst 0, 1) := by decide +kernel
theorem dX11_fact_2 : decode cX11_fact 2 = .ok (.bipush 7, 2) := by decide +kernel
theorem dX11_fact_4 : decode cX11_fact 4 = .ok (.invokestatic 83, 3) := by decide +kernel
theorem dX11_fact_7 : decode cX11_fact 7 = .ok (.ifCond .ne 5, 3) := by decide +kernel
theorem dX11_fact_10 : decode cX11_fact 10 = .ok (.iconst (-1), 1) := by decide +kernel
theorem dX11_fact_11 : decode cX11_fact 11 = .ok (.ireturn, 1) := by decide +kernel
theorem dX11_fact_12 : decode cX11_fact 12 = .ok (.iload_n 2, 1) := by decide +kernel
theorem dX11_fact_13 : decode cX11_fact 13 = .ok (.iconst 0, 1) := by decide +kernel
theorem dX11_fact_14 : decode cX11_fact 14 = .ok (.sipush 255, 3) := by decide +kernel
theorem dX11_fact_17 : decode cX11_fact 17 = .ok (.invokestatic 83, 3) := by decide +kernel
theorem dX11_fact_20 : decode cX11_fact 20 = .ok (.ifCond .eq 18, 3) := by decide +kernel
theorem dX11_fact_23 : decode cX11_fact 23 = .ok (.iload_n 3, 1) := by decide +kernel
theorem dX11_fact_24 : decode cX11_fact 24 = .ok (.invokestatic 185, 3) := by decide +kernel
theorem dX11_fact_27 : decode cX11_fact 27 = .ok (.ifCond .eq 11, 3) := by decide +kernel
theorem dX11_fact_30 : decode cX11_fact 30 = .ok (.iload 4, 2) := by decide +kernel
theorem dX11_fact_32 : decode cX11_fact 32 = .ok (.invokestatic 185, 3) := by decide +kernel
theorem dX11_fact_35 : decode cX11_fact 35 = .ok (.ifCond .ne 6, 3) := by decide +kernel
theorem dX11_fact_38 : decode cX11_fact 38 = .ok (.bipush (-2), 2) := by decide +kernel
theorem dX11_fact_40 : decode cX11_fact 40 = .ok (.ireturn, 1) := by decide +kernel
theorem dX11_fact_41 : decode cX11_fact 41 = .ok (.aload_n 0, 1) := by decide +kernel
theorem dX11_fact_42 : decode cX11_fact 42 = .ok (.getfield 19, 3) := by decide +kernel
theorem dX11_fact_45 : decode cX11_fact 45 = .ok (.iload_n 1, 1) := by decide +kernel
theorem dX11_fact_46 : decode cX11_fact 46 = .ok (.iload_n 2, 1) := by decide +kernel
theorem dX11_fact_47 : decode cX11_fact 47 = .ok (.iload_n 3, 1) := by decide +kernel
theorem dX11_fact_48 : decode cX11_fact 48 = .ok (.iload 4, 2) := by decide +kernel
theorem dX11_fact_50 : decode cX11_fact 50 = .ok (.invokevirtual 188, 3) := by decide +kernel
theorem dX11_fact_53 : decode cX11_fact 53 = .ok (.iconst 1, 1) := by decide +kernel
theorem dX11_fact_54 : decode cX11_fact 54 = .ok (.ireturn, 1) := by decide +kernel
theorem dX11_lie_0 : decode cX11_lie 0 = .ok (.aload_n 0, 1) := by decide +kernel
theorem dX11_lie_1 : decode cX11_lie 1 = .ok (.iload_n 1, 1) := by decide +kernel
theorem dX11_lie_2 : decode cX11_lie 2 = .ok (.invokevirtual 144, 3) := by decide +kernel
theorem dX11_lie_5 : decode cX11_lie 5 = .ok (.astore 4, 2) := by decide +kernel
theorem dX11_lie_7 : decode cX11_lie 7 = .ok (.aload 4, 2) := by decide +kernel
theorem dX11_lie_9 : decode cX11_lie 9 = .ok (.ifnull 10, 3) := by decide +kernel
theorem dX11_lie_12 : decode cX11_lie 12 = .ok (.iload_n 2, 1) := by decide +kernel
theorem dX11_lie_13 : decode cX11_lie 13 = .ok (.invokestatic 90, 3) := by decide +kernel
theorem dX11_lie_16 : decode cX11_lie 16 = .ok (.ifCond .ne 5, 3) := by decide +kernel
theorem dX11_lie_19 : decode cX11_lie 19 = .ok (.iconst (-1), 1) := by decide +kernel
theorem dX11_lie_20 : decode cX11_lie 20 = .ok (.ireturn, 1) := by decide +kernel
theorem dX11_lie_21 : decode cX11_lie 21 = .ok (.iload_n 3, 1) := by decide +kernel
theorem dX11_lie_22 : decode cX11_lie 22 = .ok (.invokestatic 94, 3) := by decide +kernel
theorem dX11_lie_25 : decode cX11_lie 25 = .ok (.ifCond .eq 20, 3) := by decide +kernel
theorem dX11_lie_28 : decode cX11_lie 28 = .ok (.aload_n 0, 1) := by decide +kernel
theorem dX11_lie_29 : decode cX11_lie 29 = .ok (.getfield 19, 3) := by decide +kernel
theorem dX11_lie_32 : decode cX11_lie 32 = .ok (.aload 4, 2) := by decide +kernel
theorem dX11_lie_34 : decode cX11_lie 34 = .ok (.getfield 160, 3) := by decide +kernel
theorem dX11_lie_37 : decode cX11_lie 37 = .ok (.iload_n 2, 1) := by decide +kernel
theorem dX11_lie_38 : decode cX11_lie 38 = .ok (.iload_n 3, 1) := by decide +kernel
theorem dX11_lie_39 : decode cX11_lie 39 = .ok (.invokevirtual 192, 3) := by decide +kernel
theorem dX11_lie_42 : decode cX11_lie 42 = .ok (.goto 5, 3) := by decide +kernel
theorem dX11_lie_45 : decode cX11_lie 45 = .ok (.bipush (-2), 2) := by decide +kernel
theorem dX11_lie_47 : decode cX11_lie 47 = .ok (.ireturn, 1) := by decide +kernel
theorem dX11_find_0 : decode cX11_find 0 = .ok (.iload_n 1, 1) := by decide +kernel
theorem dX11_find_1 : decode cX11_find 1 = .ok (.invokestatic 125, 3) := by decide +kernel
theorem dX11_find_4 : decode cX11_find 4 = .ok (.ifCond .eq 10, 3) := by decide +kernel
theorem dX11_find_7 : decode cX11_find 7 = .ok (.iload_n 2, 1) := by decide +kernel
theorem dX11_find_8 : decode cX11_find 8 = .ok (.invokestatic 94, 3) := by decide +kernel
theorem dX11_find_11 : decode cX11_find 11 = .ok (.ifCond .ne 6, 3) := by decide +kernel
theorem dX11_find_14 : decode cX11_find 14 = .ok (.bipush (-2), 2) := by decide +kernel
theorem dX11_find_16 : decode cX11_find 16 = .ok (.ireturn, 1) := by decide +kernel
theorem dX11_find_17 : decode cX11_find 17 = .ok (.iconst 0, 1) := by decide +kernel
theorem dX11_find_18 : decode cX11_find 18 = .ok (.istore 4, 2) := by decide +kernel
theorem dX11_find_20 : decode cX11_find 20 = .ok (.iconst 0, 1) := by decide +kernel
theorem dX11_find_21 : decode cX11_find 21 = .ok (.istore 5, 2) := by decide +kernel
theorem dX11_find_23 : decode cX11_find 23 = .ok (.iload 5, 2) := by decide +kernel
theorem dX11_find_25 : decode cX11_find 25 = .ok (.aload_n 0, 1) := by decide +kernel
theorem dX11_find_26 : decode cX11_find 26 = .ok (.getfield 131, 3) := by decide +kernel
theorem dX11_find_29 : decode cX11_find 29 = .ok (.if_icmp .ge 37, 3) := by decide +kernel
theorem dX11_find_32 : decode cX11_find 32 = .ok (.aload_n 0, 1) := by decide +kernel
theorem dX11_find_33 : decode cX11_find 33 = .ok (.aload_n 0, 1) := by decide +kernel
theorem dX11_find_34 : decode cX11_find 34 = .ok (.getfield 25, 3) := by decide +kernel
theorem dX11_find_37 : decode cX11_find 37 = .ok (.iload 5, 2) := by decide +kernel
theorem dX11_find_39 : decode cX11_find 39 = .ok (.aaload, 1) := by decide +kernel
theorem dX11_find_40 : decode cX11_find 40 = .ok (.iload_n 1, 1) := by decide +kernel
theorem dX11_find_41 : decode cX11_find 41 = .ok (.iload_n 2, 1) := by decide +kernel
theorem dX11_find_42 : decode cX11_find 42 = .ok (.invokevirtual 196, 3) := by decide +kernel
theorem dX11_find_45 : decode cX11_find 45 = .ok (.ifCond .eq 15, 3) := by decide +kernel
theorem dX11_find_48 : decode cX11_find 48 = .ok (.iload 4, 2) := by decide +kernel
theorem dX11_find_50 : decode cX11_find 50 = .ok (.iload_n 3, 1) := by decide +kernel
theorem dX11_find_51 : decode cX11_find 51 = .ok (.if_icmp .ne 6, 3) := by decide +kernel
theorem dX11_find_54 : decode cX11_find 54 = .ok (.iload 5, 2) := by decide +kernel
theorem dX11_find_56 : decode cX11_find 56 = .ok (.ireturn, 1) := by decide +kernel
theorem dX11_find_57 : decode cX11_find 57 = .ok (.iinc 4 1, 3) := by decide +kernel
theorem dX11_find_60 : decode cX11_find 60 = .ok (.iinc 5 1, 3) := by decide +kernel
theorem dX11_find_63 : decode cX11_find 63 = .ok (.goto (-40), 3) := by decide +kernel
theorem dX11_find_66 : decode cX11_find 66 = .ok (.bipush (-9), 2) := by decide +kernel
theorem dX11_find_68 : decode cX11_find 68 = .ok (.ireturn, 1) := by decide +kernel
theorem dX11_story_0 : decode cX11_story 0 = .ok (.iload_n 2, 1) := by decide +kernel
theorem dX11_story_1 : decode cX11_story 1 = .ok (.invokestatic 90, 3) := by decide +kernel
theorem dX11_story_4 : decode cX11_story 4 = .ok (.ifCond .ne 5, 3) := by decide +kernel
theorem dX11_story_7 : decode cX11_story 7 = .ok (.iconst (-1), 1) := by decide +kernel
theorem dX11_story_8 : decode cX11_story 8 = .ok (.ireturn, 1) := by decide +kernel
theorem dX11_story_9 : decode cX11_story 9 = .ok (.iload_n 1, 1) := by decide +kernel
theorem dX11_story_10 : decode cX11_story 10 = .ok (.invokestatic 122, 3) := by decide +kernel
theorem dX11_story_13 : decode cX11_story 13 = .ok (.ifCond .eq 22, 3) := by decide +kernel
theorem dX11_story_16 : decode cX11_story 16 = .ok (.iload_n 3, 1) := by decide +kernel
theorem dX11_story_17 : decode cX11_story 17 = .ok (.invokestatic 94, 3) := by decide +kernel
theorem dX11_story_20 : decode cX11_story 20 = .ok (.ifCond .eq 15, 3) := by decide +kernel
theorem dX11_story_23 : decode cX11_story 23 = .ok (.iload 4, 2) := by decide +kernel
theorem dX11_story_25 : decode cX11_story 25 = .ok (.iconst 0, 1) := by decide +kernel
theorem dX11_story_26 : decode cX11_story 26 = .ok (.sipush 999, 3) := by decide +kernel
theorem dX11_story_29 : decode cX11_story 29 = .ok (.invokestatic 83, 3) := by decide +kernel
theorem dX11_story_32 : decode cX11_story 32 = .ok (.ifCond .ne 6, 3) := by decide +kernel
theorem dX11_story_35 : decode cX11_story 35 = .ok (.bipush (-2), 2) := by decide +kernel
theorem dX11_story_37 : decode cX11_story 37 = .ok (.ireturn, 1) := by decide +kernel
theorem dX11_story_38 : decode cX11_story 38 = .ok (.aload_n 0, 1) := by decide +kernel
theorem dX11_story_39 : decode cX11_story 39 = .ok (.getfield 200, 3) := by decide +kernel
theorem dX11_story_42 : decode cX11_story 42 = .ok (.bipush 8, 2) := by decide +kernel
theorem dX11_story_44 : decode cX11_story 44 = .ok (.if_icmp .lt 6, 3) := by decide +kernel
theorem dX11_story_47 : decode cX11_story 47 = .ok (.bipush (-4), 2) := by decide +kernel
theorem dX11_story_49 : decode cX11_story 49 = .ok (.ireturn, 1) := by decide +kernel
theorem dX11_story_50 : decode cX11_story 50 = .ok (.aload_n 0, 1) := by decide +kernel
theorem dX11_story_51 : decode cX11_story 51 = .ok (.getfield 31, 3) := by decide +kernel
theorem dX11_story_54 : decode cX11_story 54 = .ok (.aload_n 0, 1) := by decide +kernel
theorem dX11_story_55 : decode cX11_story 55 = .ok (.getfield 200, 3) := by decide +kernel
theorem dX11_story_58 : decode cX11_story 58 = .ok (.new 29, 3) := by decide +kernel
theorem dX11_story_61 : decode cX11_story 61 = .ok (.dup, 1) := by decide +kernel
theorem dX11_story_62 : decode cX11_story 62 = .ok (.iload_n 1, 1) := by decide +kernel
theorem dX11_story_63 : decode cX11_story 63 = .ok (.iload_n 2, 1) := by decide +kernel
theorem dX11_story_64 : decode cX11_story 64 = .ok (.iload_n 3, 1) := by decide +kernel
theorem dX11_story_65 : decode cX11_story 65 = .ok (.iload 4, 2) := by decide +kernel
theorem dX11_story_67 : decode cX11_story 67 = .ok (.invokespecial 203, 3) := by decide +kernel
theorem dX11_story_70 : decode cX11_story 70 = .ok (.aastore, 1) := by decide +kernel
theorem dX11_story_71 : decode cX11_story 71 = .ok (.aload_n 0, 1) := by decide +kernel
theorem dX11_story_72 : decode cX11_story 72 = .ok (.dup, 1) := by decide +kernel
theorem dX11_story_73 : decode cX11_story 73 = .ok (.getfield 200, 3) := by decide +kernel
theorem dX11_story_76 : decode cX11_story 76 = .ok (.iconst 1, 1) := by decide +kernel
theorem dX11_story_77 : decode cX11_story 77 = .ok (.iadd, 1) := by decide +kernel
theorem dX11_story_78 : decode cX11_story 78 = .ok (.putfield 200, 3) := by decide +kernel
theorem dX11_story_81 : decode cX11_story 81 = .ok (.aload_n 0, 1) := by decide +kernel
theorem dX11_story_82 : decode cX11_story 82 = .ok (.getfield 200, 3) := by decide +kernel
theorem dX11_story_85 : decode cX11_story 85 = .ok (.iconst 1, 1) := by decide +kernel
theorem dX11_story_86 : decode cX11_story 86 = .ok (.isub, 1) := by decide +kernel
theorem dX11_story_87 : decode cX11_story 87 = .ok (.ireturn, 1) := by decide +kernel
theorem dX11_put_0 : decode cX11_put 0 = .ok (.aload_n 0, 1) := by decide +kernel
theorem dX11_put_1 : decode cX11_put 1 = .ok (.iload_n 1, 1) := by decide +kernel
theorem dX11_put_2 : decode cX11_put 2 = .ok (.invokevirtual 205, 3) := by decide +kernel
theorem dX11_put_5 : decode cX11_put 5 = .ok (.astore_n 3, 1) := by decide +kernel
theorem dX11_put_6 : decode cX11_put 6 = .ok (.aload_n 0, 1) := by decide +kernel
theorem dX11_put_7 : decode cX11_put 7 = .ok (.iload_n 2, 1) := by decide +kernel
theorem dX11_put_8 : decode cX11_put 8 = .ok (.invokevirtual 144, 3) := by decide +kernel
theorem dX11_put_11 : decode cX11_put 11 = .ok (.astore 4, 2) := by decide +kernel
theorem dX11_put_13 : decode cX11_put 13 = .ok (.aload_n 3, 1) := by decide +kernel
theorem dX11_put_14 : decode cX11_put 14 = .ok (.ifnull 8, 3) := by decide +kernel
theorem dX11_put_17 : decode cX11_put 17 = .ok (.aload 4, 2) := by decide +kernel
theorem dX11_put_19 : decode cX11_put 19 = .ok (.ifnonnull 5, 3) := by decide +kernel
theorem dX11_put_22 : decode cX11_put 22 = .ok (.iconst (-1), 1) := by decide +kernel
theorem dX11_put_23 : decode cX11_put 23 = .ok (.ireturn, 1) := by decide +kernel
theorem dX11_put_24 : decode cX11_put 24 = .ok (.aload 4, 2) := by decide +kernel
theorem dX11_put_26 : decode cX11_put 26 = .ok (.aload_n 0, 1) := by decide +kernel
theorem dX11_put_27 : decode cX11_put 27 = .ok (.getfield 87, 3) := by decide +kernel
theorem dX11_put_30 : decode cX11_put 30 = .ok (.invokevirtual 166, 3) := by decide +kernel
theorem dX11_put_33 : decode cX11_put 33 = .ok (.iconst 3, 1) := by decide +kernel
theorem dX11_put_34 : decode cX11_put 34 = .ok (.if_icmp .ne 12, 3) := by decide +kernel
theorem dX11_put_37 : decode cX11_put 37 = .ok (.aload_n 3, 1) := by decide +kernel
theorem dX11_put_38 : decode cX11_put 38 = .ok (.aload 4, 2) := by decide +kernel
theorem dX11_put_40 : decode cX11_put 40 = .ok (.invokevirtual 209, 3) := by decide +kernel
theorem dX11_put_43 : decode cX11_put 43 = .ok (.ifCond .eq 6, 3) := by decide +kernel
theorem dX11_put_46 : decode cX11_put 46 = .ok (.bipush (-3), 2) := by decide +kernel
theorem dX11_put_48 : decode cX11_put 48 = .ok (.ireturn, 1) := by decide +kernel
theorem dX11_put_49 : decode cX11_put 49 = .ok (.aload_n 3, 1) := by decide +kernel
theorem dX11_put_50 : decode cX11_put 50 = .ok (.aload 4, 2) := by decide +kernel
theorem dX11_put_52 : decode cX11_put 52 = .ok (.invokevirtual 213, 3) := by decide +kernel
theorem dX11_put_55 : decode cX11_put 55 = .ok (.ireturn, 1) := by decide +kernel
theorem dX11_cut_0 : decode cX11_cut 0 = .ok (.aload_n 0, 1) := by decide +kernel
theorem dX11_cut_1 : decode cX11_cut 1 = .ok (.iload_n 1, 1) := by decide +kernel
theorem dX11_cut_2 : decode cX11_cut 2 = .ok (.invokevirtual 205, 3) := by decide +kernel
theorem dX11_cut_5 : decode cX11_cut 5 = .ok (.astore_n 3, 1) := by decide +kernel
theorem dX11_cut_6 : decode cX11_cut 6 = .ok (.aload_n 3, 1) := by decide +kernel
theorem dX11_cut_7 : decode cX11_cut 7 = .ok (.ifnonnull 7, 3) := by decide +kernel
theorem dX11_cut_10 : decode cX11_cut 10 = .ok (.iconst (-1), 1) := by decide +kernel
theorem dX11_cut_11 : decode cX11_cut 11 = .ok (.goto 8, 3) := by decide +kernel
theorem dX11_cut_14 : decode cX11_cut 14 = .ok (.aload_n 3, 1) := by decide +kernel
theorem dX11_cut_15 : decode cX11_cut 15 = .ok (.iload_n 2, 1) := by decide +kernel
theorem dX11_cut_16 : decode cX11_cut 16 = .ok (.invokevirtual 217, 3) := by decide +kernel
theorem dX11_cut_19 : decode cX11_cut 19 = .ok (.ireturn, 1) := by decide +kernel
theorem dX11_say_0 : decode cX11_say 0 = .ok (.aload_n 0, 1) := by decide +kernel
theorem dX11_say_1 : decode cX11_say 1 = .ok (.iload_n 1, 1) := by decide +kernel
theorem dX11_say_2 : decode cX11_say 2 = .ok (.invokevirtual 205, 3) := by decide +kernel
theorem dX11_say_5 : decode cX11_say 5 = .ok (.astore_n 3, 1) := by decide +kernel
theorem dX11_say_6 : decode cX11_say 6 = .ok (.aload_n 3, 1) := by decide +kernel
theorem dX11_say_7 : decode cX11_say 7 = .ok (.ifnonnull 5, 3) := by decide +kernel
theorem dX11_say_10 : decode cX11_say 10 = .ok (.iconst (-1), 1) := by decide +kernel
theorem dX11_say_11 : decode cX11_say 11 = .ok (.ireturn, 1) := by decide +kernel
theorem dX11_say_12 : decode cX11_say 12 = .ok (.aload_n 3, 1) := by decide +kernel
theorem dX11_say_13 : decode cX11_say 13 = .ok (.getfield 220, 3) := by decide +kernel
theorem dX11_say_16 : decode cX11_say 16 = .ok (.istore 4, 2) := by decide +kernel
theorem dX11_say_18 : decode cX11_say 18 = .ok (.aload_n 3, 1) := by decide +kernel
theorem dX11_say_19 : decode cX11_say 19 = .ok (.iload_n 2, 1) := by decide +kernel
theorem dX11_say_20 : decode cX11_say 20 = .ok (.putfield 220, 3) := by decide +kernel
theorem dX11_say_23 : decode cX11_say 23 = .ok (.iload 4, 2) := by decide +kernel
theorem dX11_say_25 : decode cX11_say 25 = .ok (.invokestatic 223, 3) := by decide +kernel
theorem dX11_say_28 : decode cX11_say 28 = .ok (.ireturn, 1) := by decide +kernel
theorem dX11_must_0 : decode cX11_must 0 = .ok (.aload_n 0, 1) := by decide +kernel
theorem dX11_must_1 : decode cX11_must 1 = .ok (.iload_n 1, 1) := by decide +kernel
theorem dX11_must_2 : decode cX11_must 2 = .ok (.invokevirtual 205, 3) := by decide +kernel
theorem dX11_must_5 : decode cX11_must 5 = .ok (.astore_n 3, 1) := by decide +kernel
theorem dX11_must_6 : decode cX11_must 6 = .ok (.aload_n 3, 1) := by decide +kernel
theorem dX11_must_7 : decode cX11_must 7 = .ok (.ifnonnull 5, 3) := by decide +kernel
theorem dX11_must_10 : decode cX11_must 10 = .ok (.iconst (-1), 1) := by decide +kernel
theorem dX11_must_11 : decode cX11_must 11 = .ok (.ireturn, 1) := by decide +kernel
theorem dX11_must_12 : decode cX11_must 12 = .ok (.aload_n 3, 1) := by decide +kernel
theorem dX11_must_13 : decode cX11_must 13 = .ok (.getfield 227, 3) := by decide +kernel
theorem dX11_must_16 : decode cX11_must 16 = .ok (.istore 4, 2) := by decide +kernel
theorem dX11_must_18 : decode cX11_must 18 = .ok (.aload_n 3, 1) := by decide +kernel
theorem dX11_must_19 : decode cX11_must 19 = .ok (.iload_n 2, 1) := by decide +kernel
theorem dX11_must_20 : decode cX11_must 20 = .ok (.putfield 227, 3) := by decide +kernel
theorem dX11_must_23 : decode cX11_must 23 = .ok (.iload 4, 2) := by decide +kernel
theorem dX11_must_25 : decode cX11_must 25 = .ok (.invokestatic 223, 3) := by decide +kernel
theorem dX11_must_28 : decode cX11_must 28 = .ok (.ireturn, 1) := by decide +kernel
theorem dX11_of_0 : decode cX11_of 0 = .ok (.aload_n 0, 1) := by decide +kernel
theorem dX11_of_1 : decode cX11_of 1 = .ok (.iload_n 1, 1) := by decide +kernel
theorem dX11_of_2 : decode cX11_of 2 = .ok (.invokevirtual 205, 3) := by decide +kernel
theorem dX11_of_5 : decode cX11_of 5 = .ok (.astore_n 3, 1) := by decide +kernel
theorem dX11_of_6 : decode cX11_of 6 = .ok (.aload_n 3, 1) := by decide +kernel
theorem dX11_of_7 : decode cX11_of 7 = .ok (.ifnonnull 5, 3) := by decide +kernel
theorem dX11_of_10 : decode cX11_of 10 = .ok (.iconst (-1), 1) := by decide +kernel
theorem dX11_of_11 : decode cX11_of 11 = .ok (.ireturn, 1) := by decide +kernel
theorem dX11_of_12 : decode cX11_of 12 = .ok (.iload_n 2, 1) := by decide +kernel
theorem dX11_of_13 : decode cX11_of 13 = .ok (.tableswitch 93 0 6 #[43, 48, 53, 58, 67, 76, 81], 43) := by decide +kernel
theorem dX11_of_56 : decode cX11_of 56 = .ok (.aload_n 3, 1) := by decide +kernel
theorem dX11_of_57 : decode cX11_of 57 = .ok (.getfield 230, 3) := by decide +kernel
theorem dX11_of_60 : decode cX11_of 60 = .ok (.ireturn, 1) := by decide +kernel
theorem dX11_of_61 : decode cX11_of 61 = .ok (.aload_n 3, 1) := by decide +kernel
theorem dX11_of_62 : decode cX11_of 62 = .ok (.invokevirtual 233, 3) := by decide +kernel
theorem dX11_of_65 : decode cX11_of 65 = .ok (.ireturn, 1) := by decide +kernel
theorem dX11_of_66 : decode cX11_of 66 = .ok (.aload_n 3, 1) := by decide +kernel
theorem dX11_of_67 : decode cX11_of 67 = .ok (.invokevirtual 237, 3) := by decide +kernel
theorem dX11_of_70 : decode cX11_of 70 = .ok (.ireturn, 1) := by decide +kernel
theorem dX11_of_71 : decode cX11_of 71 = .ok (.aload_n 3, 1) := by decide +kernel
theorem dX11_of_72 : decode cX11_of 72 = .ok (.aload_n 0, 1) := by decide +kernel
theorem dX11_of_73 : decode cX11_of 73 = .ok (.getfield 35, 3) := by decide +kernel
theorem dX11_of_76 : decode cX11_of 76 = .ok (.invokevirtual 240, 3) := by decide +kernel
theorem dX11_of_79 : decode cX11_of 79 = .ok (.ireturn, 1) := by decide +kernel
theorem dX11_of_80 : decode cX11_of 80 = .ok (.aload_n 3, 1) := by decide +kernel
theorem dX11_of_81 : decode cX11_of 81 = .ok (.aload_n 0, 1) := by decide +kernel
theorem dX11_of_82 : decode cX11_of 82 = .ok (.getfield 19, 3) := by decide +kernel
theorem dX11_of_85 : decode cX11_of 85 = .ok (.invokevirtual 243, 3) := by decide +kernel
theorem dX11_of_88 : decode cX11_of 88 = .ok (.ireturn, 1) := by decide +kernel
theorem dX11_of_89 : decode cX11_of 89 = .ok (.aload_n 3, 1) := by decide +kernel
theorem dX11_of_90 : decode cX11_of 90 = .ok (.invokevirtual 247, 3) := by decide +kernel
theorem dX11_of_93 : decode cX11_of 93 = .ok (.ireturn, 1) := by decide +kernel
theorem dX11_of_94 : decode cX11_of 94 = .ok (.aload_n 3, 1) := by decide +kernel
theorem dX11_of_95 : decode cX11_of 95 = .ok (.aload_n 0, 1) := by decide +kernel
theorem dX11_of_96 : decode cX11_of 96 = .ok (.getfield 87, 3) := by decide +kernel
theorem dX11_of_99 : decode cX11_of 99 = .ok (.invokevirtual 250, 3) := by decide +kernel
theorem dX11_of_102 : decode cX11_of 102 = .ok (.invokestatic 223, 3) := by decide +kernel
theorem dX11_of_105 : decode cX11_of 105 = .ok (.ireturn, 1) := by decide +kernel
theorem dX11_of_106 : decode cX11_of 106 = .ok (.bipush (-2), 2) := by decide +kernel
theorem dX11_of_108 : decode cX11_of 108 = .ok (.ireturn, 1) := by decide +kernel
theorem dX11_age_0 : decode cX11_age 0 = .ok (.iload_n 1, 1) := by decide +kernel
theorem dX11_age_1 : decode cX11_age 1 = .ok (.iconst 0, 1) := by decide +kernel
theorem dX11_age_2 : decode cX11_age 2 = .ok (.sipush 400, 3) := by decide +kernel
theorem dX11_age_5 : decode cX11_age 5 = .ok (.invokestatic 83, 3) := by decide +kernel
theorem dX11_age_8 : decode cX11_age 8 = .ok (.ifCond .ne 6, 3) := by decide +kernel
theorem dX11_age_11 : decode cX11_age 11 = .ok (.bipush (-2), 2) := by decide +kernel
theorem dX11_age_13 : decode cX11_age 13 = .ok (.ireturn, 1) := by decide +kernel
theorem dX11_age_14 : decode cX11_age 14 = .ok (.aload_n 0, 1) := by decide +kernel
theorem dX11_age_15 : decode cX11_age 15 = .ok (.getfield 35, 3) := by decide +kernel
theorem dX11_age_18 : decode cX11_age 18 = .ok (.istore_n 2, 1) := by decide +kernel
theorem dX11_age_19 : decode cX11_age 19 = .ok (.aload_n 0, 1) := by decide +kernel
theorem dX11_age_20 : decode cX11_age 20 = .ok (.iload_n 1, 1) := by decide +kernel
theorem dX11_age_21 : decode cX11_age 21 = .ok (.putfield 35, 3) := by decide +kernel
theorem dX11_age_24 : decode cX11_age 24 = .ok (.iload_n 2, 1) := by decide +kernel
theorem dX11_age_25 : decode cX11_age 25 = .ok (.ireturn, 1) := by decide +kernel
theorem dX11_cost_0 : decode cX11_cost 0 = .ok (.aload_n 0, 1) := by decide +kernel
theorem dX11_cost_1 : decode cX11_cost 1 = .ok (.iload_n 1, 1) := by decide +kernel
theorem dX11_cost_2 : decode cX11_cost 2 = .ok (.invokevirtual 205, 3) := by decide +kernel
theorem dX11_cost_5 : decode cX11_cost 5 = .ok (.astore_n 2, 1) := by decide +kernel
theorem dX11_cost_6 : decode cX11_cost 6 = .ok (.aload_n 2, 1) := by decide +kernel
theorem dX11_cost_7 : decode cX11_cost 7 = .ok (.ifnonnull 7, 3) := by decide +kernel
theorem dX11_cost_10 : decode cX11_cost 10 = .ok (.iconst (-1), 1) := by decide +kernel
theorem dX11_cost_11 : decode cX11_cost 11 = .ok (.goto 11, 3) := by decide +kernel
theorem dX11_cost_14 : decode cX11_cost 14 = .ok (.aload_n 2, 1) := by decide +kernel
theorem dX11_cost_15 : decode cX11_cost 15 = .ok (.aload_n 0, 1) := by decide +kernel
theorem dX11_cost_16 : decode cX11_cost 16 = .ok (.getfield 39, 3) := by decide +kernel
theorem dX11_cost_19 : decode cX11_cost 19 = .ok (.invokevirtual 253, 3) := by decide +kernel
theorem dX11_cost_22 : decode cX11_cost 22 = .ok (.ireturn, 1) := by decide +kernel
theorem dX11_rate_0 : decode cX11_rate 0 = .ok (.iload_n 1, 1) := by decide +kernel
theorem dX11_rate_1 : decode cX11_rate 1 = .ok (.invokestatic 128, 3) := by decide +kernel
theorem dX11_rate_4 : decode cX11_rate 4 = .ok (.ifCond .eq 13, 3) := by decide +kernel
theorem dX11_rate_7 : decode cX11_rate 7 = .ok (.iload_n 2, 1) := by decide +kernel
theorem dX11_rate_8 : decode cX11_rate 8 = .ok (.iconst 0, 1) := by decide +kernel
theorem dX11_rate_9 : decode cX11_rate 9 = .ok (.bipush 99, 2) := by decide +kernel
theorem dX11_rate_11 : decode cX11_rate 11 = .ok (.invokestatic 83, 3) := by decide +kernel
theorem dX11_rate_14 : decode cX11_rate 14 = .ok (.ifCond .ne 6, 3) := by decide +kernel
theorem dX11_rate_17 : decode cX11_rate 17 = .ok (.bipush (-2), 2) := by decide +kernel
theorem dX11_rate_19 : decode cX11_rate 19 = .ok (.ireturn, 1) := by decide +kernel
theorem dX11_rate_20 : decode cX11_rate 20 = .ok (.aload_n 0, 1) := by decide +kernel
theorem dX11_rate_21 : decode cX11_rate 21 = .ok (.getfield 39, 3) := by decide +kernel
theorem dX11_rate_24 : decode cX11_rate 24 = .ok (.iload_n 1, 1) := by decide +kernel
theorem dX11_rate_25 : decode cX11_rate 25 = .ok (.iaload, 1) := by decide +kernel
theorem dX11_rate_26 : decode cX11_rate 26 = .ok (.istore_n 3, 1) := by decide +kernel
theorem dX11_rate_27 : decode cX11_rate 27 = .ok (.aload_n 0, 1) := by decide +kernel
theorem dX11_rate_28 : decode cX11_rate 28 = .ok (.getfield 39, 3) := by decide +kernel
theorem dX11_rate_31 : decode cX11_rate 31 = .ok (.iload_n 1, 1) := by decide +kernel
theorem dX11_rate_32 : decode cX11_rate 32 = .ok (.iload_n 2, 1) := by decide +kernel
theorem dX11_rate_33 : decode cX11_rate 33 = .ok (.iastore, 1) := by decide +kernel
theorem dX11_rate_34 : decode cX11_rate 34 = .ok (.iload_n 3, 1) := by decide +kernel
theorem dX11_rate_35 : decode cX11_rate 35 = .ok (.ireturn, 1) := by decide +kernel
theorem dX11_rule_0 : decode cX11_rule 0 = .ok (.iload_n 1, 1) := by decide +kernel
theorem dX11_rule_1 : decode cX11_rule 1 = .ok (.invokestatic 257, 3) := by decide +kernel
theorem dX11_rule_4 : decode cX11_rule 4 = .ok (.ifCond .ne 6, 3) := by decide +kernel
theorem dX11_rule_7 : decode cX11_rule 7 = .ok (.bipush (-2), 2) := by decide +kernel
theorem dX11_rule_9 : decode cX11_rule 9 = .ok (.ireturn, 1) := by decide +kernel
theorem dX11_rule_10 : decode cX11_rule 10 = .ok (.aload_n 0, 1) := by decide +kernel
theorem dX11_rule_11 : decode cX11_rule 11 = .ok (.getfield 260, 3) := by decide +kernel
theorem dX11_rule_14 : decode cX11_rule 14 = .ok (.bipush 6, 2) := by decide +kernel
theorem dX11_rule_16 : decode cX11_rule 16 = .ok (.if_icmp .lt 6, 3) := by decide +kernel
theorem dX11_rule_19 : decode cX11_rule 19 = .ok (.bipush (-4), 2) := by decide +kernel
theorem dX11_rule_21 : decode cX11_rule 21 = .ok (.ireturn, 1) := by decide +kernel
theorem dX11_rule_22 : decode cX11_rule 22 = .ok (.aload_n 0, 1) := by decide +kernel
theorem dX11_rule_23 : decode cX11_rule 23 = .ok (.getfield 45, 3) := by decide +kernel
theorem dX11_rule_26 : decode cX11_rule 26 = .ok (.aload_n 0, 1) := by decide +kernel
theorem dX11_rule_27 : decode cX11_rule 27 = .ok (.getfield 260, 3) := by decide +kernel
theorem dX11_rule_30 : decode cX11_rule 30 = .ok (.new 43, 3) := by decide +kernel
theorem dX11_rule_33 : decode cX11_rule 33 = .ok (.dup, 1) := by decide +kernel
theorem dX11_rule_34 : decode cX11_rule 34 = .ok (.iload_n 1, 1) := by decide +kernel
theorem dX11_rule_35 : decode cX11_rule 35 = .ok (.invokespecial 263, 3) := by decide +kernel
theorem dX11_rule_38 : decode cX11_rule 38 = .ok (.aastore, 1) := by decide +kernel
theorem dX11_rule_39 : decode cX11_rule 39 = .ok (.aload_n 0, 1) := by decide +kernel
theorem dX11_rule_40 : decode cX11_rule 40 = .ok (.dup, 1) := by decide +kernel
theorem dX11_rule_41 : decode cX11_rule 41 = .ok (.getfield 260, 3) := by decide +kernel
theorem dX11_rule_44 : decode cX11_rule 44 = .ok (.iconst 1, 1) := by decide +kernel
theorem dX11_rule_45 : decode cX11_rule 45 = .ok (.iadd, 1) := by decide +kernel
theorem dX11_rule_46 : decode cX11_rule 46 = .ok (.putfield 260, 3) := by decide +kernel
theorem dX11_rule_49 : decode cX11_rule 49 = .ok (.aload_n 0, 1) := by decide +kernel
theorem dX11_rule_50 : decode cX11_rule 50 = .ok (.getfield 260, 3) := by decide +kernel
theorem dX11_rule_53 : decode cX11_rule 53 = .ok (.iconst 1, 1) := by decide +kernel
theorem dX11_rule_54 : decode cX11_rule 54 = .ok (.isub, 1) := by decide +kernel
theorem dX11_rule_55 : decode cX11_rule 55 = .ok (.ireturn, 1) := by decide +kernel
theorem dX11_feed_0 : decode cX11_feed 0 = .ok (.aload_n 0, 1) := by decide +kernel
theorem dX11_feed_1 : decode cX11_feed 1 = .ok (.iload_n 1, 1) := by decide +kernel
theorem dX11_feed_2 : decode cX11_feed 2 = .ok (.invokevirtual 265, 3) := by decide +kernel
theorem dX11_feed_5 : decode cX11_feed 5 = .ok (.astore 4, 2) := by decide +kernel
theorem dX11_feed_7 : decode cX11_feed 7 = .ok (.aload 4, 2) := by decide +kernel
theorem dX11_feed_9 : decode cX11_feed 9 = .ok (.ifnonnull 7, 3) := by decide +kernel
theorem dX11_feed_12 : decode cX11_feed 12 = .ok (.iconst (-1), 1) := by decide +kernel
theorem dX11_feed_13 : decode cX11_feed 13 = .ok (.goto 9, 3) := by decide +kernel
theorem dX11_feed_16 : decode cX11_feed 16 = .ok (.aload 4, 2) := by decide +kernel
theorem dX11_feed_18 : decode cX11_feed 18 = .ok (.lload_n 2, 1) := by decide +kernel
theorem dX11_feed_19 : decode cX11_feed 19 = .ok (.invokevirtual 269, 3) := by decide +kernel
theorem dX11_feed_22 : decode cX11_feed 22 = .ok (.ireturn, 1) := by decide +kernel
theorem dX11_fault_0 : decode cX11_fault 0 = .ok (.aload_n 0, 1) := by decide +kernel
theorem dX11_fault_1 : decode cX11_fault 1 = .ok (.iload_n 1, 1) := by decide +kernel
theorem dX11_fault_2 : decode cX11_fault 2 = .ok (.invokevirtual 265, 3) := by decide +kernel
theorem dX11_fault_5 : decode cX11_fault 5 = .ok (.astore_n 2, 1) := by decide +kernel
theorem dX11_fault_6 : decode cX11_fault 6 = .ok (.aload_n 2, 1) := by decide +kernel
theorem dX11_fault_7 : decode cX11_fault 7 = .ok (.ifnonnull 7, 3) := by decide +kernel
theorem dX11_fault_10 : decode cX11_fault 10 = .ok (.iconst (-1), 1) := by decide +kernel
theorem dX11_fault_11 : decode cX11_fault 11 = .ok (.goto 11, 3) := by decide +kernel
theorem dX11_fault_14 : decode cX11_fault 14 = .ok (.aload_n 0, 1) := by decide +kernel
theorem dX11_fault_15 : decode cX11_fault 15 = .ok (.getfield 52, 3) := by decide +kernel
theorem dX11_fault_18 : decode cX11_fault 18 = .ok (.aload_n 2, 1) := by decide +kernel
theorem dX11_fault_19 : decode cX11_fault 19 = .ok (.invokevirtual 272, 3) := by decide +kernel
theorem dX11_fault_22 : decode cX11_fault 22 = .ok (.ireturn, 1) := by decide +kernel
theorem dX11_strike_0 : decode cX11_strike 0 = .ok (.aload_n 0, 1) := by decide +kernel
theorem dX11_strike_1 : decode cX11_strike 1 = .ok (.iload_n 1, 1) := by decide +kernel
theorem dX11_strike_2 : decode cX11_strike 2 = .ok (.invokevirtual 265, 3) := by decide +kernel
theorem dX11_strike_5 : decode cX11_strike 5 = .ok (.astore_n 3, 1) := by decide +kernel
theorem dX11_strike_6 : decode cX11_strike 6 = .ok (.aload_n 3, 1) := by decide +kernel
theorem dX11_strike_7 : decode cX11_strike 7 = .ok (.ifnonnull 5, 3) := by decide +kernel
theorem dX11_strike_10 : decode cX11_strike 10 = .ok (.iconst (-1), 1) := by decide +kernel
theorem dX11_strike_11 : decode cX11_strike 11 = .ok (.ireturn, 1) := by decide +kernel
theorem dX11_strike_12 : decode cX11_strike 12 = .ok (.iload_n 2, 1) := by decide +kernel
theorem dX11_strike_13 : decode cX11_strike 13 = .ok (.invokestatic 257, 3) := by decide +kernel
theorem dX11_strike_16 : decode cX11_strike 16 = .ok (.ifCond .ne 6, 3) := by decide +kernel
theorem dX11_strike_19 : decode cX11_strike 19 = .ok (.bipush (-2), 2) := by decide +kernel
theorem dX11_strike_21 : decode cX11_strike 21 = .ok (.ireturn, 1) := by decide +kernel
theorem dX11_strike_22 : decode cX11_strike 22 = .ok (.aload_n 3, 1) := by decide +kernel
theorem dX11_strike_23 : decode cX11_strike 23 = .ok (.getfield 276, 3) := by decide +kernel
theorem dX11_strike_26 : decode cX11_strike 26 = .ok (.ldc_w 279, 3) := by decide +kernel
theorem dX11_strike_29 : decode cX11_strike 29 = .ok (.if_icmp .eq 6, 3) := by decide +kernel
theorem dX11_strike_32 : decode cX11_strike 32 = .ok (.bipush (-3), 2) := by decide +kernel
theorem dX11_strike_34 : decode cX11_strike 34 = .ok (.ireturn, 1) := by decide +kernel
theorem dX11_strike_35 : decode cX11_strike 35 = .ok (.aload_n 3, 1) := by decide +kernel
theorem dX11_strike_36 : decode cX11_strike 36 = .ok (.iload_n 2, 1) := by decide +kernel
theorem dX11_strike_37 : decode cX11_strike 37 = .ok (.putfield 276, 3) := by decide +kernel
theorem dX11_strike_40 : decode cX11_strike 40 = .ok (.iconst 1, 1) := by decide +kernel
theorem dX11_strike_41 : decode cX11_strike 41 = .ok (.ireturn, 1) := by decide +kernel
theorem dX11_bars_0 : decode cX11_bars 0 = .ok (.aload_n 0, 1) := by decide +kernel
theorem dX11_bars_1 : decode cX11_bars 1 = .ok (.iload_n 1, 1) := by decide +kernel
theorem dX11_bars_2 : decode cX11_bars 2 = .ok (.invokevirtual 205, 3) := by decide +kernel
theorem dX11_bars_5 : decode cX11_bars 5 = .ok (.astore 4, 2) := by decide +kernel
theorem dX11_bars_7 : decode cX11_bars 7 = .ok (.aload 4, 2) := by decide +kernel
theorem dX11_bars_9 : decode cX11_bars 9 = .ok (.ifnull 10, 3) := by decide +kernel
theorem dX11_bars_12 : decode cX11_bars 12 = .ok (.iload_n 2, 1) := by decide +kernel
theorem dX11_bars_13 : decode cX11_bars 13 = .ok (.invokestatic 280, 3) := by decide +kernel
theorem dX11_bars_16 : decode cX11_bars 16 = .ok (.ifCond .ne 5, 3) := by decide +kernel
theorem dX11_bars_19 : decode cX11_bars 19 = .ok (.iconst (-1), 1) := by decide +kernel
theorem dX11_bars_20 : decode cX11_bars 20 = .ok (.ireturn, 1) := by decide +kernel
theorem dX11_bars_21 : decode cX11_bars 21 = .ok (.iload_n 3, 1) := by decide +kernel
theorem dX11_bars_22 : decode cX11_bars 22 = .ok (.invokestatic 257, 3) := by decide +kernel
theorem dX11_bars_25 : decode cX11_bars 25 = .ok (.ifCond .eq 14, 3) := by decide +kernel
theorem dX11_bars_28 : decode cX11_bars 28 = .ok (.aload_n 0, 1) := by decide +kernel
theorem dX11_bars_29 : decode cX11_bars 29 = .ok (.aload 4, 2) := by decide +kernel
theorem dX11_bars_31 : decode cX11_bars 31 = .ok (.iload_n 2, 1) := by decide +kernel
theorem dX11_bars_32 : decode cX11_bars 32 = .ok (.iload_n 3, 1) := by decide +kernel
theorem dX11_bars_33 : decode cX11_bars 33 = .ok (.invokevirtual 283, 3) := by decide +kernel
theorem dX11_bars_36 : decode cX11_bars 36 = .ok (.goto 5, 3) := by decide +kernel
theorem dX11_bars_39 : decode cX11_bars 39 = .ok (.bipush (-2), 2) := by decide +kernel
theorem dX11_bars_41 : decode cX11_bars 41 = .ok (.ireturn, 1) := by decide +kernel
theorem dX11_reserve_0 : decode cX11_reserve 0 = .ok (.iload_n 1, 1) := by decide +kernel
theorem dX11_reserve_1 : decode cX11_reserve 1 = .ok (.invokestatic 122, 3) := by decide +kernel
theorem dX11_reserve_4 : decode cX11_reserve 4 = .ok (.ifCond .ne 6, 3) := by decide +kernel
theorem dX11_reserve_7 : decode cX11_reserve 7 = .ok (.bipush (-2), 2) := by decide +kernel
theorem dX11_reserve_9 : decode cX11_reserve 9 = .ok (.ireturn, 1) := by decide +kernel
theorem dX11_reserve_10 : decode cX11_reserve 10 = .ok (.aload_n 0, 1) := by decide +kernel
theorem dX11_reserve_11 : decode cX11_reserve 11 = .ok (.getfield 287, 3) := by decide +kernel
theorem dX11_reserve_14 : decode cX11_reserve 14 = .ok (.iload_n 1, 1) := by decide +kernel
theorem dX11_reserve_15 : decode cX11_reserve 15 = .ok (.invokestatic 290, 3) := by decide +kernel
theorem dX11_reserve_18 : decode cX11_reserve 18 = .ok (.istore_n 3, 1) := by decide +kernel
theorem dX11_reserve_19 : decode cX11_reserve 19 = .ok (.aload_n 0, 1) := by decide +kernel
theorem dX11_reserve_20 : decode cX11_reserve 20 = .ok (.aload_n 0, 1) := by decide +kernel
theorem dX11_reserve_21 : decode cX11_reserve 21 = .ok (.getfield 287, 3) := by decide +kernel
theorem dX11_reserve_24 : decode cX11_reserve 24 = .ok (.iload_n 1, 1) := by decide +kernel
theorem dX11_reserve_25 : decode cX11_reserve 25 = .ok (.iload_n 2, 1) := by decide +kernel
theorem dX11_reserve_26 : decode cX11_reserve 26 = .ok (.invokestatic 294, 3) := by decide +kernel
theorem dX11_reserve_29 : decode cX11_reserve 29 = .ok (.putfield 287, 3) := by decide +kernel
theorem dX11_reserve_32 : decode cX11_reserve 32 = .ok (.iload_n 3, 1) := by decide +kernel
theorem dX11_reserve_33 : decode cX11_reserve 33 = .ok (.invokestatic 223, 3) := by decide +kernel
theorem dX11_reserve_36 : decode cX11_reserve 36 = .ok (.ireturn, 1) := by decide +kernel
theorem dX11_right_0 : decode cX11_right 0 = .ok (.iload_n 1, 1) := by decide +kernel
theorem dX11_right_1 : decode cX11_right 1 = .ok (.invokestatic 122, 3) := by decide +kernel
theorem dX11_right_4 : decode cX11_right 4 = .ok (.ifCond .eq 24, 3) := by decide +kernel
theorem dX11_right_7 : decode cX11_right 7 = .ok (.iload_n 2, 1) := by decide +kernel
theorem dX11_right_8 : decode cX11_right 8 = .ok (.iconst 0, 1) := by decide +kernel
theorem dX11_right_9 : decode cX11_right 9 = .ok (.bipush 31, 2) := by decide +kernel
theorem dX11_right_11 : decode cX11_right 11 = .ok (.invokestatic 83, 3) := by decide +kernel
theorem dX11_right_14 : decode cX11_right 14 = .ok (.ifCond .eq 14, 3) := by decide +kernel
theorem dX11_right_17 : decode cX11_right 17 = .ok (.iload 5, 2) := by decide +kernel
theorem dX11_right_19 : decode cX11_right 19 = .ok (.iconst 1, 1) := by decide +kernel
theorem dX11_right_20 : decode cX11_right 20 = .ok (.bipush 99, 2) := by decide +kernel
theorem dX11_right_22 : decode cX11_right 22 = .ok (.invokestatic 83, 3) := by decide +kernel
theorem dX11_right_25 : decode cX11_right 25 = .ok (.ifCond .ne 6, 3) := by decide +kernel
theorem dX11_right_28 : decode cX11_right 28 = .ok (.bipush (-2), 2) := by decide +kernel
theorem dX11_right_30 : decode cX11_right 30 = .ok (.ireturn, 1) := by decide +kernel
theorem dX11_right_31 : decode cX11_right 31 = .ok (.iload_n 3, 1) := by decide +kernel
theorem dX11_right_32 : decode cX11_right 32 = .ok (.invokestatic 257, 3) := by decide +kernel
theorem dX11_right_35 : decode cX11_right 35 = .ok (.ifCond .eq 17, 3) := by decide +kernel
theorem dX11_right_38 : decode cX11_right 38 = .ok (.iload 4, 2) := by decide +kernel
theorem dX11_right_40 : decode cX11_right 40 = .ok (.invokestatic 257, 3) := by decide +kernel
theorem dX11_right_43 : decode cX11_right 43 = .ok (.ifCond .eq 9, 3) := by decide +kernel
theorem dX11_right_46 : decode cX11_right 46 = .ok (.iload 4, 2) := by decide +kernel
theorem dX11_right_48 : decode cX11_right 48 = .ok (.iload_n 3, 1) := by decide +kernel
theorem dX11_right_49 : decode cX11_right 49 = .ok (.if_icmp .ge 6, 3) := by decide +kernel
theorem dX11_right_52 : decode cX11_right 52 = .ok (.bipush (-2), 2) := by decide +kernel
theorem dX11_right_54 : decode cX11_right 54 = .ok (.ireturn, 1) := by decide +kernel
theorem dX11_right_55 : decode cX11_right 55 = .ok (.aload_n 0, 1) := by decide +kernel
theorem dX11_right_56 : decode cX11_right 56 = .ok (.getfield 298, 3) := by decide +kernel
theorem dX11_right_59 : decode cX11_right 59 = .ok (.bipush 8, 2) := by decide +kernel
theorem dX11_right_61 : decode cX11_right 61 = .ok (.if_icmp .lt 6, 3) := by decide +kernel
theorem dX11_right_64 : decode cX11_right 64 = .ok (.bipush (-4), 2) := by decide +kernel
theorem dX11_right_66 : decode cX11_right 66 = .ok (.ireturn, 1) := by decide +kernel
theorem dX11_right_67 : decode cX11_right 67 = .ok (.aload_n 0, 1) := by decide +kernel
theorem dX11_right_68 : decode cX11_right 68 = .ok (.getfield 58, 3) := by decide +kernel
theorem dX11_right_71 : decode cX11_right 71 = .ok (.aload_n 0, 1) := by decide +kernel
theorem dX11_right_72 : decode cX11_right 72 = .ok (.getfield 298, 3) := by decide +kernel
theorem dX11_right_75 : decode cX11_right 75 = .ok (.new 56, 3) := by decide +kernel
theorem dX11_right_78 : decode cX11_right 78 = .ok (.dup, 1) := by decide +kernel
theorem dX11_right_79 : decode cX11_right 79 = .ok (.iload_n 1, 1) := by decide +kernel
theorem dX11_right_80 : decode cX11_right 80 = .ok (.iload_n 2, 1) := by decide +kernel
theorem dX11_right_81 : decode cX11_right 81 = .ok (.iload_n 3, 1) := by decide +kernel
theorem dX11_right_82 : decode cX11_right 82 = .ok (.iload 4, 2) := by decide +kernel
theorem dX11_right_84 : decode cX11_right 84 = .ok (.iload 5, 2) := by decide +kernel
theorem dX11_right_86 : decode cX11_right 86 = .ok (.invokespecial 301, 3) := by decide +kernel
theorem dX11_right_89 : decode cX11_right 89 = .ok (.aastore, 1) := by decide +kernel
theorem dX11_right_90 : decode cX11_right 90 = .ok (.aload_n 0, 1) := by decide +kernel
theorem dX11_right_91 : decode cX11_right 91 = .ok (.dup, 1) := by decide +kernel
theorem dX11_right_92 : decode cX11_right 92 = .ok (.getfield 298, 3) := by decide +kernel
theorem dX11_right_95 : decode cX11_right 95 = .ok (.iconst 1, 1) := by decide +kernel
theorem dX11_right_96 : decode cX11_right 96 = .ok (.iadd, 1) := by decide +kernel
theorem dX11_right_97 : decode cX11_right 97 = .ok (.putfield 298, 3) := by decide +kernel
theorem dX11_right_100 : decode cX11_right 100 = .ok (.aload_n 0, 1) := by decide +kernel
theorem dX11_right_101 : decode cX11_right 101 = .ok (.getfield 298, 3) := by decide +kernel
theorem dX11_right_104 : decode cX11_right 104 = .ok (.iconst 1, 1) := by decide +kernel
theorem dX11_right_105 : decode cX11_right 105 = .ok (.isub, 1) := by decide +kernel
theorem dX11_right_106 : decode cX11_right 106 = .ok (.ireturn, 1) := by decide +kernel
theorem dX11_left_0 : decode cX11_left 0 = .ok (.iload_n 1, 1) := by decide +kernel
theorem dX11_left_1 : decode cX11_left 1 = .ok (.iconst 0, 1) := by decide +kernel
theorem dX11_left_2 : decode cX11_left 2 = .ok (.aload_n 0, 1) := by decide +kernel
theorem dX11_left_3 : decode cX11_left 3 = .ok (.getfield 298, 3) := by decide +kernel
theorem dX11_left_6 : decode cX11_left 6 = .ok (.iconst 1, 1) := by decide +kernel
theorem dX11_left_7 : decode cX11_left 7 = .ok (.isub, 1) := by decide +kernel
theorem dX11_left_8 : decode cX11_left 8 = .ok (.invokestatic 83, 3) := by decide +kernel
theorem dX11_left_11 : decode cX11_left 11 = .ok (.ifCond .eq 15, 3) := by decide +kernel
theorem dX11_left_14 : decode cX11_left 14 = .ok (.aload_n 0, 1) := by decide +kernel
theorem dX11_left_15 : decode cX11_left 15 = .ok (.getfield 58, 3) := by decide +kernel
theorem dX11_left_18 : decode cX11_left 18 = .ok (.iload_n 1, 1) := by decide +kernel
theorem dX11_left_19 : decode cX11_left 19 = .ok (.aaload, 1) := by decide +kernel
theorem dX11_left_20 : decode cX11_left 20 = .ok (.getfield 304, 3) := by decide +kernel
theorem dX11_left_23 : decode cX11_left 23 = .ok (.goto 4, 3) := by decide +kernel
theorem dX11_left_26 : decode cX11_left 26 = .ok (.iconst (-1), 1) := by decide +kernel
theorem dX11_left_27 : decode cX11_left 27 = .ok (.ireturn, 1) := by decide +kernel
theorem dX11_allowed_0 : decode cX11_allowed 0 = .ok (.aload_n 0, 1) := by decide +kernel
theorem dX11_allowed_1 : decode cX11_allowed 1 = .ok (.iload_n 1, 1) := by decide +kernel
theorem dX11_allowed_2 : decode cX11_allowed 2 = .ok (.invokevirtual 205, 3) := by decide +kernel
theorem dX11_allowed_5 : decode cX11_allowed 5 = .ok (.astore 4, 2) := by decide +kernel
theorem dX11_allowed_7 : decode cX11_allowed 7 = .ok (.aload 4, 2) := by decide +kernel
theorem dX11_allowed_9 : decode cX11_allowed 9 = .ok (.ifnull 10, 3) := by decide +kernel
theorem dX11_allowed_12 : decode cX11_allowed 12 = .ok (.iload_n 2, 1) := by decide +kernel
theorem dX11_allowed_13 : decode cX11_allowed 13 = .ok (.invokestatic 280, 3) := by decide +kernel
theorem dX11_allowed_16 : decode cX11_allowed 16 = .ok (.ifCond .ne 5, 3) := by decide +kernel
theorem dX11_allowed_19 : decode cX11_allowed 19 = .ok (.iconst (-1), 1) := by decide +kernel
theorem dX11_allowed_20 : decode cX11_allowed 20 = .ok (.ireturn, 1) := by decide +kernel
theorem dX11_allowed_21 : decode cX11_allowed 21 = .ok (.iload_n 3, 1) := by decide +kernel
theorem dX11_allowed_22 : decode cX11_allowed 22 = .ok (.invokestatic 257, 3) := by decide +kernel
theorem dX11_allowed_25 : decode cX11_allowed 25 = .ok (.ifCond .ne 6, 3) := by decide +kernel
theorem dX11_allowed_28 : decode cX11_allowed 28 = .ok (.bipush (-2), 2) := by decide +kernel
theorem dX11_allowed_30 : decode cX11_allowed 30 = .ok (.ireturn, 1) := by decide +kernel
theorem dX11_allowed_31 : decode cX11_allowed 31 = .ok (.aload_n 0, 1) := by decide +kernel
theorem dX11_allowed_32 : decode cX11_allowed 32 = .ok (.aload 4, 2) := by decide +kernel
theorem dX11_allowed_34 : decode cX11_allowed 34 = .ok (.getfield 307, 3) := by decide +kernel
theorem dX11_allowed_37 : decode cX11_allowed 37 = .ok (.iload_n 2, 1) := by decide +kernel
theorem dX11_allowed_38 : decode cX11_allowed 38 = .ok (.iload_n 3, 1) := by decide +kernel
theorem dX11_allowed_39 : decode cX11_allowed 39 = .ok (.invokevirtual 308, 3) := by decide +kernel
theorem dX11_allowed_42 : decode cX11_allowed 42 = .ok (.ifCond .eq 20, 3) := by decide +kernel
theorem dX11_allowed_45 : decode cX11_allowed 45 = .ok (.aload_n 0, 1) := by decide +kernel
theorem dX11_allowed_46 : decode cX11_allowed 46 = .ok (.aload 4, 2) := by decide +kernel
theorem dX11_allowed_48 : decode cX11_allowed 48 = .ok (.iload_n 2, 1) := by decide +kernel
theorem dX11_allowed_49 : decode cX11_allowed 49 = .ok (.iload_n 3, 1) := by decide +kernel
theorem dX11_allowed_50 : decode cX11_allowed 50 = .ok (.invokevirtual 283, 3) := by decide +kernel
theorem dX11_allowed_53 : decode cX11_allowed 53 = .ok (.bipush (-9), 2) := by decide +kernel
theorem dX11_allowed_55 : decode cX11_allowed 55 = .ok (.if_icmp .ne 7, 3) := by decide +kernel
theorem dX11_allowed_58 : decode cX11_allowed 58 = .ok (.iconst 1, 1) := by decide +kernel
theorem dX11_allowed_59 : decode cX11_allowed 59 = .ok (.goto 4, 3) := by decide +kernel
theorem dX11_allowed_62 : decode cX11_allowed 62 = .ok (.iconst 0, 1) := by decide +kernel
theorem dX11_allowed_63 : decode cX11_allowed 63 = .ok (.invokestatic 223, 3) := by decide +kernel
theorem dX11_allowed_66 : decode cX11_allowed 66 = .ok (.ireturn, 1) := by decide +kernel
theorem dX11_length_0 : decode cX11_length 0 = .ok (.iload_n 2, 1) := by decide +kernel
theorem dX11_length_1 : decode cX11_length 1 = .ok (.iconst 1, 1) := by decide +kernel
theorem dX11_length_2 : decode cX11_length 2 = .ok (.sipush 3000, 3) := by decide +kernel
theorem dX11_length_5 : decode cX11_length 5 = .ok (.invokestatic 83, 3) := by decide +kernel
theorem dX11_length_8 : decode cX11_length 8 = .ok (.ifCond .eq 15, 3) := by decide +kernel
theorem dX11_length_11 : decode cX11_length 11 = .ok (.aload_n 0, 1) := by decide +kernel
theorem dX11_length_12 : decode cX11_length 12 = .ok (.getfield 65, 3) := by decide +kernel
theorem dX11_length_15 : decode cX11_length 15 = .ok (.iload_n 1, 1) := by decide +kernel
theorem dX11_length_16 : decode cX11_length 16 = .ok (.iload_n 2, 1) := by decide +kernel
theorem dX11_length_17 : decode cX11_length 17 = .ok (.invokevirtual 311, 3) := by decide +kernel
theorem dX11_length_20 : decode cX11_length 20 = .ok (.goto 5, 3) := by decide +kernel
theorem dX11_length_23 : decode cX11_length 23 = .ok (.bipush (-2), 2) := by decide +kernel
theorem dX11_length_25 : decode cX11_length 25 = .ok (.ireturn, 1) := by decide +kernel
theorem dX11_apart_0 : decode cX11_apart 0 = .ok (.aload_n 0, 1) := by decide +kernel
theorem dX11_apart_1 : decode cX11_apart 1 = .ok (.iload_n 1, 1) := by decide +kernel
theorem dX11_apart_2 : decode cX11_apart 2 = .ok (.invokevirtual 205, 3) := by decide +kernel
theorem dX11_apart_5 : decode cX11_apart 5 = .ok (.ifnull 11, 3) := by decide +kernel
theorem dX11_apart_8 : decode cX11_apart 8 = .ok (.aload_n 0, 1) := by decide +kernel
theorem dX11_apart_9 : decode cX11_apart 9 = .ok (.iload_n 2, 1) := by decide +kernel
theorem dX11_apart_10 : decode cX11_apart 10 = .ok (.invokevirtual 205, 3) := by decide +kernel
theorem dX11_apart_13 : decode cX11_apart 13 = .ok (.ifnonnull 5, 3) := by decide +kernel
theorem dX11_apart_16 : decode cX11_apart 16 = .ok (.iconst (-1), 1) := by decide +kernel
theorem dX11_apart_17 : decode cX11_apart 17 = .ok (.ireturn, 1) := by decide +kernel
theorem dX11_apart_18 : decode cX11_apart 18 = .ok (.iload_n 1, 1) := by decide +kernel
theorem dX11_apart_19 : decode cX11_apart 19 = .ok (.iload_n 2, 1) := by decide +kernel
theorem dX11_apart_20 : decode cX11_apart 20 = .ok (.if_icmp .ne 8, 3) := by decide +kernel
theorem dX11_apart_23 : decode cX11_apart 23 = .ok (.bipush (-3), 2) := by decide +kernel
theorem dX11_apart_25 : decode cX11_apart 25 = .ok (.goto 13, 3) := by decide +kernel
theorem dX11_apart_28 : decode cX11_apart 28 = .ok (.aload_n 0, 1) := by decide +kernel
theorem dX11_apart_29 : decode cX11_apart 29 = .ok (.getfield 65, 3) := by decide +kernel
theorem dX11_apart_32 : decode cX11_apart 32 = .ok (.iload_n 1, 1) := by decide +kernel
theorem dX11_apart_33 : decode cX11_apart 33 = .ok (.iload_n 2, 1) := by decide +kernel
theorem dX11_apart_34 : decode cX11_apart 34 = .ok (.iload_n 3, 1) := by decide +kernel
theorem dX11_apart_35 : decode cX11_apart 35 = .ok (.invokevirtual 315, 3) := by decide +kernel
theorem dX11_apart_38 : decode cX11_apart 38 = .ok (.ireturn, 1) := by decide +kernel
theorem dX11_rival_0 : decode cX11_rival 0 = .ok (.iload_n 1, 1) := by decide +kernel
theorem dX11_rival_1 : decode cX11_rival 1 = .ok (.invokestatic 122, 3) := by decide +kernel
theorem dX11_rival_4 : decode cX11_rival 4 = .ok (.ifCond .ne 6, 3) := by decide +kernel
theorem dX11_rival_7 : decode cX11_rival 7 = .ok (.bipush (-2), 2) := by decide +kernel
theorem dX11_rival_9 : decode cX11_rival 9 = .ok (.ireturn, 1) := by decide +kernel
theorem dX11_rival_10 : decode cX11_rival 10 = .ok (.aload_n 0, 1) := by decide +kernel
theorem dX11_rival_11 : decode cX11_rival 11 = .ok (.getfield 65, 3) := by decide +kernel
theorem dX11_rival_14 : decode cX11_rival 14 = .ok (.getfield 318, 3) := by decide +kernel
theorem dX11_rival_17 : decode cX11_rival 17 = .ok (.iload_n 1, 1) := by decide +kernel
theorem dX11_rival_18 : decode cX11_rival 18 = .ok (.invokestatic 290, 3) := by decide +kernel
theorem dX11_rival_21 : decode cX11_rival 21 = .ok (.istore_n 3, 1) := by decide +kernel
theorem dX11_rival_22 : decode cX11_rival 22 = .ok (.aload_n 0, 1) := by decide +kernel
theorem dX11_rival_23 : decode cX11_rival 23 = .ok (.getfield 65, 3) := by decide +kernel
theorem dX11_rival_26 : decode cX11_rival 26 = .ok (.aload_n 0, 1) := by decide +kernel
theorem dX11_rival_27 : decode cX11_rival 27 = .ok (.getfield 65, 3) := by decide +kernel
theorem dX11_rival_30 : decode cX11_rival 30 = .ok (.getfield 318, 3) := by decide +kernel
theorem dX11_rival_33 : decode cX11_rival 33 = .ok (.iload_n 1, 1) := by decide +kernel
theorem dX11_rival_34 : decode cX11_rival 34 = .ok (.iload_n 2, 1) := by decide +kernel
theorem dX11_rival_35 : decode cX11_rival 35 = .ok (.invokestatic 294, 3) := by decide +kernel
theorem dX11_rival_38 : decode cX11_rival 38 = .ok (.putfield 318, 3) := by decide +kernel
theorem dX11_rival_41 : decode cX11_rival 41 = .ok (.iload_n 3, 1) := by decide +kernel
theorem dX11_rival_42 : decode cX11_rival 42 = .ok (.invokestatic 223, 3) := by decide +kernel
theorem dX11_rival_45 : decode cX11_rival 45 = .ok (.ireturn, 1) := by decide +kernel
theorem dX11_reel_0 : decode cX11_reel 0 = .ok (.iload_n 1, 1) := by decide +kernel
theorem dX11_reel_1 : decode cX11_reel 1 = .ok (.iload_n 2, 1) := by decide +kernel
theorem dX11_reel_2 : decode cX11_reel 2 = .ok (.invokestatic 321, 3) := by decide +kernel
theorem dX11_reel_5 : decode cX11_reel 5 = .ok (.istore_n 3, 1) := by decide +kernel
theorem dX11_reel_6 : decode cX11_reel 6 = .ok (.iload_n 3, 1) := by decide +kernel
theorem dX11_reel_7 : decode cX11_reel 7 = .ok (.ifCond .eq 5, 3) := by decide +kernel
theorem dX11_reel_10 : decode cX11_reel 10 = .ok (.iload_n 3, 1) := by decide +kernel
theorem dX11_reel_11 : decode cX11_reel 11 = .ok (.ireturn, 1) := by decide +kernel
theorem dX11_reel_12 : decode cX11_reel 12 = .ok (.aload_n 0, 1) := by decide +kernel
theorem dX11_reel_13 : decode cX11_reel 13 = .ok (.iload_n 1, 1) := by decide +kernel
theorem dX11_reel_14 : decode cX11_reel 14 = .ok (.iload_n 2, 1) := by decide +kernel
theorem dX11_reel_15 : decode cX11_reel 15 = .ok (.invokevirtual 325, 3) := by decide +kernel
theorem dX11_reel_18 : decode cX11_reel 18 = .ok (.aload_n 0, 1) := by decide +kernel
theorem dX11_reel_19 : decode cX11_reel 19 = .ok (.getfield 65, 3) := by decide +kernel
theorem dX11_reel_22 : decode cX11_reel 22 = .ok (.invokevirtual 329, 3) := by decide +kernel
theorem dX11_reel_25 : decode cX11_reel 25 = .ok (.aload_n 0, 1) := by decide +kernel
theorem dX11_reel_26 : decode cX11_reel 26 = .ok (.getfield 65, 3) := by decide +kernel
theorem dX11_reel_29 : decode cX11_reel 29 = .ok (.getfield 332, 3) := by decide +kernel
theorem dX11_reel_32 : decode cX11_reel 32 = .ok (.ireturn, 1) := by decide +kernel
theorem dX11_reelAt_0 : decode cX11_reelAt 0 = .ok (.iload_n 1, 1) := by decide +kernel
theorem dX11_reelAt_1 : decode cX11_reelAt 1 = .ok (.iload_n 2, 1) := by decide +kernel
theorem dX11_reelAt_2 : decode cX11_reelAt 2 = .ok (.invokestatic 321, 3) := by decide +kernel
theorem dX11_reelAt_5 : decode cX11_reelAt 5 = .ok (.istore 4, 2) := by decide +kernel
theorem dX11_reelAt_7 : decode cX11_reelAt 7 = .ok (.iload 4, 2) := by decide +kernel
theorem dX11_reelAt_9 : decode cX11_reelAt 9 = .ok (.ifCond .eq 6, 3) := by decide +kernel
theorem dX11_reelAt_12 : decode cX11_reelAt 12 = .ok (.iload 4, 2) := by decide +kernel
theorem dX11_reelAt_14 : decode cX11_reelAt 14 = .ok (.ireturn, 1) := by decide +kernel
theorem dX11_reelAt_15 : decode cX11_reelAt 15 = .ok (.aload_n 0, 1) := by decide +kernel
theorem dX11_reelAt_16 : decode cX11_reelAt 16 = .ok (.iload_n 1, 1) := by decide +kernel
theorem dX11_reelAt_17 : decode cX11_reelAt 17 = .ok (.iload_n 2, 1) := by decide +kernel
theorem dX11_reelAt_18 : decode cX11_reelAt 18 = .ok (.invokevirtual 325, 3) := by decide +kernel
theorem dX11_reelAt_21 : decode cX11_reelAt 21 = .ok (.aload_n 0, 1) := by decide +kernel
theorem dX11_reelAt_22 : decode cX11_reelAt 22 = .ok (.getfield 65, 3) := by decide +kernel
theorem dX11_reelAt_25 : decode cX11_reelAt 25 = .ok (.invokevirtual 329, 3) := by decide +kernel
theorem dX11_reelAt_28 : decode cX11_reelAt 28 = .ok (.aload_n 0, 1) := by decide +kernel
theorem dX11_reelAt_29 : decode cX11_reelAt 29 = .ok (.getfield 65, 3) := by decide +kernel
theorem dX11_reelAt_32 : decode cX11_reelAt 32 = .ok (.iload_n 3, 1) := by decide +kernel
theorem dX11_reelAt_33 : decode cX11_reelAt 33 = .ok (.invokevirtual 335, 3) := by decide +kernel
theorem dX11_reelAt_36 : decode cX11_reelAt 36 = .ok (.ireturn, 1) := by decide +kernel
theorem dX11_judge_0 : decode cX11_judge 0 = .ok (.iload_n 1, 1) := by decide +kernel
theorem dX11_judge_1 : decode cX11_judge 1 = .ok (.iload_n 2, 1) := by decide +kernel
theorem dX11_judge_2 : decode cX11_judge 2 = .ok (.invokestatic 321, 3) := by decide +kernel
theorem dX11_judge_5 : decode cX11_judge 5 = .ok (.istore 5, 2) := by decide +kernel
theorem dX11_judge_7 : decode cX11_judge 7 = .ok (.iload 5, 2) := by decide +kernel
theorem dX11_judge_9 : decode cX11_judge 9 = .ok (.ifCond .eq 6, 3) := by decide +kernel
theorem dX11_judge_12 : decode cX11_judge 12 = .ok (.iload 5, 2) := by decide +kernel
theorem dX11_judge_14 : decode cX11_judge 14 = .ok (.ireturn, 1) := by decide +kernel
theorem dX11_judge_15 : decode cX11_judge 15 = .ok (.aload_n 0, 1) := by decide +kernel
theorem dX11_judge_16 : decode cX11_judge 16 = .ok (.iload_n 1, 1) := by decide +kernel
theorem dX11_judge_17 : decode cX11_judge 17 = .ok (.iload_n 2, 1) := by decide +kernel
theorem dX11_judge_18 : decode cX11_judge 18 = .ok (.invokevirtual 325, 3) := by decide +kernel
theorem dX11_judge_21 : decode cX11_judge 21 = .ok (.aload_n 0, 1) := by decide +kernel
theorem dX11_judge_22 : decode cX11_judge 22 = .ok (.getfield 65, 3) := by decide +kernel
theorem dX11_judge_25 : decode cX11_judge 25 = .ok (.lload_n 3, 1) := by decide +kernel
theorem dX11_judge_26 : decode cX11_judge 26 = .ok (.invokevirtual 338, 3) := by decide +kernel
theorem dX11_judge_29 : decode cX11_judge 29 = .ok (.ireturn, 1) := by decide +kernel
theorem dX11_show_0 : decode cX11_show 0 = .ok (.iload_n 1, 1) := by decide +kernel
theorem dX11_show_1 : decode cX11_show 1 = .ok (.iload_n 2, 1) := by decide +kernel
theorem dX11_show_2 : decode cX11_show 2 = .ok (.invokestatic 321, 3) := by decide +kernel
theorem dX11_show_5 : decode cX11_show 5 = .ok (.istore_n 3, 1) := by decide +kernel
theorem dX11_show_6 : decode cX11_show 6 = .ok (.iload_n 3, 1) := by decide +kernel
theorem dX11_show_7 : decode cX11_show 7 = .ok (.ifCond .eq 5, 3) := by decide +kernel
theorem dX11_show_10 : decode cX11_show 10 = .ok (.iload_n 3, 1) := by decide +kernel
theorem dX11_show_11 : decode cX11_show 11 = .ok (.ireturn, 1) := by decide +kernel
theorem dX11_show_12 : decode cX11_show 12 = .ok (.aload_n 0, 1) := by decide +kernel
theorem dX11_show_13 : decode cX11_show 13 = .ok (.iload_n 1, 1) := by decide +kernel
theorem dX11_show_14 : decode cX11_show 14 = .ok (.iload_n 2, 1) := by decide +kernel
theorem dX11_show_15 : decode cX11_show 15 = .ok (.invokevirtual 325, 3) := by decide +kernel
theorem dX11_show_18 : decode cX11_show 18 = .ok (.aload_n 0, 1) := by decide +kernel
theorem dX11_show_19 : decode cX11_show 19 = .ok (.getfield 65, 3) := by decide +kernel
theorem dX11_show_22 : decode cX11_show 22 = .ok (.invokevirtual 329, 3) := by decide +kernel
theorem dX11_show_25 : decode cX11_show 25 = .ok (.aload_n 0, 1) := by decide +kernel
theorem dX11_show_26 : decode cX11_show 26 = .ok (.getfield 65, 3) := by decide +kernel
theorem dX11_show_29 : decode cX11_show 29 = .ok (.getfield 332, 3) := by decide +kernel
theorem dX11_show_32 : decode cX11_show 32 = .ok (.bipush (-9), 2) := by decide +kernel
theorem dX11_show_34 : decode cX11_show 34 = .ok (.if_icmp .ne 6, 3) := by decide +kernel
theorem dX11_show_37 : decode cX11_show 37 = .ok (.bipush (-3), 2) := by decide +kernel
theorem dX11_show_39 : decode cX11_show 39 = .ok (.ireturn, 1) := by decide +kernel
theorem dX11_show_40 : decode cX11_show 40 = .ok (.iconst 0, 1) := by decide +kernel
theorem dX11_show_41 : decode cX11_show 41 = .ok (.istore 4, 2) := by decide +kernel
theorem dX11_show_43 : decode cX11_show 43 = .ok (.iconst 0, 1) := by decide +kernel
theorem dX11_show_44 : decode cX11_show 44 = .ok (.istore 5, 2) := by decide +kernel
theorem dX11_show_46 : decode cX11_show 46 = .ok (.iload 5, 2) := by decide +kernel
theorem dX11_show_48 : decode cX11_show 48 = .ok (.bipush 8, 2) := by decide +kernel
theorem dX11_show_50 : decode cX11_show 50 = .ok (.if_icmp .ge 45, 3) := by decide +kernel
theorem dX11_show_53 : decode cX11_show 53 = .ok (.aload_n 0, 1) := by decide +kernel
theorem dX11_show_54 : decode cX11_show 54 = .ok (.aload_n 0, 1) := by decide +kernel
theorem dX11_show_55 : decode cX11_show 55 = .ok (.getfield 65, 3) := by decide +kernel
theorem dX11_show_58 : decode cX11_show 58 = .ok (.iload 5, 2) := by decide +kernel
theorem dX11_show_60 : decode cX11_show 60 = .ok (.invokevirtual 335, 3) := by decide +kernel
theorem dX11_show_63 : decode cX11_show 63 = .ok (.invokevirtual 205, 3) := by decide +kernel
theorem dX11_show_66 : decode cX11_show 66 = .ok (.astore 6, 2) := by decide +kernel
theorem dX11_show_68 : decode cX11_show 68 = .ok (.aload 6, 2) := by decide +kernel
theorem dX11_show_70 : decode cX11_show 70 = .ok (.ifnull 19, 3) := by decide +kernel
theorem dX11_show_73 : decode cX11_show 73 = .ok (.iload 4, 2) := by decide +kernel
theorem dX11_show_75 : decode cX11_show 75 = .ok (.aload_n 0, 1) := by decide +kernel
theorem dX11_show_76 : decode cX11_show 76 = .ok (.aload 6, 2) := by decide +kernel
theorem dX11_show_78 : decode cX11_show 78 = .ok (.getfield 307, 3) := by decide +kernel
theorem dX11_show_81 : decode cX11_show 81 = .ok (.iload_n 1, 1) := by decide +kernel
theorem dX11_show_82 : decode cX11_show 82 = .ok (.iload_n 2, 1) := by decide +kernel
theorem dX11_show_83 : decode cX11_show 83 = .ok (.invokevirtual 341, 3) := by decide +kernel
theorem dX11_show_86 : decode cX11_show 86 = .ok (.iadd, 1) := by decide +kernel
theorem dX11_show_87 : decode cX11_show 87 = .ok (.istore 4, 2) := by decide +kernel
theorem dX11_show_89 : decode cX11_show 89 = .ok (.iinc 5 1, 3) := by decide +kernel
theorem dX11_show_92 : decode cX11_show 92 = .ok (.goto (-46), 3) := by decide +kernel
theorem dX11_show_95 : decode cX11_show 95 = .ok (.iload 4, 2) := by decide +kernel
theorem dX11_show_97 : decode cX11_show 97 = .ok (.ireturn, 1) := by decide +kernel
theorem dX11_man_0 : decode cX11_man 0 = .ok (.iload_n 1, 1) := by decide +kernel
theorem dX11_man_1 : decode cX11_man 1 = .ok (.iconst 0, 1) := by decide +kernel
theorem dX11_man_2 : decode cX11_man 2 = .ok (.iconst 3, 1) := by decide +kernel
theorem dX11_man_3 : decode cX11_man 3 = .ok (.invokestatic 83, 3) := by decide +kernel
theorem dX11_man_6 : decode cX11_man 6 = .ok (.ifCond .eq 10, 3) := by decide +kernel
theorem dX11_man_9 : decode cX11_man 9 = .ok (.iload_n 2, 1) := by decide +kernel
theorem dX11_man_10 : decode cX11_man 10 = .ok (.invokestatic 90, 3) := by decide +kernel
theorem dX11_man_13 : decode cX11_man 13 = .ok (.ifCond .ne 5, 3) := by decide +kernel
theorem dX11_man_16 : decode cX11_man 16 = .ok (.iconst (-1), 1) := by decide +kernel
theorem dX11_man_17 : decode cX11_man 17 = .ok (.ireturn, 1) := by decide +kernel
theorem dX11_man_18 : decode cX11_man 18 = .ok (.iload_n 3, 1) := by decide +kernel
theorem dX11_man_19 : decode cX11_man 19 = .ok (.invokestatic 94, 3) := by decide +kernel
theorem dX11_man_22 : decode cX11_man 22 = .ok (.ifCond .ne 6, 3) := by decide +kernel
theorem dX11_man_25 : decode cX11_man 25 = .ok (.bipush (-2), 2) := by decide +kernel
theorem dX11_man_27 : decode cX11_man 27 = .ok (.ireturn, 1) := by decide +kernel
theorem dX11_man_28 : decode cX11_man 28 = .ok (.aload_n 0, 1) := by decide +kernel
theorem dX11_man_29 : decode cX11_man 29 = .ok (.getfield 72, 3) := by decide +kernel
theorem dX11_man_32 : decode cX11_man 32 = .ok (.iload_n 1, 1) := by decide +kernel
theorem dX11_man_33 : decode cX11_man 33 = .ok (.iload_n 2, 1) := by decide +kernel
theorem dX11_man_34 : decode cX11_man 34 = .ok (.iload_n 3, 1) := by decide +kernel
theorem dX11_man_35 : decode cX11_man 35 = .ok (.invokevirtual 344, 3) := by decide +kernel
theorem dX11_man_38 : decode cX11_man 38 = .ok (.iconst 1, 1) := by decide +kernel
theorem dX11_man_39 : decode cX11_man 39 = .ok (.ireturn, 1) := by decide +kernel
theorem dX11_event_0 : decode cX11_event 0 = .ok (.iload_n 1, 1) := by decide +kernel
theorem dX11_event_1 : decode cX11_event 1 = .ok (.invokestatic 90, 3) := by decide +kernel
theorem dX11_event_4 : decode cX11_event 4 = .ok (.ifCond .ne 5, 3) := by decide +kernel
theorem dX11_event_7 : decode cX11_event 7 = .ok (.iconst (-1), 1) := by decide +kernel
theorem dX11_event_8 : decode cX11_event 8 = .ok (.ireturn, 1) := by decide +kernel
theorem dX11_event_9 : decode cX11_event 9 = .ok (.iload_n 2, 1) := by decide +kernel
theorem dX11_event_10 : decode cX11_event 10 = .ok (.invokestatic 94, 3) := by decide +kernel
theorem dX11_event_13 : decode cX11_event 13 = .ok (.ifCond .eq 14, 3) := by decide +kernel
theorem dX11_event_16 : decode cX11_event 16 = .ok (.iload_n 3, 1) := by decide +kernel
theorem dX11_event_17 : decode cX11_event 17 = .ok (.iconst 1, 1) := by decide +kernel
theorem dX11_event_18 : decode cX11_event 18 = .ok (.sipush 999, 3) := by decide +kernel
theorem dX11_event_21 : decode cX11_event 21 = .ok (.invokestatic 83, 3) := by decide +kernel
theorem dX11_event_24 : decode cX11_event 24 = .ok (.ifCond .ne 6, 3) := by decide +kernel
theorem dX11_event_27 : decode cX11_event 27 = .ok (.bipush (-2), 2) := by decide +kernel
theorem dX11_event_29 : decode cX11_event 29 = .ok (.ireturn, 1) := by decide +kernel
theorem dX11_event_30 : decode cX11_event 30 = .ok (.aload_n 0, 1) := by decide +kernel
theorem dX11_event_31 : decode cX11_event 31 = .ok (.getfield 72, 3) := by decide +kernel
theorem dX11_event_34 : decode cX11_event 34 = .ok (.iload_n 1, 1) := by decide +kernel
theorem dX11_event_35 : decode cX11_event 35 = .ok (.iload_n 2, 1) := by decide +kernel
theorem dX11_event_36 : decode cX11_event 36 = .ok (.iload_n 3, 1) := by decide +kernel
theorem dX11_event_37 : decode cX11_event 37 = .ok (.invokevirtual 348, 3) := by decide +kernel
theorem dX11_event_40 : decode cX11_event 40 = .ok (.ireturn, 1) := by decide +kernel
theorem dX11_cover_0 : decode cX11_cover 0 = .ok (.aload_n 0, 1) := by decide +kernel
theorem dX11_cover_1 : decode cX11_cover 1 = .ok (.getfield 72, 3) := by decide +kernel
theorem dX11_cover_4 : decode cX11_cover 4 = .ok (.aload_n 0, 1) := by decide +kernel
theorem dX11_cover_5 : decode cX11_cover 5 = .ok (.getfield 10, 3) := by decide +kernel
theorem dX11_cover_8 : decode cX11_cover 8 = .ok (.invokevirtual 351, 3) := by decide +kernel
theorem dX11_cover_11 : decode cX11_cover 11 = .ok (.aload_n 0, 1) := by decide +kernel
theorem dX11_cover_12 : decode cX11_cover 12 = .ok (.getfield 72, 3) := by decide +kernel
theorem dX11_cover_15 : decode cX11_cover 15 = .ok (.getfield 355, 3) := by decide +kernel
theorem dX11_cover_18 : decode cX11_cover 18 = .ok (.ireturn, 1) := by decide +kernel
theorem dX11_covered_0 : decode cX11_covered 0 = .ok (.iload_n 1, 1) := by decide +kernel
theorem dX11_covered_1 : decode cX11_covered 1 = .ok (.iconst 0, 1) := by decide +kernel
theorem dX11_covered_2 : decode cX11_covered 2 = .ok (.aload_n 0, 1) := by decide +kernel
theorem dX11_covered_3 : decode cX11_covered 3 = .ok (.getfield 72, 3) := by decide +kernel
theorem dX11_covered_6 : decode cX11_covered 6 = .ok (.getfield 356, 3) := by decide +kernel
theorem dX11_covered_9 : decode cX11_covered 9 = .ok (.iconst 1, 1) := by decide +kernel
theorem dX11_covered_10 : decode cX11_covered 10 = .ok (.isub, 1) := by decide +kernel
theorem dX11_covered_11 : decode cX11_covered 11 = .ok (.invokestatic 83, 3) := by decide +kernel
theorem dX11_covered_14 : decode cX11_covered 14 = .ok (.ifCond .ne 5, 3) := by decide +kernel
theorem dX11_covered_17 : decode cX11_covered 17 = .ok (.iconst (-1), 1) := by decide +kernel
theorem dX11_covered_18 : decode cX11_covered 18 = .ok (.ireturn, 1) := by decide +kernel
theorem dX11_covered_19 : decode cX11_covered 19 = .ok (.aload_n 0, 1) := by decide +kernel
theorem dX11_covered_20 : decode cX11_covered 20 = .ok (.getfield 72, 3) := by decide +kernel
theorem dX11_covered_23 : decode cX11_covered 23 = .ok (.aload_n 0, 1) := by decide +kernel
theorem dX11_covered_24 : decode cX11_covered 24 = .ok (.getfield 10, 3) := by decide +kernel
theorem dX11_covered_27 : decode cX11_covered 27 = .ok (.invokevirtual 351, 3) := by decide +kernel
theorem dX11_covered_30 : decode cX11_covered 30 = .ok (.aload_n 0, 1) := by decide +kernel
theorem dX11_covered_31 : decode cX11_covered 31 = .ok (.getfield 72, 3) := by decide +kernel
theorem dX11_covered_34 : decode cX11_covered 34 = .ok (.getfield 359, 3) := by decide +kernel
theorem dX11_covered_37 : decode cX11_covered 37 = .ok (.iload_n 1, 1) := by decide +kernel
theorem dX11_covered_38 : decode cX11_covered 38 = .ok (.invokestatic 290, 3) := by decide +kernel
theorem dX11_covered_41 : decode cX11_covered 41 = .ok (.ifCond .eq 5, 3) := by decide +kernel
theorem dX11_covered_44 : decode cX11_covered 44 = .ok (.iconst 2, 1) := by decide +kernel
theorem dX11_covered_45 : decode cX11_covered 45 = .ok (.ireturn, 1) := by decide +kernel
theorem dX11_covered_46 : decode cX11_covered 46 = .ok (.aload_n 0, 1) := by decide +kernel
theorem dX11_covered_47 : decode cX11_covered 47 = .ok (.getfield 72, 3) := by decide +kernel
theorem dX11_covered_50 : decode cX11_covered 50 = .ok (.getfield 362, 3) := by decide +kernel
theorem dX11_covered_53 : decode cX11_covered 53 = .ok (.iload_n 1, 1) := by decide +kernel
theorem dX11_covered_54 : decode cX11_covered 54 = .ok (.invokestatic 290, 3) := by decide +kernel
theorem dX11_covered_57 : decode cX11_covered 57 = .ok (.invokestatic 223, 3) := by decide +kernel
theorem dX11_covered_60 : decode cX11_covered 60 = .ok (.ireturn, 1) := by decide +kernel
theorem dX11_hall_0 : decode cX11_hall 0 = .ok (.iload_n 1, 1) := by decide +kernel
theorem dX11_hall_1 : decode cX11_hall 1 = .ok (.invokestatic 280, 3) := by decide +kernel
theorem dX11_hall_4 : decode cX11_hall 4 = .ok (.ifCond .ne 5, 3) := by decide +kernel
theorem dX11_hall_7 : decode cX11_hall 7 = .ok (.iconst (-1), 1) := by decide +kernel
theorem dX11_hall_8 : decode cX11_hall 8 = .ok (.ireturn, 1) := by decide +kernel
theorem dX11_hall_9 : decode cX11_hall 9 = .ok (.iload_n 2, 1) := by decide +kernel
theorem dX11_hall_10 : decode cX11_hall 10 = .ok (.invokestatic 365, 3) := by decide +kernel
theorem dX11_hall_13 : decode cX11_hall 13 = .ok (.ifCond .eq 27, 3) := by decide +kernel
theorem dX11_hall_16 : decode cX11_hall 16 = .ok (.iload_n 3, 1) := by decide +kernel
theorem dX11_hall_17 : decode cX11_hall 17 = .ok (.invokestatic 365, 3) := by decide +kernel
theorem dX11_hall_20 : decode cX11_hall 20 = .ok (.ifCond .eq 20, 3) := by decide +kernel
theorem dX11_hall_23 : decode cX11_hall 23 = .ok (.iload_n 3, 1) := by decide +kernel
theorem dX11_hall_24 : decode cX11_hall 24 = .ok (.iload_n 2, 1) := by decide +kernel
theorem dX11_hall_25 : decode cX11_hall 25 = .ok (.if_icmp .lt 15, 3) := by decide +kernel
theorem dX11_hall_28 : decode cX11_hall 28 = .ok (.iload 4, 2) := by decide +kernel
theorem dX11_hall_30 : decode cX11_hall 30 = .ok (.iconst 1, 1) := by decide +kernel
theorem dX11_hall_31 : decode cX11_hall 31 = .ok (.sipush 9999, 3) := by decide +kernel
theorem dX11_hall_34 : decode cX11_hall 34 = .ok (.invokestatic 83, 3) := by decide +kernel
theorem dX11_hall_37 : decode cX11_hall 37 = .ok (.ifCond .ne 6, 3) := by decide +kernel
theorem dX11_hall_40 : decode cX11_hall 40 = .ok (.bipush (-2), 2) := by decide +kernel
theorem dX11_hall_42 : decode cX11_hall 42 = .ok (.ireturn, 1) := by decide +kernel
theorem dX11_hall_43 : decode cX11_hall 43 = .ok (.aload_n 0, 1) := by decide +kernel
theorem dX11_hall_44 : decode cX11_hall 44 = .ok (.getfield 79, 3) := by decide +kernel
theorem dX11_hall_47 : decode cX11_hall 47 = .ok (.iload_n 2, 1) := by decide +kernel
theorem dX11_hall_48 : decode cX11_hall 48 = .ok (.iload_n 3, 1) := by decide +kernel
theorem dX11_hall_49 : decode cX11_hall 49 = .ok (.iload 4, 2) := by decide +kernel
theorem dX11_hall_51 : decode cX11_hall 51 = .ok (.invokevirtual 368, 3) := by decide +kernel
theorem dX11_hall_54 : decode cX11_hall 54 = .ok (.ireturn, 1) := by decide +kernel
theorem dX11_part_0 : decode cX11_part 0 = .ok (.iload_n 1, 1) := by decide +kernel
theorem dX11_part_1 : decode cX11_part 1 = .ok (.invokestatic 365, 3) := by decide +kernel
theorem dX11_part_4 : decode cX11_part 4 = .ok (.ifCond .eq 25, 3) := by decide +kernel
theorem dX11_part_7 : decode cX11_part 7 = .ok (.iload_n 2, 1) := by decide +kernel
theorem dX11_part_8 : decode cX11_part 8 = .ok (.iconst 0, 1) := by decide +kernel
theorem dX11_part_9 : decode cX11_part 9 = .ok (.bipush 100, 2) := by decide +kernel
theorem dX11_part_11 : decode cX11_part 11 = .ok (.invokestatic 83, 3) := by decide +kernel
theorem dX11_part_14 : decode cX11_part 14 = .ok (.ifCond .eq 15, 3) := by decide +kernel
theorem dX11_part_17 : decode cX11_part 17 = .ok (.aload_n 0, 1) := by decide +kernel
theorem dX11_part_18 : decode cX11_part 18 = .ok (.getfield 79, 3) := by decide +kernel
theorem dX11_part_21 : decode cX11_part 21 = .ok (.iload_n 1, 1) := by decide +kernel
theorem dX11_part_22 : decode cX11_part 22 = .ok (.iload_n 2, 1) := by decide +kernel
theorem dX11_part_23 : decode cX11_part 23 = .ok (.invokevirtual 370, 3) := by decide +kernel
theorem dX11_part_26 : decode cX11_part 26 = .ok (.goto 5, 3) := by decide +kernel
theorem dX11_part_29 : decode cX11_part 29 = .ok (.bipush (-2), 2) := by decide +kernel
theorem dX11_part_31 : decode cX11_part 31 = .ok (.ireturn, 1) := by decide +kernel
theorem dX11_prints_0 : decode cX11_prints 0 = .ok (.iload_n 1, 1) := by decide +kernel
theorem dX11_prints_1 : decode cX11_prints 1 = .ok (.iconst 0, 1) := by decide +kernel
theorem dX11_prints_2 : decode cX11_prints 2 = .ok (.bipush 8, 2) := by decide +kernel
theorem dX11_prints_4 : decode cX11_prints 4 = .ok (.invokestatic 83, 3) := by decide +kernel
theorem dX11_prints_7 : decode cX11_prints 7 = .ok (.ifCond .eq 14, 3) := by decide +kernel
theorem dX11_prints_10 : decode cX11_prints 10 = .ok (.aload_n 0, 1) := by decide +kernel
theorem dX11_prints_11 : decode cX11_prints 11 = .ok (.getfield 79, 3) := by decide +kernel
theorem dX11_prints_14 : decode cX11_prints 14 = .ok (.iload_n 1, 1) := by decide +kernel
theorem dX11_prints_15 : decode cX11_prints 15 = .ok (.invokevirtual 373, 3) := by decide +kernel
theorem dX11_prints_18 : decode cX11_prints 18 = .ok (.goto 5, 3) := by decide +kernel
theorem dX11_prints_21 : decode cX11_prints 21 = .ok (.bipush (-2), 2) := by decide +kernel
theorem dX11_prints_23 : decode cX11_prints 23 = .ok (.ireturn, 1) := by decide +kernel
theorem dX11_run_0 : decode cX11_run 0 = .ok (.aload_n 0, 1) := by decide +kernel
theorem dX11_run_1 : decode cX11_run 1 = .ok (.getfield 79, 3) := by decide +kernel
theorem dX11_run_4 : decode cX11_run 4 = .ok (.invokevirtual 376, 3) := by decide +kernel
theorem dX11_run_7 : decode cX11_run 7 = .ok (.ireturn, 1) := by decide +kernel
theorem dX11_week_0 : decode cX11_week 0 = .ok (.iload_n 1, 1) := by decide +kernel
theorem dX11_week_1 : decode cX11_week 1 = .ok (.iconst 0, 1) := by decide +kernel
theorem dX11_week_2 : decode cX11_week 2 = .ok (.aload_n 0, 1) := by decide +kernel
theorem dX11_week_3 : decode cX11_week 3 = .ok (.getfield 79, 3) := by decide +kernel
theorem dX11_week_6 : decode cX11_week 6 = .ok (.getfield 379, 3) := by decide +kernel
theorem dX11_week_9 : decode cX11_week 9 = .ok (.iconst 1, 1) := by decide +kernel
theorem dX11_week_10 : decode cX11_week 10 = .ok (.isub, 1) := by decide +kernel
theorem dX11_week_11 : decode cX11_week 11 = .ok (.invokestatic 83, 3) := by decide +kernel
theorem dX11_week_14 : decode cX11_week 14 = .ok (.ifCond .eq 14, 3) := by decide +kernel
theorem dX11_week_17 : decode cX11_week 17 = .ok (.aload_n 0, 1) := by decide +kernel
theorem dX11_week_18 : decode cX11_week 18 = .ok (.getfield 79, 3) := by decide +kernel
theorem dX11_week_21 : decode cX11_week 21 = .ok (.iload_n 1, 1) := by decide +kernel
theorem dX11_week_22 : decode cX11_week 22 = .ok (.invokevirtual 382, 3) := by decide +kernel
theorem dX11_week_25 : decode cX11_week 25 = .ok (.goto 4, 3) := by decide +kernel
theorem dX11_week_28 : decode cX11_week 28 = .ok (.iconst (-1), 1) := by decide +kernel
theorem dX11_week_29 : decode cX11_week 29 = .ok (.ireturn, 1) := by decide +kernel
theorem dX11_count_0 : decode cX11_count 0 = .ok (.iload_n 1, 1) := by decide +kernel
theorem dX11_count_1 : decode cX11_count 1 = .ok (.tableswitch 93 0 7 #[47, 52, 57, 62, 67, 72, 80, 88], 47) := by decide +kernel
theorem dX11_count_48 : decode cX11_count 48 = .ok (.aload_n 0, 1) := by decide +kernel
theorem dX11_count_49 : decode cX11_count 49 = .ok (.getfield 131, 3) := by decide +kernel
theorem dX11_count_52 : decode cX11_count 52 = .ok (.ireturn, 1) := by decide +kernel
theorem dX11_count_53 : decode cX11_count 53 = .ok (.aload_n 0, 1) := by decide +kernel
theorem dX11_count_54 : decode cX11_count 54 = .ok (.invokevirtual 385, 3) := by decide +kernel
theorem dX11_count_57 : decode cX11_count 57 = .ok (.ireturn, 1) := by decide +kernel
theorem dX11_count_58 : decode cX11_count 58 = .ok (.aload_n 0, 1) := by decide +kernel
theorem dX11_count_59 : decode cX11_count 59 = .ok (.getfield 200, 3) := by decide +kernel
theorem dX11_count_62 : decode cX11_count 62 = .ok (.ireturn, 1) := by decide +kernel
theorem dX11_count_63 : decode cX11_count 63 = .ok (.aload_n 0, 1) := by decide +kernel
theorem dX11_count_64 : decode cX11_count 64 = .ok (.getfield 260, 3) := by decide +kernel
theorem dX11_count_67 : decode cX11_count 67 = .ok (.ireturn, 1) := by decide +kernel
theorem dX11_count_68 : decode cX11_count 68 = .ok (.aload_n 0, 1) := by decide +kernel
theorem dX11_count_69 : decode cX11_count 69 = .ok (.getfield 298, 3) := by decide +kernel
theorem dX11_count_72 : decode cX11_count 72 = .ok (.ireturn, 1) := by decide +kernel
theorem dX11_count_73 : decode cX11_count 73 = .ok (.aload_n 0, 1) := by decide +kernel
theorem dX11_count_74 : decode cX11_count 74 = .ok (.getfield 72, 3) := by decide +kernel
theorem dX11_count_77 : decode cX11_count 77 = .ok (.getfield 356, 3) := by decide +kernel
theorem dX11_count_80 : decode cX11_count 80 = .ok (.ireturn, 1) := by decide +kernel
theorem dX11_count_81 : decode cX11_count 81 = .ok (.aload_n 0, 1) := by decide +kernel
theorem dX11_count_82 : decode cX11_count 82 = .ok (.getfield 79, 3) := by decide +kernel
theorem dX11_count_85 : decode cX11_count 85 = .ok (.getfield 379, 3) := by decide +kernel
theorem dX11_count_88 : decode cX11_count 88 = .ok (.ireturn, 1) := by decide +kernel
theorem dX11_count_89 : decode cX11_count 89 = .ok (.aload_n 0, 1) := by decide +kernel
theorem dX11_count_90 : decode cX11_count 90 = .ok (.getfield 87, 3) := by decide +kernel
theorem dX11_count_93 : decode cX11_count 93 = .ok (.ireturn, 1) := by decide +kernel
theorem dX11_count_94 : decode cX11_count 94 = .ok (.bipush (-2), 2) := by decide +kernel
theorem dX11_count_96 : decode cX11_count 96 = .ok (.ireturn, 1) := by decide +kernel
theorem dX11_within_0 : decode cX11_within 0 = .ok (.iload_n 0, 1) := by decide +kernel
theorem dX11_within_1 : decode cX11_within 1 = .ok (.iload_n 1, 1) := by decide +kernel
theorem dX11_within_2 : decode cX11_within 2 = .ok (.if_icmp .lt 12, 3) := by decide +kernel
theorem dX11_within_5 : decode cX11_within 5 = .ok (.iload_n 0, 1) := by decide +kernel
theorem dX11_within_6 : decode cX11_within 6 = .ok (.iload_n 2, 1) := by decide +kernel
theorem dX11_within_7 : decode cX11_within 7 = .ok (.if_icmp .gt 7, 3) := by decide +kernel
theorem dX11_within_10 : decode cX11_within 10 = .ok (.iconst 1, 1) := by decide +kernel
theorem dX11_within_11 : decode cX11_within 11 = .ok (.goto 4, 3) := by decide +kernel
theorem dX11_within_14 : decode cX11_within 14 = .ok (.iconst 0, 1) := by decide +kernel
theorem dX11_within_15 : decode cX11_within 15 = .ok (.ireturn, 1) := by decide +kernel
theorem dX11_isHour_0 : decode cX11_isHour 0 = .ok (.iload_n 0, 1) := by decide +kernel
theorem dX11_isHour_1 : decode cX11_isHour 1 = .ok (.iconst 0, 1) := by decide +kernel
theorem dX11_isHour_2 : decode cX11_isHour 2 = .ok (.sipush 9999, 3) := by decide +kernel
theorem dX11_isHour_5 : decode cX11_isHour 5 = .ok (.invokestatic 83, 3) := by decide +kernel
theorem dX11_isHour_8 : decode cX11_isHour 8 = .ok (.ireturn, 1) := by decide +kernel
theorem dX11_isDay_0 : decode cX11_isDay 0 = .ok (.iload_n 0, 1) := by decide +kernel
theorem dX11_isDay_1 : decode cX11_isDay 1 = .ok (.iconst 0, 1) := by decide +kernel
theorem dX11_isDay_2 : decode cX11_isDay 2 = .ok (.sipush 416, 3) := by decide +kernel
theorem dX11_isDay_5 : decode cX11_isDay 5 = .ok (.invokestatic 83, 3) := by decide +kernel
theorem dX11_isDay_8 : decode cX11_isDay 8 = .ok (.ireturn, 1) := by decide +kernel
theorem dX11_isDayOfYear_0 : decode cX11_isDayOfYear 0 = .ok (.iload_n 0, 1) := by decide +kernel
theorem dX11_isDayOfYear_1 : decode cX11_isDayOfYear 1 = .ok (.iconst 0, 1) := by decide +kernel
theorem dX11_isDayOfYear_2 : decode cX11_isDayOfYear 2 = .ok (.sipush 364, 3) := by decide +kernel
theorem dX11_isDayOfYear_5 : decode cX11_isDayOfYear 5 = .ok (.invokestatic 83, 3) := by decide +kernel
theorem dX11_isDayOfYear_8 : decode cX11_isDayOfYear 8 = .ok (.ireturn, 1) := by decide +kernel
theorem dX11_isPlace_0 : decode cX11_isPlace 0 = .ok (.iload_n 0, 1) := by decide +kernel
theorem dX11_isPlace_1 : decode cX11_isPlace 1 = .ok (.iconst 0, 1) := by decide +kernel
theorem dX11_isPlace_2 : decode cX11_isPlace 2 = .ok (.bipush 7, 2) := by decide +kernel
theorem dX11_isPlace_4 : decode cX11_isPlace 4 = .ok (.invokestatic 83, 3) := by decide +kernel
theorem dX11_isPlace_7 : decode cX11_isPlace 7 = .ok (.ireturn, 1) := by decide +kernel
theorem dX11_isLand_0 : decode cX11_isLand 0 = .ok (.iload_n 0, 1) := by decide +kernel
theorem dX11_isLand_1 : decode cX11_isLand 1 = .ok (.iconst 0, 1) := by decide +kernel
theorem dX11_isLand_2 : decode cX11_isLand 2 = .ok (.iconst 4, 1) := by decide +kernel
theorem dX11_isLand_3 : decode cX11_isLand 3 = .ok (.invokestatic 83, 3) := by decide +kernel
theorem dX11_isLand_6 : decode cX11_isLand 6 = .ok (.ireturn, 1) := by decide +kernel
theorem dX11_isSubject_0 : decode cX11_isSubject 0 = .ok (.iload_n 0, 1) := by decide +kernel
theorem dX11_isSubject_1 : decode cX11_isSubject 1 = .ok (.iconst 0, 1) := by decide +kernel
theorem dX11_isSubject_2 : decode cX11_isSubject 2 = .ok (.bipush 15, 2) := by decide +kernel
theorem dX11_isSubject_4 : decode cX11_isSubject 4 = .ok (.invokestatic 83, 3) := by decide +kernel
theorem dX11_isSubject_7 : decode cX11_isSubject 7 = .ok (.ireturn, 1) := by decide +kernel
theorem dX11_isMarkSet_0 : decode cX11_isMarkSet 0 = .ok (.iload_n 0, 1) := by decide +kernel
theorem dX11_isMarkSet_1 : decode cX11_isMarkSet 1 = .ok (.iconst 0, 1) := by decide +kernel
theorem dX11_isMarkSet_2 : decode cX11_isMarkSet 2 = .ok (.sipush 255, 3) := by decide +kernel
theorem dX11_isMarkSet_5 : decode cX11_isMarkSet 5 = .ok (.invokestatic 83, 3) := by decide +kernel
theorem dX11_isMarkSet_8 : decode cX11_isMarkSet 8 = .ok (.ireturn, 1) := by decide +kernel
theorem dX11_isKind_0 : decode cX11_isKind 0 = .ok (.iload_n 0, 1) := by decide +kernel
theorem dX11_isKind_1 : decode cX11_isKind 1 = .ok (.iconst 0, 1) := by decide +kernel
theorem dX11_isKind_2 : decode cX11_isKind 2 = .ok (.iconst 2, 1) := by decide +kernel
theorem dX11_isKind_3 : decode cX11_isKind 3 = .ok (.invokestatic 83, 3) := by decide +kernel
theorem dX11_isKind_6 : decode cX11_isKind 6 = .ok (.ireturn, 1) := by decide +kernel
theorem dX11_isWeek_0 : decode cX11_isWeek 0 = .ok (.iload_n 0, 1) := by decide +kernel
theorem dX11_isWeek_1 : decode cX11_isWeek 1 = .ok (.iconst 0, 1) := by decide +kernel
theorem dX11_isWeek_2 : decode cX11_isWeek 2 = .ok (.bipush 8, 2) := by decide +kernel
theorem dX11_isWeek_4 : decode cX11_isWeek 4 = .ok (.invokestatic 83, 3) := by decide +kernel
theorem dX11_isWeek_7 : decode cX11_isWeek 7 = .ok (.ireturn, 1) := by decide +kernel
theorem dX11_refuseLandDay_0 : decode cX11_refuseLandDay 0 = .ok (.iload_n 0, 1) := by decide +kernel
theorem dX11_refuseLandDay_1 : decode cX11_refuseLandDay 1 = .ok (.invokestatic 280, 3) := by decide +kernel
theorem dX11_refuseLandDay_4 : decode cX11_refuseLandDay 4 = .ok (.ifCond .ne 5, 3) := by decide +kernel
theorem dX11_refuseLandDay_7 : decode cX11_refuseLandDay 7 = .ok (.iconst (-1), 1) := by decide +kernel
theorem dX11_refuseLandDay_8 : decode cX11_refuseLandDay 8 = .ok (.ireturn, 1) := by decide +kernel
theorem dX11_refuseLandDay_9 : decode cX11_refuseLandDay 9 = .ok (.iload_n 1, 1) := by decide +kernel
theorem dX11_refuseLandDay_10 : decode cX11_refuseLandDay 10 = .ok (.invokestatic 257, 3) := by decide +kernel
theorem dX11_refuseLandDay_13 : decode cX11_refuseLandDay 13 = .ok (.ifCond .eq 7, 3) := by decide +kernel
theorem dX11_refuseLandDay_16 : decode cX11_refuseLandDay 16 = .ok (.iconst 0, 1) := by decide +kernel
theorem dX11_refuseLandDay_17 : decode cX11_refuseLandDay 17 = .ok (.goto 5, 3) := by decide +kernel
theorem dX11_refuseLandDay_20 : decode cX11_refuseLandDay 20 = .ok (.bipush (-2), 2) := by decide +kernel
theorem dX11_refuseLandDay_22 : decode cX11_refuseLandDay 22 = .ok (.ireturn, 1) := by decide +kernel
theorem dX11_dayOf_0 : decode cX11_dayOf 0 = .ok (.iload_n 0, 1) := by decide +kernel
theorem dX11_dayOf_1 : decode cX11_dayOf 1 = .ok (.bipush 24, 2) := by decide +kernel
theorem dX11_dayOf_3 : decode cX11_dayOf 3 = .ok (.idiv, 1) := by decide +kernel
theorem dX11_dayOf_4 : decode cX11_dayOf 4 = .ok (.ireturn, 1) := by decide +kernel
theorem dX11_asNumber_0 : decode cX11_asNumber 0 = .ok (.iload_n 0, 1) := by decide +kernel
theorem dX11_asNumber_1 : decode cX11_asNumber 1 = .ok (.ifCond .eq 7, 3) := by decide +kernel
theorem dX11_asNumber_4 : decode cX11_asNumber 4 = .ok (.iconst 1, 1) := by decide +kernel
theorem dX11_asNumber_5 : decode cX11_asNumber 5 = .ok (.goto 4, 3) := by decide +kernel
theorem dX11_asNumber_8 : decode cX11_asNumber 8 = .ok (.iconst 0, 1) := by decide +kernel
theorem dX11_asNumber_9 : decode cX11_asNumber 9 = .ok (.ireturn, 1) := by decide +kernel
theorem dX11_hasMember_0 : decode cX11_hasMember 0 = .ok (.iload_n 0, 1) := by decide +kernel
theorem dX11_hasMember_1 : decode cX11_hasMember 1 = .ok (.iload_n 1, 1) := by decide +kernel
theorem dX11_hasMember_2 : decode cX11_hasMember 2 = .ok (.ishr, 1) := by decide +kernel
theorem dX11_hasMember_3 : decode cX11_hasMember 3 = .ok (.iconst 1, 1) := by decide +kernel
theorem dX11_hasMember_4 : decode cX11_hasMember 4 = .ok (.iand, 1) := by decide +kernel
theorem dX11_hasMember_5 : decode cX11_hasMember 5 = .ok (.ifCond .eq 7, 3) := by decide +kernel
theorem dX11_hasMember_8 : decode cX11_hasMember 8 = .ok (.iconst 1, 1) := by decide +kernel
theorem dX11_hasMember_9 : decode cX11_hasMember 9 = .ok (.goto 4, 3) := by decide +kernel
theorem dX11_hasMember_12 : decode cX11_hasMember 12 = .ok (.iconst 0, 1) := by decide +kernel
theorem dX11_hasMember_13 : decode cX11_hasMember 13 = .ok (.ireturn, 1) := by decide +kernel
theorem dX11_withMember_0 : decode cX11_withMember 0 = .ok (.iload_n 2, 1) := by decide +kernel
theorem dX11_withMember_1 : decode cX11_withMember 1 = .ok (.ifCond .eq 11, 3) := by decide +kernel
theorem dX11_withMember_4 : decode cX11_withMember 4 = .ok (.iload_n 0, 1) := by decide +kernel
theorem dX11_withMember_5 : decode cX11_withMember 5 = .ok (.iconst 1, 1) := by decide +kernel
theorem dX11_withMember_6 : decode cX11_withMember 6 = .ok (.iload_n 1, 1) := by decide +kernel
theorem dX11_withMember_7 : decode cX11_withMember 7 = .ok (.ishl, 1) := by decide +kernel
theorem dX11_withMember_8 : decode cX11_withMember 8 = .ok (.ior, 1) := by decide +kernel
theorem dX11_withMember_9 : decode cX11_withMember 9 = .ok (.goto 10, 3) := by decide +kernel
theorem dX11_withMember_12 : decode cX11_withMember 12 = .ok (.iload_n 0, 1) := by decide +kernel
theorem dX11_withMember_13 : decode cX11_withMember 13 = .ok (.iconst 1, 1) := by decide +kernel
theorem dX11_withMember_14 : decode cX11_withMember 14 = .ok (.iload_n 1, 1) := by decide +kernel
theorem dX11_withMember_15 : decode cX11_withMember 15 = .ok (.ishl, 1) := by decide +kernel
theorem dX11_withMember_16 : decode cX11_withMember 16 = .ok (.iconst (-1), 1) := by decide +kernel
theorem dX11_withMember_17 : decode cX11_withMember 17 = .ok (.ixor, 1) := by decide +kernel
theorem dX11_withMember_18 : decode cX11_withMember 18 = .ok (.iand, 1) := by decide +kernel
theorem dX11_withMember_19 : decode cX11_withMember 19 = .ok (.ireturn, 1) := by decide +kernel
theorem dX11_shotNumbered_0 : decode cX11_shotNumbered 0 = .ok (.iload_n 1, 1) := by decide +kernel
theorem dX11_shotNumbered_1 : decode cX11_shotNumbered 1 = .ok (.iconst 0, 1) := by decide +kernel
theorem dX11_shotNumbered_2 : decode cX11_shotNumbered 2 = .ok (.aload_n 0, 1) := by decide +kernel
theorem dX11_shotNumbered_3 : decode cX11_shotNumbered 3 = .ok (.getfield 131, 3) := by decide +kernel
theorem dX11_shotNumbered_6 : decode cX11_shotNumbered 6 = .ok (.iconst 1, 1) := by decide +kernel
theorem dX11_shotNumbered_7 : decode cX11_shotNumbered 7 = .ok (.isub, 1) := by decide +kernel
theorem dX11_shotNumbered_8 : decode cX11_shotNumbered 8 = .ok (.invokestatic 83, 3) := by decide +kernel
theorem dX11_shotNumbered_11 : decode cX11_shotNumbered 11 = .ok (.ifCond .eq 12, 3) := by decide +kernel
theorem dX11_shotNumbered_14 : decode cX11_shotNumbered 14 = .ok (.aload_n 0, 1) := by decide +kernel
theorem dX11_shotNumbered_15 : decode cX11_shotNumbered 15 = .ok (.getfield 25, 3) := by decide +kernel
theorem dX11_shotNumbered_18 : decode cX11_shotNumbered 18 = .ok (.iload_n 1, 1) := by decide +kernel
theorem dX11_shotNumbered_19 : decode cX11_shotNumbered 19 = .ok (.aaload, 1) := by decide +kernel
theorem dX11_shotNumbered_20 : decode cX11_shotNumbered 20 = .ok (.goto 4, 3) := by decide +kernel
theorem dX11_shotNumbered_23 : decode cX11_shotNumbered 23 = .ok (.aconst_null, 1) := by decide +kernel
theorem dX11_shotNumbered_24 : decode cX11_shotNumbered 24 = .ok (.areturn, 1) := by decide +kernel
theorem dX11_storyNumbered_0 : decode cX11_storyNumbered 0 = .ok (.iload_n 1, 1) := by decide +kernel
theorem dX11_storyNumbered_1 : decode cX11_storyNumbered 1 = .ok (.iconst 0, 1) := by decide +kernel
theorem dX11_storyNumbered_2 : decode cX11_storyNumbered 2 = .ok (.aload_n 0, 1) := by decide +kernel
theorem dX11_storyNumbered_3 : decode cX11_storyNumbered 3 = .ok (.getfield 200, 3) := by decide +kernel
theorem dX11_storyNumbered_6 : decode cX11_storyNumbered 6 = .ok (.iconst 1, 1) := by decide +kernel
theorem dX11_storyNumbered_7 : decode cX11_storyNumbered 7 = .ok (.isub, 1) := by decide +kernel
theorem dX11_storyNumbered_8 : decode cX11_storyNumbered 8 = .ok (.invokestatic 83, 3) := by decide +kernel
theorem dX11_storyNumbered_11 : decode cX11_storyNumbered 11 = .ok (.ifCond .eq 12, 3) := by decide +kernel
theorem dX11_storyNumbered_14 : decode cX11_storyNumbered 14 = .ok (.aload_n 0, 1) := by decide +kernel
theorem dX11_storyNumbered_15 : decode cX11_storyNumbered 15 = .ok (.getfield 31, 3) := by decide +kernel
theorem dX11_storyNumbered_18 : decode cX11_storyNumbered 18 = .ok (.iload_n 1, 1) := by decide +kernel
theorem dX11_storyNumbered_19 : decode cX11_storyNumbered 19 = .ok (.aaload, 1) := by decide +kernel
theorem dX11_storyNumbered_20 : decode cX11_storyNumbered 20 = .ok (.goto 4, 3) := by decide +kernel
theorem dX11_storyNumbered_23 : decode cX11_storyNumbered 23 = .ok (.aconst_null, 1) := by decide +kernel
theorem dX11_storyNumbered_24 : decode cX11_storyNumbered 24 = .ok (.areturn, 1) := by decide +kernel
theorem dX11_ruleNumbered_0 : decode cX11_ruleNumbered 0 = .ok (.iload_n 1, 1) := by decide +kernel
theorem dX11_ruleNumbered_1 : decode cX11_ruleNumbered 1 = .ok (.iconst 0, 1) := by decide +kernel
theorem dX11_ruleNumbered_2 : decode cX11_ruleNumbered 2 = .ok (.aload_n 0, 1) := by decide +kernel
theorem dX11_ruleNumbered_3 : decode cX11_ruleNumbered 3 = .ok (.getfield 260, 3) := by decide +kernel
theorem dX11_ruleNumbered_6 : decode cX11_ruleNumbered 6 = .ok (.iconst 1, 1) := by decide +kernel
theorem dX11_ruleNumbered_7 : decode cX11_ruleNumbered 7 = .ok (.isub, 1) := by decide +kernel
theorem dX11_ruleNumbered_8 : decode cX11_ruleNumbered 8 = .ok (.invokestatic 83, 3) := by decide +kernel
theorem dX11_ruleNumbered_11 : decode cX11_ruleNumbered 11 = .ok (.ifCond .eq 12, 3) := by decide +kernel
theorem dX11_ruleNumbered_14 : decode cX11_ruleNumbered 14 = .ok (.aload_n 0, 1) := by decide +kernel
theorem dX11_ruleNumbered_15 : decode cX11_ruleNumbered 15 = .ok (.getfield 45, 3) := by decide +kernel
theorem dX11_ruleNumbered_18 : decode cX11_ruleNumbered 18 = .ok (.iload_n 1, 1) := by decide +kernel
theorem dX11_ruleNumbered_19 : decode cX11_ruleNumbered 19 = .ok (.aaload, 1) := by decide +kernel
theorem dX11_ruleNumbered_20 : decode cX11_ruleNumbered 20 = .ok (.goto 4, 3) := by decide +kernel
theorem dX11_ruleNumbered_23 : decode cX11_ruleNumbered 23 = .ok (.aconst_null, 1) := by decide +kernel
theorem dX11_ruleNumbered_24 : decode cX11_ruleNumbered 24 = .ok (.areturn, 1) := by decide +kernel
theorem dX11_isCard_0 : decode cX11_isCard 0 = .ok (.aload_n 1, 1) := by decide +kernel
theorem dX11_isCard_1 : decode cX11_isCard 1 = .ok (.aload_n 0, 1) := by decide +kernel
theorem dX11_isCard_2 : decode cX11_isCard 2 = .ok (.getfield 87, 3) := by decide +kernel
theorem dX11_isCard_5 : decode cX11_isCard 5 = .ok (.invokevirtual 166, 3) := by decide +kernel
theorem dX11_isCard_8 : decode cX11_isCard 8 = .ok (.iconst 3, 1) := by decide +kernel
theorem dX11_isCard_9 : decode cX11_isCard 9 = .ok (.if_icmp .ne 25, 3) := by decide +kernel
theorem dX11_isCard_12 : decode cX11_isCard 12 = .ok (.aload_n 1, 1) := by decide +kernel
theorem dX11_isCard_13 : decode cX11_isCard 13 = .ok (.getfield 160, 3) := by decide +kernel
theorem dX11_isCard_16 : decode cX11_isCard 16 = .ok (.iload_n 2, 1) := by decide +kernel
theorem dX11_isCard_17 : decode cX11_isCard 17 = .ok (.iand, 1) := by decide +kernel
theorem dX11_isCard_18 : decode cX11_isCard 18 = .ok (.iload_n 2, 1) := by decide +kernel
theorem dX11_isCard_19 : decode cX11_isCard 19 = .ok (.if_icmp .ne 15, 3) := by decide +kernel
theorem dX11_isCard_22 : decode cX11_isCard 22 = .ok (.aload_n 1, 1) := by decide +kernel
theorem dX11_isCard_23 : decode cX11_isCard 23 = .ok (.getfield 151, 3) := by decide +kernel
theorem dX11_isCard_26 : decode cX11_isCard 26 = .ok (.iload_n 3, 1) := by decide +kernel
theorem dX11_isCard_27 : decode cX11_isCard 27 = .ok (.if_icmp .lt 7, 3) := by decide +kernel
theorem dX11_isCard_30 : decode cX11_isCard 30 = .ok (.iconst 1, 1) := by decide +kernel
theorem dX11_isCard_31 : decode cX11_isCard 31 = .ok (.goto 4, 3) := by decide +kernel
theorem dX11_isCard_34 : decode cX11_isCard 34 = .ok (.iconst 0, 1) := by decide +kernel
theorem dX11_isCard_35 : decode cX11_isCard 35 = .ok (.ireturn, 1) := by decide +kernel
theorem dX11_shotsIn_0 : decode cX11_shotsIn 0 = .ok (.iconst 0, 1) := by decide +kernel
theorem dX11_shotsIn_1 : decode cX11_shotsIn 1 = .ok (.istore_n 1, 1) := by decide +kernel
theorem dX11_shotsIn_2 : decode cX11_shotsIn 2 = .ok (.iconst 0, 1) := by decide +kernel
theorem dX11_shotsIn_3 : decode cX11_shotsIn 3 = .ok (.istore_n 2, 1) := by decide +kernel
theorem dX11_shotsIn_4 : decode cX11_shotsIn 4 = .ok (.iload_n 2, 1) := by decide +kernel
theorem dX11_shotsIn_5 : decode cX11_shotsIn 5 = .ok (.aload_n 0, 1) := by decide +kernel
theorem dX11_shotsIn_6 : decode cX11_shotsIn 6 = .ok (.getfield 131, 3) := by decide +kernel
theorem dX11_shotsIn_9 : decode cX11_shotsIn 9 = .ok (.if_icmp .ge 29, 3) := by decide +kernel
theorem dX11_shotsIn_12 : decode cX11_shotsIn 12 = .ok (.aload_n 0, 1) := by decide +kernel
theorem dX11_shotsIn_13 : decode cX11_shotsIn 13 = .ok (.getfield 25, 3) := by decide +kernel
theorem dX11_shotsIn_16 : decode cX11_shotsIn 16 = .ok (.iload_n 2, 1) := by decide +kernel
theorem dX11_shotsIn_17 : decode cX11_shotsIn 17 = .ok (.aaload, 1) := by decide +kernel
theorem dX11_shotsIn_18 : decode cX11_shotsIn 18 = .ok (.aload_n 0, 1) := by decide +kernel
theorem dX11_shotsIn_19 : decode cX11_shotsIn 19 = .ok (.getfield 87, 3) := by decide +kernel
theorem dX11_shotsIn_22 : decode cX11_shotsIn 22 = .ok (.invokevirtual 166, 3) := by decide +kernel
theorem dX11_shotsIn_25 : decode cX11_shotsIn 25 = .ok (.iconst 3, 1) := by decide +kernel
theorem dX11_shotsIn_26 : decode cX11_shotsIn 26 = .ok (.if_icmp .ne 6, 3) := by decide +kernel
theorem dX11_shotsIn_29 : decode cX11_shotsIn 29 = .ok (.iinc 1 1, 3) := by decide +kernel
theorem dX11_shotsIn_32 : decode cX11_shotsIn 32 = .ok (.iinc 2 1, 3) := by decide +kernel
theorem dX11_shotsIn_35 : decode cX11_shotsIn 35 = .ok (.goto (-31), 3) := by decide +kernel
theorem dX11_shotsIn_38 : decode cX11_shotsIn 38 = .ok (.iload_n 1, 1) := by decide +kernel
theorem dX11_shotsIn_39 : decode cX11_shotsIn 39 = .ok (.ireturn, 1) := by decide +kernel
theorem dX11_firstBar_0 : decode cX11_firstBar 0 = .ok (.aload_n 0, 1) := by decide +kernel
theorem dX11_firstBar_1 : decode cX11_firstBar 1 = .ok (.getfield 52, 3) := by decide +kernel
theorem dX11_firstBar_4 : decode cX11_firstBar 4 = .ok (.aload_n 1, 1) := by decide +kernel
theorem dX11_firstBar_5 : decode cX11_firstBar 5 = .ok (.iload_n 2, 1) := by decide +kernel
theorem dX11_firstBar_6 : decode cX11_firstBar 6 = .ok (.aload_n 1, 1) := by decide +kernel
theorem dX11_firstBar_7 : decode cX11_firstBar 7 = .ok (.aload_n 0, 1) := by decide +kernel
theorem dX11_firstBar_8 : decode cX11_firstBar 8 = .ok (.getfield 35, 3) := by decide +kernel
theorem dX11_firstBar_11 : decode cX11_firstBar 11 = .ok (.invokevirtual 240, 3) := by decide +kernel
theorem dX11_firstBar_14 : decode cX11_firstBar 14 = .ok (.aload_n 1, 1) := by decide +kernel
theorem dX11_firstBar_15 : decode cX11_firstBar 15 = .ok (.aload_n 0, 1) := by decide +kernel
theorem dX11_firstBar_16 : decode cX11_firstBar 16 = .ok (.getfield 19, 3) := by decide +kernel
theorem dX11_firstBar_19 : decode cX11_firstBar 19 = .ok (.invokevirtual 243, 3) := by decide +kernel
theorem dX11_firstBar_22 : decode cX11_firstBar 22 = .ok (.invokevirtual 388, 3) := by decide +kernel
theorem dX11_firstBar_25 : decode cX11_firstBar 25 = .ok (.iconst 0, 1) := by decide +kernel
theorem dX11_firstBar_26 : decode cX11_firstBar 26 = .ok (.istore 4, 2) := by decide +kernel
theorem dX11_firstBar_28 : decode cX11_firstBar 28 = .ok (.iload 4, 2) := by decide +kernel
theorem dX11_firstBar_30 : decode cX11_firstBar 30 = .ok (.aload_n 0, 1) := by decide +kernel
theorem dX11_firstBar_31 : decode cX11_firstBar 31 = .ok (.getfield 260, 3) := by decide +kernel
theorem dX11_firstBar_34 : decode cX11_firstBar 34 = .ok (.if_icmp .ge 55, 3) := by decide +kernel
theorem dX11_firstBar_37 : decode cX11_firstBar 37 = .ok (.aload_n 0, 1) := by decide +kernel
theorem dX11_firstBar_38 : decode cX11_firstBar 38 = .ok (.getfield 45, 3) := by decide +kernel
theorem dX11_firstBar_41 : decode cX11_firstBar 41 = .ok (.iload 4, 2) := by decide +kernel
theorem dX11_firstBar_43 : decode cX11_firstBar 43 = .ok (.aaload, 1) := by decide +kernel
theorem dX11_firstBar_44 : decode cX11_firstBar 44 = .ok (.iload_n 3, 1) := by decide +kernel
theorem dX11_firstBar_45 : decode cX11_firstBar 45 = .ok (.invokevirtual 392, 3) := by decide +kernel
theorem dX11_firstBar_48 : decode cX11_firstBar 48 = .ok (.ifCond .eq 35, 3) := by decide +kernel
theorem dX11_firstBar_51 : decode cX11_firstBar 51 = .ok (.aload_n 0, 1) := by decide +kernel
theorem dX11_firstBar_52 : decode cX11_firstBar 52 = .ok (.getfield 52, 3) := by decide +kernel
theorem dX11_firstBar_55 : decode cX11_firstBar 55 = .ok (.aload_n 0, 1) := by decide +kernel
theorem dX11_firstBar_56 : decode cX11_firstBar 56 = .ok (.getfield 45, 3) := by decide +kernel
theorem dX11_firstBar_59 : decode cX11_firstBar 59 = .ok (.iload 4, 2) := by decide +kernel
theorem dX11_firstBar_61 : decode cX11_firstBar 61 = .ok (.aaload, 1) := by decide +kernel
theorem dX11_firstBar_62 : decode cX11_firstBar 62 = .ok (.invokevirtual 272, 3) := by decide +kernel
theorem dX11_firstBar_65 : decode cX11_firstBar 65 = .ok (.bipush (-9), 2) := by decide +kernel
theorem dX11_firstBar_67 : decode cX11_firstBar 67 = .ok (.if_icmp .ne 16, 3) := by decide +kernel
theorem dX11_firstBar_70 : decode cX11_firstBar 70 = .ok (.aload_n 0, 1) := by decide +kernel
theorem dX11_firstBar_71 : decode cX11_firstBar 71 = .ok (.getfield 52, 3) := by decide +kernel
theorem dX11_firstBar_74 : decode cX11_firstBar 74 = .ok (.invokevirtual 395, 3) := by decide +kernel
theorem dX11_firstBar_77 : decode cX11_firstBar 77 = .ok (.ifCond .eq 6, 3) := by decide +kernel
theorem dX11_firstBar_80 : decode cX11_firstBar 80 = .ok (.iload 4, 2) := by decide +kernel
theorem dX11_firstBar_82 : decode cX11_firstBar 82 = .ok (.ireturn, 1) := by decide +kernel
theorem dX11_firstBar_83 : decode cX11_firstBar 83 = .ok (.iinc 4 1, 3) := by decide +kernel
theorem dX11_firstBar_86 : decode cX11_firstBar 86 = .ok (.goto (-58), 3) := by decide +kernel
theorem dX11_firstBar_89 : decode cX11_firstBar 89 = .ok (.bipush (-9), 2) := by decide +kernel
theorem dX11_firstBar_91 : decode cX11_firstBar 91 = .ok (.ireturn, 1) := by decide +kernel
theorem dX11_firstRight_0 : decode cX11_firstRight 0 = .ok (.iconst 0, 1) := by decide +kernel
theorem dX11_firstRight_1 : decode cX11_firstRight 1 = .ok (.istore 4, 2) := by decide +kernel
theorem dX11_firstRight_3 : decode cX11_firstRight 3 = .ok (.iload 4, 2) := by decide +kernel
theorem dX11_firstRight_5 : decode cX11_firstRight 5 = .ok (.aload_n 0, 1) := by decide +kernel
theorem dX11_firstRight_6 : decode cX11_firstRight 6 = .ok (.getfield 298, 3) := by decide +kernel
theorem dX11_firstRight_9 : decode cX11_firstRight 9 = .ok (.if_icmp .ge 33, 3) := by decide +kernel
theorem dX11_firstRight_12 : decode cX11_firstRight 12 = .ok (.aload_n 0, 1) := by decide +kernel
theorem dX11_firstRight_13 : decode cX11_firstRight 13 = .ok (.getfield 58, 3) := by decide +kernel
theorem dX11_firstRight_16 : decode cX11_firstRight 16 = .ok (.iload 4, 2) := by decide +kernel
theorem dX11_firstRight_18 : decode cX11_firstRight 18 = .ok (.aaload, 1) := by decide +kernel
theorem dX11_firstRight_19 : decode cX11_firstRight 19 = .ok (.iload_n 1, 1) := by decide +kernel
theorem dX11_firstRight_20 : decode cX11_firstRight 20 = .ok (.iload_n 2, 1) := by decide +kernel
theorem dX11_firstRight_21 : decode cX11_firstRight 21 = .ok (.iload_n 3, 1) := by decide +kernel
theorem dX11_firstRight_22 : decode cX11_firstRight 22 = .ok (.invokevirtual 398, 3) := by decide +kernel
theorem dX11_firstRight_25 : decode cX11_firstRight 25 = .ok (.ifCond .eq 11, 3) := by decide +kernel
theorem dX11_firstRight_28 : decode cX11_firstRight 28 = .ok (.aload_n 0, 1) := by decide +kernel
theorem dX11_firstRight_29 : decode cX11_firstRight 29 = .ok (.getfield 58, 3) := by decide +kernel
theorem dX11_firstRight_32 : decode cX11_firstRight 32 = .ok (.iload 4, 2) := by decide +kernel
theorem dX11_firstRight_34 : decode cX11_firstRight 34 = .ok (.aaload, 1) := by decide +kernel
theorem dX11_firstRight_35 : decode cX11_firstRight 35 = .ok (.areturn, 1) := by decide +kernel
theorem dX11_firstRight_36 : decode cX11_firstRight 36 = .ok (.iinc 4 1, 3) := by decide +kernel
theorem dX11_firstRight_39 : decode cX11_firstRight 39 = .ok (.goto (-36), 3) := by decide +kernel
theorem dX11_firstRight_42 : decode cX11_firstRight 42 = .ok (.aconst_null, 1) := by decide +kernel
theorem dX11_firstRight_43 : decode cX11_firstRight 43 = .ok (.areturn, 1) := by decide +kernel
theorem dX11_isLicensed_0 : decode cX11_isLicensed 0 = .ok (.aload_n 0, 1) := by decide +kernel
theorem dX11_isLicensed_1 : decode cX11_isLicensed 1 = .ok (.getfield 287, 3) := by decide +kernel
theorem dX11_isLicensed_4 : decode cX11_isLicensed 4 = .ok (.iload_n 1, 1) := by decide +kernel
theorem dX11_isLicensed_5 : decode cX11_isLicensed 5 = .ok (.invokestatic 290, 3) := by decide +kernel
theorem dX11_isLicensed_8 : decode cX11_isLicensed 8 = .ok (.ifCond .eq 13, 3) := by decide +kernel
theorem dX11_isLicensed_11 : decode cX11_isLicensed 11 = .ok (.aload_n 0, 1) := by decide +kernel
theorem dX11_isLicensed_12 : decode cX11_isLicensed 12 = .ok (.iload_n 1, 1) := by decide +kernel
theorem dX11_isLicensed_13 : decode cX11_isLicensed 13 = .ok (.iload_n 2, 1) := by decide +kernel
theorem dX11_isLicensed_14 : decode cX11_isLicensed 14 = .ok (.iload_n 3, 1) := by decide +kernel
theorem dX11_isLicensed_15 : decode cX11_isLicensed 15 = .ok (.invokevirtual 401, 3) := by decide +kernel
theorem dX11_isLicensed_18 : decode cX11_isLicensed 18 = .ok (.ifnull 7, 3) := by decide +kernel
theorem dX11_isLicensed_21 : decode cX11_isLicensed 21 = .ok (.iconst 1, 1) := by decide +kernel
theorem dX11_isLicensed_22 : decode cX11_isLicensed 22 = .ok (.goto 4, 3) := by decide +kernel
theorem dX11_isLicensed_25 : decode cX11_isLicensed 25 = .ok (.iconst 0, 1) := by decide +kernel
theorem dX11_isLicensed_26 : decode cX11_isLicensed 26 = .ok (.ireturn, 1) := by decide +kernel
theorem dX11_takeShowing_0 : decode cX11_takeShowing 0 = .ok (.aload_n 0, 1) := by decide +kernel
theorem dX11_takeShowing_1 : decode cX11_takeShowing 1 = .ok (.getfield 287, 3) := by decide +kernel
theorem dX11_takeShowing_4 : decode cX11_takeShowing 4 = .ok (.iload_n 1, 1) := by decide +kernel
theorem dX11_takeShowing_5 : decode cX11_takeShowing 5 = .ok (.invokestatic 290, 3) := by decide +kernel
theorem dX11_takeShowing_8 : decode cX11_takeShowing 8 = .ok (.ifCond .ne 5, 3) := by decide +kernel
theorem dX11_takeShowing_11 : decode cX11_takeShowing 11 = .ok (.iconst 0, 1) := by decide +kernel
theorem dX11_takeShowing_12 : decode cX11_takeShowing 12 = .ok (.ireturn, 1) := by decide +kernel
theorem dX11_takeShowing_13 : decode cX11_takeShowing 13 = .ok (.aload_n 0, 1) := by decide +kernel
theorem dX11_takeShowing_14 : decode cX11_takeShowing 14 = .ok (.iload_n 1, 1) := by decide +kernel
theorem dX11_takeShowing_15 : decode cX11_takeShowing 15 = .ok (.iload_n 2, 1) := by decide +kernel
theorem dX11_takeShowing_16 : decode cX11_takeShowing 16 = .ok (.iload_n 3, 1) := by decide +kernel
theorem dX11_takeShowing_17 : decode cX11_takeShowing 17 = .ok (.invokevirtual 401, 3) := by decide +kernel
theorem dX11_takeShowing_20 : decode cX11_takeShowing 20 = .ok (.astore 4, 2) := by decide +kernel
theorem dX11_takeShowing_22 : decode cX11_takeShowing 22 = .ok (.aload 4, 2) := by decide +kernel
theorem dX11_takeShowing_24 : decode cX11_takeShowing 24 = .ok (.ifnonnull 5, 3) := by decide +kernel
theorem dX11_takeShowing_27 : decode cX11_takeShowing 27 = .ok (.iconst 0, 1) := by decide +kernel
theorem dX11_takeShowing_28 : decode cX11_takeShowing 28 = .ok (.ireturn, 1) := by decide +kernel
theorem dX11_takeShowing_29 : decode cX11_takeShowing 29 = .ok (.aload 4, 2) := by decide +kernel
theorem dX11_takeShowing_31 : decode cX11_takeShowing 31 = .ok (.dup, 1) := by decide +kernel
theorem dX11_takeShowing_32 : decode cX11_takeShowing 32 = .ok (.getfield 304, 3) := by decide +kernel
theorem dX11_takeShowing_35 : decode cX11_takeShowing 35 = .ok (.iconst 1, 1) := by decide +kernel
theorem dX11_takeShowing_36 : decode cX11_takeShowing 36 = .ok (.isub, 1) := by decide +kernel
theorem dX11_takeShowing_37 : decode cX11_takeShowing 37 = .ok (.putfield 304, 3) := by decide +kernel
theorem dX11_takeShowing_40 : decode cX11_takeShowing 40 = .ok (.iconst 1, 1) := by decide +kernel
theorem dX11_takeShowing_41 : decode cX11_takeShowing 41 = .ok (.ireturn, 1) := by decide +kernel
theorem dX11_listStories_0 : decode cX11_listStories 0 = .ok (.aload_n 0, 1) := by decide +kernel
theorem dX11_listStories_1 : decode cX11_listStories 1 = .ok (.getfield 65, 3) := by decide +kernel
theorem dX11_listStories_4 : decode cX11_listStories 4 = .ok (.invokevirtual 405, 3) := by decide +kernel
theorem dX11_listStories_7 : decode cX11_listStories 7 = .ok (.iconst 0, 1) := by decide +kernel
theorem dX11_listStories_8 : decode cX11_listStories 8 = .ok (.istore_n 3, 1) := by decide +kernel
theorem dX11_listStories_9 : decode cX11_listStories 9 = .ok (.iload_n 3, 1) := by decide +kernel
theorem dX11_listStories_10 : decode cX11_listStories 10 = .ok (.aload_n 0, 1) := by decide +kernel
theorem dX11_listStories_11 : decode cX11_listStories 11 = .ok (.getfield 200, 3) := by decide +kernel
theorem dX11_listStories_14 : decode cX11_listStories 14 = .ok (.if_icmp .ge 71, 3) := by decide +kernel
theorem dX11_listStories_17 : decode cX11_listStories 17 = .ok (.aload_n 0, 1) := by decide +kernel
theorem dX11_listStories_18 : decode cX11_listStories 18 = .ok (.getfield 31, 3) := by decide +kernel
theorem dX11_listStories_21 : decode cX11_listStories 21 = .ok (.iload_n 3, 1) := by decide +kernel
theorem dX11_listStories_22 : decode cX11_listStories 22 = .ok (.aaload, 1) := by decide +kernel
theorem dX11_listStories_23 : decode cX11_listStories 23 = .ok (.astore 4, 2) := by decide +kernel
theorem dX11_listStories_25 : decode cX11_listStories 25 = .ok (.aload_n 0, 1) := by decide +kernel
theorem dX11_listStories_26 : decode cX11_listStories 26 = .ok (.aload 4, 2) := by decide +kernel
theorem dX11_listStories_28 : decode cX11_listStories 28 = .ok (.getfield 307, 3) := by decide +kernel
theorem dX11_listStories_31 : decode cX11_listStories 31 = .ok (.iload_n 1, 1) := by decide +kernel
theorem dX11_listStories_32 : decode cX11_listStories 32 = .ok (.iload_n 2, 1) := by decide +kernel
theorem dX11_listStories_33 : decode cX11_listStories 33 = .ok (.invokevirtual 308, 3) := by decide +kernel
theorem dX11_listStories_36 : decode cX11_listStories 36 = .ok (.istore 5, 2) := by decide +kernel
theorem dX11_listStories_38 : decode cX11_listStories 38 = .ok (.aload_n 0, 1) := by decide +kernel
theorem dX11_listStories_39 : decode cX11_listStories 39 = .ok (.getfield 65, 3) := by decide +kernel
theorem dX11_listStories_42 : decode cX11_listStories 42 = .ok (.aload 4, 2) := by decide +kernel
theorem dX11_listStories_44 : decode cX11_listStories 44 = .ok (.aload 4, 2) := by decide +kernel
theorem dX11_listStories_46 : decode cX11_listStories 46 = .ok (.aload_n 0, 1) := by decide +kernel
theorem dX11_listStories_47 : decode cX11_listStories 47 = .ok (.getfield 87, 3) := by decide +kernel
theorem dX11_listStories_50 : decode cX11_listStories 50 = .ok (.invokevirtual 250, 3) := by decide +kernel
theorem dX11_listStories_53 : decode cX11_listStories 53 = .ok (.iload 5, 2) := by decide +kernel
theorem dX11_listStories_55 : decode cX11_listStories 55 = .ok (.ifCond .eq 20, 3) := by decide +kernel
theorem dX11_listStories_58 : decode cX11_listStories 58 = .ok (.aload_n 0, 1) := by decide +kernel
theorem dX11_listStories_59 : decode cX11_listStories 59 = .ok (.aload 4, 2) := by decide +kernel
theorem dX11_listStories_61 : decode cX11_listStories 61 = .ok (.iload_n 1, 1) := by decide +kernel
theorem dX11_listStories_62 : decode cX11_listStories 62 = .ok (.iload_n 2, 1) := by decide +kernel
theorem dX11_listStories_63 : decode cX11_listStories 63 = .ok (.invokevirtual 283, 3) := by decide +kernel
theorem dX11_listStories_66 : decode cX11_listStories 66 = .ok (.bipush (-9), 2) := by decide +kernel
theorem dX11_listStories_68 : decode cX11_listStories 68 = .ok (.if_icmp .ne 7, 3) := by decide +kernel
theorem dX11_listStories_71 : decode cX11_listStories 71 = .ok (.iconst 1, 1) := by decide +kernel
theorem dX11_listStories_72 : decode cX11_listStories 72 = .ok (.goto 4, 3) := by decide +kernel
theorem dX11_listStories_75 : decode cX11_listStories 75 = .ok (.iconst 0, 1) := by decide +kernel
theorem dX11_listStories_76 : decode cX11_listStories 76 = .ok (.invokevirtual 408, 3) := by decide +kernel
theorem dX11_listStories_79 : decode cX11_listStories 79 = .ok (.iinc 3 1, 3) := by decide +kernel
theorem dX11_listStories_82 : decode cX11_listStories 82 = .ok (.goto (-73), 3) := by decide +kernel
theorem dX11_listStories_85 : decode cX11_listStories 85 = .ok (.return_, 1) := by decide +kernel
theorem dX12_init_0 : decode cX12_init 0 = .ok (.aload_n 0, 1) := by decide +kernel
theorem dX12_init_1 : decode cX12_init 1 = .ok (.invokespecial 1, 3) := by decide +kernel
theorem dX12_init_4 : decode cX12_init 4 = .ok (.aload_n 0, 1) := by decide +kernel
theorem dX12_init_5 : decode cX12_init 5 = .ok (.bipush 24, 2) := by decide +kernel
theorem dX12_init_7 : decode cX12_init 7 = .ok (.newarray .int, 2) := by decide +kernel
theorem dX12_init_9 : decode cX12_init 9 = .ok (.putfield 7, 3) := by decide +kernel
theorem dX12_init_12 : decode cX12_init 12 = .ok (.aload_n 0, 1) := by decide +kernel
theorem dX12_init_13 : decode cX12_init 13 = .ok (.bipush 24, 2) := by decide +kernel
theorem dX12_init_15 : decode cX12_init 15 = .ok (.newarray .int, 2) := by decide +kernel
theorem dX12_init_17 : decode cX12_init 17 = .ok (.putfield 13, 3) := by decide +kernel
theorem dX12_init_20 : decode cX12_init 20 = .ok (.aload_n 0, 1) := by decide +kernel
theorem dX12_init_21 : decode cX12_init 21 = .ok (.bipush 24, 2) := by decide +kernel
theorem dX12_init_23 : decode cX12_init 23 = .ok (.newarray .int, 2) := by decide +kernel
theorem dX12_init_25 : decode cX12_init 25 = .ok (.putfield 16, 3) := by decide +kernel
theorem dX12_init_28 : decode cX12_init 28 = .ok (.aload_n 0, 1) := by decide +kernel
theorem dX12_init_29 : decode cX12_init 29 = .ok (.bipush 24, 2) := by decide +kernel
theorem dX12_init_31 : decode cX12_init 31 = .ok (.newarray .int, 2) := by decide +kernel
theorem dX12_init_33 : decode cX12_init 33 = .ok (.putfield 19, 3) := by decide +kernel
theorem dX12_init_36 : decode cX12_init 36 = .ok (.aload_n 0, 1) := by decide +kernel
theorem dX12_init_37 : decode cX12_init 37 = .ok (.bipush 24, 2) := by decide +kernel
theorem dX12_init_39 : decode cX12_init 39 = .ok (.newarray .int, 2) := by decide +kernel
theorem dX12_init_41 : decode cX12_init 41 = .ok (.putfield 22, 3) := by decide +kernel
theorem dX12_init_44 : decode cX12_init 44 = .ok (.aload_n 0, 1) := by decide +kernel
theorem dX12_init_45 : decode cX12_init 45 = .ok (.bipush 24, 2) := by decide +kernel
theorem dX12_init_47 : decode cX12_init 47 = .ok (.newarray .int, 2) := by decide +kernel
theorem dX12_init_49 : decode cX12_init 49 = .ok (.putfield 25, 3) := by decide +kernel
theorem dX12_init_52 : decode cX12_init 52 = .ok (.aload_n 0, 1) := by decide +kernel
theorem dX12_init_53 : decode cX12_init 53 = .ok (.bipush 24, 2) := by decide +kernel
theorem dX12_init_55 : decode cX12_init 55 = .ok (.newarray .boolean, 2) := by decide +kernel
theorem dX12_init_57 : decode cX12_init 57 = .ok (.putfield 28, 3) := by decide +kernel
theorem dX12_init_60 : decode cX12_init 60 = .ok (.aload_n 0, 1) := by decide +kernel
theorem dX12_init_61 : decode cX12_init 61 = .ok (.bipush 8, 2) := by decide +kernel
theorem dX12_init_63 : decode cX12_init 63 = .ok (.newarray .int, 2) := by decide +kernel
theorem dX12_init_65 : decode cX12_init 65 = .ok (.putfield 32, 3) := by decide +kernel
theorem dX12_init_68 : decode cX12_init 68 = .ok (.aload_n 0, 1) := by decide +kernel
theorem dX12_init_69 : decode cX12_init 69 = .ok (.bipush 40, 2) := by decide +kernel
theorem dX12_init_71 : decode cX12_init 71 = .ok (.newarray .int, 2) := by decide +kernel
theorem dX12_init_73 : decode cX12_init 73 = .ok (.putfield 35, 3) := by decide +kernel
theorem dX12_init_76 : decode cX12_init 76 = .ok (.aload_n 0, 1) := by decide +kernel
theorem dX12_init_77 : decode cX12_init 77 = .ok (.bipush 40, 2) := by decide +kernel
theorem dX12_init_79 : decode cX12_init 79 = .ok (.newarray .int, 2) := by decide +kernel
theorem dX12_init_81 : decode cX12_init 81 = .ok (.putfield 38, 3) := by decide +kernel
theorem dX12_init_84 : decode cX12_init 84 = .ok (.aload_n 0, 1) := by decide +kernel
theorem dX12_init_85 : decode cX12_init 85 = .ok (.bipush 40, 2) := by decide +kernel
theorem dX12_init_87 : decode cX12_init 87 = .ok (.newarray .int, 2) := by decide +kernel
theorem dX12_init_89 : decode cX12_init 89 = .ok (.putfield 41, 3) := by decide +kernel
theorem dX12_init_92 : decode cX12_init 92 = .ok (.aload_n 0, 1) := by decide +kernel
theorem dX12_init_93 : decode cX12_init 93 = .ok (.bipush 40, 2) := by decide +kernel
theorem dX12_init_95 : decode cX12_init 95 = .ok (.newarray .int, 2) := by decide +kernel
theorem dX12_init_97 : decode cX12_init 97 = .ok (.putfield 44, 3) := by decide +kernel
theorem dX12_init_100 : decode cX12_init 100 = .ok (.aload_n 0, 1) := by decide +kernel
theorem dX12_init_101 : decode cX12_init 101 = .ok (.bipush 40, 2) := by decide +kernel
theorem dX12_init_103 : decode cX12_init 103 = .ok (.newarray .int, 2) := by decide +kernel
theorem dX12_init_105 : decode cX12_init 105 = .ok (.putfield 47, 3) := by decide +kernel
theorem dX12_init_108 : decode cX12_init 108 = .ok (.aload_n 0, 1) := by decide +kernel
theorem dX12_init_109 : decode cX12_init 109 = .ok (.bipush 40, 2) := by decide +kernel
theorem dX12_init_111 : decode cX12_init 111 = .ok (.newarray .int, 2) := by decide +kernel
theorem dX12_init_113 : decode cX12_init 113 = .ok (.putfield 50, 3) := by decide +kernel
theorem dX12_init_116 : decode cX12_init 116 = .ok (.aload_n 0, 1) := by decide +kernel
theorem dX12_init_117 : decode cX12_init 117 = .ok (.bipush 40, 2) := by decide +kernel
theorem dX12_init_119 : decode cX12_init 119 = .ok (.newarray .int, 2) := by decide +kernel
theorem dX12_init_121 : decode cX12_init 121 = .ok (.putfield 53, 3) := by decide +kernel
theorem dX12_init_124 : decode cX12_init 124 = .ok (.aload_n 0, 1) := by decide +kernel
theorem dX12_init_125 : decode cX12_init 125 = .ok (.bipush 40, 2) := by decide +kernel
theorem dX12_init_127 : decode cX12_init 127 = .ok (.newarray .int, 2) := by decide +kernel
theorem dX12_init_129 : decode cX12_init 129 = .ok (.putfield 56, 3) := by decide +kernel
theorem dX12_init_132 : decode cX12_init 132 = .ok (.aload_n 0, 1) := by decide +kernel
theorem dX12_init_133 : decode cX12_init 133 = .ok (.bipush 40, 2) := by decide +kernel
theorem dX12_init_135 : decode cX12_init 135 = .ok (.newarray .int, 2) := by decide +kernel
theorem dX12_init_137 : decode cX12_init 137 = .ok (.putfield 59, 3) := by decide +kernel
theorem dX12_init_140 : decode cX12_init 140 = .ok (.aload_n 0, 1) := by decide +kernel
theorem dX12_init_141 : decode cX12_init 141 = .ok (.bipush 40, 2) := by decide +kernel
theorem dX12_init_143 : decode cX12_init 143 = .ok (.newarray .int, 2) := by decide +kernel
theorem dX12_init_145 : decode cX12_init 145 = .ok (.putfield 62, 3) := by decide +kernel
theorem dX12_init_148 : decode cX12_init 148 = .ok (.aload_n 0, 1) := by decide +kernel
theorem dX12_init_149 : decode cX12_init 149 = .ok (.bipush 40, 2) := by decide +kernel
theorem dX12_init_151 : decode cX12_init 151 = .ok (.newarray .int, 2) := by decide +kernel
theorem dX12_init_153 : decode cX12_init 153 = .ok (.putfield 65, 3) := by decide +kernel
theorem dX12_init_156 : decode cX12_init 156 = .ok (.aload_n 0, 1) := by decide +kernel
theorem dX12_init_157 : decode cX12_init 157 = .ok (.bipush 40, 2) := by decide +kernel
theorem dX12_init_159 : decode cX12_init 159 = .ok (.newarray .int, 2) := by decide +kernel
theorem dX12_init_161 : decode cX12_init 161 = .ok (.putfield 68, 3) := by decide +kernel
theorem dX12_init_164 : decode cX12_init 164 = .ok (.aload_n 0, 1) := by decide +kernel
theorem dX12_init_165 : decode cX12_init 165 = .ok (.bipush 8, 2) := by decide +kernel
theorem dX12_init_167 : decode cX12_init 167 = .ok (.newarray .int, 2) := by decide +kernel
theorem dX12_init_169 : decode cX12_init 169 = .ok (.putfield 71, 3) := by decide +kernel
theorem dX12_init_172 : decode cX12_init 172 = .ok (.aload_n 0, 1) := by decide +kernel
theorem dX12_init_173 : decode cX12_init 173 = .ok (.bipush 8, 2) := by decide +kernel
theorem dX12_init_175 : decode cX12_init 175 = .ok (.newarray .int, 2) := by decide +kernel
theorem dX12_init_177 : decode cX12_init 177 = .ok (.putfield 74, 3) := by decide +kernel
theorem dX12_init_180 : decode cX12_init 180 = .ok (.aload_n 0, 1) := by decide +kernel
theorem dX12_init_181 : decode cX12_init 181 = .ok (.bipush 8, 2) := by decide +kernel
theorem dX12_init_183 : decode cX12_init 183 = .ok (.newarray .int, 2) := by decide +kernel
theorem dX12_init_185 : decode cX12_init 185 = .ok (.putfield 77, 3) := by decide +kernel
theorem dX12_init_188 : decode cX12_init 188 = .ok (.aload_n 0, 1) := by decide +kernel
theorem dX12_init_189 : decode cX12_init 189 = .ok (.bipush 8, 2) := by decide +kernel
theorem dX12_init_191 : decode cX12_init 191 = .ok (.newarray .int, 2) := by decide +kernel
theorem dX12_init_193 : decode cX12_init 193 = .ok (.putfield 80, 3) := by decide +kernel
theorem dX12_init_196 : decode cX12_init 196 = .ok (.aload_n 0, 1) := by decide +kernel
theorem dX12_init_197 : decode cX12_init 197 = .ok (.bipush 8, 2) := by decide +kernel
theorem dX12_init_199 : decode cX12_init 199 = .ok (.newarray .int, 2) := by decide +kernel
theorem dX12_init_201 : decode cX12_init 201 = .ok (.putfield 83, 3) := by decide +kernel
theorem dX12_init_204 : decode cX12_init 204 = .ok (.aload_n 0, 1) := by decide +kernel
theorem dX12_init_205 : decode cX12_init 205 = .ok (.bipush 8, 2) := by decide +kernel
theorem dX12_init_207 : decode cX12_init 207 = .ok (.newarray .int, 2) := by decide +kernel
theorem dX12_init_209 : decode cX12_init 209 = .ok (.putfield 86, 3) := by decide +kernel
theorem dX12_init_212 : decode cX12_init 212 = .ok (.aload_n 0, 1) := by decide +kernel
theorem dX12_init_213 : decode cX12_init 213 = .ok (.bipush 8, 2) := by decide +kernel
theorem dX12_init_215 : decode cX12_init 215 = .ok (.newarray .int, 2) := by decide +kernel
theorem dX12_init_217 : decode cX12_init 217 = .ok (.putfield 89, 3) := by decide +kernel
theorem dX12_init_220 : decode cX12_init 220 = .ok (.aload_n 0, 1) := by decide +kernel
theorem dX12_init_221 : decode cX12_init 221 = .ok (.bipush 8, 2) := by decide +kernel
theorem dX12_init_223 : decode cX12_init 223 = .ok (.newarray .int, 2) := by decide +kernel
theorem dX12_init_225 : decode cX12_init 225 = .ok (.putfield 92, 3) := by decide +kernel
theorem dX12_init_228 : decode cX12_init 228 = .ok (.aload_n 0, 1) := by decide +kernel
theorem dX12_init_229 : decode cX12_init 229 = .ok (.bipush 48, 2) := by decide +kernel
theorem dX12_init_231 : decode cX12_init 231 = .ok (.newarray .int, 2) := by decide +kernel
theorem dX12_init_233 : decode cX12_init 233 = .ok (.putfield 95, 3) := by decide +kernel
theorem dX12_init_236 : decode cX12_init 236 = .ok (.aload_n 0, 1) := by decide +kernel
theorem dX12_init_237 : decode cX12_init 237 = .ok (.bipush 8, 2) := by decide +kernel
theorem dX12_init_239 : decode cX12_init 239 = .ok (.newarray .boolean, 2) := by decide +kernel
theorem dX12_init_241 : decode cX12_init 241 = .ok (.putfield 98, 3) := by decide +kernel
theorem dX12_init_244 : decode cX12_init 244 = .ok (.aload_n 0, 1) := by decide +kernel
theorem dX12_init_245 : decode cX12_init 245 = .ok (.bipush 8, 2) := by decide +kernel
theorem dX12_init_247 : decode cX12_init 247 = .ok (.newarray .boolean, 2) := by decide +kernel
theorem dX12_init_249 : decode cX12_init 249 = .ok (.putfield 101, 3) := by decide +kernel
theorem dX12_init_252 : decode cX12_init 252 = .ok (.aload_n 0, 1) := by decide +kernel
theorem dX12_init_253 : decode cX12_init 253 = .ok (.bipush 30, 2) := by decide +kernel
theorem dX12_init_255 : decode cX12_init 255 = .ok (.putfield 104, 3) := by decide +kernel
theorem dX12_init_258 : decode cX12_init 258 = .ok (.aload_n 0, 1) := by decide +kernel
theorem dX12_init_259 : decode cX12_init 259 = .ok (.iconst 3, 1) := by decide +kernel
theorem dX12_init_260 : decode cX12_init 260 = .ok (.newarray .int, 2) := by decide +kernel
theorem dX12_init_262 : decode cX12_init 262 = .ok (.putfield 108, 3) := by decide +kernel
theorem dX12_init_265 : decode cX12_init 265 = .ok (.aload_n 0, 1) := by decide +kernel
theorem dX12_init_266 : decode cX12_init 266 = .ok (.bipush 6, 2) := by decide +kernel
theorem dX12_init_268 : decode cX12_init 268 = .ok (.newarray .int, 2) := by decide +kernel
theorem dX12_init_270 : decode cX12_init 270 = .ok (.putfield 111, 3) := by decide +kernel
theorem dX12_init_273 : decode cX12_init 273 = .ok (.aload_n 0, 1) := by decide +kernel
theorem dX12_init_274 : decode cX12_init 274 = .ok (.bipush 6, 2) := by decide +kernel
theorem dX12_init_276 : decode cX12_init 276 = .ok (.newarray .int, 2) := by decide +kernel
theorem dX12_init_278 : decode cX12_init 278 = .ok (.putfield 114, 3) := by decide +kernel
theorem dX12_init_281 : decode cX12_init 281 = .ok (.aload_n 0, 1) := by decide +kernel
theorem dX12_init_282 : decode cX12_init 282 = .ok (.bipush 6, 2) := by decide +kernel
theorem dX12_init_284 : decode cX12_init 284 = .ok (.newarray .int, 2) := by decide +kernel
theorem dX12_init_286 : decode cX12_init 286 = .ok (.putfield 117, 3) := by decide +kernel
theorem dX12_init_289 : decode cX12_init 289 = .ok (.aload_n 0, 1) := by decide +kernel
theorem dX12_init_290 : decode cX12_init 290 = .ok (.sipush 480, 3) := by decide +kernel
theorem dX12_init_293 : decode cX12_init 293 = .ok (.newarray .int, 2) := by decide +kernel
theorem dX12_init_295 : decode cX12_init 295 = .ok (.putfield 120, 3) := by decide +kernel
theorem dX12_init_298 : decode cX12_init 298 = .ok (.aload_n 0, 1) := by decide +kernel
theorem dX12_init_299 : decode cX12_init 299 = .ok (.bipush 84, 2) := by decide +kernel
theorem dX12_init_301 : decode cX12_init 301 = .ok (.newarray .int, 2) := by decide +kernel
theorem dX12_init_303 : decode cX12_init 303 = .ok (.putfield 123, 3) := by decide +kernel
theorem dX12_init_306 : decode cX12_init 306 = .ok (.aload_n 0, 1) := by decide +kernel
theorem dX12_init_307 : decode cX12_init 307 = .ok (.bipush 84, 2) := by decide +kernel
theorem dX12_init_309 : decode cX12_init 309 = .ok (.newarray .boolean, 2) := by decide +kernel
theorem dX12_init_311 : decode cX12_init 311 = .ok (.putfield 126, 3) := by decide +kernel
theorem dX12_init_314 : decode cX12_init 314 = .ok (.aload_n 0, 1) := by decide +kernel
theorem dX12_init_315 : decode cX12_init 315 = .ok (.bipush 8, 2) := by decide +kernel
theorem dX12_init_317 : decode cX12_init 317 = .ok (.newarray .int, 2) := by decide +kernel
theorem dX12_init_319 : decode cX12_init 319 = .ok (.putfield 129, 3) := by decide +kernel
theorem dX12_init_322 : decode cX12_init 322 = .ok (.aload_n 0, 1) := by decide +kernel
theorem dX12_init_323 : decode cX12_init 323 = .ok (.bipush 16, 2) := by decide +kernel
theorem dX12_init_325 : decode cX12_init 325 = .ok (.newarray .boolean, 2) := by decide +kernel
theorem dX12_init_327 : decode cX12_init 327 = .ok (.putfield 132, 3) := by decide +kernel
theorem dX12_init_330 : decode cX12_init 330 = .ok (.aload_n 0, 1) := by decide +kernel
theorem dX12_init_331 : decode cX12_init 331 = .ok (.bipush 8, 2) := by decide +kernel
theorem dX12_init_333 : decode cX12_init 333 = .ok (.newarray .int, 2) := by decide +kernel
theorem dX12_init_335 : decode cX12_init 335 = .ok (.putfield 135, 3) := by decide +kernel
theorem dX12_init_338 : decode cX12_init 338 = .ok (.aload_n 0, 1) := by decide +kernel
theorem dX12_init_339 : decode cX12_init 339 = .ok (.bipush 8, 2) := by decide +kernel
theorem dX12_init_341 : decode cX12_init 341 = .ok (.newarray .int, 2) := by decide +kernel
theorem dX12_init_343 : decode cX12_init 343 = .ok (.putfield 138, 3) := by decide +kernel
theorem dX12_init_346 : decode cX12_init 346 = .ok (.aload_n 0, 1) := by decide +kernel
theorem dX12_init_347 : decode cX12_init 347 = .ok (.bipush 8, 2) := by decide +kernel
theorem dX12_init_349 : decode cX12_init 349 = .ok (.newarray .int, 2) := by decide +kernel
theorem dX12_init_351 : decode cX12_init 351 = .ok (.putfield 141, 3) := by decide +kernel
theorem dX12_init_354 : decode cX12_init 354 = .ok (.aload_n 0, 1) := by decide +kernel
theorem dX12_init_355 : decode cX12_init 355 = .ok (.bipush 8, 2) := by decide +kernel
theorem dX12_init_357 : decode cX12_init 357 = .ok (.newarray .int, 2) := by decide +kernel
theorem dX12_init_359 : decode cX12_init 359 = .ok (.putfield 144, 3) := by decide +kernel
theorem dX12_init_362 : decode cX12_init 362 = .ok (.aload_n 0, 1) := by decide +kernel
theorem dX12_init_363 : decode cX12_init 363 = .ok (.bipush 8, 2) := by decide +kernel
theorem dX12_init_365 : decode cX12_init 365 = .ok (.newarray .int, 2) := by decide +kernel
theorem dX12_init_367 : decode cX12_init 367 = .ok (.putfield 147, 3) := by decide +kernel
theorem dX12_init_370 : decode cX12_init 370 = .ok (.aload_n 0, 1) := by decide +kernel
theorem dX12_init_371 : decode cX12_init 371 = .ok (.bipush 100, 2) := by decide +kernel
theorem dX12_init_373 : decode cX12_init 373 = .ok (.putfield 150, 3) := by decide +kernel
theorem dX12_init_376 : decode cX12_init 376 = .ok (.aload_n 0, 1) := by decide +kernel
theorem dX12_init_377 : decode cX12_init 377 = .ok (.sipush 900, 3) := by decide +kernel
theorem dX12_init_380 : decode cX12_init 380 = .ok (.putfield 153, 3) := by decide +kernel
theorem dX12_init_383 : decode cX12_init 383 = .ok (.aload_n 0, 1) := by decide +kernel
theorem dX12_init_384 : decode cX12_init 384 = .ok (.bipush 64, 2) := by decide +kernel
theorem dX12_init_386 : decode cX12_init 386 = .ok (.newarray .boolean, 2) := by decide +kernel
theorem dX12_init_388 : decode cX12_init 388 = .ok (.putfield 156, 3) := by decide +kernel
theorem dX12_init_391 : decode cX12_init 391 = .ok (.aload_n 0, 1) := by decide +kernel
theorem dX12_init_392 : decode cX12_init 392 = .ok (.bipush 16, 2) := by decide +kernel
theorem dX12_init_394 : decode cX12_init 394 = .ok (.newarray .boolean, 2) := by decide +kernel
theorem dX12_init_396 : decode cX12_init 396 = .ok (.putfield 159, 3) := by decide +kernel
theorem dX12_init_399 : decode cX12_init 399 = .ok (.aload_n 0, 1) := by decide +kernel
theorem dX12_init_400 : decode cX12_init 400 = .ok (.bipush 8, 2) := by decide +kernel
theorem dX12_init_402 : decode cX12_init 402 = .ok (.newarray .boolean, 2) := by decide +kernel
theorem dX12_init_404 : decode cX12_init 404 = .ok (.putfield 162, 3) := by decide +kernel
theorem dX12_init_407 : decode cX12_init 407 = .ok (.aload_n 0, 1) := by decide +kernel
theorem dX12_init_408 : decode cX12_init 408 = .ok (.bipush 8, 2) := by decide +kernel
theorem dX12_init_410 : decode cX12_init 410 = .ok (.newarray .int, 2) := by decide +kernel
theorem dX12_init_412 : decode cX12_init 412 = .ok (.putfield 165, 3) := by decide +kernel
theorem dX12_init_415 : decode cX12_init 415 = .ok (.aload_n 0, 1) := by decide +kernel
theorem dX12_init_416 : decode cX12_init 416 = .ok (.bipush 8, 2) := by decide +kernel
theorem dX12_init_418 : decode cX12_init 418 = .ok (.newarray .int, 2) := by decide +kernel
theorem dX12_init_420 : decode cX12_init 420 = .ok (.putfield 168, 3) := by decide +kernel
theorem dX12_init_423 : decode cX12_init 423 = .ok (.aload_n 0, 1) := by decide +kernel
theorem dX12_init_424 : decode cX12_init 424 = .ok (.bipush 9, 2) := by decide +kernel
theorem dX12_init_426 : decode cX12_init 426 = .ok (.newarray .int, 2) := by decide +kernel
theorem dX12_init_428 : decode cX12_init 428 = .ok (.putfield 171, 3) := by decide +kernel
theorem dX12_init_431 : decode cX12_init 431 = .ok (.aload_n 0, 1) := by decide +kernel
theorem dX12_init_432 : decode cX12_init 432 = .ok (.bipush 8, 2) := by decide +kernel
theorem dX12_init_434 : decode cX12_init 434 = .ok (.newarray .int, 2) := by decide +kernel
theorem dX12_init_436 : decode cX12_init 436 = .ok (.putfield 174, 3) := by decide +kernel
theorem dX12_init_439 : decode cX12_init 439 = .ok (.aload_n 0, 1) := by decide +kernel
theorem dX12_init_440 : decode cX12_init 440 = .ok (.iconst 4, 1) := by decide +kernel
theorem dX12_init_441 : decode cX12_init 441 = .ok (.newarray .int, 2) := by decide +kernel
theorem dX12_init_443 : decode cX12_init 443 = .ok (.putfield 177, 3) := by decide +kernel
theorem dX12_init_446 : decode cX12_init 446 = .ok (.aload_n 0, 1) := by decide +kernel
theorem dX12_init_447 : decode cX12_init 447 = .ok (.iconst 4, 1) := by decide +kernel
theorem dX12_init_448 : decode cX12_init 448 = .ok (.newarray .int, 2) := by decide +kernel
theorem dX12_init_450 : decode cX12_init 450 = .ok (.putfield 180, 3) := by decide +kernel
theorem dX12_init_453 : decode cX12_init 453 = .ok (.aload_n 0, 1) := by decide +kernel
theorem dX12_init_454 : decode cX12_init 454 = .ok (.bipush 8, 2) := by decide +kernel
theorem dX12_init_456 : decode cX12_init 456 = .ok (.newarray .int, 2) := by decide +kernel
theorem dX12_init_458 : decode cX12_init 458 = .ok (.putfield 183, 3) := by decide +kernel
theorem dX12_init_461 : decode cX12_init 461 = .ok (.aload_n 0, 1) := by decide +kernel
theorem dX12_init_462 : decode cX12_init 462 = .ok (.bipush 8, 2) := by decide +kernel
theorem dX12_init_464 : decode cX12_init 464 = .ok (.newarray .int, 2) := by decide +kernel
theorem dX12_init_466 : decode cX12_init 466 = .ok (.putfield 186, 3) := by decide +kernel
theorem dX12_init_469 : decode cX12_init 469 = .ok (.aload_n 0, 1) := by decide +kernel
theorem dX12_init_470 : decode cX12_init 470 = .ok (.bipush 8, 2) := by decide +kernel
theorem dX12_init_472 : decode cX12_init 472 = .ok (.newarray .int, 2) := by decide +kernel
theorem dX12_init_474 : decode cX12_init 474 = .ok (.putfield 189, 3) := by decide +kernel
theorem dX12_init_477 : decode cX12_init 477 = .ok (.aload_n 0, 1) := by decide +kernel
theorem dX12_init_478 : decode cX12_init 478 = .ok (.sipush 1024, 3) := by decide +kernel
theorem dX12_init_481 : decode cX12_init 481 = .ok (.newarray .boolean, 2) := by decide +kernel
theorem dX12_init_483 : decode cX12_init 483 = .ok (.putfield 192, 3) := by decide +kernel
theorem dX12_init_486 : decode cX12_init 486 = .ok (.aload_n 0, 1) := by decide +kernel
theorem dX12_init_487 : decode cX12_init 487 = .ok (.sipush 256, 3) := by decide +kernel
theorem dX12_init_490 : decode cX12_init 490 = .ok (.newarray .boolean, 2) := by decide +kernel
theorem dX12_init_492 : decode cX12_init 492 = .ok (.putfield 195, 3) := by decide +kernel
theorem dX12_init_495 : decode cX12_init 495 = .ok (.aload_n 0, 1) := by decide +kernel
theorem dX12_init_496 : decode cX12_init 496 = .ok (.sipush 256, 3) := by decide +kernel
theorem dX12_init_499 : decode cX12_init 499 = .ok (.newarray .boolean, 2) := by decide +kernel
theorem dX12_init_501 : decode cX12_init 501 = .ok (.putfield 198, 3) := by decide +kernel
theorem dX12_init_504 : decode cX12_init 504 = .ok (.aload_n 0, 1) := by decide +kernel
theorem dX12_init_505 : decode cX12_init 505 = .ok (.bipush 8, 2) := by decide +kernel
theorem dX12_init_507 : decode cX12_init 507 = .ok (.newarray .int, 2) := by decide +kernel
theorem dX12_init_509 : decode cX12_init 509 = .ok (.putfield 201, 3) := by decide +kernel
theorem dX12_init_512 : decode cX12_init 512 = .ok (.aload_n 0, 1) := by decide +kernel
theorem dX12_init_513 : decode cX12_init 513 = .ok (.bipush 96, 2) := by decide +kernel
theorem dX12_init_515 : decode cX12_init 515 = .ok (.newarray .boolean, 2) := by decide +kernel
theorem dX12_init_517 : decode cX12_init 517 = .ok (.putfield 204, 3) := by decide +kernel
theorem dX12_init_520 : decode cX12_init 520 = .ok (.aload_n 0, 1) := by decide +kernel
theorem dX12_init_521 : decode cX12_init 521 = .ok (.bipush 8, 2) := by decide +kernel
theorem dX12_init_523 : decode cX12_init 523 = .ok (.newarray .int, 2) := by decide +kernel
theorem dX12_init_525 : decode cX12_init 525 = .ok (.putfield 207, 3) := by decide +kernel
theorem dX12_init_528 : decode cX12_init 528 = .ok (.aload_n 0, 1) := by decide +kernel
theorem dX12_init_529 : decode cX12_init 529 = .ok (.bipush 8, 2) := by decide +kernel
theorem dX12_init_531 : decode cX12_init 531 = .ok (.newarray .int, 2) := by decide +kernel
theorem dX12_init_533 : decode cX12_init 533 = .ok (.putfield 210, 3) := by decide +kernel
theorem dX12_init_536 : decode cX12_init 536 = .ok (.aload_n 0, 1) := by decide +kernel
theorem dX12_init_537 : decode cX12_init 537 = .ok (.bipush 8, 2) := by decide +kernel
theorem dX12_init_539 : decode cX12_init 539 = .ok (.newarray .int, 2) := by decide +kernel
theorem dX12_init_541 : decode cX12_init 541 = .ok (.putfield 213, 3) := by decide +kernel
theorem dX12_init_544 : decode cX12_init 544 = .ok (.aload_n 0, 1) := by decide +kernel
theorem dX12_init_545 : decode cX12_init 545 = .ok (.bipush 9, 2) := by decide +kernel
theorem dX12_init_547 : decode cX12_init 547 = .ok (.newarray .int, 2) := by decide +kernel
theorem dX12_init_549 : decode cX12_init 549 = .ok (.putfield 216, 3) := by decide +kernel
theorem dX12_init_552 : decode cX12_init 552 = .ok (.aload_n 0, 1) := by decide +kernel
theorem dX12_init_553 : decode cX12_init 553 = .ok (.iconst 1, 1) := by decide +kernel
theorem dX12_init_554 : decode cX12_init 554 = .ok (.putfield 219, 3) := by decide +kernel
theorem dX12_init_557 : decode cX12_init 557 = .ok (.aload_n 0, 1) := by decide +kernel
theorem dX12_init_558 : decode cX12_init 558 = .ok (.sipush 200, 3) := by decide +kernel
theorem dX12_init_561 : decode cX12_init 561 = .ok (.newarray .int, 2) := by decide +kernel
theorem dX12_init_563 : decode cX12_init 563 = .ok (.putfield 222, 3) := by decide +kernel
theorem dX12_init_566 : decode cX12_init 566 = .ok (.aload_n 0, 1) := by decide +kernel
theorem dX12_init_567 : decode cX12_init 567 = .ok (.sipush 200, 3) := by decide +kernel
theorem dX12_init_570 : decode cX12_init 570 = .ok (.newarray .int, 2) := by decide +kernel
theorem dX12_init_572 : decode cX12_init 572 = .ok (.putfield 225, 3) := by decide +kernel
theorem dX12_init_575 : decode cX12_init 575 = .ok (.aload_n 0, 1) := by decide +kernel
theorem dX12_init_576 : decode cX12_init 576 = .ok (.sipush 200, 3) := by decide +kernel
theorem dX12_init_579 : decode cX12_init 579 = .ok (.newarray .int, 2) := by decide +kernel
theorem dX12_init_581 : decode cX12_init 581 = .ok (.putfield 228, 3) := by decide +kernel
theorem dX12_init_584 : decode cX12_init 584 = .ok (.aload_n 0, 1) := by decide +kernel
theorem dX12_init_585 : decode cX12_init 585 = .ok (.sipush 200, 3) := by decide +kernel
theorem dX12_init_588 : decode cX12_init 588 = .ok (.newarray .int, 2) := by decide +kernel
theorem dX12_init_590 : decode cX12_init 590 = .ok (.putfield 231, 3) := by decide +kernel
theorem dX12_init_593 : decode cX12_init 593 = .ok (.aload_n 0, 1) := by decide +kernel
theorem dX12_init_594 : decode cX12_init 594 = .ok (.bipush 19, 2) := by decide +kernel
theorem dX12_init_596 : decode cX12_init 596 = .ok (.newarray .int, 2) := by decide +kernel
theorem dX12_init_598 : decode cX12_init 598 = .ok (.putfield 234, 3) := by decide +kernel
theorem dX12_init_601 : decode cX12_init 601 = .ok (.aload_n 0, 1) := by decide +kernel
theorem dX12_init_602 : decode cX12_init 602 = .ok (.bipush 19, 2) := by decide +kernel
theorem dX12_init_604 : decode cX12_init 604 = .ok (.newarray .int, 2) := by decide +kernel
theorem dX12_init_606 : decode cX12_init 606 = .ok (.putfield 237, 3) := by decide +kernel
theorem dX12_init_609 : decode cX12_init 609 = .ok (.aload_n 0, 1) := by decide +kernel
theorem dX12_init_610 : decode cX12_init 610 = .ok (.bipush 8, 2) := by decide +kernel
theorem dX12_init_612 : decode cX12_init 612 = .ok (.newarray .int, 2) := by decide +kernel
theorem dX12_init_614 : decode cX12_init 614 = .ok (.putfield 240, 3) := by decide +kernel
theorem dX12_init_617 : decode cX12_init 617 = .ok (.iconst 0, 1) := by decide +kernel
theorem dX12_init_618 : decode cX12_init 618 = .ok (.istore_n 1, 1) := by decide +kernel
theorem dX12_init_619 : decode cX12_init 619 = .ok (.iload_n 1, 1) := by decide +kernel
theorem dX12_init_620 : decode cX12_init 620 = .ok (.bipush 8, 2) := by decide +kernel
theorem dX12_init_622 : decode cX12_init 622 = .ok (.if_icmp .ge 27, 3) := by decide +kernel
theorem dX12_init_625 : decode cX12_init 625 = .ok (.aload_n 0, 1) := by decide +kernel
theorem dX12_init_626 : decode cX12_init 626 = .ok (.getfield 71, 3) := by decide +kernel
theorem dX12_init_629 : decode cX12_init 629 = .ok (.iload_n 1, 1) := by decide +kernel
theorem dX12_init_630 : decode cX12_init 630 = .ok (.sipush 255, 3) := by decide +kernel
theorem dX12_init_633 : decode cX12_init 633 = .ok (.iastore, 1) := by decide +kernel
theorem dX12_init_634 : decode cX12_init 634 = .ok (.aload_n 0, 1) := by decide +kernel
theorem dX12_init_635 : decode cX12_init 635 = .ok (.getfield 77, 3) := by decide +kernel
theorem dX12_init_638 : decode cX12_init 638 = .ok (.iload_n 1, 1) := by decide +kernel
theorem dX12_init_639 : decode cX12_init 639 = .ok (.sipush 364, 3) := by decide +kernel
theorem dX12_init_642 : decode cX12_init 642 = .ok (.iastore, 1) := by decide +kernel
theorem dX12_init_643 : decode cX12_init 643 = .ok (.iinc 1 1, 3) := by decide +kernel
theorem dX12_init_646 : decode cX12_init 646 = .ok (.goto (-27), 3) := by decide +kernel
theorem dX12_init_649 : decode cX12_init 649 = .ok (.iconst 0, 1) := by decide +kernel
theorem dX12_init_650 : decode cX12_init 650 = .ok (.istore_n 1, 1) := by decide +kernel
theorem dX12_init_651 : decode cX12_init 651 = .ok (.iload_n 1, 1) := by decide +kernel
theorem dX12_init_652 : decode cX12_init 652 = .ok (.iconst 4, 1) := by decide +kernel
theorem dX12_init_653 : decode cX12_init 653 = .ok (.if_icmp .ge 17, 3) := by decide +kernel
theorem dX12_init_656 : decode cX12_init 656 = .ok (.aload_n 0, 1) := by decide +kernel
theorem dX12_init_657 : decode cX12_init 657 = .ok (.getfield 177, 3) := by decide +kernel
theorem dX12_init_660 : decode cX12_init 660 = .ok (.iload_n 1, 1) := by decide +kernel
theorem dX12_init_661 : decode cX12_init 661 = .ok (.bipush (-9), 2) := by decide +kernel
theorem dX12_init_663 : decode cX12_init 663 = .ok (.iastore, 1) := by decide +kernel
theorem dX12_init_664 : decode cX12_init 664 = .ok (.iinc 1 1, 3) := by decide +kernel
theorem dX12_init_667 : decode cX12_init 667 = .ok (.goto (-16), 3) := by decide +kernel
theorem dX12_init_670 : decode cX12_init 670 = .ok (.iconst 0, 1) := by decide +kernel
theorem dX12_init_671 : decode cX12_init 671 = .ok (.istore_n 1, 1) := by decide +kernel
theorem dX12_init_672 : decode cX12_init 672 = .ok (.iload_n 1, 1) := by decide +kernel
theorem dX12_init_673 : decode cX12_init 673 = .ok (.bipush 9, 2) := by decide +kernel
theorem dX12_init_675 : decode cX12_init 675 = .ok (.if_icmp .ge 17, 3) := by decide +kernel
theorem dX12_init_678 : decode cX12_init 678 = .ok (.aload_n 0, 1) := by decide +kernel
theorem dX12_init_679 : decode cX12_init 679 = .ok (.getfield 216, 3) := by decide +kernel
theorem dX12_init_682 : decode cX12_init 682 = .ok (.iload_n 1, 1) := by decide +kernel
theorem dX12_init_683 : decode cX12_init 683 = .ok (.bipush 100, 2) := by decide +kernel
theorem dX12_init_685 : decode cX12_init 685 = .ok (.iastore, 1) := by decide +kernel
theorem dX12_init_686 : decode cX12_init 686 = .ok (.iinc 1 1, 3) := by decide +kernel
theorem dX12_init_689 : decode cX12_init 689 = .ok (.goto (-17), 3) := by decide +kernel
theorem dX12_init_692 : decode cX12_init 692 = .ok (.aload_n 0, 1) := by decide +kernel
theorem dX12_init_693 : decode cX12_init 693 = .ok (.getfield 108, 3) := by decide +kernel
theorem dX12_init_696 : decode cX12_init 696 = .ok (.iconst 0, 1) := by decide +kernel
theorem dX12_init_697 : decode cX12_init 697 = .ok (.iconst 3, 1) := by decide +kernel
theorem dX12_init_698 : decode cX12_init 698 = .ok (.iastore, 1) := by decide +kernel
theorem dX12_init_699 : decode cX12_init 699 = .ok (.aload_n 0, 1) := by decide +kernel
theorem dX12_init_700 : decode cX12_init 700 = .ok (.getfield 108, 3) := by decide +kernel
theorem dX12_init_703 : decode cX12_init 703 = .ok (.iconst 1, 1) := by decide +kernel
theorem dX12_init_704 : decode cX12_init 704 = .ok (.iconst 1, 1) := by decide +kernel
theorem dX12_init_705 : decode cX12_init 705 = .ok (.iastore, 1) := by decide +kernel
theorem dX12_init_706 : decode cX12_init 706 = .ok (.aload_n 0, 1) := by decide +kernel
theorem dX12_init_707 : decode cX12_init 707 = .ok (.getfield 108, 3) := by decide +kernel
theorem dX12_init_710 : decode cX12_init 710 = .ok (.iconst 2, 1) := by decide +kernel
theorem dX12_init_711 : decode cX12_init 711 = .ok (.iconst 5, 1) := by decide +kernel
theorem dX12_init_712 : decode cX12_init 712 = .ok (.iastore, 1) := by decide +kernel
theorem dX12_init_713 : decode cX12_init 713 = .ok (.return_, 1) := by decide +kernel
theorem dX12_in_0 : decode cX12_in 0 = .ok (.lload_n 0, 1) := by decide +kernel
theorem dX12_in_1 : decode cX12_in 1 = .ok (.lload_n 2, 1) := by decide +kernel
theorem dX12_in_2 : decode cX12_in 2 = .ok (.lcmp, 1) := by decide +kernel
theorem dX12_in_3 : decode cX12_in 3 = .ok (.ifCond .lt 14, 3) := by decide +kernel
theorem dX12_in_6 : decode cX12_in 6 = .ok (.lload_n 0, 1) := by decide +kernel
theorem dX12_in_7 : decode cX12_in 7 = .ok (.lload 4, 2) := by decide +kernel
theorem dX12_in_9 : decode cX12_in 9 = .ok (.lcmp, 1) := by decide +kernel
theorem dX12_in_10 : decode cX12_in 10 = .ok (.ifCond .gt 7, 3) := by decide +kernel
theorem dX12_in_13 : decode cX12_in 13 = .ok (.iconst 1, 1) := by decide +kernel
theorem dX12_in_14 : decode cX12_in 14 = .ok (.goto 4, 3) := by decide +kernel
theorem dX12_in_17 : decode cX12_in 17 = .ok (.iconst 0, 1) := by decide +kernel
theorem dX12_in_18 : decode cX12_in 18 = .ok (.ireturn, 1) := by decide +kernel
theorem dX12_isHour_0 : decode cX12_isHour 0 = .ok (.iload_n 0, 1) := by decide +kernel
theorem dX12_isHour_1 : decode cX12_isHour 1 = .ok (.i2l, 1) := by decide +kernel
theorem dX12_isHour_2 : decode cX12_isHour 2 = .ok (.lconst 0, 1) := by decide +kernel
theorem dX12_isHour_3 : decode cX12_isHour 3 = .ok (.ldc2_w 243, 3) := by decide +kernel
theorem dX12_isHour_6 : decode cX12_isHour 6 = .ok (.invokestatic 245, 3) := by decide +kernel
theorem dX12_isHour_9 : decode cX12_isHour 9 = .ok (.ireturn, 1) := by decide +kernel
theorem dX12_isDay_0 : decode cX12_isDay 0 = .ok (.iload_n 0, 1) := by decide +kernel
theorem dX12_isDay_1 : decode cX12_isDay 1 = .ok (.i2l, 1) := by decide +kernel
theorem dX12_isDay_2 : decode cX12_isDay 2 = .ok (.lconst 0, 1) := by decide +kernel
theorem dX12_isDay_3 : decode cX12_isDay 3 = .ok (.ldc2_w 249, 3) := by decide +kernel
theorem dX12_isDay_6 : decode cX12_isDay 6 = .ok (.invokestatic 245, 3) := by decide +kernel
theorem dX12_isDay_9 : decode cX12_isDay 9 = .ok (.ireturn, 1) := by decide +kernel
theorem dX12_isPlace_0 : decode cX12_isPlace 0 = .ok (.iload_n 0, 1) := by decide +kernel
theorem dX12_isPlace_1 : decode cX12_isPlace 1 = .ok (.i2l, 1) := by decide +kernel
theorem dX12_isPlace_2 : decode cX12_isPlace 2 = .ok (.lconst 0, 1) := by decide +kernel
theorem dX12_isPlace_3 : decode cX12_isPlace 3 = .ok (.ldc2_w 251, 3) := by decide +kernel
theorem dX12_isPlace_6 : decode cX12_isPlace 6 = .ok (.invokestatic 245, 3) := by decide +kernel
theorem dX12_isPlace_9 : decode cX12_isPlace 9 = .ok (.ireturn, 1) := by decide +kernel
theorem dX12_pass_0 : decode cX12_pass 0 = .ok (.iload_n 1, 1) := by decide +kernel
theorem dX12_pass_1 : decode cX12_pass 1 = .ok (.i2l, 1) := by decide +kernel
theorem dX12_pass_2 : decode cX12_pass 2 = .ok (.lconst 1, 1) := by decide +kernel
theorem dX12_pass_3 : decode cX12_pass 3 = .ok (.ldc2_w 253, 3) := by decide +kernel
theorem dX12_pass_6 : decode cX12_pass 6 = .ok (.invokestatic 245, 3) := by decide +kernel
theorem dX12_pass_9 : decode cX12_pass 9 = .ok (.ifCond .ne 6, 3) := by decide +kernel
theorem dX12_pass_12 : decode cX12_pass 12 = .ok (.bipush (-2), 2) := by decide +kernel
theorem dX12_pass_14 : decode cX12_pass 14 = .ok (.ireturn, 1) := by decide +kernel
theorem dX12_pass_15 : decode cX12_pass 15 = .ok (.aload_n 0, 1) := by decide +kernel
theorem dX12_pass_16 : decode cX12_pass 16 = .ok (.getfield 255, 3) := by decide +kernel
theorem dX12_pass_19 : decode cX12_pass 19 = .ok (.iload_n 1, 1) := by decide +kernel
theorem dX12_pass_20 : decode cX12_pass 20 = .ok (.iadd, 1) := by decide +kernel
theorem dX12_pass_21 : decode cX12_pass 21 = .ok (.sipush 9999, 3) := by decide +kernel
theorem dX12_pass_24 : decode cX12_pass 24 = .ok (.if_icmp .le 6, 3) := by decide +kernel
theorem dX12_pass_27 : decode cX12_pass 27 = .ok (.bipush (-4), 2) := by decide +kernel
theorem dX12_pass_29 : decode cX12_pass 29 = .ok (.ireturn, 1) := by decide +kernel
theorem dX12_pass_30 : decode cX12_pass 30 = .ok (.aload_n 0, 1) := by decide +kernel
theorem dX12_pass_31 : decode cX12_pass 31 = .ok (.dup, 1) := by decide +kernel
theorem dX12_pass_32 : decode cX12_pass 32 = .ok (.getfield 255, 3) := by decide +kernel
theorem dX12_pass_35 : decode cX12_pass 35 = .ok (.iload_n 1, 1) := by decide +kernel
theorem dX12_pass_36 : decode cX12_pass 36 = .ok (.iadd, 1) := by decide +kernel
theorem dX12_pass_37 : decode cX12_pass 37 = .ok (.putfield 255, 3) := by decide +kernel
theorem dX12_pass_40 : decode cX12_pass 40 = .ok (.aload_n 0, 1) := by decide +kernel
theorem dX12_pass_41 : decode cX12_pass 41 = .ok (.getfield 255, 3) := by decide +kernel
theorem dX12_pass_44 : decode cX12_pass 44 = .ok (.ireturn, 1) := by decide +kernel
theorem dX12_way_0 : decode cX12_way 0 = .ok (.iload_n 1, 1) := by decide +kernel
theorem dX12_way_1 : decode cX12_way 1 = .ok (.invokestatic 258, 3) := by decide +kernel
theorem dX12_way_4 : decode cX12_way 4 = .ok (.ifCond .eq 10, 3) := by decide +kernel
theorem dX12_way_7 : decode cX12_way 7 = .ok (.iload_n 2, 1) := by decide +kernel
theorem dX12_way_8 : decode cX12_way 8 = .ok (.invokestatic 258, 3) := by decide +kernel
theorem dX12_way_11 : decode cX12_way 11 = .ok (.ifCond .ne 5, 3) := by decide +kernel
theorem dX12_way_14 : decode cX12_way 14 = .ok (.iconst (-1), 1) := by decide +kernel
theorem dX12_way_15 : decode cX12_way 15 = .ok (.ireturn, 1) := by decide +kernel
theorem dX12_way_16 : decode cX12_way 16 = .ok (.iload_n 3, 1) := by decide +kernel
theorem dX12_way_17 : decode cX12_way 17 = .ok (.invokestatic 262, 3) := by decide +kernel
theorem dX12_way_20 : decode cX12_way 20 = .ok (.ifCond .eq 42, 3) := by decide +kernel
theorem dX12_way_23 : decode cX12_way 23 = .ok (.iload 4, 2) := by decide +kernel
theorem dX12_way_25 : decode cX12_way 25 = .ok (.i2l, 1) := by decide +kernel
theorem dX12_way_26 : decode cX12_way 26 = .ok (.lconst 1, 1) := by decide +kernel
theorem dX12_way_27 : decode cX12_way 27 = .ok (.ldc2_w 253, 3) := by decide +kernel
theorem dX12_way_30 : decode cX12_way 30 = .ok (.invokestatic 245, 3) := by decide +kernel
theorem dX12_way_33 : decode cX12_way 33 = .ok (.ifCond .eq 29, 3) := by decide +kernel
theorem dX12_way_36 : decode cX12_way 36 = .ok (.iload 5, 2) := by decide +kernel
theorem dX12_way_38 : decode cX12_way 38 = .ok (.i2l, 1) := by decide +kernel
theorem dX12_way_39 : decode cX12_way 39 = .ok (.lconst 1, 1) := by decide +kernel
theorem dX12_way_40 : decode cX12_way 40 = .ok (.ldc2_w 253, 3) := by decide +kernel
theorem dX12_way_43 : decode cX12_way 43 = .ok (.invokestatic 245, 3) := by decide +kernel
theorem dX12_way_46 : decode cX12_way 46 = .ok (.ifCond .eq 16, 3) := by decide +kernel
theorem dX12_way_49 : decode cX12_way 49 = .ok (.iload 6, 2) := by decide +kernel
theorem dX12_way_51 : decode cX12_way 51 = .ok (.i2l, 1) := by decide +kernel
theorem dX12_way_52 : decode cX12_way 52 = .ok (.lconst 0, 1) := by decide +kernel
theorem dX12_way_53 : decode cX12_way 53 = .ok (.ldc2_w 265, 3) := by decide +kernel
theorem dX12_way_56 : decode cX12_way 56 = .ok (.invokestatic 245, 3) := by decide +kernel
theorem dX12_way_59 : decode cX12_way 59 = .ok (.ifCond .ne 6, 3) := by decide +kernel
theorem dX12_way_62 : decode cX12_way 62 = .ok (.bipush (-2), 2) := by decide +kernel
theorem dX12_way_64 : decode cX12_way 64 = .ok (.ireturn, 1) := by decide +kernel
theorem dX12_way_65 : decode cX12_way 65 = .ok (.iload_n 1, 1) := by decide +kernel
theorem dX12_way_66 : decode cX12_way 66 = .ok (.iload_n 2, 1) := by decide +kernel
theorem dX12_way_67 : decode cX12_way 67 = .ok (.if_icmp .ne 6, 3) := by decide +kernel
theorem dX12_way_70 : decode cX12_way 70 = .ok (.bipush (-3), 2) := by decide +kernel
theorem dX12_way_72 : decode cX12_way 72 = .ok (.ireturn, 1) := by decide +kernel
theorem dX12_way_73 : decode cX12_way 73 = .ok (.aload_n 0, 1) := by decide +kernel
theorem dX12_way_74 : decode cX12_way 74 = .ok (.getfield 267, 3) := by decide +kernel
theorem dX12_way_77 : decode cX12_way 77 = .ok (.bipush 24, 2) := by decide +kernel
theorem dX12_way_79 : decode cX12_way 79 = .ok (.if_icmp .ne 6, 3) := by decide +kernel
theorem dX12_way_82 : decode cX12_way 82 = .ok (.bipush (-4), 2) := by decide +kernel
theorem dX12_way_84 : decode cX12_way 84 = .ok (.ireturn, 1) := by decide +kernel
theorem dX12_way_85 : decode cX12_way 85 = .ok (.aload_n 0, 1) := by decide +kernel
theorem dX12_way_86 : decode cX12_way 86 = .ok (.getfield 7, 3) := by decide +kernel
theorem dX12_way_89 : decode cX12_way 89 = .ok (.aload_n 0, 1) := by decide +kernel
theorem dX12_way_90 : decode cX12_way 90 = .ok (.getfield 267, 3) := by decide +kernel
theorem dX12_way_93 : decode cX12_way 93 = .ok (.iload_n 1, 1) := by decide +kernel
theorem dX12_way_94 : decode cX12_way 94 = .ok (.iastore, 1) := by decide +kernel
theorem dX12_way_95 : decode cX12_way 95 = .ok (.aload_n 0, 1) := by decide +kernel
theorem dX12_way_96 : decode cX12_way 96 = .ok (.getfield 13, 3) := by decide +kernel
theorem dX12_way_99 : decode cX12_way 99 = .ok (.aload_n 0, 1) := by decide +kernel
theorem dX12_way_100 : decode cX12_way 100 = .ok (.getfield 267, 3) := by decide +kernel
theorem dX12_way_103 : decode cX12_way 103 = .ok (.iload_n 2, 1) := by decide +kernel
theorem dX12_way_104 : decode cX12_way 104 = .ok (.iastore, 1) := by decide +kernel
theorem dX12_way_105 : decode cX12_way 105 = .ok (.aload_n 0, 1) := by decide +kernel
theorem dX12_way_106 : decode cX12_way 106 = .ok (.getfield 16, 3) := by decide +kernel
theorem dX12_way_109 : decode cX12_way 109 = .ok (.aload_n 0, 1) := by decide +kernel
theorem dX12_way_110 : decode cX12_way 110 = .ok (.getfield 267, 3) := by decide +kernel
theorem dX12_way_113 : decode cX12_way 113 = .ok (.iload_n 3, 1) := by decide +kernel
theorem dX12_way_114 : decode cX12_way 114 = .ok (.iastore, 1) := by decide +kernel
theorem dX12_way_115 : decode cX12_way 115 = .ok (.aload_n 0, 1) := by decide +kernel
theorem dX12_way_116 : decode cX12_way 116 = .ok (.getfield 19, 3) := by decide +kernel
theorem dX12_way_119 : decode cX12_way 119 = .ok (.aload_n 0, 1) := by decide +kernel
theorem dX12_way_120 : decode cX12_way 120 = .ok (.getfield 267, 3) := by decide +kernel
theorem dX12_way_123 : decode cX12_way 123 = .ok (.iload 4, 2) := by decide +kernel
theorem dX12_way_125 : decode cX12_way 125 = .ok (.iastore, 1) := by decide +kernel
theorem dX12_way_126 : decode cX12_way 126 = .ok (.aload_n 0, 1) := by decide +kernel
theorem dX12_way_127 : decode cX12_way 127 = .ok (.getfield 22, 3) := by decide +kernel
theorem dX12_way_130 : decode cX12_way 130 = .ok (.aload_n 0, 1) := by decide +kernel
theorem dX12_way_131 : decode cX12_way 131 = .ok (.getfield 267, 3) := by decide +kernel
theorem dX12_way_134 : decode cX12_way 134 = .ok (.iload 5, 2) := by decide +kernel
theorem dX12_way_136 : decode cX12_way 136 = .ok (.iastore, 1) := by decide +kernel
theorem dX12_way_137 : decode cX12_way 137 = .ok (.aload_n 0, 1) := by decide +kernel
theorem dX12_way_138 : decode cX12_way 138 = .ok (.getfield 25, 3) := by decide +kernel
theorem dX12_way_141 : decode cX12_way 141 = .ok (.aload_n 0, 1) := by decide +kernel
theorem dX12_way_142 : decode cX12_way 142 = .ok (.getfield 267, 3) := by decide +kernel
theorem dX12_way_145 : decode cX12_way 145 = .ok (.iload 6, 2) := by decide +kernel
theorem dX12_way_147 : decode cX12_way 147 = .ok (.iastore, 1) := by decide +kernel
theorem dX12_way_148 : decode cX12_way 148 = .ok (.aload_n 0, 1) := by decide +kernel
theorem dX12_way_149 : decode cX12_way 149 = .ok (.dup, 1) := by decide +kernel
theorem dX12_way_150 : decode cX12_way 150 = .ok (.getfield 267, 3) := by decide +kernel
theorem dX12_way_153 : decode cX12_way 153 = .ok (.iconst 1, 1) := by decide +kernel
theorem dX12_way_154 : decode cX12_way 154 = .ok (.iadd, 1) := by decide +kernel
theorem dX12_way_155 : decode cX12_way 155 = .ok (.putfield 267, 3) := by decide +kernel
theorem dX12_way_158 : decode cX12_way 158 = .ok (.aload_n 0, 1) := by decide +kernel
theorem dX12_way_159 : decode cX12_way 159 = .ok (.getfield 267, 3) := by decide +kernel
theorem dX12_way_162 : decode cX12_way 162 = .ok (.iconst 1, 1) := by decide +kernel
theorem dX12_way_163 : decode cX12_way 163 = .ok (.isub, 1) := by decide +kernel
theorem dX12_way_164 : decode cX12_way 164 = .ok (.ireturn, 1) := by decide +kernel
theorem dX12_shut_0 : decode cX12_shut 0 = .ok (.iload_n 1, 1) := by decide +kernel
theorem dX12_shut_1 : decode cX12_shut 1 = .ok (.i2l, 1) := by decide +kernel
theorem dX12_shut_2 : decode cX12_shut 2 = .ok (.lconst 0, 1) := by decide +kernel
theorem dX12_shut_3 : decode cX12_shut 3 = .ok (.aload_n 0, 1) := by decide +kernel
theorem dX12_shut_4 : decode cX12_shut 4 = .ok (.getfield 267, 3) := by decide +kernel
theorem dX12_shut_7 : decode cX12_shut 7 = .ok (.iconst 1, 1) := by decide +kernel
theorem dX12_shut_8 : decode cX12_shut 8 = .ok (.isub, 1) := by decide +kernel
theorem dX12_shut_9 : decode cX12_shut 9 = .ok (.i2l, 1) := by decide +kernel
theorem dX12_shut_10 : decode cX12_shut 10 = .ok (.invokestatic 245, 3) := by decide +kernel
theorem dX12_shut_13 : decode cX12_shut 13 = .ok (.ifCond .ne 5, 3) := by decide +kernel
theorem dX12_shut_16 : decode cX12_shut 16 = .ok (.iconst (-1), 1) := by decide +kernel
theorem dX12_shut_17 : decode cX12_shut 17 = .ok (.ireturn, 1) := by decide +kernel
theorem dX12_shut_18 : decode cX12_shut 18 = .ok (.aload_n 0, 1) := by decide +kernel
theorem dX12_shut_19 : decode cX12_shut 19 = .ok (.getfield 28, 3) := by decide +kernel
theorem dX12_shut_22 : decode cX12_shut 22 = .ok (.iload_n 1, 1) := by decide +kernel
theorem dX12_shut_23 : decode cX12_shut 23 = .ok (.baload, 1) := by decide +kernel
theorem dX12_shut_24 : decode cX12_shut 24 = .ok (.ifCond .eq 6, 3) := by decide +kernel
theorem dX12_shut_27 : decode cX12_shut 27 = .ok (.bipush (-3), 2) := by decide +kernel
theorem dX12_shut_29 : decode cX12_shut 29 = .ok (.ireturn, 1) := by decide +kernel
theorem dX12_shut_30 : decode cX12_shut 30 = .ok (.aload_n 0, 1) := by decide +kernel
theorem dX12_shut_31 : decode cX12_shut 31 = .ok (.getfield 28, 3) := by decide +kernel
theorem dX12_shut_34 : decode cX12_shut 34 = .ok (.iload_n 1, 1) := by decide +kernel
theorem dX12_shut_35 : decode cX12_shut 35 = .ok (.iconst 1, 1) := by decide +kernel
theorem dX12_shut_36 : decode cX12_shut 36 = .ok (.bastore, 1) := by decide +kernel
theorem dX12_shut_37 : decode cX12_shut 37 = .ok (.iconst 1, 1) := by decide +kernel
theorem dX12_shut_38 : decode cX12_shut 38 = .ok (.ireturn, 1) := by decide +kernel
theorem dX12_by_0 : decode cX12_by 0 = .ok (.aload_n 0, 1) := by decide +kernel
theorem dX12_by_1 : decode cX12_by 1 = .ok (.getfield 16, 3) := by decide +kernel
theorem dX12_by_4 : decode cX12_by 4 = .ok (.iload_n 1, 1) := by decide +kernel
theorem dX12_by_5 : decode cX12_by 5 = .ok (.iaload, 1) := by decide +kernel
theorem dX12_by_6 : decode cX12_by 6 = .ok (.istore 4, 2) := by decide +kernel
theorem dX12_by_8 : decode cX12_by 8 = .ok (.iload_n 2, 1) := by decide +kernel
theorem dX12_by_9 : decode cX12_by 9 = .ok (.iload 4, 2) := by decide +kernel
theorem dX12_by_11 : decode cX12_by 11 = .ok (.if_icmp .le 35, 3) := by decide +kernel
theorem dX12_by_14 : decode cX12_by 14 = .ok (.iload 4, 2) := by decide +kernel
theorem dX12_by_16 : decode cX12_by 16 = .ok (.iload_n 2, 1) := by decide +kernel
theorem dX12_by_17 : decode cX12_by 17 = .ok (.iload 4, 2) := by decide +kernel
theorem dX12_by_19 : decode cX12_by 19 = .ok (.isub, 1) := by decide +kernel
theorem dX12_by_20 : decode cX12_by 20 = .ok (.aload_n 0, 1) := by decide +kernel
theorem dX12_by_21 : decode cX12_by 21 = .ok (.getfield 19, 3) := by decide +kernel
theorem dX12_by_24 : decode cX12_by 24 = .ok (.iload_n 1, 1) := by decide +kernel
theorem dX12_by_25 : decode cX12_by 25 = .ok (.iaload, 1) := by decide +kernel
theorem dX12_by_26 : decode cX12_by 26 = .ok (.iadd, 1) := by decide +kernel
theorem dX12_by_27 : decode cX12_by 27 = .ok (.iconst 1, 1) := by decide +kernel
theorem dX12_by_28 : decode cX12_by 28 = .ok (.isub, 1) := by decide +kernel
theorem dX12_by_29 : decode cX12_by 29 = .ok (.aload_n 0, 1) := by decide +kernel
theorem dX12_by_30 : decode cX12_by 30 = .ok (.getfield 19, 3) := by decide +kernel
theorem dX12_by_33 : decode cX12_by 33 = .ok (.iload_n 1, 1) := by decide +kernel
theorem dX12_by_34 : decode cX12_by 34 = .ok (.iaload, 1) := by decide +kernel
theorem dX12_by_35 : decode cX12_by 35 = .ok (.idiv, 1) := by decide +kernel
theorem dX12_by_36 : decode cX12_by 36 = .ok (.aload_n 0, 1) := by decide +kernel
theorem dX12_by_37 : decode cX12_by 37 = .ok (.getfield 19, 3) := by decide +kernel
theorem dX12_by_40 : decode cX12_by 40 = .ok (.iload_n 1, 1) := by decide +kernel
theorem dX12_by_41 : decode cX12_by 41 = .ok (.iaload, 1) := by decide +kernel
theorem dX12_by_42 : decode cX12_by 42 = .ok (.imul, 1) := by decide +kernel
theorem dX12_by_43 : decode cX12_by 43 = .ok (.iadd, 1) := by decide +kernel
theorem dX12_by_44 : decode cX12_by 44 = .ok (.istore 4, 2) := by decide +kernel
theorem dX12_by_46 : decode cX12_by 46 = .ok (.aload_n 0, 1) := by decide +kernel
theorem dX12_by_47 : decode cX12_by 47 = .ok (.getfield 28, 3) := by decide +kernel
theorem dX12_by_50 : decode cX12_by 50 = .ok (.iload_n 1, 1) := by decide +kernel
theorem dX12_by_51 : decode cX12_by 51 = .ok (.baload, 1) := by decide +kernel
theorem dX12_by_52 : decode cX12_by 52 = .ok (.ifCond .ne 11, 3) := by decide +kernel
theorem dX12_by_55 : decode cX12_by 55 = .ok (.iload 4, 2) := by decide +kernel
theorem dX12_by_57 : decode cX12_by 57 = .ok (.sipush 9999, 3) := by decide +kernel
theorem dX12_by_60 : decode cX12_by 60 = .ok (.if_icmp .le 9, 3) := by decide +kernel
theorem dX12_by_63 : decode cX12_by 63 = .ok (.ldc_w 270, 3) := by decide +kernel
theorem dX12_by_66 : decode cX12_by 66 = .ok (.goto 27, 3) := by decide +kernel
theorem dX12_by_69 : decode cX12_by 69 = .ok (.iload 4, 2) := by decide +kernel
theorem dX12_by_71 : decode cX12_by 71 = .ok (.aload_n 0, 1) := by decide +kernel
theorem dX12_by_72 : decode cX12_by 72 = .ok (.getfield 22, 3) := by decide +kernel
theorem dX12_by_75 : decode cX12_by 75 = .ok (.iload_n 1, 1) := by decide +kernel
theorem dX12_by_76 : decode cX12_by 76 = .ok (.iaload, 1) := by decide +kernel
theorem dX12_by_77 : decode cX12_by 77 = .ok (.iadd, 1) := by decide +kernel
theorem dX12_by_78 : decode cX12_by 78 = .ok (.iload_n 3, 1) := by decide +kernel
theorem dX12_by_79 : decode cX12_by 79 = .ok (.ifCond .eq 12, 3) := by decide +kernel
theorem dX12_by_82 : decode cX12_by 82 = .ok (.aload_n 0, 1) := by decide +kernel
theorem dX12_by_83 : decode cX12_by 83 = .ok (.getfield 25, 3) := by decide +kernel
theorem dX12_by_86 : decode cX12_by 86 = .ok (.iload_n 1, 1) := by decide +kernel
theorem dX12_by_87 : decode cX12_by 87 = .ok (.iaload, 1) := by decide +kernel
theorem dX12_by_88 : decode cX12_by 88 = .ok (.goto 4, 3) := by decide +kernel
theorem dX12_by_91 : decode cX12_by 91 = .ok (.iconst 0, 1) := by decide +kernel
theorem dX12_by_92 : decode cX12_by 92 = .ok (.iadd, 1) := by decide +kernel
theorem dX12_by_93 : decode cX12_by 93 = .ok (.ireturn, 1) := by decide +kernel
theorem dX12_arrives_0 : decode cX12_arrives 0 = .ok (.iconst 0, 1) := by decide +kernel
theorem dX12_arrives_1 : decode cX12_arrives 1 = .ok (.istore 5, 2) := by decide +kernel
theorem dX12_arrives_3 : decode cX12_arrives 3 = .ok (.iload 5, 2) := by decide +kernel
theorem dX12_arrives_5 : decode cX12_arrives 5 = .ok (.bipush 8, 2) := by decide +kernel
theorem dX12_arrives_7 : decode cX12_arrives 7 = .ok (.if_icmp .ge 29, 3) := by decide +kernel
theorem dX12_arrives_10 : decode cX12_arrives 10 = .ok (.aload_n 0, 1) := by decide +kernel
theorem dX12_arrives_11 : decode cX12_arrives 11 = .ok (.getfield 32, 3) := by decide +kernel
theorem dX12_arrives_14 : decode cX12_arrives 14 = .ok (.iload 5, 2) := by decide +kernel
theorem dX12_arrives_16 : decode cX12_arrives 16 = .ok (.iload 5, 2) := by decide +kernel
theorem dX12_arrives_18 : decode cX12_arrives 18 = .ok (.iload_n 1, 1) := by decide +kernel
theorem dX12_arrives_19 : decode cX12_arrives 19 = .ok (.if_icmp .ne 7, 3) := by decide +kernel
theorem dX12_arrives_22 : decode cX12_arrives 22 = .ok (.iload_n 2, 1) := by decide +kernel
theorem dX12_arrives_23 : decode cX12_arrives 23 = .ok (.goto 6, 3) := by decide +kernel
theorem dX12_arrives_26 : decode cX12_arrives 26 = .ok (.ldc_w 270, 3) := by decide +kernel
theorem dX12_arrives_29 : decode cX12_arrives 29 = .ok (.iastore, 1) := by decide +kernel
theorem dX12_arrives_30 : decode cX12_arrives 30 = .ok (.iinc 5 1, 3) := by decide +kernel
theorem dX12_arrives_33 : decode cX12_arrives 33 = .ok (.goto (-30), 3) := by decide +kernel
theorem dX12_arrives_36 : decode cX12_arrives 36 = .ok (.iconst 1, 1) := by decide +kernel
theorem dX12_arrives_37 : decode cX12_arrives 37 = .ok (.istore 5, 2) := by decide +kernel
theorem dX12_arrives_39 : decode cX12_arrives 39 = .ok (.iload 5, 2) := by decide +kernel
theorem dX12_arrives_41 : decode cX12_arrives 41 = .ok (.ifCond .eq 107, 3) := by decide +kernel
theorem dX12_arrives_44 : decode cX12_arrives 44 = .ok (.iconst 0, 1) := by decide +kernel
theorem dX12_arrives_45 : decode cX12_arrives 45 = .ok (.istore 5, 2) := by decide +kernel
theorem dX12_arrives_47 : decode cX12_arrives 47 = .ok (.iconst 0, 1) := by decide +kernel
theorem dX12_arrives_48 : decode cX12_arrives 48 = .ok (.istore 6, 2) := by decide +kernel
theorem dX12_arrives_50 : decode cX12_arrives 50 = .ok (.iload 6, 2) := by decide +kernel
theorem dX12_arrives_52 : decode cX12_arrives 52 = .ok (.aload_n 0, 1) := by decide +kernel
theorem dX12_arrives_53 : decode cX12_arrives 53 = .ok (.getfield 267, 3) := by decide +kernel
theorem dX12_arrives_56 : decode cX12_arrives 56 = .ok (.if_icmp .ge 89, 3) := by decide +kernel
theorem dX12_arrives_59 : decode cX12_arrives 59 = .ok (.aload_n 0, 1) := by decide +kernel
theorem dX12_arrives_60 : decode cX12_arrives 60 = .ok (.getfield 32, 3) := by decide +kernel
theorem dX12_arrives_63 : decode cX12_arrives 63 = .ok (.aload_n 0, 1) := by decide +kernel
theorem dX12_arrives_64 : decode cX12_arrives 64 = .ok (.getfield 7, 3) := by decide +kernel
theorem dX12_arrives_67 : decode cX12_arrives 67 = .ok (.iload 6, 2) := by decide +kernel
theorem dX12_arrives_69 : decode cX12_arrives 69 = .ok (.iaload, 1) := by decide +kernel
theorem dX12_arrives_70 : decode cX12_arrives 70 = .ok (.iaload, 1) := by decide +kernel
theorem dX12_arrives_71 : decode cX12_arrives 71 = .ok (.ldc_w 270, 3) := by decide +kernel
theorem dX12_arrives_74 : decode cX12_arrives 74 = .ok (.if_icmp .ne 9, 3) := by decide +kernel
theorem dX12_arrives_77 : decode cX12_arrives 77 = .ok (.ldc_w 270, 3) := by decide +kernel
theorem dX12_arrives_80 : decode cX12_arrives 80 = .ok (.goto 23, 3) := by decide +kernel
theorem dX12_arrives_83 : decode cX12_arrives 83 = .ok (.aload_n 0, 1) := by decide +kernel
theorem dX12_arrives_84 : decode cX12_arrives 84 = .ok (.iload 6, 2) := by decide +kernel
theorem dX12_arrives_86 : decode cX12_arrives 86 = .ok (.aload_n 0, 1) := by decide +kernel
theorem dX12_arrives_87 : decode cX12_arrives 87 = .ok (.getfield 32, 3) := by decide +kernel
theorem dX12_arrives_90 : decode cX12_arrives 90 = .ok (.aload_n 0, 1) := by decide +kernel
theorem dX12_arrives_91 : decode cX12_arrives 91 = .ok (.getfield 7, 3) := by decide +kernel
theorem dX12_arrives_94 : decode cX12_arrives 94 = .ok (.iload 6, 2) := by decide +kernel
theorem dX12_arrives_96 : decode cX12_arrives 96 = .ok (.iaload, 1) := by decide +kernel
theorem dX12_arrives_97 : decode cX12_arrives 97 = .ok (.iaload, 1) := by decide +kernel
theorem dX12_arrives_98 : decode cX12_arrives 98 = .ok (.iload 4, 2) := by decide +kernel
theorem dX12_arrives_100 : decode cX12_arrives 100 = .ok (.invokevirtual 271, 3) := by decide +kernel
theorem dX12_arrives_103 : decode cX12_arrives 103 = .ok (.istore 7, 2) := by decide +kernel
theorem dX12_arrives_105 : decode cX12_arrives 105 = .ok (.iload 7, 2) := by decide +kernel
theorem dX12_arrives_107 : decode cX12_arrives 107 = .ok (.aload_n 0, 1) := by decide +kernel
theorem dX12_arrives_108 : decode cX12_arrives 108 = .ok (.getfield 32, 3) := by decide +kernel
theorem dX12_arrives_111 : decode cX12_arrives 111 = .ok (.aload_n 0, 1) := by decide +kernel
theorem dX12_arrives_112 : decode cX12_arrives 112 = .ok (.getfield 13, 3) := by decide +kernel
theorem dX12_arrives_115 : decode cX12_arrives 115 = .ok (.iload 6, 2) := by decide +kernel
theorem dX12_arrives_117 : decode cX12_arrives 117 = .ok (.iaload, 1) := by decide +kernel
theorem dX12_arrives_118 : decode cX12_arrives 118 = .ok (.iaload, 1) := by decide +kernel
theorem dX12_arrives_119 : decode cX12_arrives 119 = .ok (.if_icmp .ge 20, 3) := by decide +kernel
theorem dX12_arrives_122 : decode cX12_arrives 122 = .ok (.aload_n 0, 1) := by decide +kernel
theorem dX12_arrives_123 : decode cX12_arrives 123 = .ok (.getfield 32, 3) := by decide +kernel
theorem dX12_arrives_126 : decode cX12_arrives 126 = .ok (.aload_n 0, 1) := by decide +kernel
theorem dX12_arrives_127 : decode cX12_arrives 127 = .ok (.getfield 13, 3) := by decide +kernel
theorem dX12_arrives_130 : decode cX12_arrives 130 = .ok (.iload 6, 2) := by decide +kernel
theorem dX12_arrives_132 : decode cX12_arrives 132 = .ok (.iaload, 1) := by decide +kernel
theorem dX12_arrives_133 : decode cX12_arrives 133 = .ok (.iload 7, 2) := by decide +kernel
theorem dX12_arrives_135 : decode cX12_arrives 135 = .ok (.iastore, 1) := by decide +kernel
theorem dX12_arrives_136 : decode cX12_arrives 136 = .ok (.iconst 1, 1) := by decide +kernel
theorem dX12_arrives_137 : decode cX12_arrives 137 = .ok (.istore 5, 2) := by decide +kernel
theorem dX12_arrives_139 : decode cX12_arrives 139 = .ok (.iinc 6 1, 3) := by decide +kernel
theorem dX12_arrives_142 : decode cX12_arrives 142 = .ok (.goto (-92), 3) := by decide +kernel
theorem dX12_arrives_145 : decode cX12_arrives 145 = .ok (.goto (-106), 3) := by decide +kernel
theorem dX12_arrives_148 : decode cX12_arrives 148 = .ok (.aload_n 0, 1) := by decide +kernel
theorem dX12_arrives_149 : decode cX12_arrives 149 = .ok (.getfield 32, 3) := by decide +kernel
theorem dX12_arrives_152 : decode cX12_arrives 152 = .ok (.iload_n 3, 1) := by decide +kernel
theorem dX12_arrives_153 : decode cX12_arrives 153 = .ok (.iaload, 1) := by decide +kernel
theorem dX12_arrives_154 : decode cX12_arrives 154 = .ok (.ireturn, 1) := by decide +kernel
theorem dX12_arrival_0 : decode cX12_arrival 0 = .ok (.iload_n 1, 1) := by decide +kernel
theorem dX12_arrival_1 : decode cX12_arrival 1 = .ok (.invokestatic 258, 3) := by decide +kernel
theorem dX12_arrival_4 : decode cX12_arrival 4 = .ok (.ifCond .eq 10, 3) := by decide +kernel
theorem dX12_arrival_7 : decode cX12_arrival 7 = .ok (.iload_n 3, 1) := by decide +kernel
theorem dX12_arrival_8 : decode cX12_arrival 8 = .ok (.invokestatic 258, 3) := by decide +kernel
theorem dX12_arrival_11 : decode cX12_arrival 11 = .ok (.ifCond .ne 5, 3) := by decide +kernel
theorem dX12_arrival_14 : decode cX12_arrival 14 = .ok (.iconst (-1), 1) := by decide +kernel
theorem dX12_arrival_15 : decode cX12_arrival 15 = .ok (.ireturn, 1) := by decide +kernel
theorem dX12_arrival_16 : decode cX12_arrival 16 = .ok (.iload_n 2, 1) := by decide +kernel
theorem dX12_arrival_17 : decode cX12_arrival 17 = .ok (.invokestatic 262, 3) := by decide +kernel
theorem dX12_arrival_20 : decode cX12_arrival 20 = .ok (.ifCond .ne 6, 3) := by decide +kernel
theorem dX12_arrival_23 : decode cX12_arrival 23 = .ok (.bipush (-2), 2) := by decide +kernel
theorem dX12_arrival_25 : decode cX12_arrival 25 = .ok (.ireturn, 1) := by decide +kernel
theorem dX12_arrival_26 : decode cX12_arrival 26 = .ok (.aload_n 0, 1) := by decide +kernel
theorem dX12_arrival_27 : decode cX12_arrival 27 = .ok (.iload_n 1, 1) := by decide +kernel
theorem dX12_arrival_28 : decode cX12_arrival 28 = .ok (.iload_n 2, 1) := by decide +kernel
theorem dX12_arrival_29 : decode cX12_arrival 29 = .ok (.iload_n 3, 1) := by decide +kernel
theorem dX12_arrival_30 : decode cX12_arrival 30 = .ok (.iload 4, 2) := by decide +kernel
theorem dX12_arrival_32 : decode cX12_arrival 32 = .ok (.invokevirtual 275, 3) := by decide +kernel
theorem dX12_arrival_35 : decode cX12_arrival 35 = .ok (.istore 5, 2) := by decide +kernel
theorem dX12_arrival_37 : decode cX12_arrival 37 = .ok (.iload 5, 2) := by decide +kernel
theorem dX12_arrival_39 : decode cX12_arrival 39 = .ok (.ldc_w 270, 3) := by decide +kernel
theorem dX12_arrival_42 : decode cX12_arrival 42 = .ok (.if_icmp .ne 8, 3) := by decide +kernel
theorem dX12_arrival_45 : decode cX12_arrival 45 = .ok (.bipush (-9), 2) := by decide +kernel
theorem dX12_arrival_47 : decode cX12_arrival 47 = .ok (.goto 5, 3) := by decide +kernel
theorem dX12_arrival_50 : decode cX12_arrival 50 = .ok (.iload 5, 2) := by decide +kernel
theorem dX12_arrival_52 : decode cX12_arrival 52 = .ok (.ireturn, 1) := by decide +kernel
theorem dX12_isShot_0 : decode cX12_isShot 0 = .ok (.iload_n 1, 1) := by decide +kernel
theorem dX12_isShot_1 : decode cX12_isShot 1 = .ok (.i2l, 1) := by decide +kernel
theorem dX12_isShot_2 : decode cX12_isShot 2 = .ok (.lconst 0, 1) := by decide +kernel
theorem dX12_isShot_3 : decode cX12_isShot 3 = .ok (.aload_n 0, 1) := by decide +kernel
theorem dX12_isShot_4 : decode cX12_isShot 4 = .ok (.getfield 279, 3) := by decide +kernel
theorem dX12_isShot_7 : decode cX12_isShot 7 = .ok (.iconst 1, 1) := by decide +kernel
theorem dX12_isShot_8 : decode cX12_isShot 8 = .ok (.isub, 1) := by decide +kernel
theorem dX12_isShot_9 : decode cX12_isShot 9 = .ok (.i2l, 1) := by decide +kernel
theorem dX12_isShot_10 : decode cX12_isShot 10 = .ok (.invokestatic 245, 3) := by decide +kernel
theorem dX12_isShot_13 : decode cX12_isShot 13 = .ok (.ireturn, 1) := by decide +kernel
theorem dX12_shot_0 : decode cX12_shot 0 = .ok (.iload_n 1, 1) := by decide +kernel
theorem dX12_shot_1 : decode cX12_shot 1 = .ok (.invokestatic 258, 3) := by decide +kernel
theorem dX12_shot_4 : decode cX12_shot 4 = .ok (.ifCond .ne 5, 3) := by decide +kernel
theorem dX12_shot_7 : decode cX12_shot 7 = .ok (.iconst (-1), 1) := by decide +kernel
theorem dX12_shot_8 : decode cX12_shot 8 = .ok (.ireturn, 1) := by decide +kernel
theorem dX12_shot_9 : decode cX12_shot 9 = .ok (.iload_n 2, 1) := by decide +kernel
theorem dX12_shot_10 : decode cX12_shot 10 = .ok (.i2l, 1) := by decide +kernel
theorem dX12_shot_11 : decode cX12_shot 11 = .ok (.lconst 0, 1) := by decide +kernel
theorem dX12_shot_12 : decode cX12_shot 12 = .ok (.aload_n 0, 1) := by decide +kernel
theorem dX12_shot_13 : decode cX12_shot 13 = .ok (.getfield 255, 3) := by decide +kernel
theorem dX12_shot_16 : decode cX12_shot 16 = .ok (.i2l, 1) := by decide +kernel
theorem dX12_shot_17 : decode cX12_shot 17 = .ok (.invokestatic 245, 3) := by decide +kernel
theorem dX12_shot_20 : decode cX12_shot 20 = .ok (.ifCond .eq 54, 3) := by decide +kernel
theorem dX12_shot_23 : decode cX12_shot 23 = .ok (.iload_n 3, 1) := by decide +kernel
theorem dX12_shot_24 : decode cX12_shot 24 = .ok (.i2l, 1) := by decide +kernel
theorem dX12_shot_25 : decode cX12_shot 25 = .ok (.lconst 1, 1) := by decide +kernel
theorem dX12_shot_26 : decode cX12_shot 26 = .ok (.ldc2_w 282, 3) := by decide +kernel
theorem dX12_shot_29 : decode cX12_shot 29 = .ok (.invokestatic 245, 3) := by decide +kernel
theorem dX12_shot_32 : decode cX12_shot 32 = .ok (.ifCond .eq 42, 3) := by decide +kernel
theorem dX12_shot_35 : decode cX12_shot 35 = .ok (.iload 4, 2) := by decide +kernel
theorem dX12_shot_37 : decode cX12_shot 37 = .ok (.i2l, 1) := by decide +kernel
theorem dX12_shot_38 : decode cX12_shot 38 = .ok (.lconst 0, 1) := by decide +kernel
theorem dX12_shot_39 : decode cX12_shot 39 = .ok (.ldc2_w 284, 3) := by decide +kernel
theorem dX12_shot_42 : decode cX12_shot 42 = .ok (.invokestatic 245, 3) := by decide +kernel
theorem dX12_shot_45 : decode cX12_shot 45 = .ok (.ifCond .eq 29, 3) := by decide +kernel
theorem dX12_shot_48 : decode cX12_shot 48 = .ok (.iload 5, 2) := by decide +kernel
theorem dX12_shot_50 : decode cX12_shot 50 = .ok (.i2l, 1) := by decide +kernel
theorem dX12_shot_51 : decode cX12_shot 51 = .ok (.lconst 0, 1) := by decide +kernel
theorem dX12_shot_52 : decode cX12_shot 52 = .ok (.ldc2_w 286, 3) := by decide +kernel
theorem dX12_shot_55 : decode cX12_shot 55 = .ok (.invokestatic 245, 3) := by decide +kernel
theorem dX12_shot_58 : decode cX12_shot 58 = .ok (.ifCond .eq 16, 3) := by decide +kernel
theorem dX12_shot_61 : decode cX12_shot 61 = .ok (.iload 6, 2) := by decide +kernel
theorem dX12_shot_63 : decode cX12_shot 63 = .ok (.i2l, 1) := by decide +kernel
theorem dX12_shot_64 : decode cX12_shot 64 = .ok (.lconst 0, 1) := by decide +kernel
theorem dX12_shot_65 : decode cX12_shot 65 = .ok (.ldc2_w 288, 3) := by decide +kernel
theorem dX12_shot_68 : decode cX12_shot 68 = .ok (.invokestatic 245, 3) := by decide +kernel
theorem dX12_shot_71 : decode cX12_shot 71 = .ok (.ifCond .ne 6, 3) := by decide +kernel
theorem dX12_shot_74 : decode cX12_shot 74 = .ok (.bipush (-2), 2) := by decide +kernel
theorem dX12_shot_76 : decode cX12_shot 76 = .ok (.ireturn, 1) := by decide +kernel
theorem dX12_shot_77 : decode cX12_shot 77 = .ok (.aload_n 0, 1) := by decide +kernel
theorem dX12_shot_78 : decode cX12_shot 78 = .ok (.getfield 279, 3) := by decide +kernel
theorem dX12_shot_81 : decode cX12_shot 81 = .ok (.bipush 40, 2) := by decide +kernel
theorem dX12_shot_83 : decode cX12_shot 83 = .ok (.if_icmp .ne 6, 3) := by decide +kernel
theorem dX12_shot_86 : decode cX12_shot 86 = .ok (.bipush (-4), 2) := by decide +kernel
theorem dX12_shot_88 : decode cX12_shot 88 = .ok (.ireturn, 1) := by decide +kernel
theorem dX12_shot_89 : decode cX12_shot 89 = .ok (.aload_n 0, 1) := by decide +kernel
theorem dX12_shot_90 : decode cX12_shot 90 = .ok (.getfield 35, 3) := by decide +kernel
theorem dX12_shot_93 : decode cX12_shot 93 = .ok (.aload_n 0, 1) := by decide +kernel
theorem dX12_shot_94 : decode cX12_shot 94 = .ok (.getfield 279, 3) := by decide +kernel
theorem dX12_shot_97 : decode cX12_shot 97 = .ok (.iload_n 1, 1) := by decide +kernel
theorem dX12_shot_98 : decode cX12_shot 98 = .ok (.iastore, 1) := by decide +kernel
theorem dX12_shot_99 : decode cX12_shot 99 = .ok (.aload_n 0, 1) := by decide +kernel
theorem dX12_shot_100 : decode cX12_shot 100 = .ok (.getfield 38, 3) := by decide +kernel
theorem dX12_shot_103 : decode cX12_shot 103 = .ok (.aload_n 0, 1) := by decide +kernel
theorem dX12_shot_104 : decode cX12_shot 104 = .ok (.getfield 279, 3) := by decide +kernel
theorem dX12_shot_107 : decode cX12_shot 107 = .ok (.iload_n 2, 1) := by decide +kernel
theorem dX12_shot_108 : decode cX12_shot 108 = .ok (.iastore, 1) := by decide +kernel
theorem dX12_shot_109 : decode cX12_shot 109 = .ok (.aload_n 0, 1) := by decide +kernel
theorem dX12_shot_110 : decode cX12_shot 110 = .ok (.getfield 41, 3) := by decide +kernel
theorem dX12_shot_113 : decode cX12_shot 113 = .ok (.aload_n 0, 1) := by decide +kernel
theorem dX12_shot_114 : decode cX12_shot 114 = .ok (.getfield 279, 3) := by decide +kernel
theorem dX12_shot_117 : decode cX12_shot 117 = .ok (.iload_n 3, 1) := by decide +kernel
theorem dX12_shot_118 : decode cX12_shot 118 = .ok (.iastore, 1) := by decide +kernel
theorem dX12_shot_119 : decode cX12_shot 119 = .ok (.aload_n 0, 1) := by decide +kernel
theorem dX12_shot_120 : decode cX12_shot 120 = .ok (.getfield 44, 3) := by decide +kernel
theorem dX12_shot_123 : decode cX12_shot 123 = .ok (.aload_n 0, 1) := by decide +kernel
theorem dX12_shot_124 : decode cX12_shot 124 = .ok (.getfield 279, 3) := by decide +kernel
theorem dX12_shot_127 : decode cX12_shot 127 = .ok (.iload 4, 2) := by decide +kernel
theorem dX12_shot_129 : decode cX12_shot 129 = .ok (.iastore, 1) := by decide +kernel
theorem dX12_shot_130 : decode cX12_shot 130 = .ok (.aload_n 0, 1) := by decide +kernel
theorem dX12_shot_131 : decode cX12_shot 131 = .ok (.getfield 47, 3) := by decide +kernel
theorem dX12_shot_134 : decode cX12_shot 134 = .ok (.aload_n 0, 1) := by decide +kernel
theorem dX12_shot_135 : decode cX12_shot 135 = .ok (.getfield 279, 3) := by decide +kernel
theorem dX12_shot_138 : decode cX12_shot 138 = .ok (.iload 5, 2) := by decide +kernel
theorem dX12_shot_140 : decode cX12_shot 140 = .ok (.iastore, 1) := by decide +kernel
theorem dX12_shot_141 : decode cX12_shot 141 = .ok (.aload_n 0, 1) := by decide +kernel
theorem dX12_shot_142 : decode cX12_shot 142 = .ok (.getfield 50, 3) := by decide +kernel
theorem dX12_shot_145 : decode cX12_shot 145 = .ok (.aload_n 0, 1) := by decide +kernel
theorem dX12_shot_146 : decode cX12_shot 146 = .ok (.getfield 279, 3) := by decide +kernel
theorem dX12_shot_149 : decode cX12_shot 149 = .ok (.iload 6, 2) := by decide +kernel
theorem dX12_shot_151 : decode cX12_shot 151 = .ok (.iastore, 1) := by decide +kernel
theorem dX12_shot_152 : decode cX12_shot 152 = .ok (.aload_n 0, 1) := by decide +kernel
theorem dX12_shot_153 : decode cX12_shot 153 = .ok (.getfield 53, 3) := by decide +kernel
theorem dX12_shot_156 : decode cX12_shot 156 = .ok (.aload_n 0, 1) := by decide +kernel
theorem dX12_shot_157 : decode cX12_shot 157 = .ok (.getfield 279, 3) := by decide +kernel
theorem dX12_shot_160 : decode cX12_shot 160 = .ok (.aload_n 0, 1) := by decide +kernel
theorem dX12_shot_161 : decode cX12_shot 161 = .ok (.getfield 255, 3) := by decide +kernel
theorem dX12_shot_164 : decode cX12_shot 164 = .ok (.iastore, 1) := by decide +kernel
theorem dX12_shot_165 : decode cX12_shot 165 = .ok (.aload_n 0, 1) := by decide +kernel
theorem dX12_shot_166 : decode cX12_shot 166 = .ok (.getfield 56, 3) := by decide +kernel
theorem dX12_shot_169 : decode cX12_shot 169 = .ok (.aload_n 0, 1) := by decide +kernel
theorem dX12_shot_170 : decode cX12_shot 170 = .ok (.getfield 279, 3) := by decide +kernel
theorem dX12_shot_173 : decode cX12_shot 173 = .ok (.bipush (-9), 2) := by decide +kernel
theorem dX12_shot_175 : decode cX12_shot 175 = .ok (.iastore, 1) := by decide +kernel
theorem dX12_shot_176 : decode cX12_shot 176 = .ok (.aload_n 0, 1) := by decide +kernel
theorem dX12_shot_177 : decode cX12_shot 177 = .ok (.getfield 59, 3) := by decide +kernel
theorem dX12_shot_180 : decode cX12_shot 180 = .ok (.aload_n 0, 1) := by decide +kernel
theorem dX12_shot_181 : decode cX12_shot 181 = .ok (.getfield 279, 3) := by decide +kernel
theorem dX12_shot_184 : decode cX12_shot 184 = .ok (.iload 6, 2) := by decide +kernel
theorem dX12_shot_186 : decode cX12_shot 186 = .ok (.ifCond .ne 8, 3) := by decide +kernel
theorem dX12_shot_189 : decode cX12_shot 189 = .ok (.bipush (-9), 2) := by decide +kernel
theorem dX12_shot_191 : decode cX12_shot 191 = .ok (.goto 7, 3) := by decide +kernel
theorem dX12_shot_194 : decode cX12_shot 194 = .ok (.aload_n 0, 1) := by decide +kernel
theorem dX12_shot_195 : decode cX12_shot 195 = .ok (.getfield 255, 3) := by decide +kernel
theorem dX12_shot_198 : decode cX12_shot 198 = .ok (.iastore, 1) := by decide +kernel
theorem dX12_shot_199 : decode cX12_shot 199 = .ok (.aload_n 0, 1) := by decide +kernel
theorem dX12_shot_200 : decode cX12_shot 200 = .ok (.getfield 62, 3) := by decide +kernel
theorem dX12_shot_203 : decode cX12_shot 203 = .ok (.aload_n 0, 1) := by decide +kernel
theorem dX12_shot_204 : decode cX12_shot 204 = .ok (.getfield 279, 3) := by decide +kernel
theorem dX12_shot_207 : decode cX12_shot 207 = .ok (.bipush (-9), 2) := by decide +kernel
theorem dX12_shot_209 : decode cX12_shot 209 = .ok (.iastore, 1) := by decide +kernel
theorem dX12_shot_210 : decode cX12_shot 210 = .ok (.aload_n 0, 1) := by decide +kernel
theorem dX12_shot_211 : decode cX12_shot 211 = .ok (.getfield 65, 3) := by decide +kernel
theorem dX12_shot_214 : decode cX12_shot 214 = .ok (.aload_n 0, 1) := by decide +kernel
theorem dX12_shot_215 : decode cX12_shot 215 = .ok (.getfield 279, 3) := by decide +kernel
theorem dX12_shot_218 : decode cX12_shot 218 = .ok (.bipush (-9), 2) := by decide +kernel
theorem dX12_shot_220 : decode cX12_shot 220 = .ok (.iastore, 1) := by decide +kernel
theorem dX12_shot_221 : decode cX12_shot 221 = .ok (.aload_n 0, 1) := by decide +kernel
theorem dX12_shot_222 : decode cX12_shot 222 = .ok (.getfield 68, 3) := by decide +kernel
theorem dX12_shot_225 : decode cX12_shot 225 = .ok (.aload_n 0, 1) := by decide +kernel
theorem dX12_shot_226 : decode cX12_shot 226 = .ok (.getfield 279, 3) := by decide +kernel
theorem dX12_shot_229 : decode cX12_shot 229 = .ok (.bipush (-9), 2) := by decide +kernel
theorem dX12_shot_231 : decode cX12_shot 231 = .ok (.iastore, 1) := by decide +kernel
theorem dX12_shot_232 : decode cX12_shot 232 = .ok (.aload_n 0, 1) := by decide +kernel
theorem dX12_shot_233 : decode cX12_shot 233 = .ok (.dup, 1) := by decide +kernel
theorem dX12_shot_234 : decode cX12_shot 234 = .ok (.getfield 279, 3) := by decide +kernel
theorem dX12_shot_237 : decode cX12_shot 237 = .ok (.iconst 1, 1) := by decide +kernel
theorem dX12_shot_238 : decode cX12_shot 238 = .ok (.iadd, 1) := by decide +kernel
theorem dX12_shot_239 : decode cX12_shot 239 = .ok (.putfield 279, 3) := by decide +kernel
theorem dX12_shot_242 : decode cX12_shot 242 = .ok (.aload_n 0, 1) := by decide +kernel
theorem dX12_shot_243 : decode cX12_shot 243 = .ok (.getfield 279, 3) := by decide +kernel
theorem dX12_shot_246 : decode cX12_shot 246 = .ok (.iconst 1, 1) := by decide +kernel
theorem dX12_shot_247 : decode cX12_shot 247 = .ok (.isub, 1) := by decide +kernel
theorem dX12_shot_248 : decode cX12_shot 248 = .ok (.ireturn, 1) := by decide +kernel
theorem dX12_about_0 : decode cX12_about 0 = .ok (.aload_n 0, 1) := by decide +kernel
theorem dX12_about_1 : decode cX12_about 1 = .ok (.iload_n 1, 1) := by decide +kernel
theorem dX12_about_2 : decode cX12_about 2 = .ok (.invokevirtual 290, 3) := by decide +kernel
theorem dX12_about_5 : decode cX12_about 5 = .ok (.ifCond .ne 5, 3) := by decide +kernel
theorem dX12_about_8 : decode cX12_about 8 = .ok (.iconst (-1), 1) := by decide +kernel
theorem dX12_about_9 : decode cX12_about 9 = .ok (.ireturn, 1) := by decide +kernel
theorem dX12_about_10 : decode cX12_about 10 = .ok (.iload_n 2, 1) := by decide +kernel
theorem dX12_about_11 : decode cX12_about 11 = .ok (.tableswitch 79 0 5 #[37, 44, 51, 58, 65, 72], 37) := by decide +kernel
theorem dX12_about_48 : decode cX12_about 48 = .ok (.aload_n 0, 1) := by decide +kernel
theorem dX12_about_49 : decode cX12_about 49 = .ok (.getfield 35, 3) := by decide +kernel
theorem dX12_about_52 : decode cX12_about 52 = .ok (.iload_n 1, 1) := by decide +kernel
theorem dX12_about_53 : decode cX12_about 53 = .ok (.iaload, 1) := by decide +kernel
theorem dX12_about_54 : decode cX12_about 54 = .ok (.ireturn, 1) := by decide +kernel
theorem dX12_about_55 : decode cX12_about 55 = .ok (.aload_n 0, 1) := by decide +kernel
theorem dX12_about_56 : decode cX12_about 56 = .ok (.getfield 38, 3) := by decide +kernel
theorem dX12_about_59 : decode cX12_about 59 = .ok (.iload_n 1, 1) := by decide +kernel
theorem dX12_about_60 : decode cX12_about 60 = .ok (.iaload, 1) := by decide +kernel
theorem dX12_about_61 : decode cX12_about 61 = .ok (.ireturn, 1) := by decide +kernel
theorem dX12_about_62 : decode cX12_about 62 = .ok (.aload_n 0, 1) := by decide +kernel
theorem dX12_about_63 : decode cX12_about 63 = .ok (.getfield 41, 3) := by decide +kernel
theorem dX12_about_66 : decode cX12_about 66 = .ok (.iload_n 1, 1) := by decide +kernel
theorem dX12_about_67 : decode cX12_about 67 = .ok (.iaload, 1) := by decide +kernel
theorem dX12_about_68 : decode cX12_about 68 = .ok (.ireturn, 1) := by decide +kernel
theorem dX12_about_69 : decode cX12_about 69 = .ok (.aload_n 0, 1) := by decide +kernel
theorem dX12_about_70 : decode cX12_about 70 = .ok (.getfield 44, 3) := by decide +kernel
theorem dX12_about_73 : decode cX12_about 73 = .ok (.iload_n 1, 1) := by decide +kernel
theorem dX12_about_74 : decode cX12_about 74 = .ok (.iaload, 1) := by decide +kernel
theorem dX12_about_75 : decode cX12_about 75 = .ok (.ireturn, 1) := by decide +kernel
theorem dX12_about_76 : decode cX12_about 76 = .ok (.aload_n 0, 1) := by decide +kernel
theorem dX12_about_77 : decode cX12_about 77 = .ok (.getfield 47, 3) := by decide +kernel
theorem dX12_about_80 : decode cX12_about 80 = .ok (.iload_n 1, 1) := by decide +kernel
theorem dX12_about_81 : decode cX12_about 81 = .ok (.iaload, 1) := by decide +kernel
theorem dX12_about_82 : decode cX12_about 82 = .ok (.ireturn, 1) := by decide +kernel
theorem dX12_about_83 : decode cX12_about 83 = .ok (.aload_n 0, 1) := by decide +kernel
theorem dX12_about_84 : decode cX12_about 84 = .ok (.getfield 50, 3) := by decide +kernel
theorem dX12_about_87 : decode cX12_about 87 = .ok (.iload_n 1, 1) := by decide +kernel
theorem dX12_about_88 : decode cX12_about 88 = .ok (.iaload, 1) := by decide +kernel
theorem dX12_about_89 : decode cX12_about 89 = .ok (.ireturn, 1) := by decide +kernel
theorem dX12_about_90 : decode cX12_about 90 = .ok (.bipush (-2), 2) := by decide +kernel
theorem dX12_about_92 : decode cX12_about 92 = .ok (.ireturn, 1) := by decide +kernel
theorem dX12_was_0 : decode cX12_was 0 = .ok (.iload_n 0, 1) := by decide +kernel
theorem dX12_was_1 : decode cX12_was 1 = .ok (.bipush (-9), 2) := by decide +kernel
theorem dX12_was_3 : decode cX12_was 3 = .ok (.if_icmp .eq 12, 3) := by decide +kernel
theorem dX12_was_6 : decode cX12_was 6 = .ok (.iload_n 0, 1) := by decide +kernel
theorem dX12_was_7 : decode cX12_was 7 = .ok (.iload_n 1, 1) := by decide +kernel
theorem dX12_was_8 : decode cX12_was 8 = .ok (.if_icmp .gt 7, 3) := by decide +kernel
theorem dX12_was_11 : decode cX12_was 11 = .ok (.iconst 1, 1) := by decide +kernel
theorem dX12_was_12 : decode cX12_was 12 = .ok (.goto 4, 3) := by decide +kernel
theorem dX12_was_15 : decode cX12_was 15 = .ok (.iconst 0, 1) := by decide +kernel
theorem dX12_was_16 : decode cX12_was 16 = .ok (.ireturn, 1) := by decide +kernel
theorem dX12_whereOf_0 : decode cX12_whereOf 0 = .ok (.aload_n 0, 1) := by decide +kernel
theorem dX12_whereOf_1 : decode cX12_whereOf 1 = .ok (.getfield 62, 3) := by decide +kernel
theorem dX12_whereOf_4 : decode cX12_whereOf 4 = .ok (.iload_n 1, 1) := by decide +kernel
theorem dX12_whereOf_5 : decode cX12_whereOf 5 = .ok (.iaload, 1) := by decide +kernel
theorem dX12_whereOf_6 : decode cX12_whereOf 6 = .ok (.iload_n 2, 1) := by decide +kernel
theorem dX12_whereOf_7 : decode cX12_whereOf 7 = .ok (.invokestatic 293, 3) := by decide +kernel
theorem dX12_whereOf_10 : decode cX12_whereOf 10 = .ok (.ifCond .eq 7, 3) := by decide +kernel
theorem dX12_whereOf_13 : decode cX12_whereOf 13 = .ok (.iconst 4, 1) := by decide +kernel
theorem dX12_whereOf_14 : decode cX12_whereOf 14 = .ok (.goto 52, 3) := by decide +kernel
theorem dX12_whereOf_17 : decode cX12_whereOf 17 = .ok (.aload_n 0, 1) := by decide +kernel
theorem dX12_whereOf_18 : decode cX12_whereOf 18 = .ok (.getfield 59, 3) := by decide +kernel
theorem dX12_whereOf_21 : decode cX12_whereOf 21 = .ok (.iload_n 1, 1) := by decide +kernel
theorem dX12_whereOf_22 : decode cX12_whereOf 22 = .ok (.iaload, 1) := by decide +kernel
theorem dX12_whereOf_23 : decode cX12_whereOf 23 = .ok (.iload_n 2, 1) := by decide +kernel
theorem dX12_whereOf_24 : decode cX12_whereOf 24 = .ok (.invokestatic 293, 3) := by decide +kernel
theorem dX12_whereOf_27 : decode cX12_whereOf 27 = .ok (.ifCond .eq 7, 3) := by decide +kernel
theorem dX12_whereOf_30 : decode cX12_whereOf 30 = .ok (.iconst 3, 1) := by decide +kernel
theorem dX12_whereOf_31 : decode cX12_whereOf 31 = .ok (.goto 35, 3) := by decide +kernel
theorem dX12_whereOf_34 : decode cX12_whereOf 34 = .ok (.aload_n 0, 1) := by decide +kernel
theorem dX12_whereOf_35 : decode cX12_whereOf 35 = .ok (.getfield 56, 3) := by decide +kernel
theorem dX12_whereOf_38 : decode cX12_whereOf 38 = .ok (.iload_n 1, 1) := by decide +kernel
theorem dX12_whereOf_39 : decode cX12_whereOf 39 = .ok (.iaload, 1) := by decide +kernel
theorem dX12_whereOf_40 : decode cX12_whereOf 40 = .ok (.iload_n 2, 1) := by decide +kernel
theorem dX12_whereOf_41 : decode cX12_whereOf 41 = .ok (.invokestatic 293, 3) := by decide +kernel
theorem dX12_whereOf_44 : decode cX12_whereOf 44 = .ok (.ifCond .eq 7, 3) := by decide +kernel
theorem dX12_whereOf_47 : decode cX12_whereOf 47 = .ok (.iconst 2, 1) := by decide +kernel
theorem dX12_whereOf_48 : decode cX12_whereOf 48 = .ok (.goto 18, 3) := by decide +kernel
theorem dX12_whereOf_51 : decode cX12_whereOf 51 = .ok (.aload_n 0, 1) := by decide +kernel
theorem dX12_whereOf_52 : decode cX12_whereOf 52 = .ok (.getfield 53, 3) := by decide +kernel
theorem dX12_whereOf_55 : decode cX12_whereOf 55 = .ok (.iload_n 1, 1) := by decide +kernel
theorem dX12_whereOf_56 : decode cX12_whereOf 56 = .ok (.iaload, 1) := by decide +kernel
theorem dX12_whereOf_57 : decode cX12_whereOf 57 = .ok (.iload_n 2, 1) := by decide +kernel
theorem dX12_whereOf_58 : decode cX12_whereOf 58 = .ok (.if_icmp .gt 7, 3) := by decide +kernel
theorem dX12_whereOf_61 : decode cX12_whereOf 61 = .ok (.iconst 1, 1) := by decide +kernel
theorem dX12_whereOf_62 : decode cX12_whereOf 62 = .ok (.goto 4, 3) := by decide +kernel
theorem dX12_whereOf_65 : decode cX12_whereOf 65 = .ok (.iconst 0, 1) := by decide +kernel
theorem dX12_whereOf_66 : decode cX12_whereOf 66 = .ok (.ireturn, 1) := by decide +kernel
theorem dX12_send_0 : decode cX12_send 0 = .ok (.aload_n 0, 1) := by decide +kernel
theorem dX12_send_1 : decode cX12_send 1 = .ok (.iload_n 1, 1) := by decide +kernel
theorem dX12_send_2 : decode cX12_send 2 = .ok (.invokevirtual 290, 3) := by decide +kernel
theorem dX12_send_5 : decode cX12_send 5 = .ok (.ifCond .ne 5, 3) := by decide +kernel
theorem dX12_send_8 : decode cX12_send 8 = .ok (.iconst (-1), 1) := by decide +kernel
theorem dX12_send_9 : decode cX12_send 9 = .ok (.ireturn, 1) := by decide +kernel
theorem dX12_send_10 : decode cX12_send 10 = .ok (.aload_n 0, 1) := by decide +kernel
theorem dX12_send_11 : decode cX12_send 11 = .ok (.aload_n 0, 1) := by decide +kernel
theorem dX12_send_12 : decode cX12_send 12 = .ok (.getfield 35, 3) := by decide +kernel
theorem dX12_send_15 : decode cX12_send 15 = .ok (.iload_n 1, 1) := by decide +kernel
theorem dX12_send_16 : decode cX12_send 16 = .ok (.iaload, 1) := by decide +kernel
theorem dX12_send_17 : decode cX12_send 17 = .ok (.aload_n 0, 1) := by decide +kernel
theorem dX12_send_18 : decode cX12_send 18 = .ok (.getfield 255, 3) := by decide +kernel
theorem dX12_send_21 : decode cX12_send 21 = .ok (.iconst 0, 1) := by decide +kernel
theorem dX12_send_22 : decode cX12_send 22 = .ok (.iconst 0, 1) := by decide +kernel
theorem dX12_send_23 : decode cX12_send 23 = .ok (.invokevirtual 275, 3) := by decide +kernel
theorem dX12_send_26 : decode cX12_send 26 = .ok (.istore_n 2, 1) := by decide +kernel
theorem dX12_send_27 : decode cX12_send 27 = .ok (.aload_n 0, 1) := by decide +kernel
theorem dX12_send_28 : decode cX12_send 28 = .ok (.aload_n 0, 1) := by decide +kernel
theorem dX12_send_29 : decode cX12_send 29 = .ok (.getfield 35, 3) := by decide +kernel
theorem dX12_send_32 : decode cX12_send 32 = .ok (.iload_n 1, 1) := by decide +kernel
theorem dX12_send_33 : decode cX12_send 33 = .ok (.iaload, 1) := by decide +kernel
theorem dX12_send_34 : decode cX12_send 34 = .ok (.aload_n 0, 1) := by decide +kernel
theorem dX12_send_35 : decode cX12_send 35 = .ok (.getfield 255, 3) := by decide +kernel
theorem dX12_send_38 : decode cX12_send 38 = .ok (.iconst 0, 1) := by decide +kernel
theorem dX12_send_39 : decode cX12_send 39 = .ok (.iconst 1, 1) := by decide +kernel
theorem dX12_send_40 : decode cX12_send 40 = .ok (.invokevirtual 275, 3) := by decide +kernel
theorem dX12_send_43 : decode cX12_send 43 = .ok (.istore_n 3, 1) := by decide +kernel
theorem dX12_send_44 : decode cX12_send 44 = .ok (.aload_n 0, 1) := by decide +kernel
theorem dX12_send_45 : decode cX12_send 45 = .ok (.iload_n 1, 1) := by decide +kernel
theorem dX12_send_46 : decode cX12_send 46 = .ok (.aload_n 0, 1) := by decide +kernel
theorem dX12_send_47 : decode cX12_send 47 = .ok (.getfield 255, 3) := by decide +kernel
theorem dX12_send_50 : decode cX12_send 50 = .ok (.invokevirtual 297, 3) := by decide +kernel
theorem dX12_send_53 : decode cX12_send 53 = .ok (.iconst 1, 1) := by decide +kernel
theorem dX12_send_54 : decode cX12_send 54 = .ok (.if_icmp .ne 17, 3) := by decide +kernel
theorem dX12_send_57 : decode cX12_send 57 = .ok (.iload_n 2, 1) := by decide +kernel
theorem dX12_send_58 : decode cX12_send 58 = .ok (.ldc_w 270, 3) := by decide +kernel
theorem dX12_send_61 : decode cX12_send 61 = .ok (.if_icmp .eq 10, 3) := by decide +kernel
theorem dX12_send_64 : decode cX12_send 64 = .ok (.iload_n 3, 1) := by decide +kernel
theorem dX12_send_65 : decode cX12_send 65 = .ok (.ldc_w 270, 3) := by decide +kernel
theorem dX12_send_68 : decode cX12_send 68 = .ok (.if_icmp .ne 6, 3) := by decide +kernel
theorem dX12_send_71 : decode cX12_send 71 = .ok (.bipush (-3), 2) := by decide +kernel
theorem dX12_send_73 : decode cX12_send 73 = .ok (.ireturn, 1) := by decide +kernel
theorem dX12_send_74 : decode cX12_send 74 = .ok (.aload_n 0, 1) := by decide +kernel
theorem dX12_send_75 : decode cX12_send 75 = .ok (.getfield 56, 3) := by decide +kernel
theorem dX12_send_78 : decode cX12_send 78 = .ok (.iload_n 1, 1) := by decide +kernel
theorem dX12_send_79 : decode cX12_send 79 = .ok (.aload_n 0, 1) := by decide +kernel
theorem dX12_send_80 : decode cX12_send 80 = .ok (.getfield 255, 3) := by decide +kernel
theorem dX12_send_83 : decode cX12_send 83 = .ok (.iastore, 1) := by decide +kernel
theorem dX12_send_84 : decode cX12_send 84 = .ok (.aload_n 0, 1) := by decide +kernel
theorem dX12_send_85 : decode cX12_send 85 = .ok (.getfield 65, 3) := by decide +kernel
theorem dX12_send_88 : decode cX12_send 88 = .ok (.iload_n 1, 1) := by decide +kernel
theorem dX12_send_89 : decode cX12_send 89 = .ok (.iload_n 2, 1) := by decide +kernel
theorem dX12_send_90 : decode cX12_send 90 = .ok (.iastore, 1) := by decide +kernel
theorem dX12_send_91 : decode cX12_send 91 = .ok (.aload_n 0, 1) := by decide +kernel
theorem dX12_send_92 : decode cX12_send 92 = .ok (.getfield 68, 3) := by decide +kernel
theorem dX12_send_95 : decode cX12_send 95 = .ok (.iload_n 1, 1) := by decide +kernel
theorem dX12_send_96 : decode cX12_send 96 = .ok (.iload_n 3, 1) := by decide +kernel
theorem dX12_send_97 : decode cX12_send 97 = .ok (.iastore, 1) := by decide +kernel
theorem dX12_send_98 : decode cX12_send 98 = .ok (.iload_n 2, 1) := by decide +kernel
theorem dX12_send_99 : decode cX12_send 99 = .ok (.ireturn, 1) := by decide +kernel
theorem dX12_expected_0 : decode cX12_expected 0 = .ok (.aload_n 0, 1) := by decide +kernel
theorem dX12_expected_1 : decode cX12_expected 1 = .ok (.iload_n 1, 1) := by decide +kernel
theorem dX12_expected_2 : decode cX12_expected 2 = .ok (.invokevirtual 290, 3) := by decide +kernel
theorem dX12_expected_5 : decode cX12_expected 5 = .ok (.ifCond .ne 7, 3) := by decide +kernel
theorem dX12_expected_8 : decode cX12_expected 8 = .ok (.iconst (-1), 1) := by decide +kernel
theorem dX12_expected_9 : decode cX12_expected 9 = .ok (.goto 22, 3) := by decide +kernel
theorem dX12_expected_12 : decode cX12_expected 12 = .ok (.iload_n 2, 1) := by decide +kernel
theorem dX12_expected_13 : decode cX12_expected 13 = .ok (.ifCond .eq 12, 3) := by decide +kernel
theorem dX12_expected_16 : decode cX12_expected 16 = .ok (.aload_n 0, 1) := by decide +kernel
theorem dX12_expected_17 : decode cX12_expected 17 = .ok (.getfield 68, 3) := by decide +kernel
theorem dX12_expected_20 : decode cX12_expected 20 = .ok (.iload_n 1, 1) := by decide +kernel
theorem dX12_expected_21 : decode cX12_expected 21 = .ok (.iaload, 1) := by decide +kernel
theorem dX12_expected_22 : decode cX12_expected 22 = .ok (.goto 9, 3) := by decide +kernel
theorem dX12_expected_25 : decode cX12_expected 25 = .ok (.aload_n 0, 1) := by decide +kernel
theorem dX12_expected_26 : decode cX12_expected 26 = .ok (.getfield 65, 3) := by decide +kernel
theorem dX12_expected_29 : decode cX12_expected 29 = .ok (.iload_n 1, 1) := by decide +kernel
theorem dX12_expected_30 : decode cX12_expected 30 = .ok (.iaload, 1) := by decide +kernel
theorem dX12_expected_31 : decode cX12_expected 31 = .ok (.ireturn, 1) := by decide +kernel
theorem dX12_come_0 : decode cX12_come 0 = .ok (.aload_n 0, 1) := by decide +kernel
theorem dX12_come_1 : decode cX12_come 1 = .ok (.iload_n 1, 1) := by decide +kernel
theorem dX12_come_2 : decode cX12_come 2 = .ok (.invokevirtual 290, 3) := by decide +kernel
theorem dX12_come_5 : decode cX12_come 5 = .ok (.ifCond .ne 5, 3) := by decide +kernel
theorem dX12_come_8 : decode cX12_come 8 = .ok (.iconst (-1), 1) := by decide +kernel
theorem dX12_come_9 : decode cX12_come 9 = .ok (.ireturn, 1) := by decide +kernel
theorem dX12_come_10 : decode cX12_come 10 = .ok (.aload_n 0, 1) := by decide +kernel
theorem dX12_come_11 : decode cX12_come 11 = .ok (.iload_n 1, 1) := by decide +kernel
theorem dX12_come_12 : decode cX12_come 12 = .ok (.aload_n 0, 1) := by decide +kernel
theorem dX12_come_13 : decode cX12_come 13 = .ok (.getfield 255, 3) := by decide +kernel
theorem dX12_come_16 : decode cX12_come 16 = .ok (.invokevirtual 297, 3) := by decide +kernel
theorem dX12_come_19 : decode cX12_come 19 = .ok (.iconst 2, 1) := by decide +kernel
theorem dX12_come_20 : decode cX12_come 20 = .ok (.if_icmp .ne 16, 3) := by decide +kernel
theorem dX12_come_23 : decode cX12_come 23 = .ok (.aload_n 0, 1) := by decide +kernel
theorem dX12_come_24 : decode cX12_come 24 = .ok (.getfield 65, 3) := by decide +kernel
theorem dX12_come_27 : decode cX12_come 27 = .ok (.iload_n 1, 1) := by decide +kernel
theorem dX12_come_28 : decode cX12_come 28 = .ok (.iaload, 1) := by decide +kernel
theorem dX12_come_29 : decode cX12_come 29 = .ok (.aload_n 0, 1) := by decide +kernel
theorem dX12_come_30 : decode cX12_come 30 = .ok (.getfield 255, 3) := by decide +kernel
theorem dX12_come_33 : decode cX12_come 33 = .ok (.if_icmp .le 6, 3) := by decide +kernel
theorem dX12_come_36 : decode cX12_come 36 = .ok (.bipush (-3), 2) := by decide +kernel
theorem dX12_come_38 : decode cX12_come 38 = .ok (.ireturn, 1) := by decide +kernel
theorem dX12_come_39 : decode cX12_come 39 = .ok (.aload_n 0, 1) := by decide +kernel
theorem dX12_come_40 : decode cX12_come 40 = .ok (.getfield 59, 3) := by decide +kernel
theorem dX12_come_43 : decode cX12_come 43 = .ok (.iload_n 1, 1) := by decide +kernel
theorem dX12_come_44 : decode cX12_come 44 = .ok (.aload_n 0, 1) := by decide +kernel
theorem dX12_come_45 : decode cX12_come 45 = .ok (.getfield 255, 3) := by decide +kernel
theorem dX12_come_48 : decode cX12_come 48 = .ok (.iastore, 1) := by decide +kernel
theorem dX12_come_49 : decode cX12_come 49 = .ok (.aload_n 0, 1) := by decide +kernel
theorem dX12_come_50 : decode cX12_come 50 = .ok (.getfield 255, 3) := by decide +kernel
theorem dX12_come_53 : decode cX12_come 53 = .ok (.aload_n 0, 1) := by decide +kernel
theorem dX12_come_54 : decode cX12_come 54 = .ok (.getfield 65, 3) := by decide +kernel
theorem dX12_come_57 : decode cX12_come 57 = .ok (.iload_n 1, 1) := by decide +kernel
theorem dX12_come_58 : decode cX12_come 58 = .ok (.iaload, 1) := by decide +kernel
theorem dX12_come_59 : decode cX12_come 59 = .ok (.isub, 1) := by decide +kernel
theorem dX12_come_60 : decode cX12_come 60 = .ok (.ireturn, 1) := by decide +kernel
theorem dX12_lose_0 : decode cX12_lose 0 = .ok (.aload_n 0, 1) := by decide +kernel
theorem dX12_lose_1 : decode cX12_lose 1 = .ok (.iload_n 1, 1) := by decide +kernel
theorem dX12_lose_2 : decode cX12_lose 2 = .ok (.invokevirtual 290, 3) := by decide +kernel
theorem dX12_lose_5 : decode cX12_lose 5 = .ok (.ifCond .ne 5, 3) := by decide +kernel
theorem dX12_lose_8 : decode cX12_lose 8 = .ok (.iconst (-1), 1) := by decide +kernel
theorem dX12_lose_9 : decode cX12_lose 9 = .ok (.ireturn, 1) := by decide +kernel
