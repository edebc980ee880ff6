theorem dX12_lose_10 : decode cX12_lose 10 = .ok (.aload_n 0, 1) := by decide +kernel
theorem dX12_lose_11 : decode cX12_lose 11 = .ok (.iload_n 1, 1) := by decide +kernel
theorem dX12_lose_12 : decode cX12_lose 12 = .ok (.aload_n 0, 1) := by decide +kernel
theorem dX12_lose_13 : decode cX12_lose 13 = .ok (.getfield 255, 3) := by decide +kernel
theorem dX12_lose_16 : decode cX12_lose 16 = .ok (.invokevirtual 297, 3) := by decide +kernel
theorem dX12_lose_19 : decode cX12_lose 19 = .ok (.istore_n 2, 1) := by decide +kernel
theorem dX12_lose_20 : decode cX12_lose 20 = .ok (.iload_n 2, 1) := by decide +kernel
theorem dX12_lose_21 : decode cX12_lose 21 = .ok (.iconst 4, 1) := by decide +kernel
theorem dX12_lose_22 : decode cX12_lose 22 = .ok (.if_icmp .ne 6, 3) := by decide +kernel
theorem dX12_lose_25 : decode cX12_lose 25 = .ok (.bipush (-3), 2) := by decide +kernel
theorem dX12_lose_27 : decode cX12_lose 27 = .ok (.ireturn, 1) := by decide +kernel
theorem dX12_lose_28 : decode cX12_lose 28 = .ok (.aload_n 0, 1) := by decide +kernel
theorem dX12_lose_29 : decode cX12_lose 29 = .ok (.getfield 62, 3) := by decide +kernel
theorem dX12_lose_32 : decode cX12_lose 32 = .ok (.iload_n 1, 1) := by decide +kernel
theorem dX12_lose_33 : decode cX12_lose 33 = .ok (.aload_n 0, 1) := by decide +kernel
theorem dX12_lose_34 : decode cX12_lose 34 = .ok (.getfield 255, 3) := by decide +kernel
theorem dX12_lose_37 : decode cX12_lose 37 = .ok (.iastore, 1) := by decide +kernel
theorem dX12_lose_38 : decode cX12_lose 38 = .ok (.iload_n 2, 1) := by decide +kernel
theorem dX12_lose_39 : decode cX12_lose 39 = .ok (.ireturn, 1) := by decide +kernel
theorem dX12_where_0 : decode cX12_where 0 = .ok (.aload_n 0, 1) := by decide +kernel
theorem dX12_where_1 : decode cX12_where 1 = .ok (.iload_n 1, 1) := by decide +kernel
theorem dX12_where_2 : decode cX12_where 2 = .ok (.invokevirtual 290, 3) := by decide +kernel
theorem dX12_where_5 : decode cX12_where 5 = .ok (.ifCond .ne 5, 3) := by decide +kernel
theorem dX12_where_8 : decode cX12_where 8 = .ok (.iconst (-1), 1) := by decide +kernel
theorem dX12_where_9 : decode cX12_where 9 = .ok (.ireturn, 1) := by decide +kernel
theorem dX12_where_10 : decode cX12_where 10 = .ok (.iload_n 2, 1) := by decide +kernel
theorem dX12_where_11 : decode cX12_where 11 = .ok (.i2l, 1) := by decide +kernel
theorem dX12_where_12 : decode cX12_where 12 = .ok (.lconst 0, 1) := by decide +kernel
theorem dX12_where_13 : decode cX12_where 13 = .ok (.aload_n 0, 1) := by decide +kernel
theorem dX12_where_14 : decode cX12_where 14 = .ok (.getfield 255, 3) := by decide +kernel
theorem dX12_where_17 : decode cX12_where 17 = .ok (.i2l, 1) := by decide +kernel
theorem dX12_where_18 : decode cX12_where 18 = .ok (.invokestatic 245, 3) := by decide +kernel
theorem dX12_where_21 : decode cX12_where 21 = .ok (.ifCond .eq 12, 3) := by decide +kernel
theorem dX12_where_24 : decode cX12_where 24 = .ok (.aload_n 0, 1) := by decide +kernel
theorem dX12_where_25 : decode cX12_where 25 = .ok (.iload_n 1, 1) := by decide +kernel
theorem dX12_where_26 : decode cX12_where 26 = .ok (.iload_n 2, 1) := by decide +kernel
theorem dX12_where_27 : decode cX12_where 27 = .ok (.invokevirtual 297, 3) := by decide +kernel
theorem dX12_where_30 : decode cX12_where 30 = .ok (.goto 5, 3) := by decide +kernel
theorem dX12_where_33 : decode cX12_where 33 = .ok (.bipush (-2), 2) := by decide +kernel
theorem dX12_where_35 : decode cX12_where 35 = .ok (.ireturn, 1) := by decide +kernel
theorem dX12_overdue_0 : decode cX12_overdue 0 = .ok (.iconst 0, 1) := by decide +kernel
theorem dX12_overdue_1 : decode cX12_overdue 1 = .ok (.istore_n 1, 1) := by decide +kernel
theorem dX12_overdue_2 : decode cX12_overdue 2 = .ok (.iconst 0, 1) := by decide +kernel
theorem dX12_overdue_3 : decode cX12_overdue 3 = .ok (.istore_n 2, 1) := by decide +kernel
theorem dX12_overdue_4 : decode cX12_overdue 4 = .ok (.iload_n 2, 1) := by decide +kernel
theorem dX12_overdue_5 : decode cX12_overdue 5 = .ok (.aload_n 0, 1) := by decide +kernel
theorem dX12_overdue_6 : decode cX12_overdue 6 = .ok (.getfield 279, 3) := by decide +kernel
theorem dX12_overdue_9 : decode cX12_overdue 9 = .ok (.if_icmp .ge 43, 3) := by decide +kernel
theorem dX12_overdue_12 : decode cX12_overdue 12 = .ok (.iload_n 1, 1) := by decide +kernel
theorem dX12_overdue_13 : decode cX12_overdue 13 = .ok (.aload_n 0, 1) := by decide +kernel
theorem dX12_overdue_14 : decode cX12_overdue 14 = .ok (.iload_n 2, 1) := by decide +kernel
theorem dX12_overdue_15 : decode cX12_overdue 15 = .ok (.aload_n 0, 1) := by decide +kernel
theorem dX12_overdue_16 : decode cX12_overdue 16 = .ok (.getfield 255, 3) := by decide +kernel
theorem dX12_overdue_19 : decode cX12_overdue 19 = .ok (.invokevirtual 297, 3) := by decide +kernel
theorem dX12_overdue_22 : decode cX12_overdue 22 = .ok (.iconst 2, 1) := by decide +kernel
theorem dX12_overdue_23 : decode cX12_overdue 23 = .ok (.if_icmp .ne 20, 3) := by decide +kernel
theorem dX12_overdue_26 : decode cX12_overdue 26 = .ok (.aload_n 0, 1) := by decide +kernel
theorem dX12_overdue_27 : decode cX12_overdue 27 = .ok (.getfield 68, 3) := by decide +kernel
theorem dX12_overdue_30 : decode cX12_overdue 30 = .ok (.iload_n 2, 1) := by decide +kernel
theorem dX12_overdue_31 : decode cX12_overdue 31 = .ok (.iaload, 1) := by decide +kernel
theorem dX12_overdue_32 : decode cX12_overdue 32 = .ok (.aload_n 0, 1) := by decide +kernel
theorem dX12_overdue_33 : decode cX12_overdue 33 = .ok (.getfield 255, 3) := by decide +kernel
theorem dX12_overdue_36 : decode cX12_overdue 36 = .ok (.if_icmp .ge 7, 3) := by decide +kernel
theorem dX12_overdue_39 : decode cX12_overdue 39 = .ok (.iconst 1, 1) := by decide +kernel
theorem dX12_overdue_40 : decode cX12_overdue 40 = .ok (.goto 4, 3) := by decide +kernel
theorem dX12_overdue_43 : decode cX12_overdue 43 = .ok (.iconst 0, 1) := by decide +kernel
theorem dX12_overdue_44 : decode cX12_overdue 44 = .ok (.iadd, 1) := by decide +kernel
theorem dX12_overdue_45 : decode cX12_overdue 45 = .ok (.istore_n 1, 1) := by decide +kernel
theorem dX12_overdue_46 : decode cX12_overdue 46 = .ok (.iinc 2 1, 3) := by decide +kernel
theorem dX12_overdue_49 : decode cX12_overdue 49 = .ok (.goto (-45), 3) := by decide +kernel
theorem dX12_overdue_52 : decode cX12_overdue 52 = .ok (.iload_n 1, 1) := by decide +kernel
theorem dX12_overdue_53 : decode cX12_overdue 53 = .ok (.ireturn, 1) := by decide +kernel
theorem dX12_fact_0 : decode cX12_fact 0 = .ok (.iload_n 1, 1) := by decide +kernel
theorem dX12_fact_1 : decode cX12_fact 1 = .ok (.i2l, 1) := by decide +kernel
theorem dX12_fact_2 : decode cX12_fact 2 = .ok (.lconst 0, 1) := by decide +kernel
theorem dX12_fact_3 : decode cX12_fact 3 = .ok (.ldc2_w 251, 3) := by decide +kernel
theorem dX12_fact_6 : decode cX12_fact 6 = .ok (.invokestatic 245, 3) := by decide +kernel
theorem dX12_fact_9 : decode cX12_fact 9 = .ok (.ifCond .ne 5, 3) := by decide +kernel
theorem dX12_fact_12 : decode cX12_fact 12 = .ok (.iconst (-1), 1) := by decide +kernel
theorem dX12_fact_13 : decode cX12_fact 13 = .ok (.ireturn, 1) := by decide +kernel
theorem dX12_fact_14 : decode cX12_fact 14 = .ok (.iload_n 2, 1) := by decide +kernel
theorem dX12_fact_15 : decode cX12_fact 15 = .ok (.i2l, 1) := by decide +kernel
theorem dX12_fact_16 : decode cX12_fact 16 = .ok (.lconst 0, 1) := by decide +kernel
theorem dX12_fact_17 : decode cX12_fact 17 = .ok (.ldc2_w 286, 3) := by decide +kernel
theorem dX12_fact_20 : decode cX12_fact 20 = .ok (.invokestatic 245, 3) := by decide +kernel
theorem dX12_fact_23 : decode cX12_fact 23 = .ok (.ifCond .eq 28, 3) := by decide +kernel
theorem dX12_fact_26 : decode cX12_fact 26 = .ok (.iload_n 3, 1) := by decide +kernel
theorem dX12_fact_27 : decode cX12_fact 27 = .ok (.i2l, 1) := by decide +kernel
theorem dX12_fact_28 : decode cX12_fact 28 = .ok (.lconst 0, 1) := by decide +kernel
theorem dX12_fact_29 : decode cX12_fact 29 = .ok (.ldc2_w 301, 3) := by decide +kernel
theorem dX12_fact_32 : decode cX12_fact 32 = .ok (.invokestatic 245, 3) := by decide +kernel
theorem dX12_fact_35 : decode cX12_fact 35 = .ok (.ifCond .eq 16, 3) := by decide +kernel
theorem dX12_fact_38 : decode cX12_fact 38 = .ok (.iload 4, 2) := by decide +kernel
theorem dX12_fact_40 : decode cX12_fact 40 = .ok (.i2l, 1) := by decide +kernel
theorem dX12_fact_41 : decode cX12_fact 41 = .ok (.lconst 0, 1) := by decide +kernel
theorem dX12_fact_42 : decode cX12_fact 42 = .ok (.ldc2_w 301, 3) := by decide +kernel
theorem dX12_fact_45 : decode cX12_fact 45 = .ok (.invokestatic 245, 3) := by decide +kernel
theorem dX12_fact_48 : decode cX12_fact 48 = .ok (.ifCond .ne 6, 3) := by decide +kernel
theorem dX12_fact_51 : decode cX12_fact 51 = .ok (.bipush (-2), 2) := by decide +kernel
theorem dX12_fact_53 : decode cX12_fact 53 = .ok (.ireturn, 1) := by decide +kernel
theorem dX12_fact_54 : decode cX12_fact 54 = .ok (.aload_n 0, 1) := by decide +kernel
theorem dX12_fact_55 : decode cX12_fact 55 = .ok (.getfield 71, 3) := by decide +kernel
theorem dX12_fact_58 : decode cX12_fact 58 = .ok (.iload_n 1, 1) := by decide +kernel
theorem dX12_fact_59 : decode cX12_fact 59 = .ok (.iload_n 2, 1) := by decide +kernel
theorem dX12_fact_60 : decode cX12_fact 60 = .ok (.iastore, 1) := by decide +kernel
theorem dX12_fact_61 : decode cX12_fact 61 = .ok (.aload_n 0, 1) := by decide +kernel
theorem dX12_fact_62 : decode cX12_fact 62 = .ok (.getfield 74, 3) := by decide +kernel
theorem dX12_fact_65 : decode cX12_fact 65 = .ok (.iload_n 1, 1) := by decide +kernel
theorem dX12_fact_66 : decode cX12_fact 66 = .ok (.iload_n 3, 1) := by decide +kernel
theorem dX12_fact_67 : decode cX12_fact 67 = .ok (.iastore, 1) := by decide +kernel
theorem dX12_fact_68 : decode cX12_fact 68 = .ok (.aload_n 0, 1) := by decide +kernel
theorem dX12_fact_69 : decode cX12_fact 69 = .ok (.getfield 77, 3) := by decide +kernel
theorem dX12_fact_72 : decode cX12_fact 72 = .ok (.iload_n 1, 1) := by decide +kernel
theorem dX12_fact_73 : decode cX12_fact 73 = .ok (.iload 4, 2) := by decide +kernel
theorem dX12_fact_75 : decode cX12_fact 75 = .ok (.iastore, 1) := by decide +kernel
theorem dX12_fact_76 : decode cX12_fact 76 = .ok (.iconst 1, 1) := by decide +kernel
theorem dX12_fact_77 : decode cX12_fact 77 = .ok (.ireturn, 1) := by decide +kernel
theorem dX12_canBe_0 : decode cX12_canBe 0 = .ok (.iload_n 3, 1) := by decide +kernel
theorem dX12_canBe_1 : decode cX12_canBe 1 = .ok (.bipush 24, 2) := by decide +kernel
theorem dX12_canBe_3 : decode cX12_canBe 3 = .ok (.idiv, 1) := by decide +kernel
theorem dX12_canBe_4 : decode cX12_canBe 4 = .ok (.sipush 365, 3) := by decide +kernel
theorem dX12_canBe_7 : decode cX12_canBe 7 = .ok (.irem, 1) := by decide +kernel
theorem dX12_canBe_8 : decode cX12_canBe 8 = .ok (.istore 4, 2) := by decide +kernel
theorem dX12_canBe_10 : decode cX12_canBe 10 = .ok (.aload_n 0, 1) := by decide +kernel
theorem dX12_canBe_11 : decode cX12_canBe 11 = .ok (.getfield 74, 3) := by decide +kernel
theorem dX12_canBe_14 : decode cX12_canBe 14 = .ok (.iload_n 1, 1) := by decide +kernel
theorem dX12_canBe_15 : decode cX12_canBe 15 = .ok (.iaload, 1) := by decide +kernel
theorem dX12_canBe_16 : decode cX12_canBe 16 = .ok (.aload_n 0, 1) := by decide +kernel
theorem dX12_canBe_17 : decode cX12_canBe 17 = .ok (.getfield 77, 3) := by decide +kernel
theorem dX12_canBe_20 : decode cX12_canBe 20 = .ok (.iload_n 1, 1) := by decide +kernel
theorem dX12_canBe_21 : decode cX12_canBe 21 = .ok (.iaload, 1) := by decide +kernel
theorem dX12_canBe_22 : decode cX12_canBe 22 = .ok (.if_icmp .gt 26, 3) := by decide +kernel
theorem dX12_canBe_25 : decode cX12_canBe 25 = .ok (.iload 4, 2) := by decide +kernel
theorem dX12_canBe_27 : decode cX12_canBe 27 = .ok (.i2l, 1) := by decide +kernel
theorem dX12_canBe_28 : decode cX12_canBe 28 = .ok (.aload_n 0, 1) := by decide +kernel
theorem dX12_canBe_29 : decode cX12_canBe 29 = .ok (.getfield 74, 3) := by decide +kernel
theorem dX12_canBe_32 : decode cX12_canBe 32 = .ok (.iload_n 1, 1) := by decide +kernel
theorem dX12_canBe_33 : decode cX12_canBe 33 = .ok (.iaload, 1) := by decide +kernel
theorem dX12_canBe_34 : decode cX12_canBe 34 = .ok (.i2l, 1) := by decide +kernel
theorem dX12_canBe_35 : decode cX12_canBe 35 = .ok (.aload_n 0, 1) := by decide +kernel
theorem dX12_canBe_36 : decode cX12_canBe 36 = .ok (.getfield 77, 3) := by decide +kernel
theorem dX12_canBe_39 : decode cX12_canBe 39 = .ok (.iload_n 1, 1) := by decide +kernel
theorem dX12_canBe_40 : decode cX12_canBe 40 = .ok (.iaload, 1) := by decide +kernel
theorem dX12_canBe_41 : decode cX12_canBe 41 = .ok (.i2l, 1) := by decide +kernel
theorem dX12_canBe_42 : decode cX12_canBe 42 = .ok (.invokestatic 245, 3) := by decide +kernel
theorem dX12_canBe_45 : decode cX12_canBe 45 = .ok (.goto 30, 3) := by decide +kernel
theorem dX12_canBe_48 : decode cX12_canBe 48 = .ok (.iload 4, 2) := by decide +kernel
theorem dX12_canBe_50 : decode cX12_canBe 50 = .ok (.aload_n 0, 1) := by decide +kernel
theorem dX12_canBe_51 : decode cX12_canBe 51 = .ok (.getfield 74, 3) := by decide +kernel
theorem dX12_canBe_54 : decode cX12_canBe 54 = .ok (.iload_n 1, 1) := by decide +kernel
theorem dX12_canBe_55 : decode cX12_canBe 55 = .ok (.iaload, 1) := by decide +kernel
theorem dX12_canBe_56 : decode cX12_canBe 56 = .ok (.if_icmp .ge 14, 3) := by decide +kernel
theorem dX12_canBe_59 : decode cX12_canBe 59 = .ok (.iload 4, 2) := by decide +kernel
theorem dX12_canBe_61 : decode cX12_canBe 61 = .ok (.aload_n 0, 1) := by decide +kernel
theorem dX12_canBe_62 : decode cX12_canBe 62 = .ok (.getfield 77, 3) := by decide +kernel
theorem dX12_canBe_65 : decode cX12_canBe 65 = .ok (.iload_n 1, 1) := by decide +kernel
theorem dX12_canBe_66 : decode cX12_canBe 66 = .ok (.iaload, 1) := by decide +kernel
theorem dX12_canBe_67 : decode cX12_canBe 67 = .ok (.if_icmp .gt 7, 3) := by decide +kernel
theorem dX12_canBe_70 : decode cX12_canBe 70 = .ok (.iconst 1, 1) := by decide +kernel
theorem dX12_canBe_71 : decode cX12_canBe 71 = .ok (.goto 4, 3) := by decide +kernel
theorem dX12_canBe_74 : decode cX12_canBe 74 = .ok (.iconst 0, 1) := by decide +kernel
theorem dX12_canBe_75 : decode cX12_canBe 75 = .ok (.istore 5, 2) := by decide +kernel
theorem dX12_canBe_77 : decode cX12_canBe 77 = .ok (.iload 5, 2) := by decide +kernel
theorem dX12_canBe_79 : decode cX12_canBe 79 = .ok (.ifCond .eq 21, 3) := by decide +kernel
theorem dX12_canBe_82 : decode cX12_canBe 82 = .ok (.aload_n 0, 1) := by decide +kernel
theorem dX12_canBe_83 : decode cX12_canBe 83 = .ok (.getfield 71, 3) := by decide +kernel
theorem dX12_canBe_86 : decode cX12_canBe 86 = .ok (.iload_n 1, 1) := by decide +kernel
theorem dX12_canBe_87 : decode cX12_canBe 87 = .ok (.iaload, 1) := by decide +kernel
theorem dX12_canBe_88 : decode cX12_canBe 88 = .ok (.iload_n 2, 1) := by decide +kernel
theorem dX12_canBe_89 : decode cX12_canBe 89 = .ok (.ishr, 1) := by decide +kernel
theorem dX12_canBe_90 : decode cX12_canBe 90 = .ok (.iconst 1, 1) := by decide +kernel
theorem dX12_canBe_91 : decode cX12_canBe 91 = .ok (.iand, 1) := by decide +kernel
theorem dX12_canBe_92 : decode cX12_canBe 92 = .ok (.iconst 1, 1) := by decide +kernel
theorem dX12_canBe_93 : decode cX12_canBe 93 = .ok (.if_icmp .ne 7, 3) := by decide +kernel
theorem dX12_canBe_96 : decode cX12_canBe 96 = .ok (.iconst 1, 1) := by decide +kernel
theorem dX12_canBe_97 : decode cX12_canBe 97 = .ok (.goto 4, 3) := by decide +kernel
theorem dX12_canBe_100 : decode cX12_canBe 100 = .ok (.iconst 0, 1) := by decide +kernel
theorem dX12_canBe_101 : decode cX12_canBe 101 = .ok (.ireturn, 1) := by decide +kernel
theorem dX12_lieOf_0 : decode cX12_lieOf 0 = .ok (.iconst 0, 1) := by decide +kernel
theorem dX12_lieOf_1 : decode cX12_lieOf 1 = .ok (.istore 4, 2) := by decide +kernel
theorem dX12_lieOf_3 : decode cX12_lieOf 3 = .ok (.iload 4, 2) := by decide +kernel
theorem dX12_lieOf_5 : decode cX12_lieOf 5 = .ok (.bipush 8, 2) := by decide +kernel
theorem dX12_lieOf_7 : decode cX12_lieOf 7 = .ok (.if_icmp .ge 38, 3) := by decide +kernel
theorem dX12_lieOf_10 : decode cX12_lieOf 10 = .ok (.aload_n 0, 1) := by decide +kernel
theorem dX12_lieOf_11 : decode cX12_lieOf 11 = .ok (.getfield 47, 3) := by decide +kernel
theorem dX12_lieOf_14 : decode cX12_lieOf 14 = .ok (.iload_n 1, 1) := by decide +kernel
theorem dX12_lieOf_15 : decode cX12_lieOf 15 = .ok (.iaload, 1) := by decide +kernel
theorem dX12_lieOf_16 : decode cX12_lieOf 16 = .ok (.iload 4, 2) := by decide +kernel
theorem dX12_lieOf_18 : decode cX12_lieOf 18 = .ok (.ishr, 1) := by decide +kernel
theorem dX12_lieOf_19 : decode cX12_lieOf 19 = .ok (.iconst 1, 1) := by decide +kernel
theorem dX12_lieOf_20 : decode cX12_lieOf 20 = .ok (.iand, 1) := by decide +kernel
theorem dX12_lieOf_21 : decode cX12_lieOf 21 = .ok (.iconst 1, 1) := by decide +kernel
theorem dX12_lieOf_22 : decode cX12_lieOf 22 = .ok (.if_icmp .ne 17, 3) := by decide +kernel
theorem dX12_lieOf_25 : decode cX12_lieOf 25 = .ok (.aload_n 0, 1) := by decide +kernel
theorem dX12_lieOf_26 : decode cX12_lieOf 26 = .ok (.iload 4, 2) := by decide +kernel
theorem dX12_lieOf_28 : decode cX12_lieOf 28 = .ok (.iload_n 2, 1) := by decide +kernel
theorem dX12_lieOf_29 : decode cX12_lieOf 29 = .ok (.iload_n 3, 1) := by decide +kernel
theorem dX12_lieOf_30 : decode cX12_lieOf 30 = .ok (.invokevirtual 303, 3) := by decide +kernel
theorem dX12_lieOf_33 : decode cX12_lieOf 33 = .ok (.ifCond .ne 6, 3) := by decide +kernel
theorem dX12_lieOf_36 : decode cX12_lieOf 36 = .ok (.iload 4, 2) := by decide +kernel
theorem dX12_lieOf_38 : decode cX12_lieOf 38 = .ok (.ireturn, 1) := by decide +kernel
theorem dX12_lieOf_39 : decode cX12_lieOf 39 = .ok (.iinc 4 1, 3) := by decide +kernel
theorem dX12_lieOf_42 : decode cX12_lieOf 42 = .ok (.goto (-39), 3) := by decide +kernel
theorem dX12_lieOf_45 : decode cX12_lieOf 45 = .ok (.bipush (-9), 2) := by decide +kernel
theorem dX12_lieOf_47 : decode cX12_lieOf 47 = .ok (.ireturn, 1) := by decide +kernel
theorem dX12_lie_0 : decode cX12_lie 0 = .ok (.aload_n 0, 1) := by decide +kernel
theorem dX12_lie_1 : decode cX12_lie 1 = .ok (.iload_n 1, 1) := by decide +kernel
theorem dX12_lie_2 : decode cX12_lie 2 = .ok (.invokevirtual 290, 3) := by decide +kernel
theorem dX12_lie_5 : decode cX12_lie 5 = .ok (.ifCond .eq 10, 3) := by decide +kernel
theorem dX12_lie_8 : decode cX12_lie 8 = .ok (.iload_n 2, 1) := by decide +kernel
theorem dX12_lie_9 : decode cX12_lie 9 = .ok (.invokestatic 258, 3) := by decide +kernel
theorem dX12_lie_12 : decode cX12_lie 12 = .ok (.ifCond .ne 5, 3) := by decide +kernel
theorem dX12_lie_15 : decode cX12_lie 15 = .ok (.iconst (-1), 1) := by decide +kernel
theorem dX12_lie_16 : decode cX12_lie 16 = .ok (.ireturn, 1) := by decide +kernel
theorem dX12_lie_17 : decode cX12_lie 17 = .ok (.iload_n 3, 1) := by decide +kernel
theorem dX12_lie_18 : decode cX12_lie 18 = .ok (.invokestatic 262, 3) := by decide +kernel
theorem dX12_lie_21 : decode cX12_lie 21 = .ok (.ifCond .eq 13, 3) := by decide +kernel
theorem dX12_lie_24 : decode cX12_lie 24 = .ok (.aload_n 0, 1) := by decide +kernel
theorem dX12_lie_25 : decode cX12_lie 25 = .ok (.iload_n 1, 1) := by decide +kernel
theorem dX12_lie_26 : decode cX12_lie 26 = .ok (.iload_n 2, 1) := by decide +kernel
theorem dX12_lie_27 : decode cX12_lie 27 = .ok (.iload_n 3, 1) := by decide +kernel
theorem dX12_lie_28 : decode cX12_lie 28 = .ok (.invokevirtual 307, 3) := by decide +kernel
theorem dX12_lie_31 : decode cX12_lie 31 = .ok (.goto 5, 3) := by decide +kernel
theorem dX12_lie_34 : decode cX12_lie 34 = .ok (.bipush (-2), 2) := by decide +kernel
theorem dX12_lie_36 : decode cX12_lie 36 = .ok (.ireturn, 1) := by decide +kernel
theorem dX12_find_0 : decode cX12_find 0 = .ok (.iload_n 1, 1) := by decide +kernel
theorem dX12_find_1 : decode cX12_find 1 = .ok (.i2l, 1) := by decide +kernel
theorem dX12_find_2 : decode cX12_find 2 = .ok (.lconst 0, 1) := by decide +kernel
theorem dX12_find_3 : decode cX12_find 3 = .ok (.ldc2_w 286, 3) := by decide +kernel
theorem dX12_find_6 : decode cX12_find 6 = .ok (.invokestatic 245, 3) := by decide +kernel
theorem dX12_find_9 : decode cX12_find 9 = .ok (.ifCond .eq 10, 3) := by decide +kernel
theorem dX12_find_12 : decode cX12_find 12 = .ok (.iload_n 2, 1) := by decide +kernel
theorem dX12_find_13 : decode cX12_find 13 = .ok (.invokestatic 262, 3) := by decide +kernel
theorem dX12_find_16 : decode cX12_find 16 = .ok (.ifCond .ne 6, 3) := by decide +kernel
theorem dX12_find_19 : decode cX12_find 19 = .ok (.bipush (-2), 2) := by decide +kernel
theorem dX12_find_21 : decode cX12_find 21 = .ok (.ireturn, 1) := by decide +kernel
theorem dX12_find_22 : decode cX12_find 22 = .ok (.iload_n 3, 1) := by decide +kernel
theorem dX12_find_23 : decode cX12_find 23 = .ok (.istore 4, 2) := by decide +kernel
theorem dX12_find_25 : decode cX12_find 25 = .ok (.iconst 0, 1) := by decide +kernel
theorem dX12_find_26 : decode cX12_find 26 = .ok (.istore 5, 2) := by decide +kernel
theorem dX12_find_28 : decode cX12_find 28 = .ok (.iload 5, 2) := by decide +kernel
theorem dX12_find_30 : decode cX12_find 30 = .ok (.aload_n 0, 1) := by decide +kernel
theorem dX12_find_31 : decode cX12_find 31 = .ok (.getfield 279, 3) := by decide +kernel
theorem dX12_find_34 : decode cX12_find 34 = .ok (.if_icmp .ge 62, 3) := by decide +kernel
theorem dX12_find_37 : decode cX12_find 37 = .ok (.iload_n 3, 1) := by decide +kernel
theorem dX12_find_38 : decode cX12_find 38 = .ok (.ifCond .lt 58, 3) := by decide +kernel
theorem dX12_find_41 : decode cX12_find 41 = .ok (.aload_n 0, 1) := by decide +kernel
theorem dX12_find_42 : decode cX12_find 42 = .ok (.iload 5, 2) := by decide +kernel
theorem dX12_find_44 : decode cX12_find 44 = .ok (.aload_n 0, 1) := by decide +kernel
theorem dX12_find_45 : decode cX12_find 45 = .ok (.getfield 255, 3) := by decide +kernel
theorem dX12_find_48 : decode cX12_find 48 = .ok (.invokevirtual 297, 3) := by decide +kernel
theorem dX12_find_51 : decode cX12_find 51 = .ok (.iconst 3, 1) := by decide +kernel
theorem dX12_find_52 : decode cX12_find 52 = .ok (.if_icmp .ne 38, 3) := by decide +kernel
theorem dX12_find_55 : decode cX12_find 55 = .ok (.aload_n 0, 1) := by decide +kernel
theorem dX12_find_56 : decode cX12_find 56 = .ok (.getfield 47, 3) := by decide +kernel
theorem dX12_find_59 : decode cX12_find 59 = .ok (.iload 5, 2) := by decide +kernel
theorem dX12_find_61 : decode cX12_find 61 = .ok (.iaload, 1) := by decide +kernel
theorem dX12_find_62 : decode cX12_find 62 = .ok (.iload_n 1, 1) := by decide +kernel
theorem dX12_find_63 : decode cX12_find 63 = .ok (.iand, 1) := by decide +kernel
theorem dX12_find_64 : decode cX12_find 64 = .ok (.iload_n 1, 1) := by decide +kernel
theorem dX12_find_65 : decode cX12_find 65 = .ok (.if_icmp .ne 25, 3) := by decide +kernel
theorem dX12_find_68 : decode cX12_find 68 = .ok (.aload_n 0, 1) := by decide +kernel
theorem dX12_find_69 : decode cX12_find 69 = .ok (.getfield 38, 3) := by decide +kernel
theorem dX12_find_72 : decode cX12_find 72 = .ok (.iload 5, 2) := by decide +kernel
theorem dX12_find_74 : decode cX12_find 74 = .ok (.iaload, 1) := by decide +kernel
theorem dX12_find_75 : decode cX12_find 75 = .ok (.iload_n 2, 1) := by decide +kernel
theorem dX12_find_76 : decode cX12_find 76 = .ok (.if_icmp .lt 14, 3) := by decide +kernel
theorem dX12_find_79 : decode cX12_find 79 = .ok (.iload 4, 2) := by decide +kernel
theorem dX12_find_81 : decode cX12_find 81 = .ok (.ifCond .ne 6, 3) := by decide +kernel
theorem dX12_find_84 : decode cX12_find 84 = .ok (.iload 5, 2) := by decide +kernel
theorem dX12_find_86 : decode cX12_find 86 = .ok (.ireturn, 1) := by decide +kernel
theorem dX12_find_87 : decode cX12_find 87 = .ok (.iinc 4 (-1), 3) := by decide +kernel
theorem dX12_find_90 : decode cX12_find 90 = .ok (.iinc 5 1, 3) := by decide +kernel
theorem dX12_find_93 : decode cX12_find 93 = .ok (.goto (-65), 3) := by decide +kernel
theorem dX12_find_96 : decode cX12_find 96 = .ok (.bipush (-9), 2) := by decide +kernel
theorem dX12_find_98 : decode cX12_find 98 = .ok (.ireturn, 1) := by decide +kernel
theorem dX12_isStory_0 : decode cX12_isStory 0 = .ok (.iload_n 1, 1) := by decide +kernel
theorem dX12_isStory_1 : decode cX12_isStory 1 = .ok (.i2l, 1) := by decide +kernel
theorem dX12_isStory_2 : decode cX12_isStory 2 = .ok (.lconst 0, 1) := by decide +kernel
theorem dX12_isStory_3 : decode cX12_isStory 3 = .ok (.aload_n 0, 1) := by decide +kernel
theorem dX12_isStory_4 : decode cX12_isStory 4 = .ok (.getfield 311, 3) := by decide +kernel
theorem dX12_isStory_7 : decode cX12_isStory 7 = .ok (.iconst 1, 1) := by decide +kernel
theorem dX12_isStory_8 : decode cX12_isStory 8 = .ok (.isub, 1) := by decide +kernel
theorem dX12_isStory_9 : decode cX12_isStory 9 = .ok (.i2l, 1) := by decide +kernel
theorem dX12_isStory_10 : decode cX12_isStory 10 = .ok (.invokestatic 245, 3) := by decide +kernel
theorem dX12_isStory_13 : decode cX12_isStory 13 = .ok (.ireturn, 1) := by decide +kernel
theorem dX12_story_0 : decode cX12_story 0 = .ok (.iload_n 2, 1) := by decide +kernel
theorem dX12_story_1 : decode cX12_story 1 = .ok (.invokestatic 258, 3) := by decide +kernel
theorem dX12_story_4 : decode cX12_story 4 = .ok (.ifCond .ne 5, 3) := by decide +kernel
theorem dX12_story_7 : decode cX12_story 7 = .ok (.iconst (-1), 1) := by decide +kernel
theorem dX12_story_8 : decode cX12_story 8 = .ok (.ireturn, 1) := by decide +kernel
theorem dX12_story_9 : decode cX12_story 9 = .ok (.iload_n 1, 1) := by decide +kernel
theorem dX12_story_10 : decode cX12_story 10 = .ok (.i2l, 1) := by decide +kernel
theorem dX12_story_11 : decode cX12_story 11 = .ok (.lconst 0, 1) := by decide +kernel
theorem dX12_story_12 : decode cX12_story 12 = .ok (.ldc2_w 284, 3) := by decide +kernel
theorem dX12_story_15 : decode cX12_story 15 = .ok (.invokestatic 245, 3) := by decide +kernel
theorem dX12_story_18 : decode cX12_story 18 = .ok (.ifCond .eq 23, 3) := by decide +kernel
theorem dX12_story_21 : decode cX12_story 21 = .ok (.iload_n 3, 1) := by decide +kernel
theorem dX12_story_22 : decode cX12_story 22 = .ok (.invokestatic 262, 3) := by decide +kernel
theorem dX12_story_25 : decode cX12_story 25 = .ok (.ifCond .eq 16, 3) := by decide +kernel
theorem dX12_story_28 : decode cX12_story 28 = .ok (.iload 4, 2) := by decide +kernel
theorem dX12_story_30 : decode cX12_story 30 = .ok (.i2l, 1) := by decide +kernel
theorem dX12_story_31 : decode cX12_story 31 = .ok (.lconst 0, 1) := by decide +kernel
theorem dX12_story_32 : decode cX12_story 32 = .ok (.ldc2_w 314, 3) := by decide +kernel
theorem dX12_story_35 : decode cX12_story 35 = .ok (.invokestatic 245, 3) := by decide +kernel
theorem dX12_story_38 : decode cX12_story 38 = .ok (.ifCond .ne 6, 3) := by decide +kernel
theorem dX12_story_41 : decode cX12_story 41 = .ok (.bipush (-2), 2) := by decide +kernel
theorem dX12_story_43 : decode cX12_story 43 = .ok (.ireturn, 1) := by decide +kernel
theorem dX12_story_44 : decode cX12_story 44 = .ok (.aload_n 0, 1) := by decide +kernel
theorem dX12_story_45 : decode cX12_story 45 = .ok (.getfield 311, 3) := by decide +kernel
theorem dX12_story_48 : decode cX12_story 48 = .ok (.bipush 8, 2) := by decide +kernel
theorem dX12_story_50 : decode cX12_story 50 = .ok (.if_icmp .ne 6, 3) := by decide +kernel
theorem dX12_story_53 : decode cX12_story 53 = .ok (.bipush (-4), 2) := by decide +kernel
theorem dX12_story_55 : decode cX12_story 55 = .ok (.ireturn, 1) := by decide +kernel
theorem dX12_story_56 : decode cX12_story 56 = .ok (.aload_n 0, 1) := by decide +kernel
theorem dX12_story_57 : decode cX12_story 57 = .ok (.getfield 80, 3) := by decide +kernel
theorem dX12_story_60 : decode cX12_story 60 = .ok (.aload_n 0, 1) := by decide +kernel
theorem dX12_story_61 : decode cX12_story 61 = .ok (.getfield 311, 3) := by decide +kernel
theorem dX12_story_64 : decode cX12_story 64 = .ok (.iload_n 1, 1) := by decide +kernel
theorem dX12_story_65 : decode cX12_story 65 = .ok (.iastore, 1) := by decide +kernel
theorem dX12_story_66 : decode cX12_story 66 = .ok (.aload_n 0, 1) := by decide +kernel
theorem dX12_story_67 : decode cX12_story 67 = .ok (.getfield 83, 3) := by decide +kernel
theorem dX12_story_70 : decode cX12_story 70 = .ok (.aload_n 0, 1) := by decide +kernel
theorem dX12_story_71 : decode cX12_story 71 = .ok (.getfield 311, 3) := by decide +kernel
theorem dX12_story_74 : decode cX12_story 74 = .ok (.iload_n 2, 1) := by decide +kernel
theorem dX12_story_75 : decode cX12_story 75 = .ok (.iastore, 1) := by decide +kernel
theorem dX12_story_76 : decode cX12_story 76 = .ok (.aload_n 0, 1) := by decide +kernel
theorem dX12_story_77 : decode cX12_story 77 = .ok (.getfield 86, 3) := by decide +kernel
theorem dX12_story_80 : decode cX12_story 80 = .ok (.aload_n 0, 1) := by decide +kernel
theorem dX12_story_81 : decode cX12_story 81 = .ok (.getfield 311, 3) := by decide +kernel
theorem dX12_story_84 : decode cX12_story 84 = .ok (.iload_n 3, 1) := by decide +kernel
theorem dX12_story_85 : decode cX12_story 85 = .ok (.iastore, 1) := by decide +kernel
theorem dX12_story_86 : decode cX12_story 86 = .ok (.aload_n 0, 1) := by decide +kernel
theorem dX12_story_87 : decode cX12_story 87 = .ok (.getfield 89, 3) := by decide +kernel
theorem dX12_story_90 : decode cX12_story 90 = .ok (.aload_n 0, 1) := by decide +kernel
theorem dX12_story_91 : decode cX12_story 91 = .ok (.getfield 311, 3) := by decide +kernel
theorem dX12_story_94 : decode cX12_story 94 = .ok (.iload 4, 2) := by decide +kernel
theorem dX12_story_96 : decode cX12_story 96 = .ok (.iastore, 1) := by decide +kernel
theorem dX12_story_97 : decode cX12_story 97 = .ok (.aload_n 0, 1) := by decide +kernel
theorem dX12_story_98 : decode cX12_story 98 = .ok (.dup, 1) := by decide +kernel
theorem dX12_story_99 : decode cX12_story 99 = .ok (.getfield 311, 3) := by decide +kernel
theorem dX12_story_102 : decode cX12_story 102 = .ok (.iconst 1, 1) := by decide +kernel
theorem dX12_story_103 : decode cX12_story 103 = .ok (.iadd, 1) := by decide +kernel
theorem dX12_story_104 : decode cX12_story 104 = .ok (.putfield 311, 3) := by decide +kernel
theorem dX12_story_107 : decode cX12_story 107 = .ok (.aload_n 0, 1) := by decide +kernel
theorem dX12_story_108 : decode cX12_story 108 = .ok (.getfield 311, 3) := by decide +kernel
theorem dX12_story_111 : decode cX12_story 111 = .ok (.iconst 1, 1) := by decide +kernel
theorem dX12_story_112 : decode cX12_story 112 = .ok (.isub, 1) := by decide +kernel
theorem dX12_story_113 : decode cX12_story 113 = .ok (.ireturn, 1) := by decide +kernel
theorem dX12_put_0 : decode cX12_put 0 = .ok (.aload_n 0, 1) := by decide +kernel
theorem dX12_put_1 : decode cX12_put 1 = .ok (.iload_n 1, 1) := by decide +kernel
theorem dX12_put_2 : decode cX12_put 2 = .ok (.invokevirtual 316, 3) := by decide +kernel
theorem dX12_put_5 : decode cX12_put 5 = .ok (.ifCond .eq 11, 3) := by decide +kernel
theorem dX12_put_8 : decode cX12_put 8 = .ok (.aload_n 0, 1) := by decide +kernel
theorem dX12_put_9 : decode cX12_put 9 = .ok (.iload_n 2, 1) := by decide +kernel
theorem dX12_put_10 : decode cX12_put 10 = .ok (.invokevirtual 290, 3) := by decide +kernel
theorem dX12_put_13 : decode cX12_put 13 = .ok (.ifCond .ne 5, 3) := by decide +kernel
theorem dX12_put_16 : decode cX12_put 16 = .ok (.iconst (-1), 1) := by decide +kernel
theorem dX12_put_17 : decode cX12_put 17 = .ok (.ireturn, 1) := by decide +kernel
theorem dX12_put_18 : decode cX12_put 18 = .ok (.iconst 0, 1) := by decide +kernel
theorem dX12_put_19 : decode cX12_put 19 = .ok (.istore_n 3, 1) := by decide +kernel
theorem dX12_put_20 : decode cX12_put 20 = .ok (.iconst 0, 1) := by decide +kernel
theorem dX12_put_21 : decode cX12_put 21 = .ok (.istore 4, 2) := by decide +kernel
theorem dX12_put_23 : decode cX12_put 23 = .ok (.iload 4, 2) := by decide +kernel
theorem dX12_put_25 : decode cX12_put 25 = .ok (.aload_n 0, 1) := by decide +kernel
theorem dX12_put_26 : decode cX12_put 26 = .ok (.getfield 92, 3) := by decide +kernel
theorem dX12_put_29 : decode cX12_put 29 = .ok (.iload_n 1, 1) := by decide +kernel
theorem dX12_put_30 : decode cX12_put 30 = .ok (.iaload, 1) := by decide +kernel
theorem dX12_put_31 : decode cX12_put 31 = .ok (.if_icmp .ge 35, 3) := by decide +kernel
theorem dX12_put_34 : decode cX12_put 34 = .ok (.iload_n 3, 1) := by decide +kernel
theorem dX12_put_35 : decode cX12_put 35 = .ok (.ifCond .ne 19, 3) := by decide +kernel
theorem dX12_put_38 : decode cX12_put 38 = .ok (.aload_n 0, 1) := by decide +kernel
theorem dX12_put_39 : decode cX12_put 39 = .ok (.getfield 95, 3) := by decide +kernel
theorem dX12_put_42 : decode cX12_put 42 = .ok (.bipush 6, 2) := by decide +kernel
theorem dX12_put_44 : decode cX12_put 44 = .ok (.iload_n 1, 1) := by decide +kernel
theorem dX12_put_45 : decode cX12_put 45 = .ok (.imul, 1) := by decide +kernel
theorem dX12_put_46 : decode cX12_put 46 = .ok (.iload 4, 2) := by decide +kernel
theorem dX12_put_48 : decode cX12_put 48 = .ok (.iadd, 1) := by decide +kernel
theorem dX12_put_49 : decode cX12_put 49 = .ok (.iaload, 1) := by decide +kernel
theorem dX12_put_50 : decode cX12_put 50 = .ok (.iload_n 2, 1) := by decide +kernel
theorem dX12_put_51 : decode cX12_put 51 = .ok (.if_icmp .ne 7, 3) := by decide +kernel
theorem dX12_put_54 : decode cX12_put 54 = .ok (.iconst 1, 1) := by decide +kernel
theorem dX12_put_55 : decode cX12_put 55 = .ok (.goto 4, 3) := by decide +kernel
theorem dX12_put_58 : decode cX12_put 58 = .ok (.iconst 0, 1) := by decide +kernel
theorem dX12_put_59 : decode cX12_put 59 = .ok (.istore_n 3, 1) := by decide +kernel
theorem dX12_put_60 : decode cX12_put 60 = .ok (.iinc 4 1, 3) := by decide +kernel
theorem dX12_put_63 : decode cX12_put 63 = .ok (.goto (-40), 3) := by decide +kernel
theorem dX12_put_66 : decode cX12_put 66 = .ok (.iload_n 3, 1) := by decide +kernel
theorem dX12_put_67 : decode cX12_put 67 = .ok (.ifCond .ne 16, 3) := by decide +kernel
theorem dX12_put_70 : decode cX12_put 70 = .ok (.aload_n 0, 1) := by decide +kernel
theorem dX12_put_71 : decode cX12_put 71 = .ok (.iload_n 2, 1) := by decide +kernel
theorem dX12_put_72 : decode cX12_put 72 = .ok (.aload_n 0, 1) := by decide +kernel
theorem dX12_put_73 : decode cX12_put 73 = .ok (.getfield 255, 3) := by decide +kernel
theorem dX12_put_76 : decode cX12_put 76 = .ok (.invokevirtual 297, 3) := by decide +kernel
theorem dX12_put_79 : decode cX12_put 79 = .ok (.iconst 3, 1) := by decide +kernel
theorem dX12_put_80 : decode cX12_put 80 = .ok (.if_icmp .eq 6, 3) := by decide +kernel
theorem dX12_put_83 : decode cX12_put 83 = .ok (.bipush (-3), 2) := by decide +kernel
theorem dX12_put_85 : decode cX12_put 85 = .ok (.ireturn, 1) := by decide +kernel
theorem dX12_put_86 : decode cX12_put 86 = .ok (.aload_n 0, 1) := by decide +kernel
theorem dX12_put_87 : decode cX12_put 87 = .ok (.getfield 92, 3) := by decide +kernel
theorem dX12_put_90 : decode cX12_put 90 = .ok (.iload_n 1, 1) := by decide +kernel
theorem dX12_put_91 : decode cX12_put 91 = .ok (.iaload, 1) := by decide +kernel
theorem dX12_put_92 : decode cX12_put 92 = .ok (.bipush 6, 2) := by decide +kernel
theorem dX12_put_94 : decode cX12_put 94 = .ok (.if_icmp .ne 6, 3) := by decide +kernel
theorem dX12_put_97 : decode cX12_put 97 = .ok (.bipush (-4), 2) := by decide +kernel
theorem dX12_put_99 : decode cX12_put 99 = .ok (.ireturn, 1) := by decide +kernel
theorem dX12_put_100 : decode cX12_put 100 = .ok (.aload_n 0, 1) := by decide +kernel
theorem dX12_put_101 : decode cX12_put 101 = .ok (.getfield 95, 3) := by decide +kernel
theorem dX12_put_104 : decode cX12_put 104 = .ok (.bipush 6, 2) := by decide +kernel
theorem dX12_put_106 : decode cX12_put 106 = .ok (.iload_n 1, 1) := by decide +kernel
theorem dX12_put_107 : decode cX12_put 107 = .ok (.imul, 1) := by decide +kernel
theorem dX12_put_108 : decode cX12_put 108 = .ok (.aload_n 0, 1) := by decide +kernel
theorem dX12_put_109 : decode cX12_put 109 = .ok (.getfield 92, 3) := by decide +kernel
theorem dX12_put_112 : decode cX12_put 112 = .ok (.iload_n 1, 1) := by decide +kernel
theorem dX12_put_113 : decode cX12_put 113 = .ok (.iaload, 1) := by decide +kernel
theorem dX12_put_114 : decode cX12_put 114 = .ok (.iadd, 1) := by decide +kernel
theorem dX12_put_115 : decode cX12_put 115 = .ok (.iload_n 2, 1) := by decide +kernel
theorem dX12_put_116 : decode cX12_put 116 = .ok (.iastore, 1) := by decide +kernel
theorem dX12_put_117 : decode cX12_put 117 = .ok (.aload_n 0, 1) := by decide +kernel
theorem dX12_put_118 : decode cX12_put 118 = .ok (.getfield 92, 3) := by decide +kernel
theorem dX12_put_121 : decode cX12_put 121 = .ok (.iload_n 1, 1) := by decide +kernel
theorem dX12_put_122 : decode cX12_put 122 = .ok (.dup2, 1) := by decide +kernel
theorem dX12_put_123 : decode cX12_put 123 = .ok (.iaload, 1) := by decide +kernel
theorem dX12_put_124 : decode cX12_put 124 = .ok (.iconst 1, 1) := by decide +kernel
theorem dX12_put_125 : decode cX12_put 125 = .ok (.iadd, 1) := by decide +kernel
theorem dX12_put_126 : decode cX12_put 126 = .ok (.iastore, 1) := by decide +kernel
theorem dX12_put_127 : decode cX12_put 127 = .ok (.aload_n 0, 1) := by decide +kernel
theorem dX12_put_128 : decode cX12_put 128 = .ok (.getfield 92, 3) := by decide +kernel
theorem dX12_put_131 : decode cX12_put 131 = .ok (.iload_n 1, 1) := by decide +kernel
theorem dX12_put_132 : decode cX12_put 132 = .ok (.iaload, 1) := by decide +kernel
theorem dX12_put_133 : decode cX12_put 133 = .ok (.ireturn, 1) := by decide +kernel
theorem dX12_cut_0 : decode cX12_cut 0 = .ok (.aload_n 0, 1) := by decide +kernel
theorem dX12_cut_1 : decode cX12_cut 1 = .ok (.iload_n 1, 1) := by decide +kernel
theorem dX12_cut_2 : decode cX12_cut 2 = .ok (.invokevirtual 316, 3) := by decide +kernel
theorem dX12_cut_5 : decode cX12_cut 5 = .ok (.ifCond .ne 5, 3) := by decide +kernel
theorem dX12_cut_8 : decode cX12_cut 8 = .ok (.iconst (-1), 1) := by decide +kernel
theorem dX12_cut_9 : decode cX12_cut 9 = .ok (.ireturn, 1) := by decide +kernel
theorem dX12_cut_10 : decode cX12_cut 10 = .ok (.iload_n 2, 1) := by decide +kernel
theorem dX12_cut_11 : decode cX12_cut 11 = .ok (.i2l, 1) := by decide +kernel
theorem dX12_cut_12 : decode cX12_cut 12 = .ok (.lconst 0, 1) := by decide +kernel
theorem dX12_cut_13 : decode cX12_cut 13 = .ok (.aload_n 0, 1) := by decide +kernel
theorem dX12_cut_14 : decode cX12_cut 14 = .ok (.getfield 92, 3) := by decide +kernel
theorem dX12_cut_17 : decode cX12_cut 17 = .ok (.iload_n 1, 1) := by decide +kernel
theorem dX12_cut_18 : decode cX12_cut 18 = .ok (.iaload, 1) := by decide +kernel
theorem dX12_cut_19 : decode cX12_cut 19 = .ok (.iconst 1, 1) := by decide +kernel
theorem dX12_cut_20 : decode cX12_cut 20 = .ok (.isub, 1) := by decide +kernel
theorem dX12_cut_21 : decode cX12_cut 21 = .ok (.i2l, 1) := by decide +kernel
theorem dX12_cut_22 : decode cX12_cut 22 = .ok (.invokestatic 245, 3) := by decide +kernel
theorem dX12_cut_25 : decode cX12_cut 25 = .ok (.ifCond .ne 6, 3) := by decide +kernel
theorem dX12_cut_28 : decode cX12_cut 28 = .ok (.bipush (-2), 2) := by decide +kernel
theorem dX12_cut_30 : decode cX12_cut 30 = .ok (.ireturn, 1) := by decide +kernel
theorem dX12_cut_31 : decode cX12_cut 31 = .ok (.aload_n 0, 1) := by decide +kernel
theorem dX12_cut_32 : decode cX12_cut 32 = .ok (.getfield 95, 3) := by decide +kernel
theorem dX12_cut_35 : decode cX12_cut 35 = .ok (.bipush 6, 2) := by decide +kernel
theorem dX12_cut_37 : decode cX12_cut 37 = .ok (.iload_n 1, 1) := by decide +kernel
theorem dX12_cut_38 : decode cX12_cut 38 = .ok (.imul, 1) := by decide +kernel
theorem dX12_cut_39 : decode cX12_cut 39 = .ok (.iload_n 2, 1) := by decide +kernel
theorem dX12_cut_40 : decode cX12_cut 40 = .ok (.iadd, 1) := by decide +kernel
theorem dX12_cut_41 : decode cX12_cut 41 = .ok (.iaload, 1) := by decide +kernel
theorem dX12_cut_42 : decode cX12_cut 42 = .ok (.istore_n 3, 1) := by decide +kernel
theorem dX12_cut_43 : decode cX12_cut 43 = .ok (.aload_n 0, 1) := by decide +kernel
theorem dX12_cut_44 : decode cX12_cut 44 = .ok (.getfield 92, 3) := by decide +kernel
theorem dX12_cut_47 : decode cX12_cut 47 = .ok (.iload_n 1, 1) := by decide +kernel
theorem dX12_cut_48 : decode cX12_cut 48 = .ok (.dup2, 1) := by decide +kernel
theorem dX12_cut_49 : decode cX12_cut 49 = .ok (.iaload, 1) := by decide +kernel
theorem dX12_cut_50 : decode cX12_cut 50 = .ok (.iconst 1, 1) := by decide +kernel
theorem dX12_cut_51 : decode cX12_cut 51 = .ok (.isub, 1) := by decide +kernel
theorem dX12_cut_52 : decode cX12_cut 52 = .ok (.iastore, 1) := by decide +kernel
theorem dX12_cut_53 : decode cX12_cut 53 = .ok (.iload_n 2, 1) := by decide +kernel
theorem dX12_cut_54 : decode cX12_cut 54 = .ok (.istore 4, 2) := by decide +kernel
theorem dX12_cut_56 : decode cX12_cut 56 = .ok (.iload 4, 2) := by decide +kernel
theorem dX12_cut_58 : decode cX12_cut 58 = .ok (.aload_n 0, 1) := by decide +kernel
theorem dX12_cut_59 : decode cX12_cut 59 = .ok (.getfield 92, 3) := by decide +kernel
theorem dX12_cut_62 : decode cX12_cut 62 = .ok (.iload_n 1, 1) := by decide +kernel
theorem dX12_cut_63 : decode cX12_cut 63 = .ok (.iaload, 1) := by decide +kernel
theorem dX12_cut_64 : decode cX12_cut 64 = .ok (.if_icmp .ge 35, 3) := by decide +kernel
theorem dX12_cut_67 : decode cX12_cut 67 = .ok (.aload_n 0, 1) := by decide +kernel
theorem dX12_cut_68 : decode cX12_cut 68 = .ok (.getfield 95, 3) := by decide +kernel
theorem dX12_cut_71 : decode cX12_cut 71 = .ok (.bipush 6, 2) := by decide +kernel
theorem dX12_cut_73 : decode cX12_cut 73 = .ok (.iload_n 1, 1) := by decide +kernel
theorem dX12_cut_74 : decode cX12_cut 74 = .ok (.imul, 1) := by decide +kernel
theorem dX12_cut_75 : decode cX12_cut 75 = .ok (.iload 4, 2) := by decide +kernel
theorem dX12_cut_77 : decode cX12_cut 77 = .ok (.iadd, 1) := by decide +kernel
theorem dX12_cut_78 : decode cX12_cut 78 = .ok (.aload_n 0, 1) := by decide +kernel
theorem dX12_cut_79 : decode cX12_cut 79 = .ok (.getfield 95, 3) := by decide +kernel
theorem dX12_cut_82 : decode cX12_cut 82 = .ok (.bipush 6, 2) := by decide +kernel
theorem dX12_cut_84 : decode cX12_cut 84 = .ok (.iload_n 1, 1) := by decide +kernel
theorem dX12_cut_85 : decode cX12_cut 85 = .ok (.imul, 1) := by decide +kernel
theorem dX12_cut_86 : decode cX12_cut 86 = .ok (.iload 4, 2) := by decide +kernel
theorem dX12_cut_88 : decode cX12_cut 88 = .ok (.iadd, 1) := by decide +kernel
theorem dX12_cut_89 : decode cX12_cut 89 = .ok (.iconst 1, 1) := by decide +kernel
theorem dX12_cut_90 : decode cX12_cut 90 = .ok (.iadd, 1) := by decide +kernel
theorem dX12_cut_91 : decode cX12_cut 91 = .ok (.iaload, 1) := by decide +kernel
theorem dX12_cut_92 : decode cX12_cut 92 = .ok (.iastore, 1) := by decide +kernel
theorem dX12_cut_93 : decode cX12_cut 93 = .ok (.iinc 4 1, 3) := by decide +kernel
theorem dX12_cut_96 : decode cX12_cut 96 = .ok (.goto (-40), 3) := by decide +kernel
theorem dX12_cut_99 : decode cX12_cut 99 = .ok (.iload_n 3, 1) := by decide +kernel
theorem dX12_cut_100 : decode cX12_cut 100 = .ok (.ireturn, 1) := by decide +kernel
theorem dX12_say_0 : decode cX12_say 0 = .ok (.aload_n 0, 1) := by decide +kernel
theorem dX12_say_1 : decode cX12_say 1 = .ok (.iload_n 1, 1) := by decide +kernel
theorem dX12_say_2 : decode cX12_say 2 = .ok (.invokevirtual 316, 3) := by decide +kernel
theorem dX12_say_5 : decode cX12_say 5 = .ok (.ifCond .ne 5, 3) := by decide +kernel
theorem dX12_say_8 : decode cX12_say 8 = .ok (.iconst (-1), 1) := by decide +kernel
theorem dX12_say_9 : decode cX12_say 9 = .ok (.ireturn, 1) := by decide +kernel
theorem dX12_say_10 : decode cX12_say 10 = .ok (.aload_n 0, 1) := by decide +kernel
theorem dX12_say_11 : decode cX12_say 11 = .ok (.getfield 98, 3) := by decide +kernel
theorem dX12_say_14 : decode cX12_say 14 = .ok (.iload_n 1, 1) := by decide +kernel
theorem dX12_say_15 : decode cX12_say 15 = .ok (.baload, 1) := by decide +kernel
theorem dX12_say_16 : decode cX12_say 16 = .ok (.ifCond .eq 7, 3) := by decide +kernel
theorem dX12_say_19 : decode cX12_say 19 = .ok (.iconst 1, 1) := by decide +kernel
theorem dX12_say_20 : decode cX12_say 20 = .ok (.goto 4, 3) := by decide +kernel
theorem dX12_say_23 : decode cX12_say 23 = .ok (.iconst 0, 1) := by decide +kernel
theorem dX12_say_24 : decode cX12_say 24 = .ok (.istore_n 3, 1) := by decide +kernel
theorem dX12_say_25 : decode cX12_say 25 = .ok (.aload_n 0, 1) := by decide +kernel
theorem dX12_say_26 : decode cX12_say 26 = .ok (.getfield 98, 3) := by decide +kernel
theorem dX12_say_29 : decode cX12_say 29 = .ok (.iload_n 1, 1) := by decide +kernel
theorem dX12_say_30 : decode cX12_say 30 = .ok (.iload_n 2, 1) := by decide +kernel
theorem dX12_say_31 : decode cX12_say 31 = .ok (.bastore, 1) := by decide +kernel
theorem dX12_say_32 : decode cX12_say 32 = .ok (.iload_n 3, 1) := by decide +kernel
theorem dX12_say_33 : decode cX12_say 33 = .ok (.ireturn, 1) := by decide +kernel
theorem dX12_must_0 : decode cX12_must 0 = .ok (.aload_n 0, 1) := by decide +kernel
theorem dX12_must_1 : decode cX12_must 1 = .ok (.iload_n 1, 1) := by decide +kernel
theorem dX12_must_2 : decode cX12_must 2 = .ok (.invokevirtual 316, 3) := by decide +kernel
theorem dX12_must_5 : decode cX12_must 5 = .ok (.ifCond .ne 5, 3) := by decide +kernel
theorem dX12_must_8 : decode cX12_must 8 = .ok (.iconst (-1), 1) := by decide +kernel
theorem dX12_must_9 : decode cX12_must 9 = .ok (.ireturn, 1) := by decide +kernel
theorem dX12_must_10 : decode cX12_must 10 = .ok (.aload_n 0, 1) := by decide +kernel
theorem dX12_must_11 : decode cX12_must 11 = .ok (.getfield 101, 3) := by decide +kernel
theorem dX12_must_14 : decode cX12_must 14 = .ok (.iload_n 1, 1) := by decide +kernel
theorem dX12_must_15 : decode cX12_must 15 = .ok (.baload, 1) := by decide +kernel
theorem dX12_must_16 : decode cX12_must 16 = .ok (.ifCond .eq 7, 3) := by decide +kernel
theorem dX12_must_19 : decode cX12_must 19 = .ok (.iconst 1, 1) := by decide +kernel
theorem dX12_must_20 : decode cX12_must 20 = .ok (.goto 4, 3) := by decide +kernel
theorem dX12_must_23 : decode cX12_must 23 = .ok (.iconst 0, 1) := by decide +kernel
theorem dX12_must_24 : decode cX12_must 24 = .ok (.istore_n 3, 1) := by decide +kernel
theorem dX12_must_25 : decode cX12_must 25 = .ok (.aload_n 0, 1) := by decide +kernel
theorem dX12_must_26 : decode cX12_must 26 = .ok (.getfield 101, 3) := by decide +kernel
theorem dX12_must_29 : decode cX12_must 29 = .ok (.iload_n 1, 1) := by decide +kernel
theorem dX12_must_30 : decode cX12_must 30 = .ok (.iload_n 2, 1) := by decide +kernel
theorem dX12_must_31 : decode cX12_must 31 = .ok (.bastore, 1) := by decide +kernel
theorem dX12_must_32 : decode cX12_must 32 = .ok (.iload_n 3, 1) := by decide +kernel
theorem dX12_must_33 : decode cX12_must 33 = .ok (.ireturn, 1) := by decide +kernel
theorem dX12_feetOf_0 : decode cX12_feetOf 0 = .ok (.iconst 0, 1) := by decide +kernel
theorem dX12_feetOf_1 : decode cX12_feetOf 1 = .ok (.istore_n 2, 1) := by decide +kernel
theorem dX12_feetOf_2 : decode cX12_feetOf 2 = .ok (.iconst 0, 1) := by decide +kernel
theorem dX12_feetOf_3 : decode cX12_feetOf 3 = .ok (.istore_n 3, 1) := by decide +kernel
theorem dX12_feetOf_4 : decode cX12_feetOf 4 = .ok (.iload_n 3, 1) := by decide +kernel
theorem dX12_feetOf_5 : decode cX12_feetOf 5 = .ok (.aload_n 0, 1) := by decide +kernel
theorem dX12_feetOf_6 : decode cX12_feetOf 6 = .ok (.getfield 92, 3) := by decide +kernel
theorem dX12_feetOf_9 : decode cX12_feetOf 9 = .ok (.iload_n 1, 1) := by decide +kernel
theorem dX12_feetOf_10 : decode cX12_feetOf 10 = .ok (.iaload, 1) := by decide +kernel
theorem dX12_feetOf_11 : decode cX12_feetOf 11 = .ok (.if_icmp .ge 28, 3) := by decide +kernel
theorem dX12_feetOf_14 : decode cX12_feetOf 14 = .ok (.iload_n 2, 1) := by decide +kernel
theorem dX12_feetOf_15 : decode cX12_feetOf 15 = .ok (.aload_n 0, 1) := by decide +kernel
theorem dX12_feetOf_16 : decode cX12_feetOf 16 = .ok (.getfield 41, 3) := by decide +kernel
theorem dX12_feetOf_19 : decode cX12_feetOf 19 = .ok (.aload_n 0, 1) := by decide +kernel
theorem dX12_feetOf_20 : decode cX12_feetOf 20 = .ok (.getfield 95, 3) := by decide +kernel
theorem dX12_feetOf_23 : decode cX12_feetOf 23 = .ok (.bipush 6, 2) := by decide +kernel
theorem dX12_feetOf_25 : decode cX12_feetOf 25 = .ok (.iload_n 1, 1) := by decide +kernel
theorem dX12_feetOf_26 : decode cX12_feetOf 26 = .ok (.imul, 1) := by decide +kernel
theorem dX12_feetOf_27 : decode cX12_feetOf 27 = .ok (.iload_n 3, 1) := by decide +kernel
theorem dX12_feetOf_28 : decode cX12_feetOf 28 = .ok (.iadd, 1) := by decide +kernel
theorem dX12_feetOf_29 : decode cX12_feetOf 29 = .ok (.iaload, 1) := by decide +kernel
theorem dX12_feetOf_30 : decode cX12_feetOf 30 = .ok (.iaload, 1) := by decide +kernel
theorem dX12_feetOf_31 : decode cX12_feetOf 31 = .ok (.iadd, 1) := by decide +kernel
theorem dX12_feetOf_32 : decode cX12_feetOf 32 = .ok (.istore_n 2, 1) := by decide +kernel
theorem dX12_feetOf_33 : decode cX12_feetOf 33 = .ok (.iinc 3 1, 3) := by decide +kernel
theorem dX12_feetOf_36 : decode cX12_feetOf 36 = .ok (.goto (-32), 3) := by decide +kernel
theorem dX12_feetOf_39 : decode cX12_feetOf 39 = .ok (.iload_n 2, 1) := by decide +kernel
theorem dX12_feetOf_40 : decode cX12_feetOf 40 = .ok (.ireturn, 1) := by decide +kernel
theorem dX12_disorderOf_0 : decode cX12_disorderOf 0 = .ok (.iconst 1, 1) := by decide +kernel
theorem dX12_disorderOf_1 : decode cX12_disorderOf 1 = .ok (.istore_n 2, 1) := by decide +kernel
theorem dX12_disorderOf_2 : decode cX12_disorderOf 2 = .ok (.iload_n 2, 1) := by decide +kernel
theorem dX12_disorderOf_3 : decode cX12_disorderOf 3 = .ok (.aload_n 0, 1) := by decide +kernel
theorem dX12_disorderOf_4 : decode cX12_disorderOf 4 = .ok (.getfield 92, 3) := by decide +kernel
theorem dX12_disorderOf_7 : decode cX12_disorderOf 7 = .ok (.iload_n 1, 1) := by decide +kernel
theorem dX12_disorderOf_8 : decode cX12_disorderOf 8 = .ok (.iaload, 1) := by decide +kernel
theorem dX12_disorderOf_9 : decode cX12_disorderOf 9 = .ok (.if_icmp .ge 66, 3) := by decide +kernel
theorem dX12_disorderOf_12 : decode cX12_disorderOf 12 = .ok (.aload_n 0, 1) := by decide +kernel
theorem dX12_disorderOf_13 : decode cX12_disorderOf 13 = .ok (.getfield 38, 3) := by decide +kernel
theorem dX12_disorderOf_16 : decode cX12_disorderOf 16 = .ok (.aload_n 0, 1) := by decide +kernel
theorem dX12_disorderOf_17 : decode cX12_disorderOf 17 = .ok (.getfield 95, 3) := by decide +kernel
theorem dX12_disorderOf_20 : decode cX12_disorderOf 20 = .ok (.bipush 6, 2) := by decide +kernel
theorem dX12_disorderOf_22 : decode cX12_disorderOf 22 = .ok (.iload_n 1, 1) := by decide +kernel
theorem dX12_disorderOf_23 : decode cX12_disorderOf 23 = .ok (.imul, 1) := by decide +kernel
theorem dX12_disorderOf_24 : decode cX12_disorderOf 24 = .ok (.iload_n 2, 1) := by decide +kernel
theorem dX12_disorderOf_25 : decode cX12_disorderOf 25 = .ok (.iadd, 1) := by decide +kernel
theorem dX12_disorderOf_26 : decode cX12_disorderOf 26 = .ok (.iconst 1, 1) := by decide +kernel
theorem dX12_disorderOf_27 : decode cX12_disorderOf 27 = .ok (.isub, 1) := by decide +kernel
theorem dX12_disorderOf_28 : decode cX12_disorderOf 28 = .ok (.iaload, 1) := by decide +kernel
theorem dX12_disorderOf_29 : decode cX12_disorderOf 29 = .ok (.iaload, 1) := by decide +kernel
theorem dX12_disorderOf_30 : decode cX12_disorderOf 30 = .ok (.istore_n 3, 1) := by decide +kernel
theorem dX12_disorderOf_31 : decode cX12_disorderOf 31 = .ok (.aload_n 0, 1) := by decide +kernel
theorem dX12_disorderOf_32 : decode cX12_disorderOf 32 = .ok (.getfield 38, 3) := by decide +kernel
theorem dX12_disorderOf_35 : decode cX12_disorderOf 35 = .ok (.aload_n 0, 1) := by decide +kernel
theorem dX12_disorderOf_36 : decode cX12_disorderOf 36 = .ok (.getfield 95, 3) := by decide +kernel
theorem dX12_disorderOf_39 : decode cX12_disorderOf 39 = .ok (.bipush 6, 2) := by decide +kernel
theorem dX12_disorderOf_41 : decode cX12_disorderOf 41 = .ok (.iload_n 1, 1) := by decide +kernel
theorem dX12_disorderOf_42 : decode cX12_disorderOf 42 = .ok (.imul, 1) := by decide +kernel
theorem dX12_disorderOf_43 : decode cX12_disorderOf 43 = .ok (.iload_n 2, 1) := by decide +kernel
theorem dX12_disorderOf_44 : decode cX12_disorderOf 44 = .ok (.iadd, 1) := by decide +kernel
theorem dX12_disorderOf_45 : decode cX12_disorderOf 45 = .ok (.iaload, 1) := by decide +kernel
theorem dX12_disorderOf_46 : decode cX12_disorderOf 46 = .ok (.iaload, 1) := by decide +kernel
theorem dX12_disorderOf_47 : decode cX12_disorderOf 47 = .ok (.istore 4, 2) := by decide +kernel
theorem dX12_disorderOf_49 : decode cX12_disorderOf 49 = .ok (.iload 4, 2) := by decide +kernel
theorem dX12_disorderOf_51 : decode cX12_disorderOf 51 = .ok (.iload_n 3, 1) := by decide +kernel
theorem dX12_disorderOf_52 : decode cX12_disorderOf 52 = .ok (.if_icmp .lt 15, 3) := by decide +kernel
theorem dX12_disorderOf_55 : decode cX12_disorderOf 55 = .ok (.iload 4, 2) := by decide +kernel
theorem dX12_disorderOf_57 : decode cX12_disorderOf 57 = .ok (.bipush 24, 2) := by decide +kernel
theorem dX12_disorderOf_59 : decode cX12_disorderOf 59 = .ok (.idiv, 1) := by decide +kernel
theorem dX12_disorderOf_60 : decode cX12_disorderOf 60 = .ok (.iload_n 3, 1) := by decide +kernel
theorem dX12_disorderOf_61 : decode cX12_disorderOf 61 = .ok (.bipush 24, 2) := by decide +kernel
theorem dX12_disorderOf_63 : decode cX12_disorderOf 63 = .ok (.idiv, 1) := by decide +kernel
theorem dX12_disorderOf_64 : decode cX12_disorderOf 64 = .ok (.if_icmp .eq 5, 3) := by decide +kernel
theorem dX12_disorderOf_67 : decode cX12_disorderOf 67 = .ok (.iload_n 2, 1) := by decide +kernel
theorem dX12_disorderOf_68 : decode cX12_disorderOf 68 = .ok (.ireturn, 1) := by decide +kernel
theorem dX12_disorderOf_69 : decode cX12_disorderOf 69 = .ok (.iinc 2 1, 3) := by decide +kernel
theorem dX12_disorderOf_72 : decode cX12_disorderOf 72 = .ok (.goto (-70), 3) := by decide +kernel
theorem dX12_disorderOf_75 : decode cX12_disorderOf 75 = .ok (.bipush (-9), 2) := by decide +kernel
theorem dX12_disorderOf_77 : decode cX12_disorderOf 77 = .ok (.ireturn, 1) := by decide +kernel
theorem dX12_manyOf_0 : decode cX12_manyOf 0 = .ok (.iconst 0, 1) := by decide +kernel
theorem dX12_manyOf_1 : decode cX12_manyOf 1 = .ok (.istore_n 3, 1) := by decide +kernel
theorem dX12_manyOf_2 : decode cX12_manyOf 2 = .ok (.iconst 0, 1) := by decide +kernel
theorem dX12_manyOf_3 : decode cX12_manyOf 3 = .ok (.istore 4, 2) := by decide +kernel
theorem dX12_manyOf_5 : decode cX12_manyOf 5 = .ok (.iload 4, 2) := by decide +kernel
theorem dX12_manyOf_7 : decode cX12_manyOf 7 = .ok (.aload_n 0, 1) := by decide +kernel
theorem dX12_manyOf_8 : decode cX12_manyOf 8 = .ok (.getfield 92, 3) := by decide +kernel
theorem dX12_manyOf_11 : decode cX12_manyOf 11 = .ok (.iload_n 1, 1) := by decide +kernel
theorem dX12_manyOf_12 : decode cX12_manyOf 12 = .ok (.iaload, 1) := by decide +kernel
theorem dX12_manyOf_13 : decode cX12_manyOf 13 = .ok (.if_icmp .ge 129, 3) := by decide +kernel
theorem dX12_manyOf_16 : decode cX12_manyOf 16 = .ok (.aload_n 0, 1) := by decide +kernel
theorem dX12_manyOf_17 : decode cX12_manyOf 17 = .ok (.getfield 95, 3) := by decide +kernel
theorem dX12_manyOf_20 : decode cX12_manyOf 20 = .ok (.bipush 6, 2) := by decide +kernel
theorem dX12_manyOf_22 : decode cX12_manyOf 22 = .ok (.iload_n 1, 1) := by decide +kernel
theorem dX12_manyOf_23 : decode cX12_manyOf 23 = .ok (.imul, 1) := by decide +kernel
theorem dX12_manyOf_24 : decode cX12_manyOf 24 = .ok (.iload 4, 2) := by decide +kernel
theorem dX12_manyOf_26 : decode cX12_manyOf 26 = .ok (.iadd, 1) := by decide +kernel
theorem dX12_manyOf_27 : decode cX12_manyOf 27 = .ok (.iaload, 1) := by decide +kernel
theorem dX12_manyOf_28 : decode cX12_manyOf 28 = .ok (.istore 5, 2) := by decide +kernel
theorem dX12_manyOf_30 : decode cX12_manyOf 30 = .ok (.iload_n 2, 1) := by decide +kernel
theorem dX12_manyOf_31 : decode cX12_manyOf 31 = .ok (.ifCond .ne 38, 3) := by decide +kernel
theorem dX12_manyOf_34 : decode cX12_manyOf 34 = .ok (.aload_n 0, 1) := by decide +kernel
theorem dX12_manyOf_35 : decode cX12_manyOf 35 = .ok (.getfield 86, 3) := by decide +kernel
theorem dX12_manyOf_38 : decode cX12_manyOf 38 = .ok (.iload_n 1, 1) := by decide +kernel
theorem dX12_manyOf_39 : decode cX12_manyOf 39 = .ok (.iaload, 1) := by decide +kernel
theorem dX12_manyOf_40 : decode cX12_manyOf 40 = .ok (.bipush 24, 2) := by decide +kernel
theorem dX12_manyOf_42 : decode cX12_manyOf 42 = .ok (.idiv, 1) := by decide +kernel
theorem dX12_manyOf_43 : decode cX12_manyOf 43 = .ok (.aload_n 0, 1) := by decide +kernel
theorem dX12_manyOf_44 : decode cX12_manyOf 44 = .ok (.getfield 38, 3) := by decide +kernel
theorem dX12_manyOf_47 : decode cX12_manyOf 47 = .ok (.iload 5, 2) := by decide +kernel
theorem dX12_manyOf_49 : decode cX12_manyOf 49 = .ok (.iaload, 1) := by decide +kernel
theorem dX12_manyOf_50 : decode cX12_manyOf 50 = .ok (.bipush 24, 2) := by decide +kernel
theorem dX12_manyOf_52 : decode cX12_manyOf 52 = .ok (.idiv, 1) := by decide +kernel
theorem dX12_manyOf_53 : decode cX12_manyOf 53 = .ok (.isub, 1) := by decide +kernel
theorem dX12_manyOf_54 : decode cX12_manyOf 54 = .ok (.aload_n 0, 1) := by decide +kernel
theorem dX12_manyOf_55 : decode cX12_manyOf 55 = .ok (.getfield 104, 3) := by decide +kernel
theorem dX12_manyOf_58 : decode cX12_manyOf 58 = .ok (.if_icmp .le 7, 3) := by decide +kernel
theorem dX12_manyOf_61 : decode cX12_manyOf 61 = .ok (.iconst 1, 1) := by decide +kernel
theorem dX12_manyOf_62 : decode cX12_manyOf 62 = .ok (.goto 59, 3) := by decide +kernel
theorem dX12_manyOf_65 : decode cX12_manyOf 65 = .ok (.iconst 0, 1) := by decide +kernel
theorem dX12_manyOf_66 : decode cX12_manyOf 66 = .ok (.goto 55, 3) := by decide +kernel
theorem dX12_manyOf_69 : decode cX12_manyOf 69 = .ok (.iload_n 2, 1) := by decide +kernel
theorem dX12_manyOf_70 : decode cX12_manyOf 70 = .ok (.iconst 1, 1) := by decide +kernel
theorem dX12_manyOf_71 : decode cX12_manyOf 71 = .ok (.if_icmp .ne 34, 3) := by decide +kernel
theorem dX12_manyOf_74 : decode cX12_manyOf 74 = .ok (.aload_n 0, 1) := by decide +kernel
theorem dX12_manyOf_75 : decode cX12_manyOf 75 = .ok (.iload 5, 2) := by decide +kernel
theorem dX12_manyOf_77 : decode cX12_manyOf 77 = .ok (.aload_n 0, 1) := by decide +kernel
theorem dX12_manyOf_78 : decode cX12_manyOf 78 = .ok (.getfield 83, 3) := by decide +kernel
theorem dX12_manyOf_81 : decode cX12_manyOf 81 = .ok (.iload_n 1, 1) := by decide +kernel
theorem dX12_manyOf_82 : decode cX12_manyOf 82 = .ok (.iaload, 1) := by decide +kernel
theorem dX12_manyOf_83 : decode cX12_manyOf 83 = .ok (.aload_n 0, 1) := by decide +kernel
theorem dX12_manyOf_84 : decode cX12_manyOf 84 = .ok (.getfield 86, 3) := by decide +kernel
theorem dX12_manyOf_87 : decode cX12_manyOf 87 = .ok (.iload_n 1, 1) := by decide +kernel
theorem dX12_manyOf_88 : decode cX12_manyOf 88 = .ok (.iaload, 1) := by decide +kernel
theorem dX12_manyOf_89 : decode cX12_manyOf 89 = .ok (.invokevirtual 307, 3) := by decide +kernel
theorem dX12_manyOf_92 : decode cX12_manyOf 92 = .ok (.bipush (-9), 2) := by decide +kernel
theorem dX12_manyOf_94 : decode cX12_manyOf 94 = .ok (.if_icmp .eq 7, 3) := by decide +kernel
theorem dX12_manyOf_97 : decode cX12_manyOf 97 = .ok (.iconst 1, 1) := by decide +kernel
theorem dX12_manyOf_98 : decode cX12_manyOf 98 = .ok (.goto 23, 3) := by decide +kernel
theorem dX12_manyOf_101 : decode cX12_manyOf 101 = .ok (.iconst 0, 1) := by decide +kernel
theorem dX12_manyOf_102 : decode cX12_manyOf 102 = .ok (.goto 19, 3) := by decide +kernel
theorem dX12_manyOf_105 : decode cX12_manyOf 105 = .ok (.aload_n 0, 1) := by decide +kernel
theorem dX12_manyOf_106 : decode cX12_manyOf 106 = .ok (.getfield 50, 3) := by decide +kernel
theorem dX12_manyOf_109 : decode cX12_manyOf 109 = .ok (.iload 5, 2) := by decide +kernel
theorem dX12_manyOf_111 : decode cX12_manyOf 111 = .ok (.iaload, 1) := by decide +kernel
theorem dX12_manyOf_112 : decode cX12_manyOf 112 = .ok (.iconst 2, 1) := by decide +kernel
theorem dX12_manyOf_113 : decode cX12_manyOf 113 = .ok (.if_icmp .ne 7, 3) := by decide +kernel
theorem dX12_manyOf_116 : decode cX12_manyOf 116 = .ok (.iconst 1, 1) := by decide +kernel
theorem dX12_manyOf_117 : decode cX12_manyOf 117 = .ok (.goto 4, 3) := by decide +kernel
theorem dX12_manyOf_120 : decode cX12_manyOf 120 = .ok (.iconst 0, 1) := by decide +kernel
theorem dX12_manyOf_121 : decode cX12_manyOf 121 = .ok (.istore 6, 2) := by decide +kernel
theorem dX12_manyOf_123 : decode cX12_manyOf 123 = .ok (.iload_n 3, 1) := by decide +kernel
theorem dX12_manyOf_124 : decode cX12_manyOf 124 = .ok (.iload 6, 2) := by decide +kernel
theorem dX12_manyOf_126 : decode cX12_manyOf 126 = .ok (.ifCond .eq 7, 3) := by decide +kernel
theorem dX12_manyOf_129 : decode cX12_manyOf 129 = .ok (.iconst 1, 1) := by decide +kernel
theorem dX12_manyOf_130 : decode cX12_manyOf 130 = .ok (.goto 4, 3) := by decide +kernel
theorem dX12_manyOf_133 : decode cX12_manyOf 133 = .ok (.iconst 0, 1) := by decide +kernel
theorem dX12_manyOf_134 : decode cX12_manyOf 134 = .ok (.iadd, 1) := by decide +kernel
theorem dX12_manyOf_135 : decode cX12_manyOf 135 = .ok (.istore_n 3, 1) := by decide +kernel
theorem dX12_manyOf_136 : decode cX12_manyOf 136 = .ok (.iinc 4 1, 3) := by decide +kernel
theorem dX12_manyOf_139 : decode cX12_manyOf 139 = .ok (.goto (-134), 3) := by decide +kernel
theorem dX12_manyOf_142 : decode cX12_manyOf 142 = .ok (.iload_n 3, 1) := by decide +kernel
theorem dX12_manyOf_143 : decode cX12_manyOf 143 = .ok (.ireturn, 1) := by decide +kernel
theorem dX12_isReady_0 : decode cX12_isReady 0 = .ok (.aload_n 0, 1) := by decide +kernel
theorem dX12_isReady_1 : decode cX12_isReady 1 = .ok (.getfield 92, 3) := by decide +kernel
theorem dX12_isReady_4 : decode cX12_isReady 4 = .ok (.iload_n 1, 1) := by decide +kernel
theorem dX12_isReady_5 : decode cX12_isReady 5 = .ok (.iaload, 1) := by decide +kernel
theorem dX12_isReady_6 : decode cX12_isReady 6 = .ok (.ifCond .le 7, 3) := by decide +kernel
theorem dX12_isReady_9 : decode cX12_isReady 9 = .ok (.iconst 1, 1) := by decide +kernel
theorem dX12_isReady_10 : decode cX12_isReady 10 = .ok (.goto 4, 3) := by decide +kernel
theorem dX12_isReady_13 : decode cX12_isReady 13 = .ok (.iconst 0, 1) := by decide +kernel
theorem dX12_isReady_14 : decode cX12_isReady 14 = .ok (.istore_n 2, 1) := by decide +kernel
theorem dX12_isReady_15 : decode cX12_isReady 15 = .ok (.iconst 0, 1) := by decide +kernel
theorem dX12_isReady_16 : decode cX12_isReady 16 = .ok (.istore_n 3, 1) := by decide +kernel
theorem dX12_isReady_17 : decode cX12_isReady 17 = .ok (.iload_n 3, 1) := by decide +kernel
theorem dX12_isReady_18 : decode cX12_isReady 18 = .ok (.aload_n 0, 1) := by decide +kernel
theorem dX12_isReady_19 : decode cX12_isReady 19 = .ok (.getfield 92, 3) := by decide +kernel
theorem dX12_isReady_22 : decode cX12_isReady 22 = .ok (.iload_n 1, 1) := by decide +kernel
theorem dX12_isReady_23 : decode cX12_isReady 23 = .ok (.iaload, 1) := by decide +kernel
theorem dX12_isReady_24 : decode cX12_isReady 24 = .ok (.if_icmp .ge 42, 3) := by decide +kernel
theorem dX12_isReady_27 : decode cX12_isReady 27 = .ok (.iload_n 2, 1) := by decide +kernel
theorem dX12_isReady_28 : decode cX12_isReady 28 = .ok (.ifCond .eq 30, 3) := by decide +kernel
theorem dX12_isReady_31 : decode cX12_isReady 31 = .ok (.aload_n 0, 1) := by decide +kernel
theorem dX12_isReady_32 : decode cX12_isReady 32 = .ok (.aload_n 0, 1) := by decide +kernel
theorem dX12_isReady_33 : decode cX12_isReady 33 = .ok (.getfield 95, 3) := by decide +kernel
theorem dX12_isReady_36 : decode cX12_isReady 36 = .ok (.bipush 6, 2) := by decide +kernel
theorem dX12_isReady_38 : decode cX12_isReady 38 = .ok (.iload_n 1, 1) := by decide +kernel
theorem dX12_isReady_39 : decode cX12_isReady 39 = .ok (.imul, 1) := by decide +kernel
theorem dX12_isReady_40 : decode cX12_isReady 40 = .ok (.iload_n 3, 1) := by decide +kernel
theorem dX12_isReady_41 : decode cX12_isReady 41 = .ok (.iadd, 1) := by decide +kernel
theorem dX12_isReady_42 : decode cX12_isReady 42 = .ok (.iaload, 1) := by decide +kernel
theorem dX12_isReady_43 : decode cX12_isReady 43 = .ok (.aload_n 0, 1) := by decide +kernel
theorem dX12_isReady_44 : decode cX12_isReady 44 = .ok (.getfield 255, 3) := by decide +kernel
theorem dX12_isReady_47 : decode cX12_isReady 47 = .ok (.invokevirtual 297, 3) := by decide +kernel
theorem dX12_isReady_50 : decode cX12_isReady 50 = .ok (.iconst 3, 1) := by decide +kernel
theorem dX12_isReady_51 : decode cX12_isReady 51 = .ok (.if_icmp .ne 7, 3) := by decide +kernel
theorem dX12_isReady_54 : decode cX12_isReady 54 = .ok (.iconst 1, 1) := by decide +kernel
theorem dX12_isReady_55 : decode cX12_isReady 55 = .ok (.goto 4, 3) := by decide +kernel
theorem dX12_isReady_58 : decode cX12_isReady 58 = .ok (.iconst 0, 1) := by decide +kernel
theorem dX12_isReady_59 : decode cX12_isReady 59 = .ok (.istore_n 2, 1) := by decide +kernel
theorem dX12_isReady_60 : decode cX12_isReady 60 = .ok (.iinc 3 1, 3) := by decide +kernel
theorem dX12_isReady_63 : decode cX12_isReady 63 = .ok (.goto (-46), 3) := by decide +kernel
theorem dX12_isReady_66 : decode cX12_isReady 66 = .ok (.iload_n 2, 1) := by decide +kernel
theorem dX12_isReady_67 : decode cX12_isReady 67 = .ok (.ireturn, 1) := by decide +kernel
theorem dX12_of_0 : decode cX12_of 0 = .ok (.aload_n 0, 1) := by decide +kernel
theorem dX12_of_1 : decode cX12_of 1 = .ok (.iload_n 1, 1) := by decide +kernel
theorem dX12_of_2 : decode cX12_of 2 = .ok (.invokevirtual 316, 3) := by decide +kernel
theorem dX12_of_5 : decode cX12_of 5 = .ok (.ifCond .ne 5, 3) := by decide +kernel
theorem dX12_of_8 : decode cX12_of 8 = .ok (.iconst (-1), 1) := by decide +kernel
theorem dX12_of_9 : decode cX12_of 9 = .ok (.ireturn, 1) := by decide +kernel
theorem dX12_of_10 : decode cX12_of 10 = .ok (.iload_n 2, 1) := by decide +kernel
theorem dX12_of_11 : decode cX12_of 11 = .ok (.tableswitch 95 0 6 #[41, 48, 54, 60, 67, 74, 81], 41) := by decide +kernel
theorem dX12_of_52 : decode cX12_of 52 = .ok (.aload_n 0, 1) := by decide +kernel
theorem dX12_of_53 : decode cX12_of 53 = .ok (.getfield 92, 3) := by decide +kernel
theorem dX12_of_56 : decode cX12_of 56 = .ok (.iload_n 1, 1) := by decide +kernel
theorem dX12_of_57 : decode cX12_of 57 = .ok (.iaload, 1) := by decide +kernel
theorem dX12_of_58 : decode cX12_of 58 = .ok (.ireturn, 1) := by decide +kernel
theorem dX12_of_59 : decode cX12_of 59 = .ok (.aload_n 0, 1) := by decide +kernel
theorem dX12_of_60 : decode cX12_of 60 = .ok (.iload_n 1, 1) := by decide +kernel
theorem dX12_of_61 : decode cX12_of 61 = .ok (.invokevirtual 319, 3) := by decide +kernel
theorem dX12_of_64 : decode cX12_of 64 = .ok (.ireturn, 1) := by decide +kernel
theorem dX12_of_65 : decode cX12_of 65 = .ok (.aload_n 0, 1) := by decide +kernel
theorem dX12_of_66 : decode cX12_of 66 = .ok (.iload_n 1, 1) := by decide +kernel
theorem dX12_of_67 : decode cX12_of 67 = .ok (.invokevirtual 323, 3) := by decide +kernel
theorem dX12_of_70 : decode cX12_of 70 = .ok (.ireturn, 1) := by decide +kernel
theorem dX12_of_71 : decode cX12_of 71 = .ok (.aload_n 0, 1) := by decide +kernel
theorem dX12_of_72 : decode cX12_of 72 = .ok (.iload_n 1, 1) := by decide +kernel
theorem dX12_of_73 : decode cX12_of 73 = .ok (.iconst 0, 1) := by decide +kernel
theorem dX12_of_74 : decode cX12_of 74 = .ok (.invokevirtual 326, 3) := by decide +kernel
theorem dX12_of_77 : decode cX12_of 77 = .ok (.ireturn, 1) := by decide +kernel
theorem dX12_of_78 : decode cX12_of 78 = .ok (.aload_n 0, 1) := by decide +kernel
theorem dX12_of_79 : decode cX12_of 79 = .ok (.iload_n 1, 1) := by decide +kernel
theorem dX12_of_80 : decode cX12_of 80 = .ok (.iconst 1, 1) := by decide +kernel
theorem dX12_of_81 : decode cX12_of 81 = .ok (.invokevirtual 326, 3) := by decide +kernel
theorem dX12_of_84 : decode cX12_of 84 = .ok (.ireturn, 1) := by decide +kernel
theorem dX12_of_85 : decode cX12_of 85 = .ok (.aload_n 0, 1) := by decide +kernel
theorem dX12_of_86 : decode cX12_of 86 = .ok (.iload_n 1, 1) := by decide +kernel
theorem dX12_of_87 : decode cX12_of 87 = .ok (.iconst 2, 1) := by decide +kernel
theorem dX12_of_88 : decode cX12_of 88 = .ok (.invokevirtual 326, 3) := by decide +kernel
theorem dX12_of_91 : decode cX12_of 91 = .ok (.ireturn, 1) := by decide +kernel
theorem dX12_of_92 : decode cX12_of 92 = .ok (.aload_n 0, 1) := by decide +kernel
theorem dX12_of_93 : decode cX12_of 93 = .ok (.iload_n 1, 1) := by decide +kernel
theorem dX12_of_94 : decode cX12_of 94 = .ok (.invokevirtual 329, 3) := by decide +kernel
theorem dX12_of_97 : decode cX12_of 97 = .ok (.ifCond .eq 7, 3) := by decide +kernel
theorem dX12_of_100 : decode cX12_of 100 = .ok (.iconst 1, 1) := by decide +kernel
theorem dX12_of_101 : decode cX12_of 101 = .ok (.goto 4, 3) := by decide +kernel
theorem dX12_of_104 : decode cX12_of 104 = .ok (.iconst 0, 1) := by decide +kernel
theorem dX12_of_105 : decode cX12_of 105 = .ok (.ireturn, 1) := by decide +kernel
theorem dX12_of_106 : decode cX12_of 106 = .ok (.bipush (-2), 2) := by decide +kernel
theorem dX12_of_108 : decode cX12_of 108 = .ok (.ireturn, 1) := by decide +kernel
theorem dX12_age_0 : decode cX12_age 0 = .ok (.iload_n 1, 1) := by decide +kernel
theorem dX12_age_1 : decode cX12_age 1 = .ok (.i2l, 1) := by decide +kernel
theorem dX12_age_2 : decode cX12_age 2 = .ok (.lconst 0, 1) := by decide +kernel
theorem dX12_age_3 : decode cX12_age 3 = .ok (.ldc2_w 332, 3) := by decide +kernel
theorem dX12_age_6 : decode cX12_age 6 = .ok (.invokestatic 245, 3) := by decide +kernel
theorem dX12_age_9 : decode cX12_age 9 = .ok (.ifCond .ne 6, 3) := by decide +kernel
theorem dX12_age_12 : decode cX12_age 12 = .ok (.bipush (-2), 2) := by decide +kernel
theorem dX12_age_14 : decode cX12_age 14 = .ok (.ireturn, 1) := by decide +kernel
theorem dX12_age_15 : decode cX12_age 15 = .ok (.aload_n 0, 1) := by decide +kernel
theorem dX12_age_16 : decode cX12_age 16 = .ok (.getfield 104, 3) := by decide +kernel
theorem dX12_age_19 : decode cX12_age 19 = .ok (.istore_n 2, 1) := by decide +kernel
theorem dX12_age_20 : decode cX12_age 20 = .ok (.aload_n 0, 1) := by decide +kernel
theorem dX12_age_21 : decode cX12_age 21 = .ok (.iload_n 1, 1) := by decide +kernel
theorem dX12_age_22 : decode cX12_age 22 = .ok (.putfield 104, 3) := by decide +kernel
theorem dX12_age_25 : decode cX12_age 25 = .ok (.iload_n 2, 1) := by decide +kernel
theorem dX12_age_26 : decode cX12_age 26 = .ok (.ireturn, 1) := by decide +kernel
theorem dX12_cost_0 : decode cX12_cost 0 = .ok (.aload_n 0, 1) := by decide +kernel
theorem dX12_cost_1 : decode cX12_cost 1 = .ok (.iload_n 1, 1) := by decide +kernel
theorem dX12_cost_2 : decode cX12_cost 2 = .ok (.invokevirtual 316, 3) := by decide +kernel
theorem dX12_cost_5 : decode cX12_cost 5 = .ok (.ifCond .ne 5, 3) := by decide +kernel
theorem dX12_cost_8 : decode cX12_cost 8 = .ok (.iconst (-1), 1) := by decide +kernel
theorem dX12_cost_9 : decode cX12_cost 9 = .ok (.ireturn, 1) := by decide +kernel
theorem dX12_cost_10 : decode cX12_cost 10 = .ok (.iconst 0, 1) := by decide +kernel
theorem dX12_cost_11 : decode cX12_cost 11 = .ok (.istore_n 2, 1) := by decide +kernel
theorem dX12_cost_12 : decode cX12_cost 12 = .ok (.iconst 0, 1) := by decide +kernel
theorem dX12_cost_13 : decode cX12_cost 13 = .ok (.istore_n 3, 1) := by decide +kernel
theorem dX12_cost_14 : decode cX12_cost 14 = .ok (.iload_n 3, 1) := by decide +kernel
theorem dX12_cost_15 : decode cX12_cost 15 = .ok (.aload_n 0, 1) := by decide +kernel
theorem dX12_cost_16 : decode cX12_cost 16 = .ok (.getfield 92, 3) := by decide +kernel
theorem dX12_cost_19 : decode cX12_cost 19 = .ok (.iload_n 1, 1) := by decide +kernel
theorem dX12_cost_20 : decode cX12_cost 20 = .ok (.iaload, 1) := by decide +kernel
theorem dX12_cost_21 : decode cX12_cost 21 = .ok (.if_icmp .ge 45, 3) := by decide +kernel
theorem dX12_cost_24 : decode cX12_cost 24 = .ok (.aload_n 0, 1) := by decide +kernel
theorem dX12_cost_25 : decode cX12_cost 25 = .ok (.getfield 95, 3) := by decide +kernel
theorem dX12_cost_28 : decode cX12_cost 28 = .ok (.bipush 6, 2) := by decide +kernel
theorem dX12_cost_30 : decode cX12_cost 30 = .ok (.iload_n 1, 1) := by decide +kernel
theorem dX12_cost_31 : decode cX12_cost 31 = .ok (.imul, 1) := by decide +kernel
theorem dX12_cost_32 : decode cX12_cost 32 = .ok (.iload_n 3, 1) := by decide +kernel
theorem dX12_cost_33 : decode cX12_cost 33 = .ok (.iadd, 1) := by decide +kernel
theorem dX12_cost_34 : decode cX12_cost 34 = .ok (.iaload, 1) := by decide +kernel
theorem dX12_cost_35 : decode cX12_cost 35 = .ok (.istore 4, 2) := by decide +kernel
theorem dX12_cost_37 : decode cX12_cost 37 = .ok (.iload_n 2, 1) := by decide +kernel
theorem dX12_cost_38 : decode cX12_cost 38 = .ok (.aload_n 0, 1) := by decide +kernel
theorem dX12_cost_39 : decode cX12_cost 39 = .ok (.getfield 41, 3) := by decide +kernel
theorem dX12_cost_42 : decode cX12_cost 42 = .ok (.iload 4, 2) := by decide +kernel
theorem dX12_cost_44 : decode cX12_cost 44 = .ok (.iaload, 1) := by decide +kernel
theorem dX12_cost_45 : decode cX12_cost 45 = .ok (.aload_n 0, 1) := by decide +kernel
theorem dX12_cost_46 : decode cX12_cost 46 = .ok (.getfield 108, 3) := by decide +kernel
theorem dX12_cost_49 : decode cX12_cost 49 = .ok (.aload_n 0, 1) := by decide +kernel
theorem dX12_cost_50 : decode cX12_cost 50 = .ok (.getfield 50, 3) := by decide +kernel
theorem dX12_cost_53 : decode cX12_cost 53 = .ok (.iload 4, 2) := by decide +kernel
theorem dX12_cost_55 : decode cX12_cost 55 = .ok (.iaload, 1) := by decide +kernel
theorem dX12_cost_56 : decode cX12_cost 56 = .ok (.iaload, 1) := by decide +kernel
theorem dX12_cost_57 : decode cX12_cost 57 = .ok (.imul, 1) := by decide +kernel
theorem dX12_cost_58 : decode cX12_cost 58 = .ok (.iadd, 1) := by decide +kernel
theorem dX12_cost_59 : decode cX12_cost 59 = .ok (.istore_n 2, 1) := by decide +kernel
theorem dX12_cost_60 : decode cX12_cost 60 = .ok (.iinc 3 1, 3) := by decide +kernel
theorem dX12_cost_63 : decode cX12_cost 63 = .ok (.goto (-49), 3) := by decide +kernel
theorem dX12_cost_66 : decode cX12_cost 66 = .ok (.iload_n 2, 1) := by decide +kernel
theorem dX12_cost_67 : decode cX12_cost 67 = .ok (.ireturn, 1) := by decide +kernel
theorem dX12_rate_0 : decode cX12_rate 0 = .ok (.iload_n 1, 1) := by decide +kernel
theorem dX12_rate_1 : decode cX12_rate 1 = .ok (.i2l, 1) := by decide +kernel
theorem dX12_rate_2 : decode cX12_rate 2 = .ok (.lconst 0, 1) := by decide +kernel
theorem dX12_rate_3 : decode cX12_rate 3 = .ok (.ldc2_w 288, 3) := by decide +kernel
theorem dX12_rate_6 : decode cX12_rate 6 = .ok (.invokestatic 245, 3) := by decide +kernel
theorem dX12_rate_9 : decode cX12_rate 9 = .ok (.ifCond .eq 15, 3) := by decide +kernel
theorem dX12_rate_12 : decode cX12_rate 12 = .ok (.iload_n 2, 1) := by decide +kernel
theorem dX12_rate_13 : decode cX12_rate 13 = .ok (.i2l, 1) := by decide +kernel
theorem dX12_rate_14 : decode cX12_rate 14 = .ok (.lconst 0, 1) := by decide +kernel
theorem dX12_rate_15 : decode cX12_rate 15 = .ok (.ldc2_w 334, 3) := by decide +kernel
theorem dX12_rate_18 : decode cX12_rate 18 = .ok (.invokestatic 245, 3) := by decide +kernel
theorem dX12_rate_21 : decode cX12_rate 21 = .ok (.ifCond .ne 6, 3) := by decide +kernel
theorem dX12_rate_24 : decode cX12_rate 24 = .ok (.bipush (-2), 2) := by decide +kernel
theorem dX12_rate_26 : decode cX12_rate 26 = .ok (.ireturn, 1) := by decide +kernel
theorem dX12_rate_27 : decode cX12_rate 27 = .ok (.aload_n 0, 1) := by decide +kernel
theorem dX12_rate_28 : decode cX12_rate 28 = .ok (.getfield 108, 3) := by decide +kernel
theorem dX12_rate_31 : decode cX12_rate 31 = .ok (.iload_n 1, 1) := by decide +kernel
theorem dX12_rate_32 : decode cX12_rate 32 = .ok (.iaload, 1) := by decide +kernel
theorem dX12_rate_33 : decode cX12_rate 33 = .ok (.istore_n 3, 1) := by decide +kernel
theorem dX12_rate_34 : decode cX12_rate 34 = .ok (.aload_n 0, 1) := by decide +kernel
theorem dX12_rate_35 : decode cX12_rate 35 = .ok (.getfield 108, 3) := by decide +kernel
theorem dX12_rate_38 : decode cX12_rate 38 = .ok (.iload_n 1, 1) := by decide +kernel
theorem dX12_rate_39 : decode cX12_rate 39 = .ok (.iload_n 2, 1) := by decide +kernel
theorem dX12_rate_40 : decode cX12_rate 40 = .ok (.iastore, 1) := by decide +kernel
theorem dX12_rate_41 : decode cX12_rate 41 = .ok (.iload_n 3, 1) := by decide +kernel
theorem dX12_rate_42 : decode cX12_rate 42 = .ok (.ireturn, 1) := by decide +kernel
theorem dX12_isRule_0 : decode cX12_isRule 0 = .ok (.iload_n 1, 1) := by decide +kernel
theorem dX12_isRule_1 : decode cX12_isRule 1 = .ok (.i2l, 1) := by decide +kernel
theorem dX12_isRule_2 : decode cX12_isRule 2 = .ok (.lconst 0, 1) := by decide +kernel
theorem dX12_isRule_3 : decode cX12_isRule 3 = .ok (.aload_n 0, 1) := by decide +kernel
theorem dX12_isRule_4 : decode cX12_isRule 4 = .ok (.getfield 336, 3) := by decide +kernel
theorem dX12_isRule_7 : decode cX12_isRule 7 = .ok (.iconst 1, 1) := by decide +kernel
theorem dX12_isRule_8 : decode cX12_isRule 8 = .ok (.isub, 1) := by decide +kernel
theorem dX12_isRule_9 : decode cX12_isRule 9 = .ok (.i2l, 1) := by decide +kernel
theorem dX12_isRule_10 : decode cX12_isRule 10 = .ok (.invokestatic 245, 3) := by decide +kernel
theorem dX12_isRule_13 : decode cX12_isRule 13 = .ok (.ireturn, 1) := by decide +kernel
theorem dX12_rule_0 : decode cX12_rule 0 = .ok (.iload_n 1, 1) := by decide +kernel
theorem dX12_rule_1 : decode cX12_rule 1 = .ok (.invokestatic 339, 3) := by decide +kernel
theorem dX12_rule_4 : decode cX12_rule 4 = .ok (.ifCond .ne 6, 3) := by decide +kernel
theorem dX12_rule_7 : decode cX12_rule 7 = .ok (.bipush (-2), 2) := by decide +kernel
theorem dX12_rule_9 : decode cX12_rule 9 = .ok (.ireturn, 1) := by decide +kernel
theorem dX12_rule_10 : decode cX12_rule 10 = .ok (.aload_n 0, 1) := by decide +kernel
theorem dX12_rule_11 : decode cX12_rule 11 = .ok (.getfield 336, 3) := by decide +kernel
theorem dX12_rule_14 : decode cX12_rule 14 = .ok (.bipush 6, 2) := by decide +kernel
theorem dX12_rule_16 : decode cX12_rule 16 = .ok (.if_icmp .ne 6, 3) := by decide +kernel
theorem dX12_rule_19 : decode cX12_rule 19 = .ok (.bipush (-4), 2) := by decide +kernel
theorem dX12_rule_21 : decode cX12_rule 21 = .ok (.ireturn, 1) := by decide +kernel
theorem dX12_rule_22 : decode cX12_rule 22 = .ok (.aload_n 0, 1) := by decide +kernel
theorem dX12_rule_23 : decode cX12_rule 23 = .ok (.getfield 111, 3) := by decide +kernel
theorem dX12_rule_26 : decode cX12_rule 26 = .ok (.aload_n 0, 1) := by decide +kernel
theorem dX12_rule_27 : decode cX12_rule 27 = .ok (.getfield 336, 3) := by decide +kernel
theorem dX12_rule_30 : decode cX12_rule 30 = .ok (.iload_n 1, 1) := by decide +kernel
theorem dX12_rule_31 : decode cX12_rule 31 = .ok (.iastore, 1) := by decide +kernel
theorem dX12_rule_32 : decode cX12_rule 32 = .ok (.aload_n 0, 1) := by decide +kernel
theorem dX12_rule_33 : decode cX12_rule 33 = .ok (.getfield 114, 3) := by decide +kernel
theorem dX12_rule_36 : decode cX12_rule 36 = .ok (.aload_n 0, 1) := by decide +kernel
theorem dX12_rule_37 : decode cX12_rule 37 = .ok (.getfield 336, 3) := by decide +kernel
theorem dX12_rule_40 : decode cX12_rule 40 = .ok (.bipush (-9), 2) := by decide +kernel
theorem dX12_rule_42 : decode cX12_rule 42 = .ok (.iastore, 1) := by decide +kernel
theorem dX12_rule_43 : decode cX12_rule 43 = .ok (.aload_n 0, 1) := by decide +kernel
theorem dX12_rule_44 : decode cX12_rule 44 = .ok (.dup, 1) := by decide +kernel
theorem dX12_rule_45 : decode cX12_rule 45 = .ok (.getfield 336, 3) := by decide +kernel
theorem dX12_rule_48 : decode cX12_rule 48 = .ok (.iconst 1, 1) := by decide +kernel
theorem dX12_rule_49 : decode cX12_rule 49 = .ok (.iadd, 1) := by decide +kernel
theorem dX12_rule_50 : decode cX12_rule 50 = .ok (.putfield 336, 3) := by decide +kernel
theorem dX12_rule_53 : decode cX12_rule 53 = .ok (.aload_n 0, 1) := by decide +kernel
theorem dX12_rule_54 : decode cX12_rule 54 = .ok (.getfield 336, 3) := by decide +kernel
theorem dX12_rule_57 : decode cX12_rule 57 = .ok (.iconst 1, 1) := by decide +kernel
theorem dX12_rule_58 : decode cX12_rule 58 = .ok (.isub, 1) := by decide +kernel
theorem dX12_rule_59 : decode cX12_rule 59 = .ok (.ireturn, 1) := by decide +kernel
theorem dX12_feed_0 : decode cX12_feed 0 = .ok (.aload_n 0, 1) := by decide +kernel
theorem dX12_feed_1 : decode cX12_feed 1 = .ok (.iload_n 1, 1) := by decide +kernel
theorem dX12_feed_2 : decode cX12_feed 2 = .ok (.invokevirtual 342, 3) := by decide +kernel
theorem dX12_feed_5 : decode cX12_feed 5 = .ok (.ifCond .ne 5, 3) := by decide +kernel
theorem dX12_feed_8 : decode cX12_feed 8 = .ok (.iconst (-1), 1) := by decide +kernel
theorem dX12_feed_9 : decode cX12_feed 9 = .ok (.ireturn, 1) := by decide +kernel
theorem dX12_feed_10 : decode cX12_feed 10 = .ok (.iconst 0, 1) := by decide +kernel
theorem dX12_feed_11 : decode cX12_feed 11 = .ok (.istore 4, 2) := by decide +kernel
theorem dX12_feed_13 : decode cX12_feed 13 = .ok (.iload 4, 2) := by decide +kernel
theorem dX12_feed_15 : decode cX12_feed 15 = .ok (.bipush 8, 2) := by decide +kernel
theorem dX12_feed_17 : decode cX12_feed 17 = .ok (.if_icmp .ge 25, 3) := by decide +kernel
theorem dX12_feed_20 : decode cX12_feed 20 = .ok (.lload_n 2, 1) := by decide +kernel
theorem dX12_feed_21 : decode cX12_feed 21 = .ok (.bipush 8, 2) := by decide +kernel
theorem dX12_feed_23 : decode cX12_feed 23 = .ok (.iload 4, 2) := by decide +kernel
theorem dX12_feed_25 : decode cX12_feed 25 = .ok (.imul, 1) := by decide +kernel
theorem dX12_feed_26 : decode cX12_feed 26 = .ok (.lshr, 1) := by decide +kernel
theorem dX12_feed_27 : decode cX12_feed 27 = .ok (.ldc2_w 286, 3) := by decide +kernel
theorem dX12_feed_30 : decode cX12_feed 30 = .ok (.land, 1) := by decide +kernel
theorem dX12_feed_31 : decode cX12_feed 31 = .ok (.lconst 0, 1) := by decide +kernel
theorem dX12_feed_32 : decode cX12_feed 32 = .ok (.lcmp, 1) := by decide +kernel
theorem dX12_feed_33 : decode cX12_feed 33 = .ok (.ifCond .eq 9, 3) := by decide +kernel
theorem dX12_feed_36 : decode cX12_feed 36 = .ok (.iinc 4 1, 3) := by decide +kernel
theorem dX12_feed_39 : decode cX12_feed 39 = .ok (.goto (-26), 3) := by decide +kernel
theorem dX12_feed_42 : decode cX12_feed 42 = .ok (.aload_n 0, 1) := by decide +kernel
theorem dX12_feed_43 : decode cX12_feed 43 = .ok (.getfield 117, 3) := by decide +kernel
theorem dX12_feed_46 : decode cX12_feed 46 = .ok (.iload_n 1, 1) := by decide +kernel
theorem dX12_feed_47 : decode cX12_feed 47 = .ok (.iaload, 1) := by decide +kernel
theorem dX12_feed_48 : decode cX12_feed 48 = .ok (.iload 4, 2) := by decide +kernel
theorem dX12_feed_50 : decode cX12_feed 50 = .ok (.iadd, 1) := by decide +kernel
theorem dX12_feed_51 : decode cX12_feed 51 = .ok (.bipush 80, 2) := by decide +kernel
theorem dX12_feed_53 : decode cX12_feed 53 = .ok (.if_icmp .le 6, 3) := by decide +kernel
theorem dX12_feed_56 : decode cX12_feed 56 = .ok (.bipush (-4), 2) := by decide +kernel
theorem dX12_feed_58 : decode cX12_feed 58 = .ok (.ireturn, 1) := by decide +kernel
theorem dX12_feed_59 : decode cX12_feed 59 = .ok (.iconst 0, 1) := by decide +kernel
theorem dX12_feed_60 : decode cX12_feed 60 = .ok (.istore 5, 2) := by decide +kernel
theorem dX12_feed_62 : decode cX12_feed 62 = .ok (.iload 5, 2) := by decide +kernel
theorem dX12_feed_64 : decode cX12_feed 64 = .ok (.iload 4, 2) := by decide +kernel
theorem dX12_feed_66 : decode cX12_feed 66 = .ok (.if_icmp .ge 40, 3) := by decide +kernel
theorem dX12_feed_69 : decode cX12_feed 69 = .ok (.aload_n 0, 1) := by decide +kernel
theorem dX12_feed_70 : decode cX12_feed 70 = .ok (.getfield 120, 3) := by decide +kernel
theorem dX12_feed_73 : decode cX12_feed 73 = .ok (.bipush 80, 2) := by decide +kernel
theorem dX12_feed_75 : decode cX12_feed 75 = .ok (.iload_n 1, 1) := by decide +kernel
theorem dX12_feed_76 : decode cX12_feed 76 = .ok (.imul, 1) := by decide +kernel
theorem dX12_feed_77 : decode cX12_feed 77 = .ok (.aload_n 0, 1) := by decide +kernel
theorem dX12_feed_78 : decode cX12_feed 78 = .ok (.getfield 117, 3) := by decide +kernel
theorem dX12_feed_81 : decode cX12_feed 81 = .ok (.iload_n 1, 1) := by decide +kernel
theorem dX12_feed_82 : decode cX12_feed 82 = .ok (.iaload, 1) := by decide +kernel
theorem dX12_feed_83 : decode cX12_feed 83 = .ok (.iadd, 1) := by decide +kernel
theorem dX12_feed_84 : decode cX12_feed 84 = .ok (.iload 5, 2) := by decide +kernel
theorem dX12_feed_86 : decode cX12_feed 86 = .ok (.iadd, 1) := by decide +kernel
theorem dX12_feed_87 : decode cX12_feed 87 = .ok (.lload_n 2, 1) := by decide +kernel
theorem dX12_feed_88 : decode cX12_feed 88 = .ok (.bipush 8, 2) := by decide +kernel
theorem dX12_feed_90 : decode cX12_feed 90 = .ok (.iload 5, 2) := by decide +kernel
theorem dX12_feed_92 : decode cX12_feed 92 = .ok (.imul, 1) := by decide +kernel
theorem dX12_feed_93 : decode cX12_feed 93 = .ok (.lshr, 1) := by decide +kernel
theorem dX12_feed_94 : decode cX12_feed 94 = .ok (.ldc2_w 286, 3) := by decide +kernel
theorem dX12_feed_97 : decode cX12_feed 97 = .ok (.land, 1) := by decide +kernel
theorem dX12_feed_98 : decode cX12_feed 98 = .ok (.l2i, 1) := by decide +kernel
theorem dX12_feed_99 : decode cX12_feed 99 = .ok (.iastore, 1) := by decide +kernel
theorem dX12_feed_100 : decode cX12_feed 100 = .ok (.iinc 5 1, 3) := by decide +kernel
theorem dX12_feed_103 : decode cX12_feed 103 = .ok (.goto (-41), 3) := by decide +kernel
theorem dX12_feed_106 : decode cX12_feed 106 = .ok (.aload_n 0, 1) := by decide +kernel
theorem dX12_feed_107 : decode cX12_feed 107 = .ok (.getfield 117, 3) := by decide +kernel
theorem dX12_feed_110 : decode cX12_feed 110 = .ok (.iload_n 1, 1) := by decide +kernel
theorem dX12_feed_111 : decode cX12_feed 111 = .ok (.dup2, 1) := by decide +kernel
theorem dX12_feed_112 : decode cX12_feed 112 = .ok (.iaload, 1) := by decide +kernel
theorem dX12_feed_113 : decode cX12_feed 113 = .ok (.iload 4, 2) := by decide +kernel
theorem dX12_feed_115 : decode cX12_feed 115 = .ok (.iadd, 1) := by decide +kernel
theorem dX12_feed_116 : decode cX12_feed 116 = .ok (.iastore, 1) := by decide +kernel
theorem dX12_feed_117 : decode cX12_feed 117 = .ok (.aload_n 0, 1) := by decide +kernel
theorem dX12_feed_118 : decode cX12_feed 118 = .ok (.getfield 117, 3) := by decide +kernel
theorem dX12_feed_121 : decode cX12_feed 121 = .ok (.iload_n 1, 1) := by decide +kernel
theorem dX12_feed_122 : decode cX12_feed 122 = .ok (.iaload, 1) := by decide +kernel
theorem dX12_feed_123 : decode cX12_feed 123 = .ok (.ireturn, 1) := by decide +kernel
theorem dX12_peek_0 : decode cX12_peek 0 = .ok (.aload_n 0, 1) := by decide +kernel
theorem dX12_peek_1 : decode cX12_peek 1 = .ok (.getfield 345, 3) := by decide +kernel
theorem dX12_peek_4 : decode cX12_peek 4 = .ok (.aload_n 0, 1) := by decide +kernel
theorem dX12_peek_5 : decode cX12_peek 5 = .ok (.getfield 117, 3) := by decide +kernel
theorem dX12_peek_8 : decode cX12_peek 8 = .ok (.iload_n 1, 1) := by decide +kernel
theorem dX12_peek_9 : decode cX12_peek 9 = .ok (.iaload, 1) := by decide +kernel
theorem dX12_peek_10 : decode cX12_peek 10 = .ok (.if_icmp .ge 35, 3) := by decide +kernel
theorem dX12_peek_13 : decode cX12_peek 13 = .ok (.aload_n 0, 1) := by decide +kernel
theorem dX12_peek_14 : decode cX12_peek 14 = .ok (.getfield 120, 3) := by decide +kernel
theorem dX12_peek_17 : decode cX12_peek 17 = .ok (.bipush 80, 2) := by decide +kernel
theorem dX12_peek_19 : decode cX12_peek 19 = .ok (.iload_n 1, 1) := by decide +kernel
theorem dX12_peek_20 : decode cX12_peek 20 = .ok (.imul, 1) := by decide +kernel
theorem dX12_peek_21 : decode cX12_peek 21 = .ok (.aload_n 0, 1) := by decide +kernel
theorem dX12_peek_22 : decode cX12_peek 22 = .ok (.getfield 345, 3) := by decide +kernel
theorem dX12_peek_25 : decode cX12_peek 25 = .ok (.iadd, 1) := by decide +kernel
theorem dX12_peek_26 : decode cX12_peek 26 = .ok (.iaload, 1) := by decide +kernel
theorem dX12_peek_27 : decode cX12_peek 27 = .ok (.bipush 32, 2) := by decide +kernel
theorem dX12_peek_29 : decode cX12_peek 29 = .ok (.if_icmp .ne 16, 3) := by decide +kernel
theorem dX12_peek_32 : decode cX12_peek 32 = .ok (.aload_n 0, 1) := by decide +kernel
theorem dX12_peek_33 : decode cX12_peek 33 = .ok (.dup, 1) := by decide +kernel
theorem dX12_peek_34 : decode cX12_peek 34 = .ok (.getfield 345, 3) := by decide +kernel
theorem dX12_peek_37 : decode cX12_peek 37 = .ok (.iconst 1, 1) := by decide +kernel
theorem dX12_peek_38 : decode cX12_peek 38 = .ok (.iadd, 1) := by decide +kernel
theorem dX12_peek_39 : decode cX12_peek 39 = .ok (.putfield 345, 3) := by decide +kernel
theorem dX12_peek_42 : decode cX12_peek 42 = .ok (.goto (-42), 3) := by decide +kernel
theorem dX12_peek_45 : decode cX12_peek 45 = .ok (.aload_n 0, 1) := by decide +kernel
theorem dX12_peek_46 : decode cX12_peek 46 = .ok (.getfield 345, 3) := by decide +kernel
theorem dX12_peek_49 : decode cX12_peek 49 = .ok (.aload_n 0, 1) := by decide +kernel
theorem dX12_peek_50 : decode cX12_peek 50 = .ok (.getfield 117, 3) := by decide +kernel
theorem dX12_peek_53 : decode cX12_peek 53 = .ok (.iload_n 1, 1) := by decide +kernel
theorem dX12_peek_54 : decode cX12_peek 54 = .ok (.iaload, 1) := by decide +kernel
theorem dX12_peek_55 : decode cX12_peek 55 = .ok (.if_icmp .ge 20, 3) := by decide +kernel
theorem dX12_peek_58 : decode cX12_peek 58 = .ok (.aload_n 0, 1) := by decide +kernel
theorem dX12_peek_59 : decode cX12_peek 59 = .ok (.getfield 120, 3) := by decide +kernel
theorem dX12_peek_62 : decode cX12_peek 62 = .ok (.bipush 80, 2) := by decide +kernel
theorem dX12_peek_64 : decode cX12_peek 64 = .ok (.iload_n 1, 1) := by decide +kernel
theorem dX12_peek_65 : decode cX12_peek 65 = .ok (.imul, 1) := by decide +kernel
theorem dX12_peek_66 : decode cX12_peek 66 = .ok (.aload_n 0, 1) := by decide +kernel
theorem dX12_peek_67 : decode cX12_peek 67 = .ok (.getfield 345, 3) := by decide +kernel
theorem dX12_peek_70 : decode cX12_peek 70 = .ok (.iadd, 1) := by decide +kernel
theorem dX12_peek_71 : decode cX12_peek 71 = .ok (.iaload, 1) := by decide +kernel
theorem dX12_peek_72 : decode cX12_peek 72 = .ok (.goto 4, 3) := by decide +kernel
theorem dX12_peek_75 : decode cX12_peek 75 = .ok (.iconst 0, 1) := by decide +kernel
theorem dX12_peek_76 : decode cX12_peek 76 = .ok (.ireturn, 1) := by decide +kernel
theorem dX12_letterValue_0 : decode cX12_letterValue 0 = .ok (.iload_n 0, 1) := by decide +kernel
theorem dX12_letterValue_1 : decode cX12_letterValue 1 = .ok (.tableswitch 109 102 120 #[97, 109, 109, 109, 109, 106, 95, 109, 109, 99, 93, 109, 109, 91, 109, 101, 109, 109, 103], 91) := by decide +kernel
theorem dX12_letterValue_92 : decode cX12_letterValue 92 = .ok (.iconst 0, 1) := by decide +kernel
theorem dX12_letterValue_93 : decode cX12_letterValue 93 = .ok (.ireturn, 1) := by decide +kernel
theorem dX12_letterValue_94 : decode cX12_letterValue 94 = .ok (.iconst 1, 1) := by decide +kernel
theorem dX12_letterValue_95 : decode cX12_letterValue 95 = .ok (.ireturn, 1) := by decide +kernel
theorem dX12_letterValue_96 : decode cX12_letterValue 96 = .ok (.iconst 2, 1) := by decide +kernel
theorem dX12_letterValue_97 : decode cX12_letterValue 97 = .ok (.ireturn, 1) := by decide +kernel
theorem dX12_letterValue_98 : decode cX12_letterValue 98 = .ok (.iconst 3, 1) := by decide +kernel
theorem dX12_letterValue_99 : decode cX12_letterValue 99 = .ok (.ireturn, 1) := by decide +kernel
theorem dX12_letterValue_100 : decode cX12_letterValue 100 = .ok (.iconst 4, 1) := by decide +kernel
theorem dX12_letterValue_101 : decode cX12_letterValue 101 = .ok (.ireturn, 1) := by decide +kernel
theorem dX12_letterValue_102 : decode cX12_letterValue 102 = .ok (.iconst 5, 1) := by decide +kernel
theorem dX12_letterValue_103 : decode cX12_letterValue 103 = .ok (.ireturn, 1) := by decide +kernel
theorem dX12_letterValue_104 : decode cX12_letterValue 104 = .ok (.bipush 6, 2) := by decide +kernel
theorem dX12_letterValue_106 : decode cX12_letterValue 106 = .ok (.ireturn, 1) := by decide +kernel
theorem dX12_letterValue_107 : decode cX12_letterValue 107 = .ok (.bipush 7, 2) := by decide +kernel
theorem dX12_letterValue_109 : decode cX12_letterValue 109 = .ok (.ireturn, 1) := by decide +kernel
theorem dX12_letterValue_110 : decode cX12_letterValue 110 = .ok (.bipush (-9), 2) := by decide +kernel
theorem dX12_letterValue_112 : decode cX12_letterValue 112 = .ok (.ireturn, 1) := by decide +kernel
theorem dX12_takeAsking_0 : decode cX12_takeAsking 0 = .ok (.aload_n 0, 1) := by decide +kernel
theorem dX12_takeAsking_1 : decode cX12_takeAsking 1 = .ok (.iload_n 1, 1) := by decide +kernel
theorem dX12_takeAsking_2 : decode cX12_takeAsking 2 = .ok (.invokevirtual 348, 3) := by decide +kernel
theorem dX12_takeAsking_5 : decode cX12_takeAsking 5 = .ok (.invokestatic 351, 3) := by decide +kernel
theorem dX12_takeAsking_8 : decode cX12_takeAsking 8 = .ok (.istore_n 2, 1) := by decide +kernel
theorem dX12_takeAsking_9 : decode cX12_takeAsking 9 = .ok (.iload_n 2, 1) := by decide +kernel
theorem dX12_takeAsking_10 : decode cX12_takeAsking 10 = .ok (.bipush (-9), 2) := by decide +kernel
theorem dX12_takeAsking_12 : decode cX12_takeAsking 12 = .ok (.if_icmp .ne 5, 3) := by decide +kernel
theorem dX12_takeAsking_15 : decode cX12_takeAsking 15 = .ok (.iconst 0, 1) := by decide +kernel
theorem dX12_takeAsking_16 : decode cX12_takeAsking 16 = .ok (.ireturn, 1) := by decide +kernel
theorem dX12_takeAsking_17 : decode cX12_takeAsking 17 = .ok (.aload_n 0, 1) := by decide +kernel
theorem dX12_takeAsking_18 : decode cX12_takeAsking 18 = .ok (.dup, 1) := by decide +kernel
theorem dX12_takeAsking_19 : decode cX12_takeAsking 19 = .ok (.getfield 345, 3) := by decide +kernel
theorem dX12_takeAsking_22 : decode cX12_takeAsking 22 = .ok (.iconst 1, 1) := by decide +kernel
theorem dX12_takeAsking_23 : decode cX12_takeAsking 23 = .ok (.iadd, 1) := by decide +kernel
theorem dX12_takeAsking_24 : decode cX12_takeAsking 24 = .ok (.putfield 345, 3) := by decide +kernel
theorem dX12_takeAsking_27 : decode cX12_takeAsking 27 = .ok (.aload_n 0, 1) := by decide +kernel
theorem dX12_takeAsking_28 : decode cX12_takeAsking 28 = .ok (.iload_n 1, 1) := by decide +kernel
theorem dX12_takeAsking_29 : decode cX12_takeAsking 29 = .ok (.invokevirtual 348, 3) := by decide +kernel
theorem dX12_takeAsking_32 : decode cX12_takeAsking 32 = .ok (.istore_n 3, 1) := by decide +kernel
theorem dX12_takeAsking_33 : decode cX12_takeAsking 33 = .ok (.iload_n 3, 1) := by decide +kernel
theorem dX12_takeAsking_34 : decode cX12_takeAsking 34 = .ok (.i2l, 1) := by decide +kernel
theorem dX12_takeAsking_35 : decode cX12_takeAsking 35 = .ok (.ldc2_w 354, 3) := by decide +kernel
theorem dX12_takeAsking_38 : decode cX12_takeAsking 38 = .ok (.ldc2_w 356, 3) := by decide +kernel
theorem dX12_takeAsking_41 : decode cX12_takeAsking 41 = .ok (.invokestatic 245, 3) := by decide +kernel
theorem dX12_takeAsking_44 : decode cX12_takeAsking 44 = .ok (.ifCond .ne 5, 3) := by decide +kernel
theorem dX12_takeAsking_47 : decode cX12_takeAsking 47 = .ok (.iconst 0, 1) := by decide +kernel
theorem dX12_takeAsking_48 : decode cX12_takeAsking 48 = .ok (.ireturn, 1) := by decide +kernel
theorem dX12_takeAsking_49 : decode cX12_takeAsking 49 = .ok (.aload_n 0, 1) := by decide +kernel
theorem dX12_takeAsking_50 : decode cX12_takeAsking 50 = .ok (.dup, 1) := by decide +kernel
theorem dX12_takeAsking_51 : decode cX12_takeAsking 51 = .ok (.getfield 345, 3) := by decide +kernel
theorem dX12_takeAsking_54 : decode cX12_takeAsking 54 = .ok (.iconst 1, 1) := by decide +kernel
theorem dX12_takeAsking_55 : decode cX12_takeAsking 55 = .ok (.iadd, 1) := by decide +kernel
theorem dX12_takeAsking_56 : decode cX12_takeAsking 56 = .ok (.putfield 345, 3) := by decide +kernel
theorem dX12_takeAsking_59 : decode cX12_takeAsking 59 = .ok (.aload_n 0, 1) := by decide +kernel
theorem dX12_takeAsking_60 : decode cX12_takeAsking 60 = .ok (.iload_n 1, 1) := by decide +kernel
theorem dX12_takeAsking_61 : decode cX12_takeAsking 61 = .ok (.invokevirtual 348, 3) := by decide +kernel
theorem dX12_takeAsking_64 : decode cX12_takeAsking 64 = .ok (.i2l, 1) := by decide +kernel
theorem dX12_takeAsking_65 : decode cX12_takeAsking 65 = .ok (.ldc2_w 358, 3) := by decide +kernel
theorem dX12_takeAsking_68 : decode cX12_takeAsking 68 = .ok (.ldc2_w 360, 3) := by decide +kernel
theorem dX12_takeAsking_71 : decode cX12_takeAsking 71 = .ok (.invokestatic 245, 3) := by decide +kernel
theorem dX12_takeAsking_74 : decode cX12_takeAsking 74 = .ok (.ifCond .ne 5, 3) := by decide +kernel
theorem dX12_takeAsking_77 : decode cX12_takeAsking 77 = .ok (.iconst 0, 1) := by decide +kernel
theorem dX12_takeAsking_78 : decode cX12_takeAsking 78 = .ok (.ireturn, 1) := by decide +kernel
theorem dX12_takeAsking_79 : decode cX12_takeAsking 79 = .ok (.iconst 0, 1) := by decide +kernel
theorem dX12_takeAsking_80 : decode cX12_takeAsking 80 = .ok (.istore 4, 2) := by decide +kernel
theorem dX12_takeAsking_82 : decode cX12_takeAsking 82 = .ok (.iconst 0, 1) := by decide +kernel
theorem dX12_takeAsking_83 : decode cX12_takeAsking 83 = .ok (.istore 5, 2) := by decide +kernel
theorem dX12_takeAsking_85 : decode cX12_takeAsking 85 = .ok (.iload 5, 2) := by decide +kernel
theorem dX12_takeAsking_87 : decode cX12_takeAsking 87 = .ok (.iconst 4, 1) := by decide +kernel
theorem dX12_takeAsking_88 : decode cX12_takeAsking 88 = .ok (.if_icmp .ge 84, 3) := by decide +kernel
theorem dX12_takeAsking_91 : decode cX12_takeAsking 91 = .ok (.aload_n 0, 1) := by decide +kernel
theorem dX12_takeAsking_92 : decode cX12_takeAsking 92 = .ok (.getfield 345, 3) := by decide +kernel
theorem dX12_takeAsking_95 : decode cX12_takeAsking 95 = .ok (.aload_n 0, 1) := by decide +kernel
theorem dX12_takeAsking_96 : decode cX12_takeAsking 96 = .ok (.getfield 117, 3) := by decide +kernel
theorem dX12_takeAsking_99 : decode cX12_takeAsking 99 = .ok (.iload_n 1, 1) := by decide +kernel
theorem dX12_takeAsking_100 : decode cX12_takeAsking 100 = .ok (.iaload, 1) := by decide +kernel
theorem dX12_takeAsking_101 : decode cX12_takeAsking 101 = .ok (.if_icmp .ge 71, 3) := by decide +kernel
theorem dX12_takeAsking_104 : decode cX12_takeAsking 104 = .ok (.aload_n 0, 1) := by decide +kernel
theorem dX12_takeAsking_105 : decode cX12_takeAsking 105 = .ok (.getfield 120, 3) := by decide +kernel
theorem dX12_takeAsking_108 : decode cX12_takeAsking 108 = .ok (.bipush 80, 2) := by decide +kernel
theorem dX12_takeAsking_110 : decode cX12_takeAsking 110 = .ok (.iload_n 1, 1) := by decide +kernel
theorem dX12_takeAsking_111 : decode cX12_takeAsking 111 = .ok (.imul, 1) := by decide +kernel
theorem dX12_takeAsking_112 : decode cX12_takeAsking 112 = .ok (.aload_n 0, 1) := by decide +kernel
theorem dX12_takeAsking_113 : decode cX12_takeAsking 113 = .ok (.getfield 345, 3) := by decide +kernel
theorem dX12_takeAsking_116 : decode cX12_takeAsking 116 = .ok (.iadd, 1) := by decide +kernel
theorem dX12_takeAsking_117 : decode cX12_takeAsking 117 = .ok (.iaload, 1) := by decide +kernel
theorem dX12_takeAsking_118 : decode cX12_takeAsking 118 = .ok (.i2l, 1) := by decide +kernel
theorem dX12_takeAsking_119 : decode cX12_takeAsking 119 = .ok (.ldc2_w 358, 3) := by decide +kernel
theorem dX12_takeAsking_122 : decode cX12_takeAsking 122 = .ok (.ldc2_w 360, 3) := by decide +kernel
theorem dX12_takeAsking_125 : decode cX12_takeAsking 125 = .ok (.invokestatic 245, 3) := by decide +kernel
theorem dX12_takeAsking_128 : decode cX12_takeAsking 128 = .ok (.ifCond .eq 44, 3) := by decide +kernel
theorem dX12_takeAsking_131 : decode cX12_takeAsking 131 = .ok (.bipush 10, 2) := by decide +kernel
theorem dX12_takeAsking_133 : decode cX12_takeAsking 133 = .ok (.iload 4, 2) := by decide +kernel
theorem dX12_takeAsking_135 : decode cX12_takeAsking 135 = .ok (.imul, 1) := by decide +kernel
theorem dX12_takeAsking_136 : decode cX12_takeAsking 136 = .ok (.aload_n 0, 1) := by decide +kernel
theorem dX12_takeAsking_137 : decode cX12_takeAsking 137 = .ok (.getfield 120, 3) := by decide +kernel
theorem dX12_takeAsking_140 : decode cX12_takeAsking 140 = .ok (.bipush 80, 2) := by decide +kernel
theorem dX12_takeAsking_142 : decode cX12_takeAsking 142 = .ok (.iload_n 1, 1) := by decide +kernel
theorem dX12_takeAsking_143 : decode cX12_takeAsking 143 = .ok (.imul, 1) := by decide +kernel
theorem dX12_takeAsking_144 : decode cX12_takeAsking 144 = .ok (.aload_n 0, 1) := by decide +kernel
theorem dX12_takeAsking_145 : decode cX12_takeAsking 145 = .ok (.getfield 345, 3) := by decide +kernel
theorem dX12_takeAsking_148 : decode cX12_takeAsking 148 = .ok (.iadd, 1) := by decide +kernel
theorem dX12_takeAsking_149 : decode cX12_takeAsking 149 = .ok (.iaload, 1) := by decide +kernel
theorem dX12_takeAsking_150 : decode cX12_takeAsking 150 = .ok (.iadd, 1) := by decide +kernel
theorem dX12_takeAsking_151 : decode cX12_takeAsking 151 = .ok (.bipush 48, 2) := by decide +kernel
theorem dX12_takeAsking_153 : decode cX12_takeAsking 153 = .ok (.isub, 1) := by decide +kernel
theorem dX12_takeAsking_154 : decode cX12_takeAsking 154 = .ok (.istore 4, 2) := by decide +kernel
theorem dX12_takeAsking_156 : decode cX12_takeAsking 156 = .ok (.aload_n 0, 1) := by decide +kernel
theorem dX12_takeAsking_157 : decode cX12_takeAsking 157 = .ok (.dup, 1) := by decide +kernel
theorem dX12_takeAsking_158 : decode cX12_takeAsking 158 = .ok (.getfield 345, 3) := by decide +kernel
theorem dX12_takeAsking_161 : decode cX12_takeAsking 161 = .ok (.iconst 1, 1) := by decide +kernel
theorem dX12_takeAsking_162 : decode cX12_takeAsking 162 = .ok (.iadd, 1) := by decide +kernel
theorem dX12_takeAsking_163 : decode cX12_takeAsking 163 = .ok (.putfield 345, 3) := by decide +kernel
theorem dX12_takeAsking_166 : decode cX12_takeAsking 166 = .ok (.iinc 5 1, 3) := by decide +kernel
theorem dX12_takeAsking_169 : decode cX12_takeAsking 169 = .ok (.goto (-84), 3) := by decide +kernel
theorem dX12_takeAsking_172 : decode cX12_takeAsking 172 = .ok (.aload_n 0, 1) := by decide +kernel
theorem dX12_takeAsking_173 : decode cX12_takeAsking 173 = .ok (.getfield 126, 3) := by decide +kernel
theorem dX12_takeAsking_176 : decode cX12_takeAsking 176 = .ok (.aload_n 0, 1) := by decide +kernel
theorem dX12_takeAsking_177 : decode cX12_takeAsking 177 = .ok (.getfield 362, 3) := by decide +kernel
theorem dX12_takeAsking_180 : decode cX12_takeAsking 180 = .ok (.iload_n 3, 1) := by decide +kernel
theorem dX12_takeAsking_181 : decode cX12_takeAsking 181 = .ok (.bipush 60, 2) := by decide +kernel
theorem dX12_takeAsking_183 : decode cX12_takeAsking 183 = .ok (.if_icmp .ne 22, 3) := by decide +kernel
theorem dX12_takeAsking_186 : decode cX12_takeAsking 186 = .ok (.aload_n 0, 1) := by decide +kernel
theorem dX12_takeAsking_187 : decode cX12_takeAsking 187 = .ok (.getfield 129, 3) := by decide +kernel
theorem dX12_takeAsking_190 : decode cX12_takeAsking 190 = .ok (.iload_n 2, 1) := by decide +kernel
theorem dX12_takeAsking_191 : decode cX12_takeAsking 191 = .ok (.iaload, 1) := by decide +kernel
theorem dX12_takeAsking_192 : decode cX12_takeAsking 192 = .ok (.iload 4, 2) := by decide +kernel
theorem dX12_takeAsking_194 : decode cX12_takeAsking 194 = .ok (.if_icmp .ge 7, 3) := by decide +kernel
theorem dX12_takeAsking_197 : decode cX12_takeAsking 197 = .ok (.iconst 1, 1) := by decide +kernel
theorem dX12_takeAsking_198 : decode cX12_takeAsking 198 = .ok (.goto 48, 3) := by decide +kernel
theorem dX12_takeAsking_201 : decode cX12_takeAsking 201 = .ok (.iconst 0, 1) := by decide +kernel
theorem dX12_takeAsking_202 : decode cX12_takeAsking 202 = .ok (.goto 44, 3) := by decide +kernel
theorem dX12_takeAsking_205 : decode cX12_takeAsking 205 = .ok (.iload_n 3, 1) := by decide +kernel
theorem dX12_takeAsking_206 : decode cX12_takeAsking 206 = .ok (.bipush 61, 2) := by decide +kernel
theorem dX12_takeAsking_208 : decode cX12_takeAsking 208 = .ok (.if_icmp .ne 22, 3) := by decide +kernel
theorem dX12_takeAsking_211 : decode cX12_takeAsking 211 = .ok (.aload_n 0, 1) := by decide +kernel
theorem dX12_takeAsking_212 : decode cX12_takeAsking 212 = .ok (.getfield 129, 3) := by decide +kernel
theorem dX12_takeAsking_215 : decode cX12_takeAsking 215 = .ok (.iload_n 2, 1) := by decide +kernel
theorem dX12_takeAsking_216 : decode cX12_takeAsking 216 = .ok (.iaload, 1) := by decide +kernel
theorem dX12_takeAsking_217 : decode cX12_takeAsking 217 = .ok (.iload 4, 2) := by decide +kernel
theorem dX12_takeAsking_219 : decode cX12_takeAsking 219 = .ok (.if_icmp .ne 7, 3) := by decide +kernel
theorem dX12_takeAsking_222 : decode cX12_takeAsking 222 = .ok (.iconst 1, 1) := by decide +kernel
theorem dX12_takeAsking_223 : decode cX12_takeAsking 223 = .ok (.goto 23, 3) := by decide +kernel
theorem dX12_takeAsking_226 : decode cX12_takeAsking 226 = .ok (.iconst 0, 1) := by decide +kernel
theorem dX12_takeAsking_227 : decode cX12_takeAsking 227 = .ok (.goto 19, 3) := by decide +kernel
theorem dX12_takeAsking_230 : decode cX12_takeAsking 230 = .ok (.aload_n 0, 1) := by decide +kernel
theorem dX12_takeAsking_231 : decode cX12_takeAsking 231 = .ok (.getfield 129, 3) := by decide +kernel
theorem dX12_takeAsking_234 : decode cX12_takeAsking 234 = .ok (.iload_n 2, 1) := by decide +kernel
theorem dX12_takeAsking_235 : decode cX12_takeAsking 235 = .ok (.iaload, 1) := by decide +kernel
theorem dX12_takeAsking_236 : decode cX12_takeAsking 236 = .ok (.iload 4, 2) := by decide +kernel
theorem dX12_takeAsking_238 : decode cX12_takeAsking 238 = .ok (.if_icmp .le 7, 3) := by decide +kernel
theorem dX12_takeAsking_241 : decode cX12_takeAsking 241 = .ok (.iconst 1, 1) := by decide +kernel
theorem dX12_takeAsking_242 : decode cX12_takeAsking 242 = .ok (.goto 4, 3) := by decide +kernel
theorem dX12_takeAsking_245 : decode cX12_takeAsking 245 = .ok (.iconst 0, 1) := by decide +kernel
theorem dX12_takeAsking_246 : decode cX12_takeAsking 246 = .ok (.bastore, 1) := by decide +kernel
theorem dX12_takeAsking_247 : decode cX12_takeAsking 247 = .ok (.aload_n 0, 1) := by decide +kernel
theorem dX12_takeAsking_248 : decode cX12_takeAsking 248 = .ok (.dup, 1) := by decide +kernel
theorem dX12_takeAsking_249 : decode cX12_takeAsking 249 = .ok (.getfield 362, 3) := by decide +kernel
theorem dX12_takeAsking_252 : decode cX12_takeAsking 252 = .ok (.iconst 1, 1) := by decide +kernel
theorem dX12_takeAsking_253 : decode cX12_takeAsking 253 = .ok (.iadd, 1) := by decide +kernel
theorem dX12_takeAsking_254 : decode cX12_takeAsking 254 = .ok (.putfield 362, 3) := by decide +kernel
theorem dX12_takeAsking_257 : decode cX12_takeAsking 257 = .ok (.iconst 1, 1) := by decide +kernel
theorem dX12_takeAsking_258 : decode cX12_takeAsking 258 = .ok (.ireturn, 1) := by decide +kernel
theorem dX12_binds_0 : decode cX12_binds 0 = .ok (.iload_n 0, 1) := by decide +kernel
theorem dX12_binds_1 : decode cX12_binds 1 = .ok (.bipush 33, 2) := by decide +kernel
theorem dX12_binds_3 : decode cX12_binds 3 = .ok (.if_icmp .ne 7, 3) := by decide +kernel
theorem dX12_binds_6 : decode cX12_binds 6 = .ok (.iconst 3, 1) := by decide +kernel
theorem dX12_binds_7 : decode cX12_binds 7 = .ok (.goto 24, 3) := by decide +kernel
theorem dX12_binds_10 : decode cX12_binds 10 = .ok (.iload_n 0, 1) := by decide +kernel
theorem dX12_binds_11 : decode cX12_binds 11 = .ok (.bipush 38, 2) := by decide +kernel
theorem dX12_binds_13 : decode cX12_binds 13 = .ok (.if_icmp .ne 7, 3) := by decide +kernel
theorem dX12_binds_16 : decode cX12_binds 16 = .ok (.iconst 2, 1) := by decide +kernel
theorem dX12_binds_17 : decode cX12_binds 17 = .ok (.goto 14, 3) := by decide +kernel
theorem dX12_binds_20 : decode cX12_binds 20 = .ok (.iload_n 0, 1) := by decide +kernel
theorem dX12_binds_21 : decode cX12_binds 21 = .ok (.bipush 124, 2) := by decide +kernel
theorem dX12_binds_23 : decode cX12_binds 23 = .ok (.if_icmp .ne 7, 3) := by decide +kernel
theorem dX12_binds_26 : decode cX12_binds 26 = .ok (.iconst 1, 1) := by decide +kernel
theorem dX12_binds_27 : decode cX12_binds 27 = .ok (.goto 4, 3) := by decide +kernel
theorem dX12_binds_30 : decode cX12_binds 30 = .ok (.iconst 0, 1) := by decide +kernel
theorem dX12_binds_31 : decode cX12_binds 31 = .ok (.ireturn, 1) := by decide +kernel
theorem dX12_closeTo_0 : decode cX12_closeTo 0 = .ok (.aload_n 0, 1) := by decide +kernel
theorem dX12_closeTo_1 : decode cX12_closeTo 1 = .ok (.getfield 365, 3) := by decide +kernel
theorem dX12_closeTo_4 : decode cX12_closeTo 4 = .ok (.ifCond .le 167, 3) := by decide +kernel
theorem dX12_closeTo_7 : decode cX12_closeTo 7 = .ok (.aload_n 0, 1) := by decide +kernel
theorem dX12_closeTo_8 : decode cX12_closeTo 8 = .ok (.getfield 123, 3) := by decide +kernel
theorem dX12_closeTo_11 : decode cX12_closeTo 11 = .ok (.aload_n 0, 1) := by decide +kernel
theorem dX12_closeTo_12 : decode cX12_closeTo 12 = .ok (.getfield 365, 3) := by decide +kernel
theorem dX12_closeTo_15 : decode cX12_closeTo 15 = .ok (.iconst 1, 1) := by decide +kernel
theorem dX12_closeTo_16 : decode cX12_closeTo 16 = .ok (.isub, 1) := by decide +kernel
theorem dX12_closeTo_17 : decode cX12_closeTo 17 = .ok (.iaload, 1) := by decide +kernel
theorem dX12_closeTo_18 : decode cX12_closeTo 18 = .ok (.invokestatic 368, 3) := by decide +kernel
theorem dX12_closeTo_21 : decode cX12_closeTo 21 = .ok (.iload_n 1, 1) := by decide +kernel
theorem dX12_closeTo_22 : decode cX12_closeTo 22 = .ok (.if_icmp .lt 149, 3) := by decide +kernel
theorem dX12_closeTo_25 : decode cX12_closeTo 25 = .ok (.aload_n 0, 1) := by decide +kernel
theorem dX12_closeTo_26 : decode cX12_closeTo 26 = .ok (.dup, 1) := by decide +kernel
theorem dX12_closeTo_27 : decode cX12_closeTo 27 = .ok (.getfield 365, 3) := by decide +kernel
theorem dX12_closeTo_30 : decode cX12_closeTo 30 = .ok (.iconst 1, 1) := by decide +kernel
theorem dX12_closeTo_31 : decode cX12_closeTo 31 = .ok (.isub, 1) := by decide +kernel
theorem dX12_closeTo_32 : decode cX12_closeTo 32 = .ok (.putfield 365, 3) := by decide +kernel
theorem dX12_closeTo_35 : decode cX12_closeTo 35 = .ok (.aload_n 0, 1) := by decide +kernel
theorem dX12_closeTo_36 : decode cX12_closeTo 36 = .ok (.getfield 126, 3) := by decide +kernel
theorem dX12_closeTo_39 : decode cX12_closeTo 39 = .ok (.aload_n 0, 1) := by decide +kernel
theorem dX12_closeTo_40 : decode cX12_closeTo 40 = .ok (.getfield 362, 3) := by decide +kernel
theorem dX12_closeTo_43 : decode cX12_closeTo 43 = .ok (.iconst 1, 1) := by decide +kernel
theorem dX12_closeTo_44 : decode cX12_closeTo 44 = .ok (.isub, 1) := by decide +kernel
theorem dX12_closeTo_45 : decode cX12_closeTo 45 = .ok (.baload, 1) := by decide +kernel
theorem dX12_closeTo_46 : decode cX12_closeTo 46 = .ok (.istore_n 2, 1) := by decide +kernel
theorem dX12_closeTo_47 : decode cX12_closeTo 47 = .ok (.aload_n 0, 1) := by decide +kernel
theorem dX12_closeTo_48 : decode cX12_closeTo 48 = .ok (.getfield 123, 3) := by decide +kernel
theorem dX12_closeTo_51 : decode cX12_closeTo 51 = .ok (.aload_n 0, 1) := by decide +kernel
theorem dX12_closeTo_52 : decode cX12_closeTo 52 = .ok (.getfield 365, 3) := by decide +kernel
theorem dX12_closeTo_55 : decode cX12_closeTo 55 = .ok (.iaload, 1) := by decide +kernel
theorem dX12_closeTo_56 : decode cX12_closeTo 56 = .ok (.bipush 33, 2) := by decide +kernel
theorem dX12_closeTo_58 : decode cX12_closeTo 58 = .ok (.if_icmp .ne 26, 3) := by decide +kernel
theorem dX12_closeTo_61 : decode cX12_closeTo 61 = .ok (.aload_n 0, 1) := by decide +kernel
theorem dX12_closeTo_62 : decode cX12_closeTo 62 = .ok (.getfield 126, 3) := by decide +kernel
theorem dX12_closeTo_65 : decode cX12_closeTo 65 = .ok (.aload_n 0, 1) := by decide +kernel
theorem dX12_closeTo_66 : decode cX12_closeTo 66 = .ok (.getfield 362, 3) := by decide +kernel
theorem dX12_closeTo_69 : decode cX12_closeTo 69 = .ok (.iconst 1, 1) := by decide +kernel
theorem dX12_closeTo_70 : decode cX12_closeTo 70 = .ok (.isub, 1) := by decide +kernel
theorem dX12_closeTo_71 : decode cX12_closeTo 71 = .ok (.iload_n 2, 1) := by decide +kernel
theorem dX12_closeTo_72 : decode cX12_closeTo 72 = .ok (.ifCond .ne 7, 3) := by decide +kernel
theorem dX12_closeTo_75 : decode cX12_closeTo 75 = .ok (.iconst 1, 1) := by decide +kernel
theorem dX12_closeTo_76 : decode cX12_closeTo 76 = .ok (.goto 4, 3) := by decide +kernel
theorem dX12_closeTo_79 : decode cX12_closeTo 79 = .ok (.iconst 0, 1) := by decide +kernel
theorem dX12_closeTo_80 : decode cX12_closeTo 80 = .ok (.bastore, 1) := by decide +kernel
theorem dX12_closeTo_81 : decode cX12_closeTo 81 = .ok (.goto 87, 3) := by decide +kernel
theorem dX12_closeTo_84 : decode cX12_closeTo 84 = .ok (.aload_n 0, 1) := by decide +kernel
theorem dX12_closeTo_85 : decode cX12_closeTo 85 = .ok (.dup, 1) := by decide +kernel
theorem dX12_closeTo_86 : decode cX12_closeTo 86 = .ok (.getfield 362, 3) := by decide +kernel
theorem dX12_closeTo_89 : decode cX12_closeTo 89 = .ok (.iconst 1, 1) := by decide +kernel
theorem dX12_closeTo_90 : decode cX12_closeTo 90 = .ok (.isub, 1) := by decide +kernel
theorem dX12_closeTo_91 : decode cX12_closeTo 91 = .ok (.putfield 362, 3) := by decide +kernel
theorem dX12_closeTo_94 : decode cX12_closeTo 94 = .ok (.aload_n 0, 1) := by decide +kernel
theorem dX12_closeTo_95 : decode cX12_closeTo 95 = .ok (.getfield 126, 3) := by decide +kernel
theorem dX12_closeTo_98 : decode cX12_closeTo 98 = .ok (.aload_n 0, 1) := by decide +kernel
theorem dX12_closeTo_99 : decode cX12_closeTo 99 = .ok (.getfield 362, 3) := by decide +kernel
theorem dX12_closeTo_102 : decode cX12_closeTo 102 = .ok (.iconst 1, 1) := by decide +kernel
theorem dX12_closeTo_103 : decode cX12_closeTo 103 = .ok (.isub, 1) := by decide +kernel
theorem dX12_closeTo_104 : decode cX12_closeTo 104 = .ok (.aload_n 0, 1) := by decide +kernel
theorem dX12_closeTo_105 : decode cX12_closeTo 105 = .ok (.getfield 123, 3) := by decide +kernel
theorem dX12_closeTo_108 : decode cX12_closeTo 108 = .ok (.aload_n 0, 1) := by decide +kernel
theorem dX12_closeTo_109 : decode cX12_closeTo 109 = .ok (.getfield 365, 3) := by decide +kernel
theorem dX12_closeTo_112 : decode cX12_closeTo 112 = .ok (.iaload, 1) := by decide +kernel
theorem dX12_closeTo_113 : decode cX12_closeTo 113 = .ok (.bipush 38, 2) := by decide +kernel
theorem dX12_closeTo_115 : decode cX12_closeTo 115 = .ok (.if_icmp .ne 29, 3) := by decide +kernel
theorem dX12_closeTo_118 : decode cX12_closeTo 118 = .ok (.aload_n 0, 1) := by decide +kernel
theorem dX12_closeTo_119 : decode cX12_closeTo 119 = .ok (.getfield 126, 3) := by decide +kernel
theorem dX12_closeTo_122 : decode cX12_closeTo 122 = .ok (.aload_n 0, 1) := by decide +kernel
theorem dX12_closeTo_123 : decode cX12_closeTo 123 = .ok (.getfield 362, 3) := by decide +kernel
theorem dX12_closeTo_126 : decode cX12_closeTo 126 = .ok (.iconst 1, 1) := by decide +kernel
theorem dX12_closeTo_127 : decode cX12_closeTo 127 = .ok (.isub, 1) := by decide +kernel
theorem dX12_closeTo_128 : decode cX12_closeTo 128 = .ok (.baload, 1) := by decide +kernel
theorem dX12_closeTo_129 : decode cX12_closeTo 129 = .ok (.ifCond .eq 11, 3) := by decide +kernel
theorem dX12_closeTo_132 : decode cX12_closeTo 132 = .ok (.iload_n 2, 1) := by decide +kernel
theorem dX12_closeTo_133 : decode cX12_closeTo 133 = .ok (.ifCond .eq 7, 3) := by decide +kernel
theorem dX12_closeTo_136 : decode cX12_closeTo 136 = .ok (.iconst 1, 1) := by decide +kernel
theorem dX12_closeTo_137 : decode cX12_closeTo 137 = .ok (.goto 30, 3) := by decide +kernel
theorem dX12_closeTo_140 : decode cX12_closeTo 140 = .ok (.iconst 0, 1) := by decide +kernel
theorem dX12_closeTo_141 : decode cX12_closeTo 141 = .ok (.goto 26, 3) := by decide +kernel
theorem dX12_closeTo_144 : decode cX12_closeTo 144 = .ok (.aload_n 0, 1) := by decide +kernel
theorem dX12_closeTo_145 : decode cX12_closeTo 145 = .ok (.getfield 126, 3) := by decide +kernel
theorem dX12_closeTo_148 : decode cX12_closeTo 148 = .ok (.aload_n 0, 1) := by decide +kernel
theorem dX12_closeTo_149 : decode cX12_closeTo 149 = .ok (.getfield 362, 3) := by decide +kernel
theorem dX12_closeTo_152 : decode cX12_closeTo 152 = .ok (.iconst 1, 1) := by decide +kernel
theorem dX12_closeTo_153 : decode cX12_closeTo 153 = .ok (.isub, 1) := by decide +kernel
theorem dX12_closeTo_154 : decode cX12_closeTo 154 = .ok (.baload, 1) := by decide +kernel
theorem dX12_closeTo_155 : decode cX12_closeTo 155 = .ok (.ifCond .ne 7, 3) := by decide +kernel
theorem dX12_closeTo_158 : decode cX12_closeTo 158 = .ok (.iload_n 2, 1) := by decide +kernel
theorem dX12_closeTo_159 : decode cX12_closeTo 159 = .ok (.ifCond .eq 7, 3) := by decide +kernel
theorem dX12_closeTo_162 : decode cX12_closeTo 162 = .ok (.iconst 1, 1) := by decide +kernel
theorem dX12_closeTo_163 : decode cX12_closeTo 163 = .ok (.goto 4, 3) := by decide +kernel
theorem dX12_closeTo_166 : decode cX12_closeTo 166 = .ok (.iconst 0, 1) := by decide +kernel
theorem dX12_closeTo_167 : decode cX12_closeTo 167 = .ok (.bastore, 1) := by decide +kernel
theorem dX12_closeTo_168 : decode cX12_closeTo 168 = .ok (.goto (-168), 3) := by decide +kernel
theorem dX12_closeTo_171 : decode cX12_closeTo 171 = .ok (.return_, 1) := by decide +kernel
theorem dX12_push_0 : decode cX12_push 0 = .ok (.aload_n 0, 1) := by decide +kernel
theorem dX12_push_1 : decode cX12_push 1 = .ok (.getfield 123, 3) := by decide +kernel
theorem dX12_push_4 : decode cX12_push 4 = .ok (.aload_n 0, 1) := by decide +kernel
theorem dX12_push_5 : decode cX12_push 5 = .ok (.getfield 365, 3) := by decide +kernel
theorem dX12_push_8 : decode cX12_push 8 = .ok (.iload_n 1, 1) := by decide +kernel
theorem dX12_push_9 : decode cX12_push 9 = .ok (.iastore, 1) := by decide +kernel
theorem dX12_push_10 : decode cX12_push 10 = .ok (.aload_n 0, 1) := by decide +kernel
theorem dX12_push_11 : decode cX12_push 11 = .ok (.dup, 1) := by decide +kernel
theorem dX12_push_12 : decode cX12_push 12 = .ok (.getfield 365, 3) := by decide +kernel
theorem dX12_push_15 : decode cX12_push 15 = .ok (.iconst 1, 1) := by decide +kernel
theorem dX12_push_16 : decode cX12_push 16 = .ok (.iadd, 1) := by decide +kernel
theorem dX12_push_17 : decode cX12_push 17 = .ok (.putfield 365, 3) := by decide +kernel
theorem dX12_push_20 : decode cX12_push 20 = .ok (.aload_n 0, 1) := by decide +kernel
theorem dX12_push_21 : decode cX12_push 21 = .ok (.dup, 1) := by decide +kernel
theorem dX12_push_22 : decode cX12_push 22 = .ok (.getfield 345, 3) := by decide +kernel
theorem dX12_push_25 : decode cX12_push 25 = .ok (.iconst 1, 1) := by decide +kernel
theorem dX12_push_26 : decode cX12_push 26 = .ok (.iadd, 1) := by decide +kernel
theorem dX12_push_27 : decode cX12_push 27 = .ok (.putfield 345, 3) := by decide +kernel
theorem dX12_push_30 : decode cX12_push 30 = .ok (.return_, 1) := by decide +kernel
theorem dX12_readRule_0 : decode cX12_readRule 0 = .ok (.aload_n 0, 1) := by decide +kernel
theorem dX12_readRule_1 : decode cX12_readRule 1 = .ok (.iconst 0, 1) := by decide +kernel
theorem dX12_readRule_2 : decode cX12_readRule 2 = .ok (.putfield 345, 3) := by decide +kernel
theorem dX12_readRule_5 : decode cX12_readRule 5 = .ok (.aload_n 0, 1) := by decide +kernel
theorem dX12_readRule_6 : decode cX12_readRule 6 = .ok (.iconst 0, 1) := by decide +kernel
theorem dX12_readRule_7 : decode cX12_readRule 7 = .ok (.putfield 365, 3) := by decide +kernel
theorem dX12_readRule_10 : decode cX12_readRule 10 = .ok (.aload_n 0, 1) := by decide +kernel
theorem dX12_readRule_11 : decode cX12_readRule 11 = .ok (.iconst 0, 1) := by decide +kernel
theorem dX12_readRule_12 : decode cX12_readRule 12 = .ok (.putfield 362, 3) := by decide +kernel
theorem dX12_readRule_15 : decode cX12_readRule 15 = .ok (.iconst 0, 1) := by decide +kernel
theorem dX12_readRule_16 : decode cX12_readRule 16 = .ok (.istore_n 2, 1) := by decide +kernel
theorem dX12_readRule_17 : decode cX12_readRule 17 = .ok (.iconst 1, 1) := by decide +kernel
theorem dX12_readRule_18 : decode cX12_readRule 18 = .ok (.istore_n 3, 1) := by decide +kernel
theorem dX12_readRule_19 : decode cX12_readRule 19 = .ok (.iload_n 3, 1) := by decide +kernel
theorem dX12_readRule_20 : decode cX12_readRule 20 = .ok (.ifCond .ne 11, 3) := by decide +kernel
theorem dX12_readRule_23 : decode cX12_readRule 23 = .ok (.aload_n 0, 1) := by decide +kernel
theorem dX12_readRule_24 : decode cX12_readRule 24 = .ok (.iload_n 1, 1) := by decide +kernel
theorem dX12_readRule_25 : decode cX12_readRule 25 = .ok (.invokevirtual 348, 3) := by decide +kernel
theorem dX12_readRule_28 : decode cX12_readRule 28 = .ok (.ifCond .eq 154, 3) := by decide +kernel
theorem dX12_readRule_31 : decode cX12_readRule 31 = .ok (.aload_n 0, 1) := by decide +kernel
theorem dX12_readRule_32 : decode cX12_readRule 32 = .ok (.iload_n 1, 1) := by decide +kernel
theorem dX12_readRule_33 : decode cX12_readRule 33 = .ok (.invokevirtual 348, 3) := by decide +kernel
theorem dX12_readRule_36 : decode cX12_readRule 36 = .ok (.istore 4, 2) := by decide +kernel
theorem dX12_readRule_38 : decode cX12_readRule 38 = .ok (.iload_n 3, 1) := by decide +kernel
theorem dX12_readRule_39 : decode cX12_readRule 39 = .ok (.ifCond .eq 59, 3) := by decide +kernel
theorem dX12_readRule_42 : decode cX12_readRule 42 = .ok (.iload 4, 2) := by decide +kernel
theorem dX12_readRule_44 : decode cX12_readRule 44 = .ok (.bipush 33, 2) := by decide +kernel
theorem dX12_readRule_46 : decode cX12_readRule 46 = .ok (.if_icmp .eq 10, 3) := by decide +kernel
theorem dX12_readRule_49 : decode cX12_readRule 49 = .ok (.iload 4, 2) := by decide +kernel
theorem dX12_readRule_51 : decode cX12_readRule 51 = .ok (.bipush 40, 2) := by decide +kernel
theorem dX12_readRule_53 : decode cX12_readRule 53 = .ok (.if_icmp .ne 27, 3) := by decide +kernel
theorem dX12_readRule_56 : decode cX12_readRule 56 = .ok (.iload_n 2, 1) := by decide +kernel
theorem dX12_readRule_57 : decode cX12_readRule 57 = .ok (.iload 4, 2) := by decide +kernel
theorem dX12_readRule_59 : decode cX12_readRule 59 = .ok (.bipush 40, 2) := by decide +kernel
theorem dX12_readRule_61 : decode cX12_readRule 61 = .ok (.if_icmp .ne 7, 3) := by decide +kernel
theorem dX12_readRule_64 : decode cX12_readRule 64 = .ok (.iconst 1, 1) := by decide +kernel
theorem dX12_readRule_65 : decode cX12_readRule 65 = .ok (.goto 4, 3) := by decide +kernel
theorem dX12_readRule_68 : decode cX12_readRule 68 = .ok (.iconst 0, 1) := by decide +kernel
theorem dX12_readRule_69 : decode cX12_readRule 69 = .ok (.iadd, 1) := by decide +kernel
theorem dX12_readRule_70 : decode cX12_readRule 70 = .ok (.istore_n 2, 1) := by decide +kernel
theorem dX12_readRule_71 : decode cX12_readRule 71 = .ok (.aload_n 0, 1) := by decide +kernel
theorem dX12_readRule_72 : decode cX12_readRule 72 = .ok (.iload 4, 2) := by decide +kernel
theorem dX12_readRule_74 : decode cX12_readRule 74 = .ok (.invokevirtual 371, 3) := by decide +kernel
theorem dX12_readRule_77 : decode cX12_readRule 77 = .ok (.goto 102, 3) := by decide +kernel
theorem dX12_readRule_80 : decode cX12_readRule 80 = .ok (.aload_n 0, 1) := by decide +kernel
theorem dX12_readRule_81 : decode cX12_readRule 81 = .ok (.iload_n 1, 1) := by decide +kernel
theorem dX12_readRule_82 : decode cX12_readRule 82 = .ok (.invokevirtual 375, 3) := by decide +kernel
theorem dX12_readRule_85 : decode cX12_readRule 85 = .ok (.ifCond .eq 8, 3) := by decide +kernel
theorem dX12_readRule_88 : decode cX12_readRule 88 = .ok (.iconst 0, 1) := by decide +kernel
theorem dX12_readRule_89 : decode cX12_readRule 89 = .ok (.istore_n 3, 1) := by decide +kernel
theorem dX12_readRule_90 : decode cX12_readRule 90 = .ok (.goto 89, 3) := by decide +kernel
theorem dX12_readRule_93 : decode cX12_readRule 93 = .ok (.aload_n 0, 1) := by decide +kernel
theorem dX12_readRule_94 : decode cX12_readRule 94 = .ok (.getfield 345, 3) := by decide +kernel
theorem dX12_readRule_97 : decode cX12_readRule 97 = .ok (.ireturn, 1) := by decide +kernel
theorem dX12_readRule_98 : decode cX12_readRule 98 = .ok (.iload 4, 2) := by decide +kernel
theorem dX12_readRule_100 : decode cX12_readRule 100 = .ok (.bipush 41, 2) := by decide +kernel
theorem dX12_readRule_102 : decode cX12_readRule 102 = .ok (.if_icmp .ne 38, 3) := by decide +kernel
theorem dX12_readRule_105 : decode cX12_readRule 105 = .ok (.iload_n 2, 1) := by decide +kernel
theorem dX12_readRule_106 : decode cX12_readRule 106 = .ok (.ifCond .le 34, 3) := by decide +kernel
theorem dX12_readRule_109 : decode cX12_readRule 109 = .ok (.aload_n 0, 1) := by decide +kernel
theorem dX12_readRule_110 : decode cX12_readRule 110 = .ok (.iconst 1, 1) := by decide +kernel
theorem dX12_readRule_111 : decode cX12_readRule 111 = .ok (.invokevirtual 378, 3) := by decide +kernel
theorem dX12_readRule_114 : decode cX12_readRule 114 = .ok (.aload_n 0, 1) := by decide +kernel
theorem dX12_readRule_115 : decode cX12_readRule 115 = .ok (.dup, 1) := by decide +kernel
theorem dX12_readRule_116 : decode cX12_readRule 116 = .ok (.getfield 365, 3) := by decide +kernel
theorem dX12_readRule_119 : decode cX12_readRule 119 = .ok (.iconst 1, 1) := by decide +kernel
theorem dX12_readRule_120 : decode cX12_readRule 120 = .ok (.isub, 1) := by decide +kernel
theorem dX12_readRule_121 : decode cX12_readRule 121 = .ok (.putfield 365, 3) := by decide +kernel
theorem dX12_readRule_124 : decode cX12_readRule 124 = .ok (.iinc 2 (-1), 3) := by decide +kernel
theorem dX12_readRule_127 : decode cX12_readRule 127 = .ok (.aload_n 0, 1) := by decide +kernel
theorem dX12_readRule_128 : decode cX12_readRule 128 = .ok (.dup, 1) := by decide +kernel
theorem dX12_readRule_129 : decode cX12_readRule 129 = .ok (.getfield 345, 3) := by decide +kernel
theorem dX12_readRule_132 : decode cX12_readRule 132 = .ok (.iconst 1, 1) := by decide +kernel
theorem dX12_readRule_133 : decode cX12_readRule 133 = .ok (.iadd, 1) := by decide +kernel
theorem dX12_readRule_134 : decode cX12_readRule 134 = .ok (.putfield 345, 3) := by decide +kernel
theorem dX12_readRule_137 : decode cX12_readRule 137 = .ok (.goto 42, 3) := by decide +kernel
theorem dX12_readRule_140 : decode cX12_readRule 140 = .ok (.iload 4, 2) := by decide +kernel
theorem dX12_readRule_142 : decode cX12_readRule 142 = .ok (.bipush 38, 2) := by decide +kernel
theorem dX12_readRule_144 : decode cX12_readRule 144 = .ok (.if_icmp .eq 10, 3) := by decide +kernel
theorem dX12_readRule_147 : decode cX12_readRule 147 = .ok (.iload 4, 2) := by decide +kernel
theorem dX12_readRule_149 : decode cX12_readRule 149 = .ok (.bipush 124, 2) := by decide +kernel
theorem dX12_readRule_151 : decode cX12_readRule 151 = .ok (.if_icmp .ne 23, 3) := by decide +kernel
theorem dX12_readRule_154 : decode cX12_readRule 154 = .ok (.aload_n 0, 1) := by decide +kernel
theorem dX12_readRule_155 : decode cX12_readRule 155 = .ok (.iload 4, 2) := by decide +kernel
theorem dX12_readRule_157 : decode cX12_readRule 157 = .ok (.invokestatic 368, 3) := by decide +kernel
theorem dX12_readRule_160 : decode cX12_readRule 160 = .ok (.invokevirtual 378, 3) := by decide +kernel
theorem dX12_readRule_163 : decode cX12_readRule 163 = .ok (.aload_n 0, 1) := by decide +kernel
theorem dX12_readRule_164 : decode cX12_readRule 164 = .ok (.iload 4, 2) := by decide +kernel
theorem dX12_readRule_166 : decode cX12_readRule 166 = .ok (.invokevirtual 371, 3) := by decide +kernel
theorem dX12_readRule_169 : decode cX12_readRule 169 = .ok (.iconst 1, 1) := by decide +kernel
theorem dX12_readRule_170 : decode cX12_readRule 170 = .ok (.istore_n 3, 1) := by decide +kernel
theorem dX12_readRule_171 : decode cX12_readRule 171 = .ok (.goto 8, 3) := by decide +kernel
theorem dX12_readRule_174 : decode cX12_readRule 174 = .ok (.aload_n 0, 1) := by decide +kernel
theorem dX12_readRule_175 : decode cX12_readRule 175 = .ok (.getfield 345, 3) := by decide +kernel
theorem dX12_readRule_178 : decode cX12_readRule 178 = .ok (.ireturn, 1) := by decide +kernel
theorem dX12_readRule_179 : decode cX12_readRule 179 = .ok (.goto (-160), 3) := by decide +kernel
theorem dX12_readRule_182 : decode cX12_readRule 182 = .ok (.iload_n 2, 1) := by decide +kernel
theorem dX12_readRule_183 : decode cX12_readRule 183 = .ok (.ifCond .le 8, 3) := by decide +kernel
theorem dX12_readRule_186 : decode cX12_readRule 186 = .ok (.aload_n 0, 1) := by decide +kernel
theorem dX12_readRule_187 : decode cX12_readRule 187 = .ok (.getfield 345, 3) := by decide +kernel
theorem dX12_readRule_190 : decode cX12_readRule 190 = .ok (.ireturn, 1) := by decide +kernel
theorem dX12_readRule_191 : decode cX12_readRule 191 = .ok (.aload_n 0, 1) := by decide +kernel
theorem dX12_readRule_192 : decode cX12_readRule 192 = .ok (.iconst 1, 1) := by decide +kernel
theorem dX12_readRule_193 : decode cX12_readRule 193 = .ok (.invokevirtual 378, 3) := by decide +kernel
theorem dX12_readRule_196 : decode cX12_readRule 196 = .ok (.bipush (-9), 2) := by decide +kernel
theorem dX12_readRule_198 : decode cX12_readRule 198 = .ok (.ireturn, 1) := by decide +kernel
theorem dX12_fault_0 : decode cX12_fault 0 = .ok (.aload_n 0, 1) := by decide +kernel
theorem dX12_fault_1 : decode cX12_fault 1 = .ok (.iload_n 1, 1) := by decide +kernel
theorem dX12_fault_2 : decode cX12_fault 2 = .ok (.invokevirtual 342, 3) := by decide +kernel
theorem dX12_fault_5 : decode cX12_fault 5 = .ok (.ifCond .eq 11, 3) := by decide +kernel
theorem dX12_fault_8 : decode cX12_fault 8 = .ok (.aload_n 0, 1) := by decide +kernel
theorem dX12_fault_9 : decode cX12_fault 9 = .ok (.iload_n 1, 1) := by decide +kernel
theorem dX12_fault_10 : decode cX12_fault 10 = .ok (.invokevirtual 381, 3) := by decide +kernel
theorem dX12_fault_13 : decode cX12_fault 13 = .ok (.goto 4, 3) := by decide +kernel
theorem dX12_fault_16 : decode cX12_fault 16 = .ok (.iconst (-1), 1) := by decide +kernel
theorem dX12_fault_17 : decode cX12_fault 17 = .ok (.ireturn, 1) := by decide +kernel
theorem dX12_strike_0 : decode cX12_strike 0 = .ok (.aload_n 0, 1) := by decide +kernel
theorem dX12_strike_1 : decode cX12_strike 1 = .ok (.iload_n 1, 1) := by decide +kernel
theorem dX12_strike_2 : decode cX12_strike 2 = .ok (.invokevirtual 342, 3) := by decide +kernel
theorem dX12_strike_5 : decode cX12_strike 5 = .ok (.ifCond .ne 5, 3) := by decide +kernel
theorem dX12_strike_8 : decode cX12_strike 8 = .ok (.iconst (-1), 1) := by decide +kernel
theorem dX12_strike_9 : decode cX12_strike 9 = .ok (.ireturn, 1) := by decide +kernel
theorem dX12_strike_10 : decode cX12_strike 10 = .ok (.iload_n 2, 1) := by decide +kernel
theorem dX12_strike_11 : decode cX12_strike 11 = .ok (.invokestatic 339, 3) := by decide +kernel
theorem dX12_strike_14 : decode cX12_strike 14 = .ok (.ifCond .ne 6, 3) := by decide +kernel
theorem dX12_strike_17 : decode cX12_strike 17 = .ok (.bipush (-2), 2) := by decide +kernel
theorem dX12_strike_19 : decode cX12_strike 19 = .ok (.ireturn, 1) := by decide +kernel
theorem dX12_strike_20 : decode cX12_strike 20 = .ok (.aload_n 0, 1) := by decide +kernel
theorem dX12_strike_21 : decode cX12_strike 21 = .ok (.getfield 114, 3) := by decide +kernel
theorem dX12_strike_24 : decode cX12_strike 24 = .ok (.iload_n 1, 1) := by decide +kernel
theorem dX12_strike_25 : decode cX12_strike 25 = .ok (.iaload, 1) := by decide +kernel
theorem dX12_strike_26 : decode cX12_strike 26 = .ok (.bipush (-9), 2) := by decide +kernel
theorem dX12_strike_28 : decode cX12_strike 28 = .ok (.if_icmp .eq 6, 3) := by decide +kernel
theorem dX12_strike_31 : decode cX12_strike 31 = .ok (.bipush (-3), 2) := by decide +kernel
theorem dX12_strike_33 : decode cX12_strike 33 = .ok (.ireturn, 1) := by decide +kernel
theorem dX12_strike_34 : decode cX12_strike 34 = .ok (.aload_n 0, 1) := by decide +kernel
theorem dX12_strike_35 : decode cX12_strike 35 = .ok (.getfield 114, 3) := by decide +kernel
theorem dX12_strike_38 : decode cX12_strike 38 = .ok (.iload_n 1, 1) := by decide +kernel
theorem dX12_strike_39 : decode cX12_strike 39 = .ok (.iload_n 2, 1) := by decide +kernel
theorem dX12_strike_40 : decode cX12_strike 40 = .ok (.iastore, 1) := by decide +kernel
theorem dX12_strike_41 : decode cX12_strike 41 = .ok (.iconst 1, 1) := by decide +kernel
theorem dX12_strike_42 : decode cX12_strike 42 = .ok (.ireturn, 1) := by decide +kernel
theorem dX12_isLand_0 : decode cX12_isLand 0 = .ok (.iload_n 0, 1) := by decide +kernel
theorem dX12_isLand_1 : decode cX12_isLand 1 = .ok (.i2l, 1) := by decide +kernel
theorem dX12_isLand_2 : decode cX12_isLand 2 = .ok (.lconst 0, 1) := by decide +kernel
theorem dX12_isLand_3 : decode cX12_isLand 3 = .ok (.ldc2_w 384, 3) := by decide +kernel
theorem dX12_isLand_6 : decode cX12_isLand 6 = .ok (.invokestatic 245, 3) := by decide +kernel
theorem dX12_isLand_9 : decode cX12_isLand 9 = .ok (.ireturn, 1) := by decide +kernel
theorem dX12_barOf_0 : decode cX12_barOf 0 = .ok (.aload_n 0, 1) := by decide +kernel
theorem dX12_barOf_1 : decode cX12_barOf 1 = .ok (.getfield 129, 3) := by decide +kernel
theorem dX12_barOf_4 : decode cX12_barOf 4 = .ok (.iconst 0, 1) := by decide +kernel
theorem dX12_barOf_5 : decode cX12_barOf 5 = .ok (.aload_n 0, 1) := by decide +kernel
theorem dX12_barOf_6 : decode cX12_barOf 6 = .ok (.getfield 80, 3) := by decide +kernel
theorem dX12_barOf_9 : decode cX12_barOf 9 = .ok (.iload_n 1, 1) := by decide +kernel
theorem dX12_barOf_10 : decode cX12_barOf 10 = .ok (.iaload, 1) := by decide +kernel
theorem dX12_barOf_11 : decode cX12_barOf 11 = .ok (.iastore, 1) := by decide +kernel
theorem dX12_barOf_12 : decode cX12_barOf 12 = .ok (.aload_n 0, 1) := by decide +kernel
theorem dX12_barOf_13 : decode cX12_barOf 13 = .ok (.getfield 129, 3) := by decide +kernel
theorem dX12_barOf_16 : decode cX12_barOf 16 = .ok (.iconst 1, 1) := by decide +kernel
theorem dX12_barOf_17 : decode cX12_barOf 17 = .ok (.aload_n 0, 1) := by decide +kernel
theorem dX12_barOf_18 : decode cX12_barOf 18 = .ok (.getfield 83, 3) := by decide +kernel
theorem dX12_barOf_21 : decode cX12_barOf 21 = .ok (.iload_n 1, 1) := by decide +kernel
theorem dX12_barOf_22 : decode cX12_barOf 22 = .ok (.iaload, 1) := by decide +kernel
theorem dX12_barOf_23 : decode cX12_barOf 23 = .ok (.iastore, 1) := by decide +kernel
theorem dX12_barOf_24 : decode cX12_barOf 24 = .ok (.aload_n 0, 1) := by decide +kernel
theorem dX12_barOf_25 : decode cX12_barOf 25 = .ok (.getfield 129, 3) := by decide +kernel
theorem dX12_barOf_28 : decode cX12_barOf 28 = .ok (.iconst 2, 1) := by decide +kernel
theorem dX12_barOf_29 : decode cX12_barOf 29 = .ok (.iload_n 2, 1) := by decide +kernel
theorem dX12_barOf_30 : decode cX12_barOf 30 = .ok (.iastore, 1) := by decide +kernel
theorem dX12_barOf_31 : decode cX12_barOf 31 = .ok (.aload_n 0, 1) := by decide +kernel
theorem dX12_barOf_32 : decode cX12_barOf 32 = .ok (.getfield 129, 3) := by decide +kernel
theorem dX12_barOf_35 : decode cX12_barOf 35 = .ok (.iconst 3, 1) := by decide +kernel
theorem dX12_barOf_36 : decode cX12_barOf 36 = .ok (.aload_n 0, 1) := by decide +kernel
theorem dX12_barOf_37 : decode cX12_barOf 37 = .ok (.iload_n 1, 1) := by decide +kernel
theorem dX12_barOf_38 : decode cX12_barOf 38 = .ok (.invokevirtual 319, 3) := by decide +kernel
theorem dX12_barOf_41 : decode cX12_barOf 41 = .ok (.iastore, 1) := by decide +kernel
theorem dX12_barOf_42 : decode cX12_barOf 42 = .ok (.aload_n 0, 1) := by decide +kernel
theorem dX12_barOf_43 : decode cX12_barOf 43 = .ok (.getfield 129, 3) := by decide +kernel
theorem dX12_barOf_46 : decode cX12_barOf 46 = .ok (.iconst 4, 1) := by decide +kernel
theorem dX12_barOf_47 : decode cX12_barOf 47 = .ok (.aload_n 0, 1) := by decide +kernel
theorem dX12_barOf_48 : decode cX12_barOf 48 = .ok (.iload_n 1, 1) := by decide +kernel
theorem dX12_barOf_49 : decode cX12_barOf 49 = .ok (.iconst 0, 1) := by decide +kernel
theorem dX12_barOf_50 : decode cX12_barOf 50 = .ok (.invokevirtual 326, 3) := by decide +kernel
theorem dX12_barOf_53 : decode cX12_barOf 53 = .ok (.iastore, 1) := by decide +kernel
theorem dX12_barOf_54 : decode cX12_barOf 54 = .ok (.aload_n 0, 1) := by decide +kernel
theorem dX12_barOf_55 : decode cX12_barOf 55 = .ok (.getfield 129, 3) := by decide +kernel
theorem dX12_barOf_58 : decode cX12_barOf 58 = .ok (.iconst 5, 1) := by decide +kernel
theorem dX12_barOf_59 : decode cX12_barOf 59 = .ok (.aload_n 0, 1) := by decide +kernel
theorem dX12_barOf_60 : decode cX12_barOf 60 = .ok (.getfield 98, 3) := by decide +kernel
theorem dX12_barOf_63 : decode cX12_barOf 63 = .ok (.iload_n 1, 1) := by decide +kernel
theorem dX12_barOf_64 : decode cX12_barOf 64 = .ok (.baload, 1) := by decide +kernel
theorem dX12_barOf_65 : decode cX12_barOf 65 = .ok (.ifCond .eq 7, 3) := by decide +kernel
theorem dX12_barOf_68 : decode cX12_barOf 68 = .ok (.iconst 0, 1) := by decide +kernel
theorem dX12_barOf_69 : decode cX12_barOf 69 = .ok (.goto 9, 3) := by decide +kernel
theorem dX12_barOf_72 : decode cX12_barOf 72 = .ok (.aload_n 0, 1) := by decide +kernel
theorem dX12_barOf_73 : decode cX12_barOf 73 = .ok (.getfield 129, 3) := by decide +kernel
theorem dX12_barOf_76 : decode cX12_barOf 76 = .ok (.iconst 4, 1) := by decide +kernel
theorem dX12_barOf_77 : decode cX12_barOf 77 = .ok (.iaload, 1) := by decide +kernel
theorem dX12_barOf_78 : decode cX12_barOf 78 = .ok (.iastore, 1) := by decide +kernel
theorem dX12_barOf_79 : decode cX12_barOf 79 = .ok (.aload_n 0, 1) := by decide +kernel
theorem dX12_barOf_80 : decode cX12_barOf 80 = .ok (.getfield 129, 3) := by decide +kernel
theorem dX12_barOf_83 : decode cX12_barOf 83 = .ok (.bipush 6, 2) := by decide +kernel
theorem dX12_barOf_85 : decode cX12_barOf 85 = .ok (.aload_n 0, 1) := by decide +kernel
theorem dX12_barOf_86 : decode cX12_barOf 86 = .ok (.iload_n 1, 1) := by decide +kernel
theorem dX12_barOf_87 : decode cX12_barOf 87 = .ok (.iconst 1, 1) := by decide +kernel
theorem dX12_barOf_88 : decode cX12_barOf 88 = .ok (.invokevirtual 326, 3) := by decide +kernel
theorem dX12_barOf_91 : decode cX12_barOf 91 = .ok (.iastore, 1) := by decide +kernel
theorem dX12_barOf_92 : decode cX12_barOf 92 = .ok (.aload_n 0, 1) := by decide +kernel
theorem dX12_barOf_93 : decode cX12_barOf 93 = .ok (.getfield 129, 3) := by decide +kernel
theorem dX12_barOf_96 : decode cX12_barOf 96 = .ok (.bipush 7, 2) := by decide +kernel
theorem dX12_barOf_98 : decode cX12_barOf 98 = .ok (.aload_n 0, 1) := by decide +kernel
theorem dX12_barOf_99 : decode cX12_barOf 99 = .ok (.iload_n 1, 1) := by decide +kernel
theorem dX12_barOf_100 : decode cX12_barOf 100 = .ok (.iconst 2, 1) := by decide +kernel
theorem dX12_barOf_101 : decode cX12_barOf 101 = .ok (.invokevirtual 326, 3) := by decide +kernel
theorem dX12_barOf_104 : decode cX12_barOf 104 = .ok (.iastore, 1) := by decide +kernel
theorem dX12_barOf_105 : decode cX12_barOf 105 = .ok (.iconst 0, 1) := by decide +kernel
theorem dX12_barOf_106 : decode cX12_barOf 106 = .ok (.istore 4, 2) := by decide +kernel
theorem dX12_barOf_108 : decode cX12_barOf 108 = .ok (.iload 4, 2) := by decide +kernel
theorem dX12_barOf_110 : decode cX12_barOf 110 = .ok (.aload_n 0, 1) := by decide +kernel
theorem dX12_barOf_111 : decode cX12_barOf 111 = .ok (.getfield 336, 3) := by decide +kernel
theorem dX12_barOf_114 : decode cX12_barOf 114 = .ok (.if_icmp .ge 78, 3) := by decide +kernel
theorem dX12_barOf_117 : decode cX12_barOf 117 = .ok (.aload_n 0, 1) := by decide +kernel
theorem dX12_barOf_118 : decode cX12_barOf 118 = .ok (.getfield 111, 3) := by decide +kernel
theorem dX12_barOf_121 : decode cX12_barOf 121 = .ok (.iload 4, 2) := by decide +kernel
theorem dX12_barOf_123 : decode cX12_barOf 123 = .ok (.iaload, 1) := by decide +kernel
theorem dX12_barOf_124 : decode cX12_barOf 124 = .ok (.iload_n 3, 1) := by decide +kernel
theorem dX12_barOf_125 : decode cX12_barOf 125 = .ok (.if_icmp .gt 30, 3) := by decide +kernel
theorem dX12_barOf_128 : decode cX12_barOf 128 = .ok (.aload_n 0, 1) := by decide +kernel
theorem dX12_barOf_129 : decode cX12_barOf 129 = .ok (.getfield 114, 3) := by decide +kernel
theorem dX12_barOf_132 : decode cX12_barOf 132 = .ok (.iload 4, 2) := by decide +kernel
theorem dX12_barOf_134 : decode cX12_barOf 134 = .ok (.iaload, 1) := by decide +kernel
theorem dX12_barOf_135 : decode cX12_barOf 135 = .ok (.bipush (-9), 2) := by decide +kernel
theorem dX12_barOf_137 : decode cX12_barOf 137 = .ok (.if_icmp .eq 14, 3) := by decide +kernel
theorem dX12_barOf_140 : decode cX12_barOf 140 = .ok (.iload_n 3, 1) := by decide +kernel
theorem dX12_barOf_141 : decode cX12_barOf 141 = .ok (.aload_n 0, 1) := by decide +kernel
theorem dX12_barOf_142 : decode cX12_barOf 142 = .ok (.getfield 114, 3) := by decide +kernel
theorem dX12_barOf_145 : decode cX12_barOf 145 = .ok (.iload 4, 2) := by decide +kernel
theorem dX12_barOf_147 : decode cX12_barOf 147 = .ok (.iaload, 1) := by decide +kernel
theorem dX12_barOf_148 : decode cX12_barOf 148 = .ok (.if_icmp .ge 7, 3) := by decide +kernel
theorem dX12_barOf_151 : decode cX12_barOf 151 = .ok (.iconst 1, 1) := by decide +kernel
theorem dX12_barOf_152 : decode cX12_barOf 152 = .ok (.goto 4, 3) := by decide +kernel
theorem dX12_barOf_155 : decode cX12_barOf 155 = .ok (.iconst 0, 1) := by decide +kernel
theorem dX12_barOf_156 : decode cX12_barOf 156 = .ok (.istore 5, 2) := by decide +kernel
theorem dX12_barOf_158 : decode cX12_barOf 158 = .ok (.iload 5, 2) := by decide +kernel
theorem dX12_barOf_160 : decode cX12_barOf 160 = .ok (.ifCond .eq 26, 3) := by decide +kernel
theorem dX12_barOf_163 : decode cX12_barOf 163 = .ok (.aload_n 0, 1) := by decide +kernel
theorem dX12_barOf_164 : decode cX12_barOf 164 = .ok (.iload 4, 2) := by decide +kernel
theorem dX12_barOf_166 : decode cX12_barOf 166 = .ok (.invokevirtual 381, 3) := by decide +kernel
theorem dX12_barOf_169 : decode cX12_barOf 169 = .ok (.bipush (-9), 2) := by decide +kernel
theorem dX12_barOf_171 : decode cX12_barOf 171 = .ok (.if_icmp .ne 15, 3) := by decide +kernel
theorem dX12_barOf_174 : decode cX12_barOf 174 = .ok (.aload_n 0, 1) := by decide +kernel
theorem dX12_barOf_175 : decode cX12_barOf 175 = .ok (.getfield 126, 3) := by decide +kernel
theorem dX12_barOf_178 : decode cX12_barOf 178 = .ok (.iconst 0, 1) := by decide +kernel
theorem dX12_barOf_179 : decode cX12_barOf 179 = .ok (.baload, 1) := by decide +kernel
theorem dX12_barOf_180 : decode cX12_barOf 180 = .ok (.ifCond .eq 6, 3) := by decide +kernel
theorem dX12_barOf_183 : decode cX12_barOf 183 = .ok (.iload 4, 2) := by decide +kernel
theorem dX12_barOf_185 : decode cX12_barOf 185 = .ok (.ireturn, 1) := by decide +kernel
theorem dX12_barOf_186 : decode cX12_barOf 186 = .ok (.iinc 4 1, 3) := by decide +kernel
theorem dX12_barOf_189 : decode cX12_barOf 189 = .ok (.goto (-81), 3) := by decide +kernel
theorem dX12_barOf_192 : decode cX12_barOf 192 = .ok (.bipush (-9), 2) := by decide +kernel
theorem dX12_barOf_194 : decode cX12_barOf 194 = .ok (.ireturn, 1) := by decide +kernel
theorem dX12_mayAsk_0 : decode cX12_mayAsk 0 = .ok (.aload_n 0, 1) := by decide +kernel
theorem dX12_mayAsk_1 : decode cX12_mayAsk 1 = .ok (.iload_n 1, 1) := by decide +kernel
theorem dX12_mayAsk_2 : decode cX12_mayAsk 2 = .ok (.invokevirtual 316, 3) := by decide +kernel
theorem dX12_mayAsk_5 : decode cX12_mayAsk 5 = .ok (.ifCond .eq 10, 3) := by decide +kernel
theorem dX12_mayAsk_8 : decode cX12_mayAsk 8 = .ok (.iload_n 2, 1) := by decide +kernel
theorem dX12_mayAsk_9 : decode cX12_mayAsk 9 = .ok (.invokestatic 386, 3) := by decide +kernel
theorem dX12_mayAsk_12 : decode cX12_mayAsk 12 = .ok (.ifCond .ne 7, 3) := by decide +kernel
theorem dX12_mayAsk_15 : decode cX12_mayAsk 15 = .ok (.iconst (-1), 1) := by decide +kernel
theorem dX12_mayAsk_16 : decode cX12_mayAsk 16 = .ok (.goto 16, 3) := by decide +kernel
theorem dX12_mayAsk_19 : decode cX12_mayAsk 19 = .ok (.iload_n 3, 1) := by decide +kernel
theorem dX12_mayAsk_20 : decode cX12_mayAsk 20 = .ok (.invokestatic 339, 3) := by decide +kernel
theorem dX12_mayAsk_23 : decode cX12_mayAsk 23 = .ok (.ifCond .eq 7, 3) := by decide +kernel
theorem dX12_mayAsk_26 : decode cX12_mayAsk 26 = .ok (.iconst 0, 1) := by decide +kernel
theorem dX12_mayAsk_27 : decode cX12_mayAsk 27 = .ok (.goto 5, 3) := by decide +kernel
theorem dX12_mayAsk_30 : decode cX12_mayAsk 30 = .ok (.bipush (-2), 2) := by decide +kernel
theorem dX12_mayAsk_32 : decode cX12_mayAsk 32 = .ok (.ireturn, 1) := by decide +kernel
theorem dX12_bars_0 : decode cX12_bars 0 = .ok (.aload_n 0, 1) := by decide +kernel
theorem dX12_bars_1 : decode cX12_bars 1 = .ok (.iload_n 1, 1) := by decide +kernel
theorem dX12_bars_2 : decode cX12_bars 2 = .ok (.iload_n 2, 1) := by decide +kernel
theorem dX12_bars_3 : decode cX12_bars 3 = .ok (.iload_n 3, 1) := by decide +kernel
theorem dX12_bars_4 : decode cX12_bars 4 = .ok (.invokevirtual 389, 3) := by decide +kernel
theorem dX12_bars_7 : decode cX12_bars 7 = .ok (.istore 4, 2) := by decide +kernel
theorem dX12_bars_9 : decode cX12_bars 9 = .ok (.iload 4, 2) := by decide +kernel
theorem dX12_bars_11 : decode cX12_bars 11 = .ok (.ifCond .ge 8, 3) := by decide +kernel
theorem dX12_bars_14 : decode cX12_bars 14 = .ok (.iload 4, 2) := by decide +kernel
theorem dX12_bars_16 : decode cX12_bars 16 = .ok (.goto 10, 3) := by decide +kernel
theorem dX12_bars_19 : decode cX12_bars 19 = .ok (.aload_n 0, 1) := by decide +kernel
theorem dX12_bars_20 : decode cX12_bars 20 = .ok (.iload_n 1, 1) := by decide +kernel
theorem dX12_bars_21 : decode cX12_bars 21 = .ok (.iload_n 2, 1) := by decide +kernel
theorem dX12_bars_22 : decode cX12_bars 22 = .ok (.iload_n 3, 1) := by decide +kernel
theorem dX12_bars_23 : decode cX12_bars 23 = .ok (.invokevirtual 392, 3) := by decide +kernel
theorem dX12_bars_26 : decode cX12_bars 26 = .ok (.ireturn, 1) := by decide +kernel
theorem dX12_reserve_0 : decode cX12_reserve 0 = .ok (.iload_n 1, 1) := by decide +kernel
theorem dX12_reserve_1 : decode cX12_reserve 1 = .ok (.i2l, 1) := by decide +kernel
theorem dX12_reserve_2 : decode cX12_reserve 2 = .ok (.lconst 0, 1) := by decide +kernel
theorem dX12_reserve_3 : decode cX12_reserve 3 = .ok (.ldc2_w 284, 3) := by decide +kernel
theorem dX12_reserve_6 : decode cX12_reserve 6 = .ok (.invokestatic 245, 3) := by decide +kernel
theorem dX12_reserve_9 : decode cX12_reserve 9 = .ok (.ifCond .ne 6, 3) := by decide +kernel
theorem dX12_reserve_12 : decode cX12_reserve 12 = .ok (.bipush (-2), 2) := by decide +kernel
theorem dX12_reserve_14 : decode cX12_reserve 14 = .ok (.ireturn, 1) := by decide +kernel
theorem dX12_reserve_15 : decode cX12_reserve 15 = .ok (.aload_n 0, 1) := by decide +kernel
theorem dX12_reserve_16 : decode cX12_reserve 16 = .ok (.getfield 132, 3) := by decide +kernel
theorem dX12_reserve_19 : decode cX12_reserve 19 = .ok (.iload_n 1, 1) := by decide +kernel
theorem dX12_reserve_20 : decode cX12_reserve 20 = .ok (.baload, 1) := by decide +kernel
theorem dX12_reserve_21 : decode cX12_reserve 21 = .ok (.ifCond .eq 7, 3) := by decide +kernel
theorem dX12_reserve_24 : decode cX12_reserve 24 = .ok (.iconst 1, 1) := by decide +kernel
theorem dX12_reserve_25 : decode cX12_reserve 25 = .ok (.goto 4, 3) := by decide +kernel
theorem dX12_reserve_28 : decode cX12_reserve 28 = .ok (.iconst 0, 1) := by decide +kernel
theorem dX12_reserve_29 : decode cX12_reserve 29 = .ok (.istore_n 3, 1) := by decide +kernel
theorem dX12_reserve_30 : decode cX12_reserve 30 = .ok (.aload_n 0, 1) := by decide +kernel
theorem dX12_reserve_31 : decode cX12_reserve 31 = .ok (.getfield 132, 3) := by decide +kernel
theorem dX12_reserve_34 : decode cX12_reserve 34 = .ok (.iload_n 1, 1) := by decide +kernel
theorem dX12_reserve_35 : decode cX12_reserve 35 = .ok (.iload_n 2, 1) := by decide +kernel
theorem dX12_reserve_36 : decode cX12_reserve 36 = .ok (.bastore, 1) := by decide +kernel
theorem dX12_reserve_37 : decode cX12_reserve 37 = .ok (.iload_n 3, 1) := by decide +kernel
theorem dX12_reserve_38 : decode cX12_reserve 38 = .ok (.ireturn, 1) := by decide +kernel
theorem dX12_right_0 : decode cX12_right 0 = .ok (.iload_n 1, 1) := by decide +kernel
theorem dX12_right_1 : decode cX12_right 1 = .ok (.i2l, 1) := by decide +kernel
theorem dX12_right_2 : decode cX12_right 2 = .ok (.lconst 0, 1) := by decide +kernel
theorem dX12_right_3 : decode cX12_right 3 = .ok (.ldc2_w 284, 3) := by decide +kernel
theorem dX12_right_6 : decode cX12_right 6 = .ok (.invokestatic 245, 3) := by decide +kernel
theorem dX12_right_9 : decode cX12_right 9 = .ok (.ifCond .eq 49, 3) := by decide +kernel
theorem dX12_right_12 : decode cX12_right 12 = .ok (.iload_n 2, 1) := by decide +kernel
theorem dX12_right_13 : decode cX12_right 13 = .ok (.i2l, 1) := by decide +kernel
theorem dX12_right_14 : decode cX12_right 14 = .ok (.lconst 0, 1) := by decide +kernel
theorem dX12_right_15 : decode cX12_right 15 = .ok (.ldc2_w 395, 3) := by decide +kernel
theorem dX12_right_18 : decode cX12_right 18 = .ok (.invokestatic 245, 3) := by decide +kernel
theorem dX12_right_21 : decode cX12_right 21 = .ok (.ifCond .eq 37, 3) := by decide +kernel
theorem dX12_right_24 : decode cX12_right 24 = .ok (.iload_n 3, 1) := by decide +kernel
theorem dX12_right_25 : decode cX12_right 25 = .ok (.invokestatic 339, 3) := by decide +kernel
theorem dX12_right_28 : decode cX12_right 28 = .ok (.ifCond .eq 30, 3) := by decide +kernel
theorem dX12_right_31 : decode cX12_right 31 = .ok (.iload 4, 2) := by decide +kernel
theorem dX12_right_33 : decode cX12_right 33 = .ok (.i2l, 1) := by decide +kernel
theorem dX12_right_34 : decode cX12_right 34 = .ok (.iload_n 3, 1) := by decide +kernel
theorem dX12_right_35 : decode cX12_right 35 = .ok (.i2l, 1) := by decide +kernel
theorem dX12_right_36 : decode cX12_right 36 = .ok (.ldc2_w 249, 3) := by decide +kernel
theorem dX12_right_39 : decode cX12_right 39 = .ok (.invokestatic 245, 3) := by decide +kernel
theorem dX12_right_42 : decode cX12_right 42 = .ok (.ifCond .eq 16, 3) := by decide +kernel
theorem dX12_right_45 : decode cX12_right 45 = .ok (.iload 5, 2) := by decide +kernel
theorem dX12_right_47 : decode cX12_right 47 = .ok (.i2l, 1) := by decide +kernel
theorem dX12_right_48 : decode cX12_right 48 = .ok (.lconst 1, 1) := by decide +kernel
theorem dX12_right_49 : decode cX12_right 49 = .ok (.ldc2_w 334, 3) := by decide +kernel
theorem dX12_right_52 : decode cX12_right 52 = .ok (.invokestatic 245, 3) := by decide +kernel
theorem dX12_right_55 : decode cX12_right 55 = .ok (.ifCond .ne 6, 3) := by decide +kernel
theorem dX12_right_58 : decode cX12_right 58 = .ok (.bipush (-2), 2) := by decide +kernel
theorem dX12_right_60 : decode cX12_right 60 = .ok (.ireturn, 1) := by decide +kernel
theorem dX12_right_61 : decode cX12_right 61 = .ok (.aload_n 0, 1) := by decide +kernel
theorem dX12_right_62 : decode cX12_right 62 = .ok (.getfield 397, 3) := by decide +kernel
theorem dX12_right_65 : decode cX12_right 65 = .ok (.bipush 8, 2) := by decide +kernel
theorem dX12_right_67 : decode cX12_right 67 = .ok (.if_icmp .ne 6, 3) := by decide +kernel
theorem dX12_right_70 : decode cX12_right 70 = .ok (.bipush (-4), 2) := by decide +kernel
theorem dX12_right_72 : decode cX12_right 72 = .ok (.ireturn, 1) := by decide +kernel
theorem dX12_right_73 : decode cX12_right 73 = .ok (.aload_n 0, 1) := by decide +kernel
theorem dX12_right_74 : decode cX12_right 74 = .ok (.getfield 135, 3) := by decide +kernel
theorem dX12_right_77 : decode cX12_right 77 = .ok (.aload_n 0, 1) := by decide +kernel
theorem dX12_right_78 : decode cX12_right 78 = .ok (.getfield 397, 3) := by decide +kernel
theorem dX12_right_81 : decode cX12_right 81 = .ok (.iload_n 1, 1) := by decide +kernel
theorem dX12_right_82 : decode cX12_right 82 = .ok (.iastore, 1) := by decide +kernel
theorem dX12_right_83 : decode cX12_right 83 = .ok (.aload_n 0, 1) := by decide +kernel
theorem dX12_right_84 : decode cX12_right 84 = .ok (.getfield 138, 3) := by decide +kernel
theorem dX12_right_87 : decode cX12_right 87 = .ok (.aload_n 0, 1) := by decide +kernel
theorem dX12_right_88 : decode cX12_right 88 = .ok (.getfield 397, 3) := by decide +kernel
theorem dX12_right_91 : decode cX12_right 91 = .ok (.iload_n 2, 1) := by decide +kernel
theorem dX12_right_92 : decode cX12_right 92 = .ok (.iastore, 1) := by decide +kernel
theorem dX12_right_93 : decode cX12_right 93 = .ok (.aload_n 0, 1) := by decide +kernel
theorem dX12_right_94 : decode cX12_right 94 = .ok (.getfield 141, 3) := by decide +kernel
theorem dX12_right_97 : decode cX12_right 97 = .ok (.aload_n 0, 1) := by decide +kernel
theorem dX12_right_98 : decode cX12_right 98 = .ok (.getfield 397, 3) := by decide +kernel
theorem dX12_right_101 : decode cX12_right 101 = .ok (.iload_n 3, 1) := by decide +kernel
theorem dX12_right_102 : decode cX12_right 102 = .ok (.iastore, 1) := by decide +kernel
theorem dX12_right_103 : decode cX12_right 103 = .ok (.aload_n 0, 1) := by decide +kernel
theorem dX12_right_104 : decode cX12_right 104 = .ok (.getfield 144, 3) := by decide +kernel
theorem dX12_right_107 : decode cX12_right 107 = .ok (.aload_n 0, 1) := by decide +kernel
theorem dX12_right_108 : decode cX12_right 108 = .ok (.getfield 397, 3) := by decide +kernel
theorem dX12_right_111 : decode cX12_right 111 = .ok (.iload 4, 2) := by decide +kernel
theorem dX12_right_113 : decode cX12_right 113 = .ok (.iastore, 1) := by decide +kernel
theorem dX12_right_114 : decode cX12_right 114 = .ok (.aload_n 0, 1) := by decide +kernel
theorem dX12_right_115 : decode cX12_right 115 = .ok (.getfield 147, 3) := by decide +kernel
theorem dX12_right_118 : decode cX12_right 118 = .ok (.aload_n 0, 1) := by decide +kernel
theorem dX12_right_119 : decode cX12_right 119 = .ok (.getfield 397, 3) := by decide +kernel
theorem dX12_right_122 : decode cX12_right 122 = .ok (.iload 5, 2) := by decide +kernel
theorem dX12_right_124 : decode cX12_right 124 = .ok (.iastore, 1) := by decide +kernel
theorem dX12_right_125 : decode cX12_right 125 = .ok (.aload_n 0, 1) := by decide +kernel
theorem dX12_right_126 : decode cX12_right 126 = .ok (.dup, 1) := by decide +kernel
theorem dX12_right_127 : decode cX12_right 127 = .ok (.getfield 397, 3) := by decide +kernel
theorem dX12_right_130 : decode cX12_right 130 = .ok (.iconst 1, 1) := by decide +kernel
theorem dX12_right_131 : decode cX12_right 131 = .ok (.iadd, 1) := by decide +kernel
theorem dX12_right_132 : decode cX12_right 132 = .ok (.putfield 397, 3) := by decide +kernel
theorem dX12_right_135 : decode cX12_right 135 = .ok (.aload_n 0, 1) := by decide +kernel
theorem dX12_right_136 : decode cX12_right 136 = .ok (.getfield 397, 3) := by decide +kernel
theorem dX12_right_139 : decode cX12_right 139 = .ok (.iconst 1, 1) := by decide +kernel
theorem dX12_right_140 : decode cX12_right 140 = .ok (.isub, 1) := by decide +kernel
theorem dX12_right_141 : decode cX12_right 141 = .ok (.ireturn, 1) := by decide +kernel
theorem dX12_left_0 : decode cX12_left 0 = .ok (.iload_n 1, 1) := by decide +kernel
theorem dX12_left_1 : decode cX12_left 1 = .ok (.i2l, 1) := by decide +kernel
theorem dX12_left_2 : decode cX12_left 2 = .ok (.lconst 0, 1) := by decide +kernel
theorem dX12_left_3 : decode cX12_left 3 = .ok (.aload_n 0, 1) := by decide +kernel
theorem dX12_left_4 : decode cX12_left 4 = .ok (.getfield 397, 3) := by decide +kernel
theorem dX12_left_7 : decode cX12_left 7 = .ok (.iconst 1, 1) := by decide +kernel
theorem dX12_left_8 : decode cX12_left 8 = .ok (.isub, 1) := by decide +kernel
theorem dX12_left_9 : decode cX12_left 9 = .ok (.i2l, 1) := by decide +kernel
theorem dX12_left_10 : decode cX12_left 10 = .ok (.invokestatic 245, 3) := by decide +kernel
theorem dX12_left_13 : decode cX12_left 13 = .ok (.ifCond .eq 12, 3) := by decide +kernel
theorem dX12_left_16 : decode cX12_left 16 = .ok (.aload_n 0, 1) := by decide +kernel
theorem dX12_left_17 : decode cX12_left 17 = .ok (.getfield 147, 3) := by decide +kernel
theorem dX12_left_20 : decode cX12_left 20 = .ok (.iload_n 1, 1) := by decide +kernel
theorem dX12_left_21 : decode cX12_left 21 = .ok (.iaload, 1) := by decide +kernel
theorem dX12_left_22 : decode cX12_left 22 = .ok (.goto 4, 3) := by decide +kernel
theorem dX12_left_25 : decode cX12_left 25 = .ok (.iconst (-1), 1) := by decide +kernel
theorem dX12_left_26 : decode cX12_left 26 = .ok (.ireturn, 1) := by decide +kernel
theorem dX12_rightTo_0 : decode cX12_rightTo 0 = .ok (.iconst 0, 1) := by decide +kernel
theorem dX12_rightTo_1 : decode cX12_rightTo 1 = .ok (.istore 4, 2) := by decide +kernel
theorem dX12_rightTo_3 : decode cX12_rightTo 3 = .ok (.iload 4, 2) := by decide +kernel
theorem dX12_rightTo_5 : decode cX12_rightTo 5 = .ok (.aload_n 0, 1) := by decide +kernel
theorem dX12_rightTo_6 : decode cX12_rightTo 6 = .ok (.getfield 397, 3) := by decide +kernel
theorem dX12_rightTo_9 : decode cX12_rightTo 9 = .ok (.if_icmp .ge 72, 3) := by decide +kernel
theorem dX12_rightTo_12 : decode cX12_rightTo 12 = .ok (.aload_n 0, 1) := by decide +kernel
theorem dX12_rightTo_13 : decode cX12_rightTo 13 = .ok (.getfield 135, 3) := by decide +kernel
theorem dX12_rightTo_16 : decode cX12_rightTo 16 = .ok (.iload 4, 2) := by decide +kernel
theorem dX12_rightTo_18 : decode cX12_rightTo 18 = .ok (.iaload, 1) := by decide +kernel
theorem dX12_rightTo_19 : decode cX12_rightTo 19 = .ok (.iload_n 1, 1) := by decide +kernel
theorem dX12_rightTo_20 : decode cX12_rightTo 20 = .ok (.if_icmp .ne 55, 3) := by decide +kernel
theorem dX12_rightTo_23 : decode cX12_rightTo 23 = .ok (.aload_n 0, 1) := by decide +kernel
theorem dX12_rightTo_24 : decode cX12_rightTo 24 = .ok (.getfield 138, 3) := by decide +kernel
theorem dX12_rightTo_27 : decode cX12_rightTo 27 = .ok (.iload 4, 2) := by decide +kernel
theorem dX12_rightTo_29 : decode cX12_rightTo 29 = .ok (.iaload, 1) := by decide +kernel
theorem dX12_rightTo_30 : decode cX12_rightTo 30 = .ok (.iload_n 2, 1) := by decide +kernel
theorem dX12_rightTo_31 : decode cX12_rightTo 31 = .ok (.ishr, 1) := by decide +kernel
theorem dX12_rightTo_32 : decode cX12_rightTo 32 = .ok (.iconst 1, 1) := by decide +kernel
theorem dX12_rightTo_33 : decode cX12_rightTo 33 = .ok (.iand, 1) := by decide +kernel
theorem dX12_rightTo_34 : decode cX12_rightTo 34 = .ok (.iconst 1, 1) := by decide +kernel
theorem dX12_rightTo_35 : decode cX12_rightTo 35 = .ok (.if_icmp .ne 40, 3) := by decide +kernel
theorem dX12_rightTo_38 : decode cX12_rightTo 38 = .ok (.iload_n 3, 1) := by decide +kernel
theorem dX12_rightTo_39 : decode cX12_rightTo 39 = .ok (.i2l, 1) := by decide +kernel
theorem dX12_rightTo_40 : decode cX12_rightTo 40 = .ok (.aload_n 0, 1) := by decide +kernel
theorem dX12_rightTo_41 : decode cX12_rightTo 41 = .ok (.getfield 141, 3) := by decide +kernel
theorem dX12_rightTo_44 : decode cX12_rightTo 44 = .ok (.iload 4, 2) := by decide +kernel
theorem dX12_rightTo_46 : decode cX12_rightTo 46 = .ok (.iaload, 1) := by decide +kernel
theorem dX12_rightTo_47 : decode cX12_rightTo 47 = .ok (.i2l, 1) := by decide +kernel
theorem dX12_rightTo_48 : decode cX12_rightTo 48 = .ok (.aload_n 0, 1) := by decide +kernel
theorem dX12_rightTo_49 : decode cX12_rightTo 49 = .ok (.getfield 144, 3) := by decide +kernel
theorem dX12_rightTo_52 : decode cX12_rightTo 52 = .ok (.iload 4, 2) := by decide +kernel
theorem dX12_rightTo_54 : decode cX12_rightTo 54 = .ok (.iaload, 1) := by decide +kernel
theorem dX12_rightTo_55 : decode cX12_rightTo 55 = .ok (.i2l, 1) := by decide +kernel
theorem dX12_rightTo_56 : decode cX12_rightTo 56 = .ok (.invokestatic 245, 3) := by decide +kernel
theorem dX12_rightTo_59 : decode cX12_rightTo 59 = .ok (.ifCond .eq 16, 3) := by decide +kernel
theorem dX12_rightTo_62 : decode cX12_rightTo 62 = .ok (.aload_n 0, 1) := by decide +kernel
theorem dX12_rightTo_63 : decode cX12_rightTo 63 = .ok (.getfield 147, 3) := by decide +kernel
theorem dX12_rightTo_66 : decode cX12_rightTo 66 = .ok (.iload 4, 2) := by decide +kernel
theorem dX12_rightTo_68 : decode cX12_rightTo 68 = .ok (.iaload, 1) := by decide +kernel
theorem dX12_rightTo_69 : decode cX12_rightTo 69 = .ok (.ifCond .le 6, 3) := by decide +kernel
theorem dX12_rightTo_72 : decode cX12_rightTo 72 = .ok (.iload 4, 2) := by decide +kernel
theorem dX12_rightTo_74 : decode cX12_rightTo 74 = .ok (.ireturn, 1) := by decide +kernel
theorem dX12_rightTo_75 : decode cX12_rightTo 75 = .ok (.iinc 4 1, 3) := by decide +kernel
theorem dX12_rightTo_78 : decode cX12_rightTo 78 = .ok (.goto (-75), 3) := by decide +kernel
theorem dX12_rightTo_81 : decode cX12_rightTo 81 = .ok (.bipush (-9), 2) := by decide +kernel
theorem dX12_rightTo_83 : decode cX12_rightTo 83 = .ok (.ireturn, 1) := by decide +kernel
theorem dX12_isAllowed_0 : decode cX12_isAllowed 0 = .ok (.aload_n 0, 1) := by decide +kernel
theorem dX12_isAllowed_1 : decode cX12_isAllowed 1 = .ok (.getfield 132, 3) := by decide +kernel
theorem dX12_isAllowed_4 : decode cX12_isAllowed 4 = .ok (.aload_n 0, 1) := by decide +kernel
theorem dX12_isAllowed_5 : decode cX12_isAllowed 5 = .ok (.getfield 80, 3) := by decide +kernel
theorem dX12_isAllowed_8 : decode cX12_isAllowed 8 = .ok (.iload_n 1, 1) := by decide +kernel
theorem dX12_isAllowed_9 : decode cX12_isAllowed 9 = .ok (.iaload, 1) := by decide +kernel
theorem dX12_isAllowed_10 : decode cX12_isAllowed 10 = .ok (.baload, 1) := by decide +kernel
theorem dX12_isAllowed_11 : decode cX12_isAllowed 11 = .ok (.ifCond .eq 20, 3) := by decide +kernel
theorem dX12_isAllowed_14 : decode cX12_isAllowed 14 = .ok (.aload_n 0, 1) := by decide +kernel
theorem dX12_isAllowed_15 : decode cX12_isAllowed 15 = .ok (.aload_n 0, 1) := by decide +kernel
theorem dX12_isAllowed_16 : decode cX12_isAllowed 16 = .ok (.getfield 80, 3) := by decide +kernel
theorem dX12_isAllowed_19 : decode cX12_isAllowed 19 = .ok (.iload_n 1, 1) := by decide +kernel
theorem dX12_isAllowed_20 : decode cX12_isAllowed 20 = .ok (.iaload, 1) := by decide +kernel
theorem dX12_isAllowed_21 : decode cX12_isAllowed 21 = .ok (.iload_n 2, 1) := by decide +kernel
theorem dX12_isAllowed_22 : decode cX12_isAllowed 22 = .ok (.iload_n 3, 1) := by decide +kernel
theorem dX12_isAllowed_23 : decode cX12_isAllowed 23 = .ok (.invokevirtual 400, 3) := by decide +kernel
theorem dX12_isAllowed_26 : decode cX12_isAllowed 26 = .ok (.bipush (-9), 2) := by decide +kernel
theorem dX12_isAllowed_28 : decode cX12_isAllowed 28 = .ok (.if_icmp .eq 7, 3) := by decide +kernel
theorem dX12_isAllowed_31 : decode cX12_isAllowed 31 = .ok (.iconst 1, 1) := by decide +kernel
theorem dX12_isAllowed_32 : decode cX12_isAllowed 32 = .ok (.goto 4, 3) := by decide +kernel
theorem dX12_isAllowed_35 : decode cX12_isAllowed 35 = .ok (.iconst 0, 1) := by decide +kernel
theorem dX12_isAllowed_36 : decode cX12_isAllowed 36 = .ok (.istore 4, 2) := by decide +kernel
theorem dX12_isAllowed_38 : decode cX12_isAllowed 38 = .ok (.iload 4, 2) := by decide +kernel
theorem dX12_isAllowed_40 : decode cX12_isAllowed 40 = .ok (.ifCond .eq 19, 3) := by decide +kernel
theorem dX12_isAllowed_43 : decode cX12_isAllowed 43 = .ok (.aload_n 0, 1) := by decide +kernel
theorem dX12_isAllowed_44 : decode cX12_isAllowed 44 = .ok (.iload_n 1, 1) := by decide +kernel
theorem dX12_isAllowed_45 : decode cX12_isAllowed 45 = .ok (.iload_n 2, 1) := by decide +kernel
theorem dX12_isAllowed_46 : decode cX12_isAllowed 46 = .ok (.iload_n 3, 1) := by decide +kernel
theorem dX12_isAllowed_47 : decode cX12_isAllowed 47 = .ok (.invokevirtual 392, 3) := by decide +kernel
theorem dX12_isAllowed_50 : decode cX12_isAllowed 50 = .ok (.bipush (-9), 2) := by decide +kernel
theorem dX12_isAllowed_52 : decode cX12_isAllowed 52 = .ok (.if_icmp .ne 7, 3) := by decide +kernel
theorem dX12_isAllowed_55 : decode cX12_isAllowed 55 = .ok (.iconst 1, 1) := by decide +kernel
theorem dX12_isAllowed_56 : decode cX12_isAllowed 56 = .ok (.goto 4, 3) := by decide +kernel
theorem dX12_isAllowed_59 : decode cX12_isAllowed 59 = .ok (.iconst 0, 1) := by decide +kernel
theorem dX12_isAllowed_60 : decode cX12_isAllowed 60 = .ok (.ireturn, 1) := by decide +kernel
theorem dX12_allowed_0 : decode cX12_allowed 0 = .ok (.aload_n 0, 1) := by decide +kernel
theorem dX12_allowed_1 : decode cX12_allowed 1 = .ok (.iload_n 1, 1) := by decide +kernel
theorem dX12_allowed_2 : decode cX12_allowed 2 = .ok (.iload_n 2, 1) := by decide +kernel
theorem dX12_allowed_3 : decode cX12_allowed 3 = .ok (.iload_n 3, 1) := by decide +kernel
theorem dX12_allowed_4 : decode cX12_allowed 4 = .ok (.invokevirtual 389, 3) := by decide +kernel
theorem dX12_allowed_7 : decode cX12_allowed 7 = .ok (.istore 4, 2) := by decide +kernel
theorem dX12_allowed_9 : decode cX12_allowed 9 = .ok (.iload 4, 2) := by decide +kernel
theorem dX12_allowed_11 : decode cX12_allowed 11 = .ok (.ifCond .ge 8, 3) := by decide +kernel
theorem dX12_allowed_14 : decode cX12_allowed 14 = .ok (.iload 4, 2) := by decide +kernel
theorem dX12_allowed_16 : decode cX12_allowed 16 = .ok (.goto 18, 3) := by decide +kernel
theorem dX12_allowed_19 : decode cX12_allowed 19 = .ok (.aload_n 0, 1) := by decide +kernel
theorem dX12_allowed_20 : decode cX12_allowed 20 = .ok (.iload_n 1, 1) := by decide +kernel
theorem dX12_allowed_21 : decode cX12_allowed 21 = .ok (.iload_n 2, 1) := by decide +kernel
theorem dX12_allowed_22 : decode cX12_allowed 22 = .ok (.iload_n 3, 1) := by decide +kernel
theorem dX12_allowed_23 : decode cX12_allowed 23 = .ok (.invokevirtual 402, 3) := by decide +kernel
theorem dX12_allowed_26 : decode cX12_allowed 26 = .ok (.ifCond .eq 7, 3) := by decide +kernel
theorem dX12_allowed_29 : decode cX12_allowed 29 = .ok (.iconst 1, 1) := by decide +kernel
theorem dX12_allowed_30 : decode cX12_allowed 30 = .ok (.goto 4, 3) := by decide +kernel
theorem dX12_allowed_33 : decode cX12_allowed 33 = .ok (.iconst 0, 1) := by decide +kernel
theorem dX12_allowed_34 : decode cX12_allowed 34 = .ok (.ireturn, 1) := by decide +kernel
theorem dX12_length_0 : decode cX12_length 0 = .ok (.iload_n 2, 1) := by decide +kernel
theorem dX12_length_1 : decode cX12_length 1 = .ok (.i2l, 1) := by decide +kernel
theorem dX12_length_2 : decode cX12_length 2 = .ok (.lconst 1, 1) := by decide +kernel
theorem dX12_length_3 : decode cX12_length 3 = .ok (.ldc2_w 405, 3) := by decide +kernel
theorem dX12_length_6 : decode cX12_length 6 = .ok (.invokestatic 245, 3) := by decide +kernel
theorem dX12_length_9 : decode cX12_length 9 = .ok (.ifCond .ne 6, 3) := by decide +kernel
theorem dX12_length_12 : decode cX12_length 12 = .ok (.bipush (-2), 2) := by decide +kernel
theorem dX12_length_14 : decode cX12_length 14 = .ok (.ireturn, 1) := by decide +kernel
theorem dX12_length_15 : decode cX12_length 15 = .ok (.iload_n 1, 1) := by decide +kernel
theorem dX12_length_16 : decode cX12_length 16 = .ok (.ifCond .eq 14, 3) := by decide +kernel
theorem dX12_length_19 : decode cX12_length 19 = .ok (.iload_n 2, 1) := by decide +kernel
theorem dX12_length_20 : decode cX12_length 20 = .ok (.aload_n 0, 1) := by decide +kernel
theorem dX12_length_21 : decode cX12_length 21 = .ok (.getfield 150, 3) := by decide +kernel
theorem dX12_length_24 : decode cX12_length 24 = .ok (.if_icmp .ge 17, 3) := by decide +kernel
theorem dX12_length_27 : decode cX12_length 27 = .ok (.goto 11, 3) := by decide +kernel
theorem dX12_length_30 : decode cX12_length 30 = .ok (.iload_n 2, 1) := by decide +kernel
theorem dX12_length_31 : decode cX12_length 31 = .ok (.aload_n 0, 1) := by decide +kernel
theorem dX12_length_32 : decode cX12_length 32 = .ok (.getfield 153, 3) := by decide +kernel
theorem dX12_length_35 : decode cX12_length 35 = .ok (.if_icmp .le 6, 3) := by decide +kernel
theorem dX12_length_38 : decode cX12_length 38 = .ok (.bipush (-3), 2) := by decide +kernel
theorem dX12_length_40 : decode cX12_length 40 = .ok (.ireturn, 1) := by decide +kernel
theorem dX12_length_41 : decode cX12_length 41 = .ok (.iload_n 1, 1) := by decide +kernel
theorem dX12_length_42 : decode cX12_length 42 = .ok (.ifCond .eq 10, 3) := by decide +kernel
theorem dX12_length_45 : decode cX12_length 45 = .ok (.aload_n 0, 1) := by decide +kernel
theorem dX12_length_46 : decode cX12_length 46 = .ok (.getfield 153, 3) := by decide +kernel
theorem dX12_length_49 : decode cX12_length 49 = .ok (.goto 7, 3) := by decide +kernel
theorem dX12_length_52 : decode cX12_length 52 = .ok (.aload_n 0, 1) := by decide +kernel
theorem dX12_length_53 : decode cX12_length 53 = .ok (.getfield 150, 3) := by decide +kernel
theorem dX12_length_56 : decode cX12_length 56 = .ok (.istore_n 3, 1) := by decide +kernel
theorem dX12_length_57 : decode cX12_length 57 = .ok (.aload_n 0, 1) := by decide +kernel
theorem dX12_length_58 : decode cX12_length 58 = .ok (.iload_n 1, 1) := by decide +kernel
theorem dX12_length_59 : decode cX12_length 59 = .ok (.ifCond .eq 7, 3) := by decide +kernel
theorem dX12_length_62 : decode cX12_length 62 = .ok (.iload_n 2, 1) := by decide +kernel
theorem dX12_length_63 : decode cX12_length 63 = .ok (.goto 7, 3) := by decide +kernel
theorem dX12_length_66 : decode cX12_length 66 = .ok (.aload_n 0, 1) := by decide +kernel
theorem dX12_length_67 : decode cX12_length 67 = .ok (.getfield 153, 3) := by decide +kernel
theorem dX12_length_70 : decode cX12_length 70 = .ok (.putfield 153, 3) := by decide +kernel
theorem dX12_length_73 : decode cX12_length 73 = .ok (.aload_n 0, 1) := by decide +kernel
theorem dX12_length_74 : decode cX12_length 74 = .ok (.iload_n 1, 1) := by decide +kernel
theorem dX12_length_75 : decode cX12_length 75 = .ok (.ifCond .eq 10, 3) := by decide +kernel
theorem dX12_length_78 : decode cX12_length 78 = .ok (.aload_n 0, 1) := by decide +kernel
theorem dX12_length_79 : decode cX12_length 79 = .ok (.getfield 150, 3) := by decide +kernel
theorem dX12_length_82 : decode cX12_length 82 = .ok (.goto 4, 3) := by decide +kernel
theorem dX12_length_85 : decode cX12_length 85 = .ok (.iload_n 2, 1) := by decide +kernel
theorem dX12_length_86 : decode cX12_length 86 = .ok (.putfield 150, 3) := by decide +kernel
theorem dX12_length_89 : decode cX12_length 89 = .ok (.iload_n 3, 1) := by decide +kernel
theorem dX12_length_90 : decode cX12_length 90 = .ok (.ireturn, 1) := by decide +kernel
theorem dX12_apart_0 : decode cX12_apart 0 = .ok (.aload_n 0, 1) := by decide +kernel
theorem dX12_apart_1 : decode cX12_apart 1 = .ok (.iload_n 1, 1) := by decide +kernel
theorem dX12_apart_2 : decode cX12_apart 2 = .ok (.invokevirtual 316, 3) := by decide +kernel
theorem dX12_apart_5 : decode cX12_apart 5 = .ok (.ifCond .eq 11, 3) := by decide +kernel
theorem dX12_apart_8 : decode cX12_apart 8 = .ok (.aload_n 0, 1) := by decide +kernel
theorem dX12_apart_9 : decode cX12_apart 9 = .ok (.iload_n 2, 1) := by decide +kernel
theorem dX12_apart_10 : decode cX12_apart 10 = .ok (.invokevirtual 316, 3) := by decide +kernel
theorem dX12_apart_13 : decode cX12_apart 13 = .ok (.ifCond .ne 5, 3) := by decide +kernel
theorem dX12_apart_16 : decode cX12_apart 16 = .ok (.iconst (-1), 1) := by decide +kernel
theorem dX12_apart_17 : decode cX12_apart 17 = .ok (.ireturn, 1) := by decide +kernel
theorem dX12_apart_18 : decode cX12_apart 18 = .ok (.iload_n 1, 1) := by decide +kernel
theorem dX12_apart_19 : decode cX12_apart 19 = .ok (.iload_n 2, 1) := by decide +kernel
theorem dX12_apart_20 : decode cX12_apart 20 = .ok (.if_icmp .ne 6, 3) := by decide +kernel
theorem dX12_apart_23 : decode cX12_apart 23 = .ok (.bipush (-3), 2) := by decide +kernel
theorem dX12_apart_25 : decode cX12_apart 25 = .ok (.ireturn, 1) := by decide +kernel
theorem dX12_apart_26 : decode cX12_apart 26 = .ok (.aload_n 0, 1) := by decide +kernel
theorem dX12_apart_27 : decode cX12_apart 27 = .ok (.getfield 156, 3) := by decide +kernel
theorem dX12_apart_30 : decode cX12_apart 30 = .ok (.bipush 8, 2) := by decide +kernel
theorem dX12_apart_32 : decode cX12_apart 32 = .ok (.iload_n 1, 1) := by decide +kernel
theorem dX12_apart_33 : decode cX12_apart 33 = .ok (.imul, 1) := by decide +kernel
theorem dX12_apart_34 : decode cX12_apart 34 = .ok (.iload_n 2, 1) := by decide +kernel
theorem dX12_apart_35 : decode cX12_apart 35 = .ok (.iadd, 1) := by decide +kernel
theorem dX12_apart_36 : decode cX12_apart 36 = .ok (.baload, 1) := by decide +kernel
theorem dX12_apart_37 : decode cX12_apart 37 = .ok (.ifCond .eq 7, 3) := by decide +kernel
theorem dX12_apart_40 : decode cX12_apart 40 = .ok (.iconst 1, 1) := by decide +kernel
theorem dX12_apart_41 : decode cX12_apart 41 = .ok (.goto 4, 3) := by decide +kernel
theorem dX12_apart_44 : decode cX12_apart 44 = .ok (.iconst 0, 1) := by decide +kernel
theorem dX12_apart_45 : decode cX12_apart 45 = .ok (.istore 4, 2) := by decide +kernel
theorem dX12_apart_47 : decode cX12_apart 47 = .ok (.aload_n 0, 1) := by decide +kernel
theorem dX12_apart_48 : decode cX12_apart 48 = .ok (.getfield 156, 3) := by decide +kernel
theorem dX12_apart_51 : decode cX12_apart 51 = .ok (.bipush 8, 2) := by decide +kernel
theorem dX12_apart_53 : decode cX12_apart 53 = .ok (.iload_n 1, 1) := by decide +kernel
theorem dX12_apart_54 : decode cX12_apart 54 = .ok (.imul, 1) := by decide +kernel
theorem dX12_apart_55 : decode cX12_apart 55 = .ok (.iload_n 2, 1) := by decide +kernel
theorem dX12_apart_56 : decode cX12_apart 56 = .ok (.iadd, 1) := by decide +kernel
theorem dX12_apart_57 : decode cX12_apart 57 = .ok (.iload_n 3, 1) := by decide +kernel
theorem dX12_apart_58 : decode cX12_apart 58 = .ok (.bastore, 1) := by decide +kernel
theorem dX12_apart_59 : decode cX12_apart 59 = .ok (.aload_n 0, 1) := by decide +kernel
theorem dX12_apart_60 : decode cX12_apart 60 = .ok (.getfield 156, 3) := by decide +kernel
theorem dX12_apart_63 : decode cX12_apart 63 = .ok (.bipush 8, 2) := by decide +kernel
theorem dX12_apart_65 : decode cX12_apart 65 = .ok (.iload_n 2, 1) := by decide +kernel
theorem dX12_apart_66 : decode cX12_apart 66 = .ok (.imul, 1) := by decide +kernel
theorem dX12_apart_67 : decode cX12_apart 67 = .ok (.iload_n 1, 1) := by decide +kernel
theorem dX12_apart_68 : decode cX12_apart 68 = .ok (.iadd, 1) := by decide +kernel
theorem dX12_apart_69 : decode cX12_apart 69 = .ok (.iload_n 3, 1) := by decide +kernel
theorem dX12_apart_70 : decode cX12_apart 70 = .ok (.bastore, 1) := by decide +kernel
theorem dX12_apart_71 : decode cX12_apart 71 = .ok (.iload 4, 2) := by decide +kernel
theorem dX12_apart_73 : decode cX12_apart 73 = .ok (.ireturn, 1) := by decide +kernel
theorem dX12_rival_0 : decode cX12_rival 0 = .ok (.iload_n 1, 1) := by decide +kernel
theorem dX12_rival_1 : decode cX12_rival 1 = .ok (.i2l, 1) := by decide +kernel
theorem dX12_rival_2 : decode cX12_rival 2 = .ok (.lconst 0, 1) := by decide +kernel
theorem dX12_rival_3 : decode cX12_rival 3 = .ok (.ldc2_w 284, 3) := by decide +kernel
theorem dX12_rival_6 : decode cX12_rival 6 = .ok (.invokestatic 245, 3) := by decide +kernel
theorem dX12_rival_9 : decode cX12_rival 9 = .ok (.ifCond .ne 6, 3) := by decide +kernel
theorem dX12_rival_12 : decode cX12_rival 12 = .ok (.bipush (-2), 2) := by decide +kernel
theorem dX12_rival_14 : decode cX12_rival 14 = .ok (.ireturn, 1) := by decide +kernel
theorem dX12_rival_15 : decode cX12_rival 15 = .ok (.aload_n 0, 1) := by decide +kernel
theorem dX12_rival_16 : decode cX12_rival 16 = .ok (.getfield 159, 3) := by decide +kernel
theorem dX12_rival_19 : decode cX12_rival 19 = .ok (.iload_n 1, 1) := by decide +kernel
theorem dX12_rival_20 : decode cX12_rival 20 = .ok (.baload, 1) := by decide +kernel
theorem dX12_rival_21 : decode cX12_rival 21 = .ok (.ifCond .eq 7, 3) := by decide +kernel
theorem dX12_rival_24 : decode cX12_rival 24 = .ok (.iconst 1, 1) := by decide +kernel
theorem dX12_rival_25 : decode cX12_rival 25 = .ok (.goto 4, 3) := by decide +kernel
theorem dX12_rival_28 : decode cX12_rival 28 = .ok (.iconst 0, 1) := by decide +kernel
theorem dX12_rival_29 : decode cX12_rival 29 = .ok (.istore_n 3, 1) := by decide +kernel
theorem dX12_rival_30 : decode cX12_rival 30 = .ok (.aload_n 0, 1) := by decide +kernel
theorem dX12_rival_31 : decode cX12_rival 31 = .ok (.getfield 159, 3) := by decide +kernel
theorem dX12_rival_34 : decode cX12_rival 34 = .ok (.iload_n 1, 1) := by decide +kernel
theorem dX12_rival_35 : decode cX12_rival 35 = .ok (.iload_n 2, 1) := by decide +kernel
theorem dX12_rival_36 : decode cX12_rival 36 = .ok (.bastore, 1) := by decide +kernel
theorem dX12_rival_37 : decode cX12_rival 37 = .ok (.iload_n 3, 1) := by decide +kernel
theorem dX12_rival_38 : decode cX12_rival 38 = .ok (.ireturn, 1) := by decide +kernel
theorem dX12_layMay_0 : decode cX12_layMay 0 = .ok (.aload_n 0, 1) := by decide +kernel
theorem dX12_layMay_1 : decode cX12_layMay 1 = .ok (.iconst 0, 1) := by decide +kernel
theorem dX12_layMay_2 : decode cX12_layMay 2 = .ok (.putfield 407, 3) := by decide +kernel
theorem dX12_layMay_5 : decode cX12_layMay 5 = .ok (.iconst 0, 1) := by decide +kernel
theorem dX12_layMay_6 : decode cX12_layMay 6 = .ok (.istore_n 3, 1) := by decide +kernel
theorem dX12_layMay_7 : decode cX12_layMay 7 = .ok (.iload_n 3, 1) := by decide +kernel
theorem dX12_layMay_8 : decode cX12_layMay 8 = .ok (.aload_n 0, 1) := by decide +kernel
theorem dX12_layMay_9 : decode cX12_layMay 9 = .ok (.getfield 311, 3) := by decide +kernel
theorem dX12_layMay_12 : decode cX12_layMay 12 = .ok (.if_icmp .ge 120, 3) := by decide +kernel
theorem dX12_layMay_15 : decode cX12_layMay 15 = .ok (.aload_n 0, 1) := by decide +kernel
theorem dX12_layMay_16 : decode cX12_layMay 16 = .ok (.getfield 162, 3) := by decide +kernel
theorem dX12_layMay_19 : decode cX12_layMay 19 = .ok (.iload_n 3, 1) := by decide +kernel
theorem dX12_layMay_20 : decode cX12_layMay 20 = .ok (.aload_n 0, 1) := by decide +kernel
theorem dX12_layMay_21 : decode cX12_layMay 21 = .ok (.iload_n 3, 1) := by decide +kernel
theorem dX12_layMay_22 : decode cX12_layMay 22 = .ok (.invokevirtual 329, 3) := by decide +kernel
theorem dX12_layMay_25 : decode cX12_layMay 25 = .ok (.ifCond .eq 17, 3) := by decide +kernel
theorem dX12_layMay_28 : decode cX12_layMay 28 = .ok (.aload_n 0, 1) := by decide +kernel
theorem dX12_layMay_29 : decode cX12_layMay 29 = .ok (.iload_n 3, 1) := by decide +kernel
theorem dX12_layMay_30 : decode cX12_layMay 30 = .ok (.iload_n 1, 1) := by decide +kernel
theorem dX12_layMay_31 : decode cX12_layMay 31 = .ok (.iload_n 2, 1) := by decide +kernel
theorem dX12_layMay_32 : decode cX12_layMay 32 = .ok (.invokevirtual 402, 3) := by decide +kernel
theorem dX12_layMay_35 : decode cX12_layMay 35 = .ok (.ifCond .eq 7, 3) := by decide +kernel
theorem dX12_layMay_38 : decode cX12_layMay 38 = .ok (.iconst 1, 1) := by decide +kernel
theorem dX12_layMay_39 : decode cX12_layMay 39 = .ok (.goto 4, 3) := by decide +kernel
theorem dX12_layMay_42 : decode cX12_layMay 42 = .ok (.iconst 0, 1) := by decide +kernel
theorem dX12_layMay_43 : decode cX12_layMay 43 = .ok (.bastore, 1) := by decide +kernel
theorem dX12_layMay_44 : decode cX12_layMay 44 = .ok (.aload_n 0, 1) := by decide +kernel
theorem dX12_layMay_45 : decode cX12_layMay 45 = .ok (.getfield 165, 3) := by decide +kernel
theorem dX12_layMay_48 : decode cX12_layMay 48 = .ok (.iload_n 3, 1) := by decide +kernel
theorem dX12_layMay_49 : decode cX12_layMay 49 = .ok (.aload_n 0, 1) := by decide +kernel
theorem dX12_layMay_50 : decode cX12_layMay 50 = .ok (.iload_n 3, 1) := by decide +kernel
theorem dX12_layMay_51 : decode cX12_layMay 51 = .ok (.invokevirtual 319, 3) := by decide +kernel
theorem dX12_layMay_54 : decode cX12_layMay 54 = .ok (.iastore, 1) := by decide +kernel
theorem dX12_layMay_55 : decode cX12_layMay 55 = .ok (.aload_n 0, 1) := by decide +kernel
theorem dX12_layMay_56 : decode cX12_layMay 56 = .ok (.getfield 168, 3) := by decide +kernel
theorem dX12_layMay_59 : decode cX12_layMay 59 = .ok (.iload_n 3, 1) := by decide +kernel
theorem dX12_layMay_60 : decode cX12_layMay 60 = .ok (.aload_n 0, 1) := by decide +kernel
theorem dX12_layMay_61 : decode cX12_layMay 61 = .ok (.getfield 159, 3) := by decide +kernel
theorem dX12_layMay_64 : decode cX12_layMay 64 = .ok (.aload_n 0, 1) := by decide +kernel
theorem dX12_layMay_65 : decode cX12_layMay 65 = .ok (.getfield 80, 3) := by decide +kernel
theorem dX12_layMay_68 : decode cX12_layMay 68 = .ok (.iload_n 3, 1) := by decide +kernel
theorem dX12_layMay_69 : decode cX12_layMay 69 = .ok (.iaload, 1) := by decide +kernel
theorem dX12_layMay_70 : decode cX12_layMay 70 = .ok (.baload, 1) := by decide +kernel
theorem dX12_layMay_71 : decode cX12_layMay 71 = .ok (.ifCond .eq 14, 3) := by decide +kernel
theorem dX12_layMay_74 : decode cX12_layMay 74 = .ok (.aload_n 0, 1) := by decide +kernel
theorem dX12_layMay_75 : decode cX12_layMay 75 = .ok (.getfield 89, 3) := by decide +kernel
theorem dX12_layMay_78 : decode cX12_layMay 78 = .ok (.iload_n 3, 1) := by decide +kernel
theorem dX12_layMay_79 : decode cX12_layMay 79 = .ok (.iaload, 1) := by decide +kernel
theorem dX12_layMay_80 : decode cX12_layMay 80 = .ok (.iconst 2, 1) := by decide +kernel
theorem dX12_layMay_81 : decode cX12_layMay 81 = .ok (.idiv, 1) := by decide +kernel
theorem dX12_layMay_82 : decode cX12_layMay 82 = .ok (.goto 9, 3) := by decide +kernel
theorem dX12_layMay_85 : decode cX12_layMay 85 = .ok (.aload_n 0, 1) := by decide +kernel
theorem dX12_layMay_86 : decode cX12_layMay 86 = .ok (.getfield 89, 3) := by decide +kernel
theorem dX12_layMay_89 : decode cX12_layMay 89 = .ok (.iload_n 3, 1) := by decide +kernel
theorem dX12_layMay_90 : decode cX12_layMay 90 = .ok (.iaload, 1) := by decide +kernel
theorem dX12_layMay_91 : decode cX12_layMay 91 = .ok (.iastore, 1) := by decide +kernel
theorem dX12_layMay_92 : decode cX12_layMay 92 = .ok (.aload_n 0, 1) := by decide +kernel
theorem dX12_layMay_93 : decode cX12_layMay 93 = .ok (.dup, 1) := by decide +kernel
theorem dX12_layMay_94 : decode cX12_layMay 94 = .ok (.getfield 407, 3) := by decide +kernel
theorem dX12_layMay_97 : decode cX12_layMay 97 = .ok (.aload_n 0, 1) := by decide +kernel
theorem dX12_layMay_98 : decode cX12_layMay 98 = .ok (.getfield 162, 3) := by decide +kernel
theorem dX12_layMay_101 : decode cX12_layMay 101 = .ok (.iload_n 3, 1) := by decide +kernel
theorem dX12_layMay_102 : decode cX12_layMay 102 = .ok (.baload, 1) := by decide +kernel
theorem dX12_layMay_103 : decode cX12_layMay 103 = .ok (.ifCond .eq 18, 3) := by decide +kernel
theorem dX12_layMay_106 : decode cX12_layMay 106 = .ok (.aload_n 0, 1) := by decide +kernel
theorem dX12_layMay_107 : decode cX12_layMay 107 = .ok (.getfield 101, 3) := by decide +kernel
theorem dX12_layMay_110 : decode cX12_layMay 110 = .ok (.iload_n 3, 1) := by decide +kernel
theorem dX12_layMay_111 : decode cX12_layMay 111 = .ok (.baload, 1) := by decide +kernel
theorem dX12_layMay_112 : decode cX12_layMay 112 = .ok (.ifCond .eq 9, 3) := by decide +kernel
theorem dX12_layMay_115 : decode cX12_layMay 115 = .ok (.iconst 1, 1) := by decide +kernel
theorem dX12_layMay_116 : decode cX12_layMay 116 = .ok (.iload_n 3, 1) := by decide +kernel
theorem dX12_layMay_117 : decode cX12_layMay 117 = .ok (.ishl, 1) := by decide +kernel
theorem dX12_layMay_118 : decode cX12_layMay 118 = .ok (.goto 4, 3) := by decide +kernel
theorem dX12_layMay_121 : decode cX12_layMay 121 = .ok (.iconst 0, 1) := by decide +kernel
theorem dX12_layMay_122 : decode cX12_layMay 122 = .ok (.ior, 1) := by decide +kernel
theorem dX12_layMay_123 : decode cX12_layMay 123 = .ok (.putfield 407, 3) := by decide +kernel
theorem dX12_layMay_126 : decode cX12_layMay 126 = .ok (.iinc 3 1, 3) := by decide +kernel
theorem dX12_layMay_129 : decode cX12_layMay 129 = .ok (.goto (-122), 3) := by decide +kernel
theorem dX12_layMay_132 : decode cX12_layMay 132 = .ok (.return_, 1) := by decide +kernel
theorem dX12_mayFollow_0 : decode cX12_mayFollow 0 = .ok (.iload_n 1, 1) := by decide +kernel
theorem dX12_mayFollow_1 : decode cX12_mayFollow 1 = .ok (.ifCond .le 29, 3) := by decide +kernel
theorem dX12_mayFollow_4 : decode cX12_mayFollow 4 = .ok (.aload_n 0, 1) := by decide +kernel
theorem dX12_mayFollow_5 : decode cX12_mayFollow 5 = .ok (.getfield 156, 3) := by decide +kernel
theorem dX12_mayFollow_8 : decode cX12_mayFollow 8 = .ok (.bipush 8, 2) := by decide +kernel
theorem dX12_mayFollow_10 : decode cX12_mayFollow 10 = .ok (.aload_n 0, 1) := by decide +kernel
theorem dX12_mayFollow_11 : decode cX12_mayFollow 11 = .ok (.getfield 171, 3) := by decide +kernel
theorem dX12_mayFollow_14 : decode cX12_mayFollow 14 = .ok (.iload_n 1, 1) := by decide +kernel
theorem dX12_mayFollow_15 : decode cX12_mayFollow 15 = .ok (.iconst 1, 1) := by decide +kernel
theorem dX12_mayFollow_16 : decode cX12_mayFollow 16 = .ok (.isub, 1) := by decide +kernel
theorem dX12_mayFollow_17 : decode cX12_mayFollow 17 = .ok (.iaload, 1) := by decide +kernel
theorem dX12_mayFollow_18 : decode cX12_mayFollow 18 = .ok (.imul, 1) := by decide +kernel
theorem dX12_mayFollow_19 : decode cX12_mayFollow 19 = .ok (.iload 4, 2) := by decide +kernel
theorem dX12_mayFollow_21 : decode cX12_mayFollow 21 = .ok (.iadd, 1) := by decide +kernel
theorem dX12_mayFollow_22 : decode cX12_mayFollow 22 = .ok (.baload, 1) := by decide +kernel
theorem dX12_mayFollow_23 : decode cX12_mayFollow 23 = .ok (.ifCond .eq 7, 3) := by decide +kernel
theorem dX12_mayFollow_26 : decode cX12_mayFollow 26 = .ok (.iconst 1, 1) := by decide +kernel
theorem dX12_mayFollow_27 : decode cX12_mayFollow 27 = .ok (.goto 4, 3) := by decide +kernel
theorem dX12_mayFollow_30 : decode cX12_mayFollow 30 = .ok (.iconst 0, 1) := by decide +kernel
theorem dX12_mayFollow_31 : decode cX12_mayFollow 31 = .ok (.istore 5, 2) := by decide +kernel
theorem dX12_mayFollow_33 : decode cX12_mayFollow 33 = .ok (.aload_n 0, 1) := by decide +kernel
theorem dX12_mayFollow_34 : decode cX12_mayFollow 34 = .ok (.getfield 162, 3) := by decide +kernel
theorem dX12_mayFollow_37 : decode cX12_mayFollow 37 = .ok (.iload 4, 2) := by decide +kernel
theorem dX12_mayFollow_39 : decode cX12_mayFollow 39 = .ok (.baload, 1) := by decide +kernel
theorem dX12_mayFollow_40 : decode cX12_mayFollow 40 = .ok (.ifCond .eq 37, 3) := by decide +kernel
theorem dX12_mayFollow_43 : decode cX12_mayFollow 43 = .ok (.iload_n 2, 1) := by decide +kernel
theorem dX12_mayFollow_44 : decode cX12_mayFollow 44 = .ok (.iload 4, 2) := by decide +kernel
theorem dX12_mayFollow_46 : decode cX12_mayFollow 46 = .ok (.ishr, 1) := by decide +kernel
theorem dX12_mayFollow_47 : decode cX12_mayFollow 47 = .ok (.iconst 1, 1) := by decide +kernel
theorem dX12_mayFollow_48 : decode cX12_mayFollow 48 = .ok (.iand, 1) := by decide +kernel
theorem dX12_mayFollow_49 : decode cX12_mayFollow 49 = .ok (.ifCond .ne 28, 3) := by decide +kernel
theorem dX12_mayFollow_52 : decode cX12_mayFollow 52 = .ok (.iload 5, 2) := by decide +kernel
theorem dX12_mayFollow_54 : decode cX12_mayFollow 54 = .ok (.ifCond .ne 23, 3) := by decide +kernel
theorem dX12_mayFollow_57 : decode cX12_mayFollow 57 = .ok (.iload_n 3, 1) := by decide +kernel
theorem dX12_mayFollow_58 : decode cX12_mayFollow 58 = .ok (.aload_n 0, 1) := by decide +kernel
theorem dX12_mayFollow_59 : decode cX12_mayFollow 59 = .ok (.getfield 165, 3) := by decide +kernel
theorem dX12_mayFollow_62 : decode cX12_mayFollow 62 = .ok (.iload 4, 2) := by decide +kernel
theorem dX12_mayFollow_64 : decode cX12_mayFollow 64 = .ok (.iaload, 1) := by decide +kernel
theorem dX12_mayFollow_65 : decode cX12_mayFollow 65 = .ok (.iadd, 1) := by decide +kernel
theorem dX12_mayFollow_66 : decode cX12_mayFollow 66 = .ok (.aload_n 0, 1) := by decide +kernel
theorem dX12_mayFollow_67 : decode cX12_mayFollow 67 = .ok (.getfield 153, 3) := by decide +kernel
theorem dX12_mayFollow_70 : decode cX12_mayFollow 70 = .ok (.if_icmp .gt 7, 3) := by decide +kernel
theorem dX12_mayFollow_73 : decode cX12_mayFollow 73 = .ok (.iconst 1, 1) := by decide +kernel
theorem dX12_mayFollow_74 : decode cX12_mayFollow 74 = .ok (.goto 4, 3) := by decide +kernel
theorem dX12_mayFollow_77 : decode cX12_mayFollow 77 = .ok (.iconst 0, 1) := by decide +kernel
theorem dX12_mayFollow_78 : decode cX12_mayFollow 78 = .ok (.ireturn, 1) := by decide +kernel
theorem dX12_layReel_0 : decode cX12_layReel 0 = .ok (.aload_n 0, 1) := by decide +kernel
theorem dX12_layReel_1 : decode cX12_layReel 1 = .ok (.iload_n 1, 1) := by decide +kernel
theorem dX12_layReel_2 : decode cX12_layReel 2 = .ok (.iload_n 2, 1) := by decide +kernel
theorem dX12_layReel_3 : decode cX12_layReel 3 = .ok (.invokevirtual 410, 3) := by decide +kernel
theorem dX12_layReel_6 : decode cX12_layReel 6 = .ok (.aload_n 0, 1) := by decide +kernel
theorem dX12_layReel_7 : decode cX12_layReel 7 = .ok (.bipush (-9), 2) := by decide +kernel
theorem dX12_layReel_9 : decode cX12_layReel 9 = .ok (.putfield 414, 3) := by decide +kernel
theorem dX12_layReel_12 : decode cX12_layReel 12 = .ok (.aload_n 0, 1) := by decide +kernel
theorem dX12_layReel_13 : decode cX12_layReel 13 = .ok (.iconst 0, 1) := by decide +kernel
theorem dX12_layReel_14 : decode cX12_layReel 14 = .ok (.putfield 417, 3) := by decide +kernel
theorem dX12_layReel_17 : decode cX12_layReel 17 = .ok (.iconst 0, 1) := by decide +kernel
theorem dX12_layReel_18 : decode cX12_layReel 18 = .ok (.istore_n 3, 1) := by decide +kernel
theorem dX12_layReel_19 : decode cX12_layReel 19 = .ok (.iconst 0, 1) := by decide +kernel
theorem dX12_layReel_20 : decode cX12_layReel 20 = .ok (.istore 4, 2) := by decide +kernel
theorem dX12_layReel_22 : decode cX12_layReel 22 = .ok (.iconst 0, 1) := by decide +kernel
theorem dX12_layReel_23 : decode cX12_layReel 23 = .ok (.istore 5, 2) := by decide +kernel
theorem dX12_layReel_25 : decode cX12_layReel 25 = .ok (.iconst 0, 1) := by decide +kernel
theorem dX12_layReel_26 : decode cX12_layReel 26 = .ok (.istore 6, 2) := by decide +kernel
theorem dX12_layReel_28 : decode cX12_layReel 28 = .ok (.iconst 0, 1) := by decide +kernel
theorem dX12_layReel_29 : decode cX12_layReel 29 = .ok (.istore 7, 2) := by decide +kernel
theorem dX12_layReel_31 : decode cX12_layReel 31 = .ok (.iconst 1, 1) := by decide +kernel
theorem dX12_layReel_32 : decode cX12_layReel 32 = .ok (.istore 8, 2) := by decide +kernel
theorem dX12_layReel_34 : decode cX12_layReel 34 = .ok (.iload 8, 2) := by decide +kernel
theorem dX12_layReel_36 : decode cX12_layReel 36 = .ok (.ifCond .eq 167, 3) := by decide +kernel
theorem dX12_layReel_39 : decode cX12_layReel 39 = .ok (.iload 7, 2) := by decide +kernel
theorem dX12_layReel_41 : decode cX12_layReel 41 = .ok (.aload_n 0, 1) := by decide +kernel
theorem dX12_layReel_42 : decode cX12_layReel 42 = .ok (.getfield 311, 3) := by decide +kernel
theorem dX12_layReel_45 : decode cX12_layReel 45 = .ok (.if_icmp .ge 23, 3) := by decide +kernel
theorem dX12_layReel_48 : decode cX12_layReel 48 = .ok (.aload_n 0, 1) := by decide +kernel
theorem dX12_layReel_49 : decode cX12_layReel 49 = .ok (.iload_n 3, 1) := by decide +kernel
theorem dX12_layReel_50 : decode cX12_layReel 50 = .ok (.iload 4, 2) := by decide +kernel
theorem dX12_layReel_52 : decode cX12_layReel 52 = .ok (.iload 5, 2) := by decide +kernel
theorem dX12_layReel_54 : decode cX12_layReel 54 = .ok (.iload 7, 2) := by decide +kernel
theorem dX12_layReel_56 : decode cX12_layReel 56 = .ok (.invokevirtual 420, 3) := by decide +kernel
theorem dX12_layReel_59 : decode cX12_layReel 59 = .ok (.ifCond .ne 9, 3) := by decide +kernel
theorem dX12_layReel_62 : decode cX12_layReel 62 = .ok (.iinc 7 1, 3) := by decide +kernel
theorem dX12_layReel_65 : decode cX12_layReel 65 = .ok (.goto (-26), 3) := by decide +kernel
theorem dX12_layReel_68 : decode cX12_layReel 68 = .ok (.iload 7, 2) := by decide +kernel
theorem dX12_layReel_70 : decode cX12_layReel 70 = .ok (.aload_n 0, 1) := by decide +kernel
theorem dX12_layReel_71 : decode cX12_layReel 71 = .ok (.getfield 311, 3) := by decide +kernel
theorem dX12_layReel_74 : decode cX12_layReel 74 = .ok (.if_icmp .ge 64, 3) := by decide +kernel
theorem dX12_layReel_77 : decode cX12_layReel 77 = .ok (.aload_n 0, 1) := by decide +kernel
theorem dX12_layReel_78 : decode cX12_layReel 78 = .ok (.getfield 171, 3) := by decide +kernel
theorem dX12_layReel_81 : decode cX12_layReel 81 = .ok (.iload_n 3, 1) := by decide +kernel
theorem dX12_layReel_82 : decode cX12_layReel 82 = .ok (.iload 7, 2) := by decide +kernel
theorem dX12_layReel_84 : decode cX12_layReel 84 = .ok (.iastore, 1) := by decide +kernel
theorem dX12_layReel_85 : decode cX12_layReel 85 = .ok (.iinc 3 1, 3) := by decide +kernel
theorem dX12_layReel_88 : decode cX12_layReel 88 = .ok (.iload 4, 2) := by decide +kernel
theorem dX12_layReel_90 : decode cX12_layReel 90 = .ok (.iconst 1, 1) := by decide +kernel
theorem dX12_layReel_91 : decode cX12_layReel 91 = .ok (.iload 7, 2) := by decide +kernel
theorem dX12_layReel_93 : decode cX12_layReel 93 = .ok (.ishl, 1) := by decide +kernel
theorem dX12_layReel_94 : decode cX12_layReel 94 = .ok (.ior, 1) := by decide +kernel
theorem dX12_layReel_95 : decode cX12_layReel 95 = .ok (.istore 4, 2) := by decide +kernel
theorem dX12_layReel_97 : decode cX12_layReel 97 = .ok (.iload 5, 2) := by decide +kernel
theorem dX12_layReel_99 : decode cX12_layReel 99 = .ok (.aload_n 0, 1) := by decide +kernel
theorem dX12_layReel_100 : decode cX12_layReel 100 = .ok (.getfield 165, 3) := by decide +kernel
theorem dX12_layReel_103 : decode cX12_layReel 103 = .ok (.iload 7, 2) := by decide +kernel
theorem dX12_layReel_105 : decode cX12_layReel 105 = .ok (.iaload, 1) := by decide +kernel
theorem dX12_layReel_106 : decode cX12_layReel 106 = .ok (.iadd, 1) := by decide +kernel
theorem dX12_layReel_107 : decode cX12_layReel 107 = .ok (.istore 5, 2) := by decide +kernel
theorem dX12_layReel_109 : decode cX12_layReel 109 = .ok (.iload 6, 2) := by decide +kernel
theorem dX12_layReel_111 : decode cX12_layReel 111 = .ok (.aload_n 0, 1) := by decide +kernel
theorem dX12_layReel_112 : decode cX12_layReel 112 = .ok (.getfield 168, 3) := by decide +kernel
theorem dX12_layReel_115 : decode cX12_layReel 115 = .ok (.iload 7, 2) := by decide +kernel
theorem dX12_layReel_117 : decode cX12_layReel 117 = .ok (.iaload, 1) := by decide +kernel
theorem dX12_layReel_118 : decode cX12_layReel 118 = .ok (.iadd, 1) := by decide +kernel
theorem dX12_layReel_119 : decode cX12_layReel 119 = .ok (.istore 6, 2) := by decide +kernel
theorem dX12_layReel_121 : decode cX12_layReel 121 = .ok (.aload_n 0, 1) := by decide +kernel
theorem dX12_layReel_122 : decode cX12_layReel 122 = .ok (.iload_n 3, 1) := by decide +kernel
theorem dX12_layReel_123 : decode cX12_layReel 123 = .ok (.iload 4, 2) := by decide +kernel
theorem dX12_layReel_125 : decode cX12_layReel 125 = .ok (.iload 5, 2) := by decide +kernel
theorem dX12_layReel_127 : decode cX12_layReel 127 = .ok (.iload 6, 2) := by decide +kernel
theorem dX12_layReel_129 : decode cX12_layReel 129 = .ok (.invokevirtual 424, 3) := by decide +kernel
theorem dX12_layReel_132 : decode cX12_layReel 132 = .ok (.iconst 0, 1) := by decide +kernel
theorem dX12_layReel_133 : decode cX12_layReel 133 = .ok (.istore 7, 2) := by decide +kernel
theorem dX12_layReel_135 : decode cX12_layReel 135 = .ok (.goto (-101), 3) := by decide +kernel
theorem dX12_layReel_138 : decode cX12_layReel 138 = .ok (.iload_n 3, 1) := by decide +kernel
theorem dX12_layReel_139 : decode cX12_layReel 139 = .ok (.ifCond .le 58, 3) := by decide +kernel
theorem dX12_layReel_142 : decode cX12_layReel 142 = .ok (.iinc 3 (-1), 3) := by decide +kernel
theorem dX12_layReel_145 : decode cX12_layReel 145 = .ok (.aload_n 0, 1) := by decide +kernel
theorem dX12_layReel_146 : decode cX12_layReel 146 = .ok (.getfield 171, 3) := by decide +kernel
theorem dX12_layReel_149 : decode cX12_layReel 149 = .ok (.iload_n 3, 1) := by decide +kernel
theorem dX12_layReel_150 : decode cX12_layReel 150 = .ok (.iaload, 1) := by decide +kernel
theorem dX12_layReel_151 : decode cX12_layReel 151 = .ok (.istore 9, 2) := by decide +kernel
theorem dX12_layReel_153 : decode cX12_layReel 153 = .ok (.iload 4, 2) := by decide +kernel
theorem dX12_layReel_155 : decode cX12_layReel 155 = .ok (.iconst 1, 1) := by decide +kernel
theorem dX12_layReel_156 : decode cX12_layReel 156 = .ok (.iload 9, 2) := by decide +kernel
theorem dX12_layReel_158 : decode cX12_layReel 158 = .ok (.ishl, 1) := by decide +kernel
theorem dX12_layReel_159 : decode cX12_layReel 159 = .ok (.iconst (-1), 1) := by decide +kernel
theorem dX12_layReel_160 : decode cX12_layReel 160 = .ok (.ixor, 1) := by decide +kernel
theorem dX12_layReel_161 : decode cX12_layReel 161 = .ok (.iand, 1) := by decide +kernel
theorem dX12_layReel_162 : decode cX12_layReel 162 = .ok (.istore 4, 2) := by decide +kernel
theorem dX12_layReel_164 : decode cX12_layReel 164 = .ok (.iload 5, 2) := by decide +kernel
theorem dX12_layReel_166 : decode cX12_layReel 166 = .ok (.aload_n 0, 1) := by decide +kernel
theorem dX12_layReel_167 : decode cX12_layReel 167 = .ok (.getfield 165, 3) := by decide +kernel
theorem dX12_layReel_170 : decode cX12_layReel 170 = .ok (.iload 9, 2) := by decide +kernel
theorem dX12_layReel_172 : decode cX12_layReel 172 = .ok (.iaload, 1) := by decide +kernel
theorem dX12_layReel_173 : decode cX12_layReel 173 = .ok (.isub, 1) := by decide +kernel
theorem dX12_layReel_174 : decode cX12_layReel 174 = .ok (.istore 5, 2) := by decide +kernel
theorem dX12_layReel_176 : decode cX12_layReel 176 = .ok (.iload 6, 2) := by decide +kernel
theorem dX12_layReel_178 : decode cX12_layReel 178 = .ok (.aload_n 0, 1) := by decide +kernel
theorem dX12_layReel_179 : decode cX12_layReel 179 = .ok (.getfield 168, 3) := by decide +kernel
theorem dX12_layReel_182 : decode cX12_layReel 182 = .ok (.iload 9, 2) := by decide +kernel
theorem dX12_layReel_184 : decode cX12_layReel 184 = .ok (.iaload, 1) := by decide +kernel
theorem dX12_layReel_185 : decode cX12_layReel 185 = .ok (.isub, 1) := by decide +kernel
theorem dX12_layReel_186 : decode cX12_layReel 186 = .ok (.istore 6, 2) := by decide +kernel
theorem dX12_layReel_188 : decode cX12_layReel 188 = .ok (.iload 9, 2) := by decide +kernel
theorem dX12_layReel_190 : decode cX12_layReel 190 = .ok (.iconst 1, 1) := by decide +kernel
theorem dX12_layReel_191 : decode cX12_layReel 191 = .ok (.iadd, 1) := by decide +kernel
theorem dX12_layReel_192 : decode cX12_layReel 192 = .ok (.istore 7, 2) := by decide +kernel
theorem dX12_layReel_194 : decode cX12_layReel 194 = .ok (.goto (-160), 3) := by decide +kernel
theorem dX12_layReel_197 : decode cX12_layReel 197 = .ok (.iconst 0, 1) := by decide +kernel
theorem dX12_layReel_198 : decode cX12_layReel 198 = .ok (.istore 8, 2) := by decide +kernel
theorem dX12_layReel_200 : decode cX12_layReel 200 = .ok (.goto (-166), 3) := by decide +kernel
theorem dX12_layReel_203 : decode cX12_layReel 203 = .ok (.return_, 1) := by decide +kernel
theorem dX12_keep_0 : decode cX12_keep 0 = .ok (.iload_n 3, 1) := by decide +kernel
theorem dX12_keep_1 : decode cX12_keep 1 = .ok (.aload_n 0, 1) := by decide +kernel
theorem dX12_keep_2 : decode cX12_keep 2 = .ok (.getfield 150, 3) := by decide +kernel
theorem dX12_keep_5 : decode cX12_keep 5 = .ok (.if_icmp .lt 65, 3) := by decide +kernel
theorem dX12_keep_8 : decode cX12_keep 8 = .ok (.iload_n 2, 1) := by decide +kernel
theorem dX12_keep_9 : decode cX12_keep 9 = .ok (.aload_n 0, 1) := by decide +kernel
theorem dX12_keep_10 : decode cX12_keep 10 = .ok (.getfield 407, 3) := by decide +kernel
theorem dX12_keep_13 : decode cX12_keep 13 = .ok (.iand, 1) := by decide +kernel
theorem dX12_keep_14 : decode cX12_keep 14 = .ok (.aload_n 0, 1) := by decide +kernel
theorem dX12_keep_15 : decode cX12_keep 15 = .ok (.getfield 407, 3) := by decide +kernel
theorem dX12_keep_18 : decode cX12_keep 18 = .ok (.if_icmp .ne 52, 3) := by decide +kernel
theorem dX12_keep_21 : decode cX12_keep 21 = .ok (.iload 4, 2) := by decide +kernel
theorem dX12_keep_23 : decode cX12_keep 23 = .ok (.aload_n 0, 1) := by decide +kernel
theorem dX12_keep_24 : decode cX12_keep 24 = .ok (.getfield 414, 3) := by decide +kernel
theorem dX12_keep_27 : decode cX12_keep 27 = .ok (.if_icmp .le 43, 3) := by decide +kernel
theorem dX12_keep_30 : decode cX12_keep 30 = .ok (.aload_n 0, 1) := by decide +kernel
theorem dX12_keep_31 : decode cX12_keep 31 = .ok (.iload 4, 2) := by decide +kernel
theorem dX12_keep_33 : decode cX12_keep 33 = .ok (.putfield 414, 3) := by decide +kernel
theorem dX12_keep_36 : decode cX12_keep 36 = .ok (.aload_n 0, 1) := by decide +kernel
theorem dX12_keep_37 : decode cX12_keep 37 = .ok (.iload_n 1, 1) := by decide +kernel
theorem dX12_keep_38 : decode cX12_keep 38 = .ok (.putfield 417, 3) := by decide +kernel
theorem dX12_keep_41 : decode cX12_keep 41 = .ok (.iconst 0, 1) := by decide +kernel
theorem dX12_keep_42 : decode cX12_keep 42 = .ok (.istore 5, 2) := by decide +kernel
theorem dX12_keep_44 : decode cX12_keep 44 = .ok (.iload 5, 2) := by decide +kernel
theorem dX12_keep_46 : decode cX12_keep 46 = .ok (.iload_n 1, 1) := by decide +kernel
theorem dX12_keep_47 : decode cX12_keep 47 = .ok (.if_icmp .ge 23, 3) := by decide +kernel
theorem dX12_keep_50 : decode cX12_keep 50 = .ok (.aload_n 0, 1) := by decide +kernel
theorem dX12_keep_51 : decode cX12_keep 51 = .ok (.getfield 174, 3) := by decide +kernel
theorem dX12_keep_54 : decode cX12_keep 54 = .ok (.iload 5, 2) := by decide +kernel
theorem dX12_keep_56 : decode cX12_keep 56 = .ok (.aload_n 0, 1) := by decide +kernel
theorem dX12_keep_57 : decode cX12_keep 57 = .ok (.getfield 171, 3) := by decide +kernel
theorem dX12_keep_60 : decode cX12_keep 60 = .ok (.iload 5, 2) := by decide +kernel
theorem dX12_keep_62 : decode cX12_keep 62 = .ok (.iaload, 1) := by decide +kernel
theorem dX12_keep_63 : decode cX12_keep 63 = .ok (.iastore, 1) := by decide +kernel
theorem dX12_keep_64 : decode cX12_keep 64 = .ok (.iinc 5 1, 3) := by decide +kernel
theorem dX12_keep_67 : decode cX12_keep 67 = .ok (.goto (-23), 3) := by decide +kernel
theorem dX12_keep_70 : decode cX12_keep 70 = .ok (.return_, 1) := by decide +kernel
theorem dX12_mayReel_0 : decode cX12_mayReel 0 = .ok (.iload_n 1, 1) := by decide +kernel
theorem dX12_mayReel_1 : decode cX12_mayReel 1 = .ok (.invokestatic 386, 3) := by decide +kernel
theorem dX12_mayReel_4 : decode cX12_mayReel 4 = .ok (.ifCond .ne 7, 3) := by decide +kernel
theorem dX12_mayReel_7 : decode cX12_mayReel 7 = .ok (.iconst (-1), 1) := by decide +kernel
theorem dX12_mayReel_8 : decode cX12_mayReel 8 = .ok (.goto 16, 3) := by decide +kernel
theorem dX12_mayReel_11 : decode cX12_mayReel 11 = .ok (.iload_n 2, 1) := by decide +kernel
theorem dX12_mayReel_12 : decode cX12_mayReel 12 = .ok (.invokestatic 339, 3) := by decide +kernel
theorem dX12_mayReel_15 : decode cX12_mayReel 15 = .ok (.ifCond .eq 7, 3) := by decide +kernel
theorem dX12_mayReel_18 : decode cX12_mayReel 18 = .ok (.iconst 0, 1) := by decide +kernel
theorem dX12_mayReel_19 : decode cX12_mayReel 19 = .ok (.goto 5, 3) := by decide +kernel
theorem dX12_mayReel_22 : decode cX12_mayReel 22 = .ok (.bipush (-2), 2) := by decide +kernel
theorem dX12_mayReel_24 : decode cX12_mayReel 24 = .ok (.ireturn, 1) := by decide +kernel
theorem dX12_reel_0 : decode cX12_reel 0 = .ok (.aload_n 0, 1) := by decide +kernel
theorem dX12_reel_1 : decode cX12_reel 1 = .ok (.iload_n 1, 1) := by decide +kernel
theorem dX12_reel_2 : decode cX12_reel 2 = .ok (.iload_n 2, 1) := by decide +kernel
theorem dX12_reel_3 : decode cX12_reel 3 = .ok (.invokevirtual 428, 3) := by decide +kernel
theorem dX12_reel_6 : decode cX12_reel 6 = .ok (.istore_n 3, 1) := by decide +kernel
theorem dX12_reel_7 : decode cX12_reel 7 = .ok (.iload_n 3, 1) := by decide +kernel
theorem dX12_reel_8 : decode cX12_reel 8 = .ok (.ifCond .ge 5, 3) := by decide +kernel
theorem dX12_reel_11 : decode cX12_reel 11 = .ok (.iload_n 3, 1) := by decide +kernel
theorem dX12_reel_12 : decode cX12_reel 12 = .ok (.ireturn, 1) := by decide +kernel
theorem dX12_reel_13 : decode cX12_reel 13 = .ok (.aload_n 0, 1) := by decide +kernel
theorem dX12_reel_14 : decode cX12_reel 14 = .ok (.iload_n 1, 1) := by decide +kernel
theorem dX12_reel_15 : decode cX12_reel 15 = .ok (.iload_n 2, 1) := by decide +kernel
theorem dX12_reel_16 : decode cX12_reel 16 = .ok (.invokevirtual 431, 3) := by decide +kernel
theorem dX12_reel_19 : decode cX12_reel 19 = .ok (.aload_n 0, 1) := by decide +kernel
theorem dX12_reel_20 : decode cX12_reel 20 = .ok (.getfield 414, 3) := by decide +kernel
theorem dX12_reel_23 : decode cX12_reel 23 = .ok (.ireturn, 1) := by decide +kernel
theorem dX12_reelAt_0 : decode cX12_reelAt 0 = .ok (.aload_n 0, 1) := by decide +kernel
theorem dX12_reelAt_1 : decode cX12_reelAt 1 = .ok (.iload_n 1, 1) := by decide +kernel
theorem dX12_reelAt_2 : decode cX12_reelAt 2 = .ok (.iload_n 2, 1) := by decide +kernel
theorem dX12_reelAt_3 : decode cX12_reelAt 3 = .ok (.invokevirtual 428, 3) := by decide +kernel
theorem dX12_reelAt_6 : decode cX12_reelAt 6 = .ok (.istore 4, 2) := by decide +kernel
theorem dX12_reelAt_8 : decode cX12_reelAt 8 = .ok (.iload 4, 2) := by decide +kernel
theorem dX12_reelAt_10 : decode cX12_reelAt 10 = .ok (.ifCond .ge 6, 3) := by decide +kernel
theorem dX12_reelAt_13 : decode cX12_reelAt 13 = .ok (.iload 4, 2) := by decide +kernel
theorem dX12_reelAt_15 : decode cX12_reelAt 15 = .ok (.ireturn, 1) := by decide +kernel
theorem dX12_reelAt_16 : decode cX12_reelAt 16 = .ok (.aload_n 0, 1) := by decide +kernel
theorem dX12_reelAt_17 : decode cX12_reelAt 17 = .ok (.iload_n 1, 1) := by decide +kernel
theorem dX12_reelAt_18 : decode cX12_reelAt 18 = .ok (.iload_n 2, 1) := by decide +kernel
theorem dX12_reelAt_19 : decode cX12_reelAt 19 = .ok (.invokevirtual 431, 3) := by decide +kernel
theorem dX12_reelAt_22 : decode cX12_reelAt 22 = .ok (.iload_n 3, 1) := by decide +kernel
theorem dX12_reelAt_23 : decode cX12_reelAt 23 = .ok (.i2l, 1) := by decide +kernel
theorem dX12_reelAt_24 : decode cX12_reelAt 24 = .ok (.lconst 0, 1) := by decide +kernel
theorem dX12_reelAt_25 : decode cX12_reelAt 25 = .ok (.aload_n 0, 1) := by decide +kernel
theorem dX12_reelAt_26 : decode cX12_reelAt 26 = .ok (.getfield 417, 3) := by decide +kernel
theorem dX12_reelAt_29 : decode cX12_reelAt 29 = .ok (.iconst 1, 1) := by decide +kernel
theorem dX12_reelAt_30 : decode cX12_reelAt 30 = .ok (.isub, 1) := by decide +kernel
theorem dX12_reelAt_31 : decode cX12_reelAt 31 = .ok (.i2l, 1) := by decide +kernel
theorem dX12_reelAt_32 : decode cX12_reelAt 32 = .ok (.invokestatic 245, 3) := by decide +kernel
theorem dX12_reelAt_35 : decode cX12_reelAt 35 = .ok (.ifCond .eq 12, 3) := by decide +kernel
theorem dX12_reelAt_38 : decode cX12_reelAt 38 = .ok (.aload_n 0, 1) := by decide +kernel
theorem dX12_reelAt_39 : decode cX12_reelAt 39 = .ok (.getfield 174, 3) := by decide +kernel
theorem dX12_reelAt_42 : decode cX12_reelAt 42 = .ok (.iload_n 3, 1) := by decide +kernel
theorem dX12_reelAt_43 : decode cX12_reelAt 43 = .ok (.iaload, 1) := by decide +kernel
theorem dX12_reelAt_44 : decode cX12_reelAt 44 = .ok (.goto 5, 3) := by decide +kernel
theorem dX12_reelAt_47 : decode cX12_reelAt 47 = .ok (.bipush (-9), 2) := by decide +kernel
theorem dX12_reelAt_49 : decode cX12_reelAt 49 = .ok (.ireturn, 1) := by decide +kernel
theorem dX12_judge_0 : decode cX12_judge 0 = .ok (.aload_n 0, 1) := by decide +kernel
theorem dX12_judge_1 : decode cX12_judge 1 = .ok (.iload_n 1, 1) := by decide +kernel
theorem dX12_judge_2 : decode cX12_judge 2 = .ok (.iload_n 2, 1) := by decide +kernel
theorem dX12_judge_3 : decode cX12_judge 3 = .ok (.invokevirtual 428, 3) := by decide +kernel
theorem dX12_judge_6 : decode cX12_judge 6 = .ok (.istore 5, 2) := by decide +kernel
theorem dX12_judge_8 : decode cX12_judge 8 = .ok (.iload 5, 2) := by decide +kernel
theorem dX12_judge_10 : decode cX12_judge 10 = .ok (.ifCond .ge 6, 3) := by decide +kernel
theorem dX12_judge_13 : decode cX12_judge 13 = .ok (.iload 5, 2) := by decide +kernel
theorem dX12_judge_15 : decode cX12_judge 15 = .ok (.ireturn, 1) := by decide +kernel
theorem dX12_judge_16 : decode cX12_judge 16 = .ok (.aload_n 0, 1) := by decide +kernel
theorem dX12_judge_17 : decode cX12_judge 17 = .ok (.iload_n 1, 1) := by decide +kernel
theorem dX12_judge_18 : decode cX12_judge 18 = .ok (.iload_n 2, 1) := by decide +kernel
theorem dX12_judge_19 : decode cX12_judge 19 = .ok (.invokevirtual 410, 3) := by decide +kernel
theorem dX12_judge_22 : decode cX12_judge 22 = .ok (.bipush 9, 2) := by decide +kernel
theorem dX12_judge_24 : decode cX12_judge 24 = .ok (.istore 6, 2) := by decide +kernel
theorem dX12_judge_26 : decode cX12_judge 26 = .ok (.iconst 0, 1) := by decide +kernel
theorem dX12_judge_27 : decode cX12_judge 27 = .ok (.istore 7, 2) := by decide +kernel
theorem dX12_judge_29 : decode cX12_judge 29 = .ok (.iconst 0, 1) := by decide +kernel
theorem dX12_judge_30 : decode cX12_judge 30 = .ok (.istore 8, 2) := by decide +kernel
theorem dX12_judge_32 : decode cX12_judge 32 = .ok (.bipush (-9), 2) := by decide +kernel
theorem dX12_judge_34 : decode cX12_judge 34 = .ok (.istore 9, 2) := by decide +kernel
theorem dX12_judge_36 : decode cX12_judge 36 = .ok (.iconst 0, 1) := by decide +kernel
theorem dX12_judge_37 : decode cX12_judge 37 = .ok (.istore 10, 2) := by decide +kernel
theorem dX12_judge_39 : decode cX12_judge 39 = .ok (.iload 10, 2) := by decide +kernel
theorem dX12_judge_41 : decode cX12_judge 41 = .ok (.bipush 16, 2) := by decide +kernel
theorem dX12_judge_43 : decode cX12_judge 43 = .ok (.if_icmp .ge 181, 3) := by decide +kernel
theorem dX12_judge_46 : decode cX12_judge 46 = .ok (.lload_n 3, 1) := by decide +kernel
theorem dX12_judge_47 : decode cX12_judge 47 = .ok (.iconst 4, 1) := by decide +kernel
theorem dX12_judge_48 : decode cX12_judge 48 = .ok (.iload 10, 2) := by decide +kernel
theorem dX12_judge_50 : decode cX12_judge 50 = .ok (.imul, 1) := by decide +kernel
theorem dX12_judge_51 : decode cX12_judge 51 = .ok (.lshr, 1) := by decide +kernel
theorem dX12_judge_52 : decode cX12_judge 52 = .ok (.ldc2_w 284, 3) := by decide +kernel
theorem dX12_judge_55 : decode cX12_judge 55 = .ok (.land, 1) := by decide +kernel
theorem dX12_judge_56 : decode cX12_judge 56 = .ok (.lconst 0, 1) := by decide +kernel
theorem dX12_judge_57 : decode cX12_judge 57 = .ok (.lcmp, 1) := by decide +kernel
theorem dX12_judge_58 : decode cX12_judge 58 = .ok (.ifCond .eq 166, 3) := by decide +kernel
theorem dX12_judge_61 : decode cX12_judge 61 = .ok (.lload_n 3, 1) := by decide +kernel
theorem dX12_judge_62 : decode cX12_judge 62 = .ok (.iconst 4, 1) := by decide +kernel
theorem dX12_judge_63 : decode cX12_judge 63 = .ok (.iload 10, 2) := by decide +kernel
theorem dX12_judge_65 : decode cX12_judge 65 = .ok (.imul, 1) := by decide +kernel
theorem dX12_judge_66 : decode cX12_judge 66 = .ok (.lshr, 1) := by decide +kernel
theorem dX12_judge_67 : decode cX12_judge 67 = .ok (.ldc2_w 284, 3) := by decide +kernel
theorem dX12_judge_70 : decode cX12_judge 70 = .ok (.land, 1) := by decide +kernel
theorem dX12_judge_71 : decode cX12_judge 71 = .ok (.l2i, 1) := by decide +kernel
theorem dX12_judge_72 : decode cX12_judge 72 = .ok (.iconst 1, 1) := by decide +kernel
theorem dX12_judge_73 : decode cX12_judge 73 = .ok (.isub, 1) := by decide +kernel
theorem dX12_judge_74 : decode cX12_judge 74 = .ok (.istore 11, 2) := by decide +kernel
theorem dX12_judge_76 : decode cX12_judge 76 = .ok (.aload_n 0, 1) := by decide +kernel
theorem dX12_judge_77 : decode cX12_judge 77 = .ok (.iload 11, 2) := by decide +kernel
theorem dX12_judge_79 : decode cX12_judge 79 = .ok (.invokevirtual 316, 3) := by decide +kernel
theorem dX12_judge_82 : decode cX12_judge 82 = .ok (.ifCond .eq 14, 3) := by decide +kernel
theorem dX12_judge_85 : decode cX12_judge 85 = .ok (.iload 7, 2) := by decide +kernel
theorem dX12_judge_87 : decode cX12_judge 87 = .ok (.iload 11, 2) := by decide +kernel
theorem dX12_judge_89 : decode cX12_judge 89 = .ok (.ishr, 1) := by decide +kernel
theorem dX12_judge_90 : decode cX12_judge 90 = .ok (.iconst 1, 1) := by decide +kernel
theorem dX12_judge_91 : decode cX12_judge 91 = .ok (.iand, 1) := by decide +kernel
theorem dX12_judge_92 : decode cX12_judge 92 = .ok (.iconst 1, 1) := by decide +kernel
theorem dX12_judge_93 : decode cX12_judge 93 = .ok (.if_icmp .ne 7, 3) := by decide +kernel
theorem dX12_judge_96 : decode cX12_judge 96 = .ok (.iconst 1, 1) := by decide +kernel
theorem dX12_judge_97 : decode cX12_judge 97 = .ok (.goto 32, 3) := by decide +kernel
theorem dX12_judge_100 : decode cX12_judge 100 = .ok (.aload_n 0, 1) := by decide +kernel
theorem dX12_judge_101 : decode cX12_judge 101 = .ok (.iload 11, 2) := by decide +kernel
theorem dX12_judge_103 : decode cX12_judge 103 = .ok (.invokevirtual 329, 3) := by decide +kernel
theorem dX12_judge_106 : decode cX12_judge 106 = .ok (.ifCond .ne 7, 3) := by decide +kernel
theorem dX12_judge_109 : decode cX12_judge 109 = .ok (.iconst 2, 1) := by decide +kernel
theorem dX12_judge_110 : decode cX12_judge 110 = .ok (.goto 19, 3) := by decide +kernel
theorem dX12_judge_113 : decode cX12_judge 113 = .ok (.aload_n 0, 1) := by decide +kernel
theorem dX12_judge_114 : decode cX12_judge 114 = .ok (.getfield 162, 3) := by decide +kernel
theorem dX12_judge_117 : decode cX12_judge 117 = .ok (.iload 11, 2) := by decide +kernel
theorem dX12_judge_119 : decode cX12_judge 119 = .ok (.baload, 1) := by decide +kernel
theorem dX12_judge_120 : decode cX12_judge 120 = .ok (.ifCond .ne 7, 3) := by decide +kernel
theorem dX12_judge_123 : decode cX12_judge 123 = .ok (.iconst 3, 1) := by decide +kernel
theorem dX12_judge_124 : decode cX12_judge 124 = .ok (.goto 5, 3) := by decide +kernel
theorem dX12_judge_127 : decode cX12_judge 127 = .ok (.bipush 9, 2) := by decide +kernel
theorem dX12_judge_129 : decode cX12_judge 129 = .ok (.istore 12, 2) := by decide +kernel
theorem dX12_judge_131 : decode cX12_judge 131 = .ok (.iload 12, 2) := by decide +kernel
theorem dX12_judge_133 : decode cX12_judge 133 = .ok (.iload 6, 2) := by decide +kernel
theorem dX12_judge_135 : decode cX12_judge 135 = .ok (.if_icmp .ge 8, 3) := by decide +kernel
theorem dX12_judge_138 : decode cX12_judge 138 = .ok (.iload 12, 2) := by decide +kernel
theorem dX12_judge_140 : decode cX12_judge 140 = .ok (.goto 5, 3) := by decide +kernel
theorem dX12_judge_143 : decode cX12_judge 143 = .ok (.iload 6, 2) := by decide +kernel
theorem dX12_judge_145 : decode cX12_judge 145 = .ok (.istore 6, 2) := by decide +kernel
theorem dX12_judge_147 : decode cX12_judge 147 = .ok (.aload_n 0, 1) := by decide +kernel
theorem dX12_judge_148 : decode cX12_judge 148 = .ok (.iload 11, 2) := by decide +kernel
theorem dX12_judge_150 : decode cX12_judge 150 = .ok (.invokevirtual 316, 3) := by decide +kernel
theorem dX12_judge_153 : decode cX12_judge 153 = .ok (.ifCond .eq 65, 3) := by decide +kernel
theorem dX12_judge_156 : decode cX12_judge 156 = .ok (.iload 9, 2) := by decide +kernel
theorem dX12_judge_158 : decode cX12_judge 158 = .ok (.bipush (-9), 2) := by decide +kernel
theorem dX12_judge_160 : decode cX12_judge 160 = .ok (.if_icmp .eq 29, 3) := by decide +kernel
theorem dX12_judge_163 : decode cX12_judge 163 = .ok (.aload_n 0, 1) := by decide +kernel
theorem dX12_judge_164 : decode cX12_judge 164 = .ok (.getfield 156, 3) := by decide +kernel
theorem dX12_judge_167 : decode cX12_judge 167 = .ok (.bipush 8, 2) := by decide +kernel
theorem dX12_judge_169 : decode cX12_judge 169 = .ok (.iload 9, 2) := by decide +kernel
theorem dX12_judge_171 : decode cX12_judge 171 = .ok (.imul, 1) := by decide +kernel
theorem dX12_judge_172 : decode cX12_judge 172 = .ok (.iload 11, 2) := by decide +kernel
theorem dX12_judge_174 : decode cX12_judge 174 = .ok (.iadd, 1) := by decide +kernel
theorem dX12_judge_175 : decode cX12_judge 175 = .ok (.baload, 1) := by decide +kernel
theorem dX12_judge_176 : decode cX12_judge 176 = .ok (.ifCond .eq 13, 3) := by decide +kernel
theorem dX12_judge_179 : decode cX12_judge 179 = .ok (.iload 6, 2) := by decide +kernel
theorem dX12_judge_181 : decode cX12_judge 181 = .ok (.iconst 4, 1) := by decide +kernel
theorem dX12_judge_182 : decode cX12_judge 182 = .ok (.if_icmp .le 7, 3) := by decide +kernel
theorem dX12_judge_185 : decode cX12_judge 185 = .ok (.iconst 4, 1) := by decide +kernel
theorem dX12_judge_186 : decode cX12_judge 186 = .ok (.goto 5, 3) := by decide +kernel
theorem dX12_judge_189 : decode cX12_judge 189 = .ok (.iload 6, 2) := by decide +kernel
theorem dX12_judge_191 : decode cX12_judge 191 = .ok (.istore 6, 2) := by decide +kernel
theorem dX12_judge_193 : decode cX12_judge 193 = .ok (.iload 7, 2) := by decide +kernel
theorem dX12_judge_195 : decode cX12_judge 195 = .ok (.iconst 1, 1) := by decide +kernel
theorem dX12_judge_196 : decode cX12_judge 196 = .ok (.iload 11, 2) := by decide +kernel
theorem dX12_judge_198 : decode cX12_judge 198 = .ok (.ishl, 1) := by decide +kernel
theorem dX12_judge_199 : decode cX12_judge 199 = .ok (.ior, 1) := by decide +kernel
theorem dX12_judge_200 : decode cX12_judge 200 = .ok (.istore 7, 2) := by decide +kernel
theorem dX12_judge_202 : decode cX12_judge 202 = .ok (.iload 8, 2) := by decide +kernel
theorem dX12_judge_204 : decode cX12_judge 204 = .ok (.aload_n 0, 1) := by decide +kernel
theorem dX12_judge_205 : decode cX12_judge 205 = .ok (.getfield 165, 3) := by decide +kernel
theorem dX12_judge_208 : decode cX12_judge 208 = .ok (.iload 11, 2) := by decide +kernel
theorem dX12_judge_210 : decode cX12_judge 210 = .ok (.iaload, 1) := by decide +kernel
theorem dX12_judge_211 : decode cX12_judge 211 = .ok (.iadd, 1) := by decide +kernel
theorem dX12_judge_212 : decode cX12_judge 212 = .ok (.istore 8, 2) := by decide +kernel
theorem dX12_judge_214 : decode cX12_judge 214 = .ok (.iload 11, 2) := by decide +kernel
theorem dX12_judge_216 : decode cX12_judge 216 = .ok (.istore 9, 2) := by decide +kernel
theorem dX12_judge_218 : decode cX12_judge 218 = .ok (.iinc 10 1, 3) := by decide +kernel
theorem dX12_judge_221 : decode cX12_judge 221 = .ok (.goto (-182), 3) := by decide +kernel
theorem dX12_judge_224 : decode cX12_judge 224 = .ok (.iload 6, 2) := by decide +kernel
theorem dX12_judge_226 : decode cX12_judge 226 = .ok (.iconst 5, 1) := by decide +kernel
theorem dX12_judge_227 : decode cX12_judge 227 = .ok (.if_icmp .le 26, 3) := by decide +kernel
theorem dX12_judge_230 : decode cX12_judge 230 = .ok (.iload 8, 2) := by decide +kernel
theorem dX12_judge_232 : decode cX12_judge 232 = .ok (.i2l, 1) := by decide +kernel
theorem dX12_judge_233 : decode cX12_judge 233 = .ok (.aload_n 0, 1) := by decide +kernel
theorem dX12_judge_234 : decode cX12_judge 234 = .ok (.getfield 150, 3) := by decide +kernel
theorem dX12_judge_237 : decode cX12_judge 237 = .ok (.i2l, 1) := by decide +kernel
theorem dX12_judge_238 : decode cX12_judge 238 = .ok (.aload_n 0, 1) := by decide +kernel
theorem dX12_judge_239 : decode cX12_judge 239 = .ok (.getfield 153, 3) := by decide +kernel
theorem dX12_judge_242 : decode cX12_judge 242 = .ok (.i2l, 1) := by decide +kernel
theorem dX12_judge_243 : decode cX12_judge 243 = .ok (.invokestatic 245, 3) := by decide +kernel
theorem dX12_judge_246 : decode cX12_judge 246 = .ok (.ifCond .ne 7, 3) := by decide +kernel
theorem dX12_judge_249 : decode cX12_judge 249 = .ok (.iconst 5, 1) := by decide +kernel
theorem dX12_judge_250 : decode cX12_judge 250 = .ok (.goto 5, 3) := by decide +kernel
theorem dX12_judge_253 : decode cX12_judge 253 = .ok (.iload 6, 2) := by decide +kernel
theorem dX12_judge_255 : decode cX12_judge 255 = .ok (.istore 6, 2) := by decide +kernel
theorem dX12_judge_257 : decode cX12_judge 257 = .ok (.iload 6, 2) := by decide +kernel
theorem dX12_judge_259 : decode cX12_judge 259 = .ok (.bipush 6, 2) := by decide +kernel
theorem dX12_judge_261 : decode cX12_judge 261 = .ok (.if_icmp .le 22, 3) := by decide +kernel
theorem dX12_judge_264 : decode cX12_judge 264 = .ok (.iload 7, 2) := by decide +kernel
theorem dX12_judge_266 : decode cX12_judge 266 = .ok (.aload_n 0, 1) := by decide +kernel
theorem dX12_judge_267 : decode cX12_judge 267 = .ok (.getfield 407, 3) := by decide +kernel
theorem dX12_judge_270 : decode cX12_judge 270 = .ok (.iand, 1) := by decide +kernel
theorem dX12_judge_271 : decode cX12_judge 271 = .ok (.aload_n 0, 1) := by decide +kernel
theorem dX12_judge_272 : decode cX12_judge 272 = .ok (.getfield 407, 3) := by decide +kernel
theorem dX12_judge_275 : decode cX12_judge 275 = .ok (.if_icmp .eq 8, 3) := by decide +kernel
theorem dX12_judge_278 : decode cX12_judge 278 = .ok (.bipush 6, 2) := by decide +kernel
theorem dX12_judge_280 : decode cX12_judge 280 = .ok (.goto 5, 3) := by decide +kernel
theorem dX12_judge_283 : decode cX12_judge 283 = .ok (.iload 6, 2) := by decide +kernel
theorem dX12_judge_285 : decode cX12_judge 285 = .ok (.istore 6, 2) := by decide +kernel
theorem dX12_judge_287 : decode cX12_judge 287 = .ok (.iload 6, 2) := by decide +kernel
theorem dX12_judge_289 : decode cX12_judge 289 = .ok (.bipush 9, 2) := by decide +kernel
theorem dX12_judge_291 : decode cX12_judge 291 = .ok (.if_icmp .ne 7, 3) := by decide +kernel
theorem dX12_judge_294 : decode cX12_judge 294 = .ok (.iconst 0, 1) := by decide +kernel
theorem dX12_judge_295 : decode cX12_judge 295 = .ok (.goto 5, 3) := by decide +kernel
theorem dX12_judge_298 : decode cX12_judge 298 = .ok (.iload 6, 2) := by decide +kernel
theorem dX12_judge_300 : decode cX12_judge 300 = .ok (.ireturn, 1) := by decide +kernel
theorem dX12_show_0 : decode cX12_show 0 = .ok (.aload_n 0, 1) := by decide +kernel
theorem dX12_show_1 : decode cX12_show 1 = .ok (.iload_n 1, 1) := by decide +kernel
theorem dX12_show_2 : decode cX12_show 2 = .ok (.iload_n 2, 1) := by decide +kernel
theorem dX12_show_3 : decode cX12_show 3 = .ok (.invokevirtual 428, 3) := by decide +kernel
theorem dX12_show_6 : decode cX12_show 6 = .ok (.istore_n 3, 1) := by decide +kernel
theorem dX12_show_7 : decode cX12_show 7 = .ok (.iload_n 3, 1) := by decide +kernel
theorem dX12_show_8 : decode cX12_show 8 = .ok (.ifCond .ge 5, 3) := by decide +kernel
theorem dX12_show_11 : decode cX12_show 11 = .ok (.iload_n 3, 1) := by decide +kernel
theorem dX12_show_12 : decode cX12_show 12 = .ok (.ireturn, 1) := by decide +kernel
theorem dX12_show_13 : decode cX12_show 13 = .ok (.aload_n 0, 1) := by decide +kernel
theorem dX12_show_14 : decode cX12_show 14 = .ok (.iload_n 1, 1) := by decide +kernel
theorem dX12_show_15 : decode cX12_show 15 = .ok (.iload_n 2, 1) := by decide +kernel
theorem dX12_show_16 : decode cX12_show 16 = .ok (.invokevirtual 431, 3) := by decide +kernel
theorem dX12_show_19 : decode cX12_show 19 = .ok (.aload_n 0, 1) := by decide +kernel
theorem dX12_show_20 : decode cX12_show 20 = .ok (.getfield 414, 3) := by decide +kernel
theorem dX12_show_23 : decode cX12_show 23 = .ok (.bipush (-9), 2) := by decide +kernel
theorem dX12_show_25 : decode cX12_show 25 = .ok (.if_icmp .ne 6, 3) := by decide +kernel
theorem dX12_show_28 : decode cX12_show 28 = .ok (.bipush (-3), 2) := by decide +kernel
theorem dX12_show_30 : decode cX12_show 30 = .ok (.ireturn, 1) := by decide +kernel
theorem dX12_show_31 : decode cX12_show 31 = .ok (.iconst 0, 1) := by decide +kernel
theorem dX12_show_32 : decode cX12_show 32 = .ok (.istore 4, 2) := by decide +kernel
theorem dX12_show_34 : decode cX12_show 34 = .ok (.iconst 0, 1) := by decide +kernel
theorem dX12_show_35 : decode cX12_show 35 = .ok (.istore 5, 2) := by decide +kernel
theorem dX12_show_37 : decode cX12_show 37 = .ok (.iload 5, 2) := by decide +kernel
theorem dX12_show_39 : decode cX12_show 39 = .ok (.aload_n 0, 1) := by decide +kernel
theorem dX12_show_40 : decode cX12_show 40 = .ok (.getfield 417, 3) := by decide +kernel
theorem dX12_show_43 : decode cX12_show 43 = .ok (.if_icmp .ge 69, 3) := by decide +kernel
theorem dX12_show_46 : decode cX12_show 46 = .ok (.aload_n 0, 1) := by decide +kernel
theorem dX12_show_47 : decode cX12_show 47 = .ok (.getfield 80, 3) := by decide +kernel
theorem dX12_show_50 : decode cX12_show 50 = .ok (.aload_n 0, 1) := by decide +kernel
theorem dX12_show_51 : decode cX12_show 51 = .ok (.getfield 174, 3) := by decide +kernel
theorem dX12_show_54 : decode cX12_show 54 = .ok (.iload 5, 2) := by decide +kernel
theorem dX12_show_56 : decode cX12_show 56 = .ok (.iaload, 1) := by decide +kernel
theorem dX12_show_57 : decode cX12_show 57 = .ok (.iaload, 1) := by decide +kernel
theorem dX12_show_58 : decode cX12_show 58 = .ok (.istore 6, 2) := by decide +kernel
theorem dX12_show_60 : decode cX12_show 60 = .ok (.aload_n 0, 1) := by decide +kernel
theorem dX12_show_61 : decode cX12_show 61 = .ok (.getfield 132, 3) := by decide +kernel
theorem dX12_show_64 : decode cX12_show 64 = .ok (.iload 6, 2) := by decide +kernel
theorem dX12_show_66 : decode cX12_show 66 = .ok (.baload, 1) := by decide +kernel
theorem dX12_show_67 : decode cX12_show 67 = .ok (.ifCond .eq 14, 3) := by decide +kernel
theorem dX12_show_70 : decode cX12_show 70 = .ok (.aload_n 0, 1) := by decide +kernel
theorem dX12_show_71 : decode cX12_show 71 = .ok (.iload 6, 2) := by decide +kernel
theorem dX12_show_73 : decode cX12_show 73 = .ok (.iload_n 1, 1) := by decide +kernel
theorem dX12_show_74 : decode cX12_show 74 = .ok (.iload_n 2, 1) := by decide +kernel
theorem dX12_show_75 : decode cX12_show 75 = .ok (.invokevirtual 400, 3) := by decide +kernel
theorem dX12_show_78 : decode cX12_show 78 = .ok (.goto 5, 3) := by decide +kernel
theorem dX12_show_81 : decode cX12_show 81 = .ok (.bipush (-9), 2) := by decide +kernel
theorem dX12_show_83 : decode cX12_show 83 = .ok (.istore 7, 2) := by decide +kernel
theorem dX12_show_85 : decode cX12_show 85 = .ok (.iload 7, 2) := by decide +kernel
theorem dX12_show_87 : decode cX12_show 87 = .ok (.bipush (-9), 2) := by decide +kernel
theorem dX12_show_89 : decode cX12_show 89 = .ok (.if_icmp .eq 17, 3) := by decide +kernel
theorem dX12_show_92 : decode cX12_show 92 = .ok (.aload_n 0, 1) := by decide +kernel
theorem dX12_show_93 : decode cX12_show 93 = .ok (.getfield 147, 3) := by decide +kernel
theorem dX12_show_96 : decode cX12_show 96 = .ok (.iload 7, 2) := by decide +kernel
theorem dX12_show_98 : decode cX12_show 98 = .ok (.dup2, 1) := by decide +kernel
theorem dX12_show_99 : decode cX12_show 99 = .ok (.iaload, 1) := by decide +kernel
theorem dX12_show_100 : decode cX12_show 100 = .ok (.iconst 1, 1) := by decide +kernel
theorem dX12_show_101 : decode cX12_show 101 = .ok (.isub, 1) := by decide +kernel
theorem dX12_show_102 : decode cX12_show 102 = .ok (.iastore, 1) := by decide +kernel
theorem dX12_show_103 : decode cX12_show 103 = .ok (.iinc 4 1, 3) := by decide +kernel
theorem dX12_show_106 : decode cX12_show 106 = .ok (.iinc 5 1, 3) := by decide +kernel
theorem dX12_show_109 : decode cX12_show 109 = .ok (.goto (-72), 3) := by decide +kernel
theorem dX12_show_112 : decode cX12_show 112 = .ok (.iload 4, 2) := by decide +kernel
theorem dX12_show_114 : decode cX12_show 114 = .ok (.ireturn, 1) := by decide +kernel
theorem dX12_man_0 : decode cX12_man 0 = .ok (.iload_n 1, 1) := by decide +kernel
theorem dX12_man_1 : decode cX12_man 1 = .ok (.i2l, 1) := by decide +kernel
theorem dX12_man_2 : decode cX12_man 2 = .ok (.lconst 0, 1) := by decide +kernel
theorem dX12_man_3 : decode cX12_man 3 = .ok (.ldc2_w 434, 3) := by decide +kernel
theorem dX12_man_6 : decode cX12_man 6 = .ok (.invokestatic 245, 3) := by decide +kernel
theorem dX12_man_9 : decode cX12_man 9 = .ok (.ifCond .eq 10, 3) := by decide +kernel
theorem dX12_man_12 : decode cX12_man 12 = .ok (.iload_n 2, 1) := by decide +kernel
theorem dX12_man_13 : decode cX12_man 13 = .ok (.invokestatic 258, 3) := by decide +kernel
theorem dX12_man_16 : decode cX12_man 16 = .ok (.ifCond .ne 5, 3) := by decide +kernel
theorem dX12_man_19 : decode cX12_man 19 = .ok (.iconst (-1), 1) := by decide +kernel
theorem dX12_man_20 : decode cX12_man 20 = .ok (.ireturn, 1) := by decide +kernel
theorem dX12_man_21 : decode cX12_man 21 = .ok (.iload_n 3, 1) := by decide +kernel
theorem dX12_man_22 : decode cX12_man 22 = .ok (.invokestatic 262, 3) := by decide +kernel
theorem dX12_man_25 : decode cX12_man 25 = .ok (.ifCond .ne 6, 3) := by decide +kernel
theorem dX12_man_28 : decode cX12_man 28 = .ok (.bipush (-2), 2) := by decide +kernel
theorem dX12_man_30 : decode cX12_man 30 = .ok (.ireturn, 1) := by decide +kernel
theorem dX12_man_31 : decode cX12_man 31 = .ok (.aload_n 0, 1) := by decide +kernel
theorem dX12_man_32 : decode cX12_man 32 = .ok (.getfield 177, 3) := by decide +kernel
theorem dX12_man_35 : decode cX12_man 35 = .ok (.iload_n 1, 1) := by decide +kernel
theorem dX12_man_36 : decode cX12_man 36 = .ok (.iload_n 2, 1) := by decide +kernel
theorem dX12_man_37 : decode cX12_man 37 = .ok (.iastore, 1) := by decide +kernel
theorem dX12_man_38 : decode cX12_man 38 = .ok (.aload_n 0, 1) := by decide +kernel
theorem dX12_man_39 : decode cX12_man 39 = .ok (.getfield 180, 3) := by decide +kernel
theorem dX12_man_42 : decode cX12_man 42 = .ok (.iload_n 1, 1) := by decide +kernel
theorem dX12_man_43 : decode cX12_man 43 = .ok (.iload_n 3, 1) := by decide +kernel
theorem dX12_man_44 : decode cX12_man 44 = .ok (.iastore, 1) := by decide +kernel
theorem dX12_man_45 : decode cX12_man 45 = .ok (.iconst 1, 1) := by decide +kernel
theorem dX12_man_46 : decode cX12_man 46 = .ok (.ireturn, 1) := by decide +kernel
theorem dX12_event_0 : decode cX12_event 0 = .ok (.iload_n 1, 1) := by decide +kernel
theorem dX12_event_1 : decode cX12_event 1 = .ok (.invokestatic 258, 3) := by decide +kernel
theorem dX12_event_4 : decode cX12_event 4 = .ok (.ifCond .ne 5, 3) := by decide +kernel
theorem dX12_event_7 : decode cX12_event 7 = .ok (.iconst (-1), 1) := by decide +kernel
theorem dX12_event_8 : decode cX12_event 8 = .ok (.ireturn, 1) := by decide +kernel
theorem dX12_event_9 : decode cX12_event 9 = .ok (.iload_n 2, 1) := by decide +kernel
theorem dX12_event_10 : decode cX12_event 10 = .ok (.invokestatic 262, 3) := by decide +kernel
theorem dX12_event_13 : decode cX12_event 13 = .ok (.ifCond .eq 15, 3) := by decide +kernel
theorem dX12_event_16 : decode cX12_event 16 = .ok (.iload_n 3, 1) := by decide +kernel
theorem dX12_event_17 : decode cX12_event 17 = .ok (.i2l, 1) := by decide +kernel
theorem dX12_event_18 : decode cX12_event 18 = .ok (.lconst 1, 1) := by decide +kernel
theorem dX12_event_19 : decode cX12_event 19 = .ok (.ldc2_w 314, 3) := by decide +kernel
theorem dX12_event_22 : decode cX12_event 22 = .ok (.invokestatic 245, 3) := by decide +kernel
theorem dX12_event_25 : decode cX12_event 25 = .ok (.ifCond .ne 6, 3) := by decide +kernel
theorem dX12_event_28 : decode cX12_event 28 = .ok (.bipush (-2), 2) := by decide +kernel
theorem dX12_event_30 : decode cX12_event 30 = .ok (.ireturn, 1) := by decide +kernel
theorem dX12_event_31 : decode cX12_event 31 = .ok (.aload_n 0, 1) := by decide +kernel
theorem dX12_event_32 : decode cX12_event 32 = .ok (.getfield 436, 3) := by decide +kernel
theorem dX12_event_35 : decode cX12_event 35 = .ok (.bipush 8, 2) := by decide +kernel
theorem dX12_event_37 : decode cX12_event 37 = .ok (.if_icmp .ne 6, 3) := by decide +kernel
theorem dX12_event_40 : decode cX12_event 40 = .ok (.bipush (-4), 2) := by decide +kernel
theorem dX12_event_42 : decode cX12_event 42 = .ok (.ireturn, 1) := by decide +kernel
theorem dX12_event_43 : decode cX12_event 43 = .ok (.aload_n 0, 1) := by decide +kernel
theorem dX12_event_44 : decode cX12_event 44 = .ok (.getfield 183, 3) := by decide +kernel
theorem dX12_event_47 : decode cX12_event 47 = .ok (.aload_n 0, 1) := by decide +kernel
theorem dX12_event_48 : decode cX12_event 48 = .ok (.getfield 436, 3) := by decide +kernel
theorem dX12_event_51 : decode cX12_event 51 = .ok (.iload_n 1, 1) := by decide +kernel
theorem dX12_event_52 : decode cX12_event 52 = .ok (.iastore, 1) := by decide +kernel
theorem dX12_event_53 : decode cX12_event 53 = .ok (.aload_n 0, 1) := by decide +kernel
theorem dX12_event_54 : decode cX12_event 54 = .ok (.getfield 186, 3) := by decide +kernel
theorem dX12_event_57 : decode cX12_event 57 = .ok (.aload_n 0, 1) := by decide +kernel
theorem dX12_event_58 : decode cX12_event 58 = .ok (.getfield 436, 3) := by decide +kernel
theorem dX12_event_61 : decode cX12_event 61 = .ok (.iload_n 2, 1) := by decide +kernel
theorem dX12_event_62 : decode cX12_event 62 = .ok (.iastore, 1) := by decide +kernel
theorem dX12_event_63 : decode cX12_event 63 = .ok (.aload_n 0, 1) := by decide +kernel
theorem dX12_event_64 : decode cX12_event 64 = .ok (.getfield 189, 3) := by decide +kernel
theorem dX12_event_67 : decode cX12_event 67 = .ok (.aload_n 0, 1) := by decide +kernel
theorem dX12_event_68 : decode cX12_event 68 = .ok (.getfield 436, 3) := by decide +kernel
theorem dX12_event_71 : decode cX12_event 71 = .ok (.iload_n 3, 1) := by decide +kernel
theorem dX12_event_72 : decode cX12_event 72 = .ok (.iastore, 1) := by decide +kernel
theorem dX12_event_73 : decode cX12_event 73 = .ok (.aload_n 0, 1) := by decide +kernel
theorem dX12_event_74 : decode cX12_event 74 = .ok (.dup, 1) := by decide +kernel
theorem dX12_event_75 : decode cX12_event 75 = .ok (.getfield 436, 3) := by decide +kernel
theorem dX12_event_78 : decode cX12_event 78 = .ok (.iconst 1, 1) := by decide +kernel
theorem dX12_event_79 : decode cX12_event 79 = .ok (.iadd, 1) := by decide +kernel
theorem dX12_event_80 : decode cX12_event 80 = .ok (.putfield 436, 3) := by decide +kernel
theorem dX12_event_83 : decode cX12_event 83 = .ok (.aload_n 0, 1) := by decide +kernel
theorem dX12_event_84 : decode cX12_event 84 = .ok (.getfield 436, 3) := by decide +kernel
theorem dX12_event_87 : decode cX12_event 87 = .ok (.iconst 1, 1) := by decide +kernel
theorem dX12_event_88 : decode cX12_event 88 = .ok (.isub, 1) := by decide +kernel
theorem dX12_event_89 : decode cX12_event 89 = .ok (.ireturn, 1) := by decide +kernel
theorem dX12_layOrder_0 : decode cX12_layOrder 0 = .ok (.iconst 0, 1) := by decide +kernel
theorem dX12_layOrder_1 : decode cX12_layOrder 1 = .ok (.istore_n 1, 1) := by decide +kernel
theorem dX12_layOrder_2 : decode cX12_layOrder 2 = .ok (.iload_n 1, 1) := by decide +kernel
theorem dX12_layOrder_3 : decode cX12_layOrder 3 = .ok (.aload_n 0, 1) := by decide +kernel
theorem dX12_layOrder_4 : decode cX12_layOrder 4 = .ok (.getfield 436, 3) := by decide +kernel
theorem dX12_layOrder_7 : decode cX12_layOrder 7 = .ok (.if_icmp .ge 64, 3) := by decide +kernel
theorem dX12_layOrder_10 : decode cX12_layOrder 10 = .ok (.iload_n 1, 1) := by decide +kernel
theorem dX12_layOrder_11 : decode cX12_layOrder 11 = .ok (.istore_n 2, 1) := by decide +kernel
theorem dX12_layOrder_12 : decode cX12_layOrder 12 = .ok (.iload_n 2, 1) := by decide +kernel
theorem dX12_layOrder_13 : decode cX12_layOrder 13 = .ok (.ifCond .le 45, 3) := by decide +kernel
theorem dX12_layOrder_16 : decode cX12_layOrder 16 = .ok (.aload_n 0, 1) := by decide +kernel
theorem dX12_layOrder_17 : decode cX12_layOrder 17 = .ok (.getfield 186, 3) := by decide +kernel
theorem dX12_layOrder_20 : decode cX12_layOrder 20 = .ok (.aload_n 0, 1) := by decide +kernel
theorem dX12_layOrder_21 : decode cX12_layOrder 21 = .ok (.getfield 201, 3) := by decide +kernel
theorem dX12_layOrder_24 : decode cX12_layOrder 24 = .ok (.iload_n 2, 1) := by decide +kernel
theorem dX12_layOrder_25 : decode cX12_layOrder 25 = .ok (.iconst 1, 1) := by decide +kernel
theorem dX12_layOrder_26 : decode cX12_layOrder 26 = .ok (.isub, 1) := by decide +kernel
theorem dX12_layOrder_27 : decode cX12_layOrder 27 = .ok (.iaload, 1) := by decide +kernel
theorem dX12_layOrder_28 : decode cX12_layOrder 28 = .ok (.iaload, 1) := by decide +kernel
theorem dX12_layOrder_29 : decode cX12_layOrder 29 = .ok (.aload_n 0, 1) := by decide +kernel
theorem dX12_layOrder_30 : decode cX12_layOrder 30 = .ok (.getfield 186, 3) := by decide +kernel
theorem dX12_layOrder_33 : decode cX12_layOrder 33 = .ok (.iload_n 1, 1) := by decide +kernel
theorem dX12_layOrder_34 : decode cX12_layOrder 34 = .ok (.iaload, 1) := by decide +kernel
theorem dX12_layOrder_35 : decode cX12_layOrder 35 = .ok (.if_icmp .le 23, 3) := by decide +kernel
theorem dX12_layOrder_38 : decode cX12_layOrder 38 = .ok (.aload_n 0, 1) := by decide +kernel
theorem dX12_layOrder_39 : decode cX12_layOrder 39 = .ok (.getfield 201, 3) := by decide +kernel
theorem dX12_layOrder_42 : decode cX12_layOrder 42 = .ok (.iload_n 2, 1) := by decide +kernel
theorem dX12_layOrder_43 : decode cX12_layOrder 43 = .ok (.aload_n 0, 1) := by decide +kernel
theorem dX12_layOrder_44 : decode cX12_layOrder 44 = .ok (.getfield 201, 3) := by decide +kernel
theorem dX12_layOrder_47 : decode cX12_layOrder 47 = .ok (.iload_n 2, 1) := by decide +kernel
theorem dX12_layOrder_48 : decode cX12_layOrder 48 = .ok (.iconst 1, 1) := by decide +kernel
theorem dX12_layOrder_49 : decode cX12_layOrder 49 = .ok (.isub, 1) := by decide +kernel
theorem dX12_layOrder_50 : decode cX12_layOrder 50 = .ok (.iaload, 1) := by decide +kernel
theorem dX12_layOrder_51 : decode cX12_layOrder 51 = .ok (.iastore, 1) := by decide +kernel
theorem dX12_layOrder_52 : decode cX12_layOrder 52 = .ok (.iinc 2 (-1), 3) := by decide +kernel
theorem dX12_layOrder_55 : decode cX12_layOrder 55 = .ok (.goto (-43), 3) := by decide +kernel
theorem dX12_layOrder_58 : decode cX12_layOrder 58 = .ok (.aload_n 0, 1) := by decide +kernel
theorem dX12_layOrder_59 : decode cX12_layOrder 59 = .ok (.getfield 201, 3) := by decide +kernel
theorem dX12_layOrder_62 : decode cX12_layOrder 62 = .ok (.iload_n 2, 1) := by decide +kernel
theorem dX12_layOrder_63 : decode cX12_layOrder 63 = .ok (.iload_n 1, 1) := by decide +kernel
theorem dX12_layOrder_64 : decode cX12_layOrder 64 = .ok (.iastore, 1) := by decide +kernel
theorem dX12_layOrder_65 : decode cX12_layOrder 65 = .ok (.iinc 1 1, 3) := by decide +kernel
theorem dX12_layOrder_68 : decode cX12_layOrder 68 = .ok (.goto (-66), 3) := by decide +kernel
theorem dX12_layOrder_71 : decode cX12_layOrder 71 = .ok (.return_, 1) := by decide +kernel
theorem dX12_layTimes_0 : decode cX12_layTimes 0 = .ok (.iconst 0, 1) := by decide +kernel
theorem dX12_layTimes_1 : decode cX12_layTimes 1 = .ok (.istore_n 1, 1) := by decide +kernel
theorem dX12_layTimes_2 : decode cX12_layTimes 2 = .ok (.iload_n 1, 1) := by decide +kernel
theorem dX12_layTimes_3 : decode cX12_layTimes 3 = .ok (.bipush 12, 2) := by decide +kernel
theorem dX12_layTimes_5 : decode cX12_layTimes 5 = .ok (.if_icmp .ge 189, 3) := by decide +kernel
theorem dX12_layTimes_8 : decode cX12_layTimes 8 = .ok (.iconst 0, 1) := by decide +kernel
theorem dX12_layTimes_9 : decode cX12_layTimes 9 = .ok (.istore_n 2, 1) := by decide +kernel
theorem dX12_layTimes_10 : decode cX12_layTimes 10 = .ok (.iload_n 2, 1) := by decide +kernel
theorem dX12_layTimes_11 : decode cX12_layTimes 11 = .ok (.aload_n 0, 1) := by decide +kernel
theorem dX12_layTimes_12 : decode cX12_layTimes 12 = .ok (.getfield 436, 3) := by decide +kernel
theorem dX12_layTimes_15 : decode cX12_layTimes 15 = .ok (.if_icmp .ge 173, 3) := by decide +kernel
theorem dX12_layTimes_18 : decode cX12_layTimes 18 = .ok (.iload_n 1, 1) := by decide +kernel
theorem dX12_layTimes_19 : decode cX12_layTimes 19 = .ok (.bipush 8, 2) := by decide +kernel
theorem dX12_layTimes_21 : decode cX12_layTimes 21 = .ok (.if_icmp .lt 7, 3) := by decide +kernel
theorem dX12_layTimes_24 : decode cX12_layTimes 24 = .ok (.iconst 1, 1) := by decide +kernel
theorem dX12_layTimes_25 : decode cX12_layTimes 25 = .ok (.goto 4, 3) := by decide +kernel
theorem dX12_layTimes_28 : decode cX12_layTimes 28 = .ok (.iconst 0, 1) := by decide +kernel
theorem dX12_layTimes_29 : decode cX12_layTimes 29 = .ok (.istore_n 3, 1) := by decide +kernel
theorem dX12_layTimes_30 : decode cX12_layTimes 30 = .ok (.iload_n 3, 1) := by decide +kernel
theorem dX12_layTimes_31 : decode cX12_layTimes 31 = .ok (.ifCond .eq 25, 3) := by decide +kernel
