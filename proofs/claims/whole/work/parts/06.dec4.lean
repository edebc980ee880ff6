theorem dX12_layTimes_34 : decode cX12_layTimes 34 = .ok (.aload_n 0, 1) := by decide +kernel
theorem dX12_layTimes_35 : decode cX12_layTimes 35 = .ok (.getfield 177, 3) := by decide +kernel
theorem dX12_layTimes_38 : decode cX12_layTimes 38 = .ok (.iload_n 1, 1) := by decide +kernel
theorem dX12_layTimes_39 : decode cX12_layTimes 39 = .ok (.bipush 8, 2) := by decide +kernel
theorem dX12_layTimes_41 : decode cX12_layTimes 41 = .ok (.isub, 1) := by decide +kernel
theorem dX12_layTimes_42 : decode cX12_layTimes 42 = .ok (.iaload, 1) := by decide +kernel
theorem dX12_layTimes_43 : decode cX12_layTimes 43 = .ok (.bipush (-9), 2) := by decide +kernel
theorem dX12_layTimes_45 : decode cX12_layTimes 45 = .ok (.if_icmp .eq 7, 3) := by decide +kernel
theorem dX12_layTimes_48 : decode cX12_layTimes 48 = .ok (.iconst 1, 1) := by decide +kernel
theorem dX12_layTimes_49 : decode cX12_layTimes 49 = .ok (.goto 20, 3) := by decide +kernel
theorem dX12_layTimes_52 : decode cX12_layTimes 52 = .ok (.iconst 0, 1) := by decide +kernel
theorem dX12_layTimes_53 : decode cX12_layTimes 53 = .ok (.goto 16, 3) := by decide +kernel
theorem dX12_layTimes_56 : decode cX12_layTimes 56 = .ok (.iload_n 1, 1) := by decide +kernel
theorem dX12_layTimes_57 : decode cX12_layTimes 57 = .ok (.aload_n 0, 1) := by decide +kernel
theorem dX12_layTimes_58 : decode cX12_layTimes 58 = .ok (.getfield 436, 3) := by decide +kernel
theorem dX12_layTimes_61 : decode cX12_layTimes 61 = .ok (.if_icmp .ge 7, 3) := by decide +kernel
theorem dX12_layTimes_64 : decode cX12_layTimes 64 = .ok (.iconst 1, 1) := by decide +kernel
theorem dX12_layTimes_65 : decode cX12_layTimes 65 = .ok (.goto 4, 3) := by decide +kernel
theorem dX12_layTimes_68 : decode cX12_layTimes 68 = .ok (.iconst 0, 1) := by decide +kernel
theorem dX12_layTimes_69 : decode cX12_layTimes 69 = .ok (.istore 4, 2) := by decide +kernel
theorem dX12_layTimes_71 : decode cX12_layTimes 71 = .ok (.iload 4, 2) := by decide +kernel
theorem dX12_layTimes_73 : decode cX12_layTimes 73 = .ok (.ifCond .ne 7, 3) := by decide +kernel
theorem dX12_layTimes_76 : decode cX12_layTimes 76 = .ok (.iconst 0, 1) := by decide +kernel
theorem dX12_layTimes_77 : decode cX12_layTimes 77 = .ok (.goto 25, 3) := by decide +kernel
theorem dX12_layTimes_80 : decode cX12_layTimes 80 = .ok (.iload_n 3, 1) := by decide +kernel
theorem dX12_layTimes_81 : decode cX12_layTimes 81 = .ok (.ifCond .eq 15, 3) := by decide +kernel
theorem dX12_layTimes_84 : decode cX12_layTimes 84 = .ok (.aload_n 0, 1) := by decide +kernel
theorem dX12_layTimes_85 : decode cX12_layTimes 85 = .ok (.getfield 177, 3) := by decide +kernel
theorem dX12_layTimes_88 : decode cX12_layTimes 88 = .ok (.iload_n 1, 1) := by decide +kernel
theorem dX12_layTimes_89 : decode cX12_layTimes 89 = .ok (.bipush 8, 2) := by decide +kernel
theorem dX12_layTimes_91 : decode cX12_layTimes 91 = .ok (.isub, 1) := by decide +kernel
theorem dX12_layTimes_92 : decode cX12_layTimes 92 = .ok (.iaload, 1) := by decide +kernel
theorem dX12_layTimes_93 : decode cX12_layTimes 93 = .ok (.goto 9, 3) := by decide +kernel
theorem dX12_layTimes_96 : decode cX12_layTimes 96 = .ok (.aload_n 0, 1) := by decide +kernel
theorem dX12_layTimes_97 : decode cX12_layTimes 97 = .ok (.getfield 183, 3) := by decide +kernel
theorem dX12_layTimes_100 : decode cX12_layTimes 100 = .ok (.iload_n 1, 1) := by decide +kernel
theorem dX12_layTimes_101 : decode cX12_layTimes 101 = .ok (.iaload, 1) := by decide +kernel
theorem dX12_layTimes_102 : decode cX12_layTimes 102 = .ok (.istore 5, 2) := by decide +kernel
theorem dX12_layTimes_104 : decode cX12_layTimes 104 = .ok (.iload 4, 2) := by decide +kernel
theorem dX12_layTimes_106 : decode cX12_layTimes 106 = .ok (.ifCond .ne 7, 3) := by decide +kernel
theorem dX12_layTimes_109 : decode cX12_layTimes 109 = .ok (.iconst 0, 1) := by decide +kernel
theorem dX12_layTimes_110 : decode cX12_layTimes 110 = .ok (.goto 25, 3) := by decide +kernel
theorem dX12_layTimes_113 : decode cX12_layTimes 113 = .ok (.iload_n 3, 1) := by decide +kernel
theorem dX12_layTimes_114 : decode cX12_layTimes 114 = .ok (.ifCond .eq 15, 3) := by decide +kernel
theorem dX12_layTimes_117 : decode cX12_layTimes 117 = .ok (.aload_n 0, 1) := by decide +kernel
theorem dX12_layTimes_118 : decode cX12_layTimes 118 = .ok (.getfield 180, 3) := by decide +kernel
theorem dX12_layTimes_121 : decode cX12_layTimes 121 = .ok (.iload_n 1, 1) := by decide +kernel
theorem dX12_layTimes_122 : decode cX12_layTimes 122 = .ok (.bipush 8, 2) := by decide +kernel
theorem dX12_layTimes_124 : decode cX12_layTimes 124 = .ok (.isub, 1) := by decide +kernel
theorem dX12_layTimes_125 : decode cX12_layTimes 125 = .ok (.iaload, 1) := by decide +kernel
theorem dX12_layTimes_126 : decode cX12_layTimes 126 = .ok (.goto 9, 3) := by decide +kernel
theorem dX12_layTimes_129 : decode cX12_layTimes 129 = .ok (.aload_n 0, 1) := by decide +kernel
theorem dX12_layTimes_130 : decode cX12_layTimes 130 = .ok (.getfield 186, 3) := by decide +kernel
theorem dX12_layTimes_133 : decode cX12_layTimes 133 = .ok (.iload_n 1, 1) := by decide +kernel
theorem dX12_layTimes_134 : decode cX12_layTimes 134 = .ok (.iaload, 1) := by decide +kernel
theorem dX12_layTimes_135 : decode cX12_layTimes 135 = .ok (.istore 6, 2) := by decide +kernel
theorem dX12_layTimes_137 : decode cX12_layTimes 137 = .ok (.aload_n 0, 1) := by decide +kernel
theorem dX12_layTimes_138 : decode cX12_layTimes 138 = .ok (.getfield 204, 3) := by decide +kernel
theorem dX12_layTimes_141 : decode cX12_layTimes 141 = .ok (.bipush 8, 2) := by decide +kernel
theorem dX12_layTimes_143 : decode cX12_layTimes 143 = .ok (.iload_n 1, 1) := by decide +kernel
theorem dX12_layTimes_144 : decode cX12_layTimes 144 = .ok (.imul, 1) := by decide +kernel
theorem dX12_layTimes_145 : decode cX12_layTimes 145 = .ok (.iload_n 2, 1) := by decide +kernel
theorem dX12_layTimes_146 : decode cX12_layTimes 146 = .ok (.iadd, 1) := by decide +kernel
theorem dX12_layTimes_147 : decode cX12_layTimes 147 = .ok (.iload 4, 2) := by decide +kernel
theorem dX12_layTimes_149 : decode cX12_layTimes 149 = .ok (.ifCond .eq 31, 3) := by decide +kernel
theorem dX12_layTimes_152 : decode cX12_layTimes 152 = .ok (.aload_n 0, 1) := by decide +kernel
theorem dX12_layTimes_153 : decode cX12_layTimes 153 = .ok (.iload 5, 2) := by decide +kernel
theorem dX12_layTimes_155 : decode cX12_layTimes 155 = .ok (.iload 6, 2) := by decide +kernel
theorem dX12_layTimes_157 : decode cX12_layTimes 157 = .ok (.aload_n 0, 1) := by decide +kernel
theorem dX12_layTimes_158 : decode cX12_layTimes 158 = .ok (.getfield 183, 3) := by decide +kernel
theorem dX12_layTimes_161 : decode cX12_layTimes 161 = .ok (.iload_n 2, 1) := by decide +kernel
theorem dX12_layTimes_162 : decode cX12_layTimes 162 = .ok (.iaload, 1) := by decide +kernel
theorem dX12_layTimes_163 : decode cX12_layTimes 163 = .ok (.iconst 1, 1) := by decide +kernel
theorem dX12_layTimes_164 : decode cX12_layTimes 164 = .ok (.invokevirtual 275, 3) := by decide +kernel
theorem dX12_layTimes_167 : decode cX12_layTimes 167 = .ok (.aload_n 0, 1) := by decide +kernel
theorem dX12_layTimes_168 : decode cX12_layTimes 168 = .ok (.getfield 186, 3) := by decide +kernel
theorem dX12_layTimes_171 : decode cX12_layTimes 171 = .ok (.iload_n 2, 1) := by decide +kernel
theorem dX12_layTimes_172 : decode cX12_layTimes 172 = .ok (.iaload, 1) := by decide +kernel
theorem dX12_layTimes_173 : decode cX12_layTimes 173 = .ok (.if_icmp .gt 7, 3) := by decide +kernel
theorem dX12_layTimes_176 : decode cX12_layTimes 176 = .ok (.iconst 1, 1) := by decide +kernel
theorem dX12_layTimes_177 : decode cX12_layTimes 177 = .ok (.goto 4, 3) := by decide +kernel
theorem dX12_layTimes_180 : decode cX12_layTimes 180 = .ok (.iconst 0, 1) := by decide +kernel
theorem dX12_layTimes_181 : decode cX12_layTimes 181 = .ok (.bastore, 1) := by decide +kernel
theorem dX12_layTimes_182 : decode cX12_layTimes 182 = .ok (.iinc 2 1, 3) := by decide +kernel
theorem dX12_layTimes_185 : decode cX12_layTimes 185 = .ok (.goto (-175), 3) := by decide +kernel
theorem dX12_layTimes_188 : decode cX12_layTimes 188 = .ok (.iinc 1 1, 3) := by decide +kernel
theorem dX12_layTimes_191 : decode cX12_layTimes 191 = .ok (.goto (-189), 3) := by decide +kernel
theorem dX12_layTimes_194 : decode cX12_layTimes 194 = .ok (.return_, 1) := by decide +kernel
theorem dX12_canGoTo_0 : decode cX12_canGoTo 0 = .ok (.bipush 8, 2) := by decide +kernel
theorem dX12_canGoTo_2 : decode cX12_canGoTo 2 = .ok (.iload_n 1, 1) := by decide +kernel
theorem dX12_canGoTo_3 : decode cX12_canGoTo 3 = .ok (.iadd, 1) := by decide +kernel
theorem dX12_canGoTo_4 : decode cX12_canGoTo 4 = .ok (.istore_n 3, 1) := by decide +kernel
theorem dX12_canGoTo_5 : decode cX12_canGoTo 5 = .ok (.iconst 0, 1) := by decide +kernel
theorem dX12_canGoTo_6 : decode cX12_canGoTo 6 = .ok (.istore 4, 2) := by decide +kernel
theorem dX12_canGoTo_8 : decode cX12_canGoTo 8 = .ok (.iload 4, 2) := by decide +kernel
theorem dX12_canGoTo_10 : decode cX12_canGoTo 10 = .ok (.aload_n 0, 1) := by decide +kernel
theorem dX12_canGoTo_11 : decode cX12_canGoTo 11 = .ok (.getfield 436, 3) := by decide +kernel
theorem dX12_canGoTo_14 : decode cX12_canGoTo 14 = .ok (.if_icmp .ge 48, 3) := by decide +kernel
theorem dX12_canGoTo_17 : decode cX12_canGoTo 17 = .ok (.aload_n 0, 1) := by decide +kernel
theorem dX12_canGoTo_18 : decode cX12_canGoTo 18 = .ok (.getfield 201, 3) := by decide +kernel
theorem dX12_canGoTo_21 : decode cX12_canGoTo 21 = .ok (.iload 4, 2) := by decide +kernel
theorem dX12_canGoTo_23 : decode cX12_canGoTo 23 = .ok (.iaload, 1) := by decide +kernel
theorem dX12_canGoTo_24 : decode cX12_canGoTo 24 = .ok (.istore 5, 2) := by decide +kernel
theorem dX12_canGoTo_26 : decode cX12_canGoTo 26 = .ok (.iload_n 2, 1) := by decide +kernel
theorem dX12_canGoTo_27 : decode cX12_canGoTo 27 = .ok (.iload 5, 2) := by decide +kernel
theorem dX12_canGoTo_29 : decode cX12_canGoTo 29 = .ok (.ishr, 1) := by decide +kernel
theorem dX12_canGoTo_30 : decode cX12_canGoTo 30 = .ok (.iconst 1, 1) := by decide +kernel
theorem dX12_canGoTo_31 : decode cX12_canGoTo 31 = .ok (.iand, 1) := by decide +kernel
theorem dX12_canGoTo_32 : decode cX12_canGoTo 32 = .ok (.iconst 1, 1) := by decide +kernel
theorem dX12_canGoTo_33 : decode cX12_canGoTo 33 = .ok (.if_icmp .ne 23, 3) := by decide +kernel
theorem dX12_canGoTo_36 : decode cX12_canGoTo 36 = .ok (.aload_n 0, 1) := by decide +kernel
theorem dX12_canGoTo_37 : decode cX12_canGoTo 37 = .ok (.getfield 204, 3) := by decide +kernel
theorem dX12_canGoTo_40 : decode cX12_canGoTo 40 = .ok (.bipush 8, 2) := by decide +kernel
theorem dX12_canGoTo_42 : decode cX12_canGoTo 42 = .ok (.iload_n 3, 1) := by decide +kernel
theorem dX12_canGoTo_43 : decode cX12_canGoTo 43 = .ok (.imul, 1) := by decide +kernel
theorem dX12_canGoTo_44 : decode cX12_canGoTo 44 = .ok (.iload 5, 2) := by decide +kernel
theorem dX12_canGoTo_46 : decode cX12_canGoTo 46 = .ok (.iadd, 1) := by decide +kernel
theorem dX12_canGoTo_47 : decode cX12_canGoTo 47 = .ok (.baload, 1) := by decide +kernel
theorem dX12_canGoTo_48 : decode cX12_canGoTo 48 = .ok (.ifCond .ne 5, 3) := by decide +kernel
theorem dX12_canGoTo_51 : decode cX12_canGoTo 51 = .ok (.iconst 0, 1) := by decide +kernel
theorem dX12_canGoTo_52 : decode cX12_canGoTo 52 = .ok (.ireturn, 1) := by decide +kernel
theorem dX12_canGoTo_53 : decode cX12_canGoTo 53 = .ok (.iload 5, 2) := by decide +kernel
theorem dX12_canGoTo_55 : decode cX12_canGoTo 55 = .ok (.istore_n 3, 1) := by decide +kernel
theorem dX12_canGoTo_56 : decode cX12_canGoTo 56 = .ok (.iinc 4 1, 3) := by decide +kernel
theorem dX12_canGoTo_59 : decode cX12_canGoTo 59 = .ok (.goto (-51), 3) := by decide +kernel
theorem dX12_canGoTo_62 : decode cX12_canGoTo 62 = .ok (.iconst 1, 1) := by decide +kernel
theorem dX12_canGoTo_63 : decode cX12_canGoTo 63 = .ok (.ireturn, 1) := by decide +kernel
theorem dX12_layCovers_0 : decode cX12_layCovers 0 = .ok (.aload_n 0, 1) := by decide +kernel
theorem dX12_layCovers_1 : decode cX12_layCovers 1 = .ok (.invokevirtual 439, 3) := by decide +kernel
theorem dX12_layCovers_4 : decode cX12_layCovers 4 = .ok (.aload_n 0, 1) := by decide +kernel
theorem dX12_layCovers_5 : decode cX12_layCovers 5 = .ok (.invokevirtual 442, 3) := by decide +kernel
theorem dX12_layCovers_8 : decode cX12_layCovers 8 = .ok (.iconst 1, 1) := by decide +kernel
theorem dX12_layCovers_9 : decode cX12_layCovers 9 = .ok (.aload_n 0, 1) := by decide +kernel
theorem dX12_layCovers_10 : decode cX12_layCovers 10 = .ok (.getfield 436, 3) := by decide +kernel
theorem dX12_layCovers_13 : decode cX12_layCovers 13 = .ok (.ishl, 1) := by decide +kernel
theorem dX12_layCovers_14 : decode cX12_layCovers 14 = .ok (.istore_n 1, 1) := by decide +kernel
theorem dX12_layCovers_15 : decode cX12_layCovers 15 = .ok (.iconst 0, 1) := by decide +kernel
theorem dX12_layCovers_16 : decode cX12_layCovers 16 = .ok (.istore_n 2, 1) := by decide +kernel
theorem dX12_layCovers_17 : decode cX12_layCovers 17 = .ok (.iload_n 2, 1) := by decide +kernel
theorem dX12_layCovers_18 : decode cX12_layCovers 18 = .ok (.iconst 4, 1) := by decide +kernel
theorem dX12_layCovers_19 : decode cX12_layCovers 19 = .ok (.iload_n 1, 1) := by decide +kernel
theorem dX12_layCovers_20 : decode cX12_layCovers 20 = .ok (.imul, 1) := by decide +kernel
theorem dX12_layCovers_21 : decode cX12_layCovers 21 = .ok (.if_icmp .ge 35, 3) := by decide +kernel
theorem dX12_layCovers_24 : decode cX12_layCovers 24 = .ok (.aload_n 0, 1) := by decide +kernel
theorem dX12_layCovers_25 : decode cX12_layCovers 25 = .ok (.getfield 192, 3) := by decide +kernel
theorem dX12_layCovers_28 : decode cX12_layCovers 28 = .ok (.sipush 256, 3) := by decide +kernel
theorem dX12_layCovers_31 : decode cX12_layCovers 31 = .ok (.iload_n 2, 1) := by decide +kernel
theorem dX12_layCovers_32 : decode cX12_layCovers 32 = .ok (.iload_n 1, 1) := by decide +kernel
theorem dX12_layCovers_33 : decode cX12_layCovers 33 = .ok (.idiv, 1) := by decide +kernel
theorem dX12_layCovers_34 : decode cX12_layCovers 34 = .ok (.imul, 1) := by decide +kernel
theorem dX12_layCovers_35 : decode cX12_layCovers 35 = .ok (.iload_n 2, 1) := by decide +kernel
theorem dX12_layCovers_36 : decode cX12_layCovers 36 = .ok (.iload_n 1, 1) := by decide +kernel
theorem dX12_layCovers_37 : decode cX12_layCovers 37 = .ok (.irem, 1) := by decide +kernel
theorem dX12_layCovers_38 : decode cX12_layCovers 38 = .ok (.iadd, 1) := by decide +kernel
theorem dX12_layCovers_39 : decode cX12_layCovers 39 = .ok (.aload_n 0, 1) := by decide +kernel
theorem dX12_layCovers_40 : decode cX12_layCovers 40 = .ok (.iload_n 2, 1) := by decide +kernel
theorem dX12_layCovers_41 : decode cX12_layCovers 41 = .ok (.iload_n 1, 1) := by decide +kernel
theorem dX12_layCovers_42 : decode cX12_layCovers 42 = .ok (.idiv, 1) := by decide +kernel
theorem dX12_layCovers_43 : decode cX12_layCovers 43 = .ok (.iload_n 2, 1) := by decide +kernel
theorem dX12_layCovers_44 : decode cX12_layCovers 44 = .ok (.iload_n 1, 1) := by decide +kernel
theorem dX12_layCovers_45 : decode cX12_layCovers 45 = .ok (.irem, 1) := by decide +kernel
theorem dX12_layCovers_46 : decode cX12_layCovers 46 = .ok (.invokevirtual 445, 3) := by decide +kernel
theorem dX12_layCovers_49 : decode cX12_layCovers 49 = .ok (.bastore, 1) := by decide +kernel
theorem dX12_layCovers_50 : decode cX12_layCovers 50 = .ok (.iinc 2 1, 3) := by decide +kernel
theorem dX12_layCovers_53 : decode cX12_layCovers 53 = .ok (.goto (-36), 3) := by decide +kernel
theorem dX12_layCovers_56 : decode cX12_layCovers 56 = .ok (.iconst 0, 1) := by decide +kernel
theorem dX12_layCovers_57 : decode cX12_layCovers 57 = .ok (.istore_n 2, 1) := by decide +kernel
theorem dX12_layCovers_58 : decode cX12_layCovers 58 = .ok (.iload_n 2, 1) := by decide +kernel
theorem dX12_layCovers_59 : decode cX12_layCovers 59 = .ok (.iload_n 1, 1) := by decide +kernel
theorem dX12_layCovers_60 : decode cX12_layCovers 60 = .ok (.if_icmp .ge 24, 3) := by decide +kernel
theorem dX12_layCovers_63 : decode cX12_layCovers 63 = .ok (.aload_n 0, 1) := by decide +kernel
theorem dX12_layCovers_64 : decode cX12_layCovers 64 = .ok (.getfield 195, 3) := by decide +kernel
theorem dX12_layCovers_67 : decode cX12_layCovers 67 = .ok (.iload_n 2, 1) := by decide +kernel
theorem dX12_layCovers_68 : decode cX12_layCovers 68 = .ok (.iload_n 2, 1) := by decide +kernel
theorem dX12_layCovers_69 : decode cX12_layCovers 69 = .ok (.ifCond .ne 7, 3) := by decide +kernel
theorem dX12_layCovers_72 : decode cX12_layCovers 72 = .ok (.iconst 1, 1) := by decide +kernel
theorem dX12_layCovers_73 : decode cX12_layCovers 73 = .ok (.goto 4, 3) := by decide +kernel
theorem dX12_layCovers_76 : decode cX12_layCovers 76 = .ok (.iconst 0, 1) := by decide +kernel
theorem dX12_layCovers_77 : decode cX12_layCovers 77 = .ok (.bastore, 1) := by decide +kernel
theorem dX12_layCovers_78 : decode cX12_layCovers 78 = .ok (.iinc 2 1, 3) := by decide +kernel
theorem dX12_layCovers_81 : decode cX12_layCovers 81 = .ok (.goto (-23), 3) := by decide +kernel
theorem dX12_layCovers_84 : decode cX12_layCovers 84 = .ok (.iconst 0, 1) := by decide +kernel
theorem dX12_layCovers_85 : decode cX12_layCovers 85 = .ok (.istore_n 2, 1) := by decide +kernel
theorem dX12_layCovers_86 : decode cX12_layCovers 86 = .ok (.iload_n 2, 1) := by decide +kernel
theorem dX12_layCovers_87 : decode cX12_layCovers 87 = .ok (.iconst 4, 1) := by decide +kernel
theorem dX12_layCovers_88 : decode cX12_layCovers 88 = .ok (.if_icmp .ge 132, 3) := by decide +kernel
theorem dX12_layCovers_91 : decode cX12_layCovers 91 = .ok (.iconst 0, 1) := by decide +kernel
theorem dX12_layCovers_92 : decode cX12_layCovers 92 = .ok (.istore_n 3, 1) := by decide +kernel
theorem dX12_layCovers_93 : decode cX12_layCovers 93 = .ok (.iload_n 3, 1) := by decide +kernel
theorem dX12_layCovers_94 : decode cX12_layCovers 94 = .ok (.iload_n 1, 1) := by decide +kernel
theorem dX12_layCovers_95 : decode cX12_layCovers 95 = .ok (.if_icmp .ge 94, 3) := by decide +kernel
theorem dX12_layCovers_98 : decode cX12_layCovers 98 = .ok (.aload_n 0, 1) := by decide +kernel
theorem dX12_layCovers_99 : decode cX12_layCovers 99 = .ok (.getfield 198, 3) := by decide +kernel
theorem dX12_layCovers_102 : decode cX12_layCovers 102 = .ok (.iload_n 3, 1) := by decide +kernel
theorem dX12_layCovers_103 : decode cX12_layCovers 103 = .ok (.iconst 0, 1) := by decide +kernel
theorem dX12_layCovers_104 : decode cX12_layCovers 104 = .ok (.bastore, 1) := by decide +kernel
theorem dX12_layCovers_105 : decode cX12_layCovers 105 = .ok (.iload_n 3, 1) := by decide +kernel
theorem dX12_layCovers_106 : decode cX12_layCovers 106 = .ok (.istore 4, 2) := by decide +kernel
theorem dX12_layCovers_108 : decode cX12_layCovers 108 = .ok (.iload 4, 2) := by decide +kernel
theorem dX12_layCovers_110 : decode cX12_layCovers 110 = .ok (.ifCond .lt 73, 3) := by decide +kernel
theorem dX12_layCovers_113 : decode cX12_layCovers 113 = .ok (.aload_n 0, 1) := by decide +kernel
theorem dX12_layCovers_114 : decode cX12_layCovers 114 = .ok (.getfield 198, 3) := by decide +kernel
theorem dX12_layCovers_117 : decode cX12_layCovers 117 = .ok (.iload_n 3, 1) := by decide +kernel
theorem dX12_layCovers_118 : decode cX12_layCovers 118 = .ok (.baload, 1) := by decide +kernel
theorem dX12_layCovers_119 : decode cX12_layCovers 119 = .ok (.ifCond .ne 64, 3) := by decide +kernel
theorem dX12_layCovers_122 : decode cX12_layCovers 122 = .ok (.aload_n 0, 1) := by decide +kernel
theorem dX12_layCovers_123 : decode cX12_layCovers 123 = .ok (.getfield 198, 3) := by decide +kernel
theorem dX12_layCovers_126 : decode cX12_layCovers 126 = .ok (.iload_n 3, 1) := by decide +kernel
theorem dX12_layCovers_127 : decode cX12_layCovers 127 = .ok (.aload_n 0, 1) := by decide +kernel
theorem dX12_layCovers_128 : decode cX12_layCovers 128 = .ok (.getfield 192, 3) := by decide +kernel
theorem dX12_layCovers_131 : decode cX12_layCovers 131 = .ok (.sipush 256, 3) := by decide +kernel
theorem dX12_layCovers_134 : decode cX12_layCovers 134 = .ok (.iload_n 2, 1) := by decide +kernel
theorem dX12_layCovers_135 : decode cX12_layCovers 135 = .ok (.imul, 1) := by decide +kernel
theorem dX12_layCovers_136 : decode cX12_layCovers 136 = .ok (.iload 4, 2) := by decide +kernel
theorem dX12_layCovers_138 : decode cX12_layCovers 138 = .ok (.iadd, 1) := by decide +kernel
theorem dX12_layCovers_139 : decode cX12_layCovers 139 = .ok (.baload, 1) := by decide +kernel
theorem dX12_layCovers_140 : decode cX12_layCovers 140 = .ok (.ifCond .eq 21, 3) := by decide +kernel
theorem dX12_layCovers_143 : decode cX12_layCovers 143 = .ok (.aload_n 0, 1) := by decide +kernel
theorem dX12_layCovers_144 : decode cX12_layCovers 144 = .ok (.getfield 195, 3) := by decide +kernel
theorem dX12_layCovers_147 : decode cX12_layCovers 147 = .ok (.iload_n 3, 1) := by decide +kernel
theorem dX12_layCovers_148 : decode cX12_layCovers 148 = .ok (.iload 4, 2) := by decide +kernel
theorem dX12_layCovers_150 : decode cX12_layCovers 150 = .ok (.iconst (-1), 1) := by decide +kernel
theorem dX12_layCovers_151 : decode cX12_layCovers 151 = .ok (.ixor, 1) := by decide +kernel
theorem dX12_layCovers_152 : decode cX12_layCovers 152 = .ok (.iand, 1) := by decide +kernel
theorem dX12_layCovers_153 : decode cX12_layCovers 153 = .ok (.baload, 1) := by decide +kernel
theorem dX12_layCovers_154 : decode cX12_layCovers 154 = .ok (.ifCond .eq 7, 3) := by decide +kernel
theorem dX12_layCovers_157 : decode cX12_layCovers 157 = .ok (.iconst 1, 1) := by decide +kernel
theorem dX12_layCovers_158 : decode cX12_layCovers 158 = .ok (.goto 4, 3) := by decide +kernel
theorem dX12_layCovers_161 : decode cX12_layCovers 161 = .ok (.iconst 0, 1) := by decide +kernel
theorem dX12_layCovers_162 : decode cX12_layCovers 162 = .ok (.bastore, 1) := by decide +kernel
theorem dX12_layCovers_163 : decode cX12_layCovers 163 = .ok (.iload 4, 2) := by decide +kernel
theorem dX12_layCovers_165 : decode cX12_layCovers 165 = .ok (.ifCond .ne 7, 3) := by decide +kernel
theorem dX12_layCovers_168 : decode cX12_layCovers 168 = .ok (.iconst (-1), 1) := by decide +kernel
theorem dX12_layCovers_169 : decode cX12_layCovers 169 = .ok (.goto 9, 3) := by decide +kernel
theorem dX12_layCovers_172 : decode cX12_layCovers 172 = .ok (.iload 4, 2) := by decide +kernel
theorem dX12_layCovers_174 : decode cX12_layCovers 174 = .ok (.iconst 1, 1) := by decide +kernel
theorem dX12_layCovers_175 : decode cX12_layCovers 175 = .ok (.isub, 1) := by decide +kernel
theorem dX12_layCovers_176 : decode cX12_layCovers 176 = .ok (.iload_n 3, 1) := by decide +kernel
theorem dX12_layCovers_177 : decode cX12_layCovers 177 = .ok (.iand, 1) := by decide +kernel
theorem dX12_layCovers_178 : decode cX12_layCovers 178 = .ok (.istore 4, 2) := by decide +kernel
theorem dX12_layCovers_180 : decode cX12_layCovers 180 = .ok (.goto (-72), 3) := by decide +kernel
theorem dX12_layCovers_183 : decode cX12_layCovers 183 = .ok (.iinc 3 1, 3) := by decide +kernel
theorem dX12_layCovers_186 : decode cX12_layCovers 186 = .ok (.goto (-93), 3) := by decide +kernel
theorem dX12_layCovers_189 : decode cX12_layCovers 189 = .ok (.iconst 0, 1) := by decide +kernel
theorem dX12_layCovers_190 : decode cX12_layCovers 190 = .ok (.istore_n 3, 1) := by decide +kernel
theorem dX12_layCovers_191 : decode cX12_layCovers 191 = .ok (.iload_n 3, 1) := by decide +kernel
theorem dX12_layCovers_192 : decode cX12_layCovers 192 = .ok (.iload_n 1, 1) := by decide +kernel
theorem dX12_layCovers_193 : decode cX12_layCovers 193 = .ok (.if_icmp .ge 21, 3) := by decide +kernel
theorem dX12_layCovers_196 : decode cX12_layCovers 196 = .ok (.aload_n 0, 1) := by decide +kernel
theorem dX12_layCovers_197 : decode cX12_layCovers 197 = .ok (.getfield 195, 3) := by decide +kernel
theorem dX12_layCovers_200 : decode cX12_layCovers 200 = .ok (.iload_n 3, 1) := by decide +kernel
theorem dX12_layCovers_201 : decode cX12_layCovers 201 = .ok (.aload_n 0, 1) := by decide +kernel
theorem dX12_layCovers_202 : decode cX12_layCovers 202 = .ok (.getfield 198, 3) := by decide +kernel
theorem dX12_layCovers_205 : decode cX12_layCovers 205 = .ok (.iload_n 3, 1) := by decide +kernel
theorem dX12_layCovers_206 : decode cX12_layCovers 206 = .ok (.baload, 1) := by decide +kernel
theorem dX12_layCovers_207 : decode cX12_layCovers 207 = .ok (.bastore, 1) := by decide +kernel
theorem dX12_layCovers_208 : decode cX12_layCovers 208 = .ok (.iinc 3 1, 3) := by decide +kernel
theorem dX12_layCovers_211 : decode cX12_layCovers 211 = .ok (.goto (-20), 3) := by decide +kernel
theorem dX12_layCovers_214 : decode cX12_layCovers 214 = .ok (.iinc 2 1, 3) := by decide +kernel
theorem dX12_layCovers_217 : decode cX12_layCovers 217 = .ok (.goto (-131), 3) := by decide +kernel
theorem dX12_layCovers_220 : decode cX12_layCovers 220 = .ok (.return_, 1) := by decide +kernel
theorem dX12_worthOf_0 : decode cX12_worthOf 0 = .ok (.iconst 0, 1) := by decide +kernel
theorem dX12_worthOf_1 : decode cX12_worthOf 1 = .ok (.istore_n 2, 1) := by decide +kernel
theorem dX12_worthOf_2 : decode cX12_worthOf 2 = .ok (.iconst 0, 1) := by decide +kernel
theorem dX12_worthOf_3 : decode cX12_worthOf 3 = .ok (.istore_n 3, 1) := by decide +kernel
theorem dX12_worthOf_4 : decode cX12_worthOf 4 = .ok (.iload_n 3, 1) := by decide +kernel
theorem dX12_worthOf_5 : decode cX12_worthOf 5 = .ok (.aload_n 0, 1) := by decide +kernel
theorem dX12_worthOf_6 : decode cX12_worthOf 6 = .ok (.getfield 436, 3) := by decide +kernel
theorem dX12_worthOf_9 : decode cX12_worthOf 9 = .ok (.if_icmp .ge 31, 3) := by decide +kernel
theorem dX12_worthOf_12 : decode cX12_worthOf 12 = .ok (.iload_n 2, 1) := by decide +kernel
theorem dX12_worthOf_13 : decode cX12_worthOf 13 = .ok (.iload_n 1, 1) := by decide +kernel
theorem dX12_worthOf_14 : decode cX12_worthOf 14 = .ok (.iload_n 3, 1) := by decide +kernel
theorem dX12_worthOf_15 : decode cX12_worthOf 15 = .ok (.ishr, 1) := by decide +kernel
theorem dX12_worthOf_16 : decode cX12_worthOf 16 = .ok (.iconst 1, 1) := by decide +kernel
theorem dX12_worthOf_17 : decode cX12_worthOf 17 = .ok (.iand, 1) := by decide +kernel
theorem dX12_worthOf_18 : decode cX12_worthOf 18 = .ok (.iconst 1, 1) := by decide +kernel
theorem dX12_worthOf_19 : decode cX12_worthOf 19 = .ok (.if_icmp .ne 12, 3) := by decide +kernel
theorem dX12_worthOf_22 : decode cX12_worthOf 22 = .ok (.aload_n 0, 1) := by decide +kernel
theorem dX12_worthOf_23 : decode cX12_worthOf 23 = .ok (.getfield 189, 3) := by decide +kernel
theorem dX12_worthOf_26 : decode cX12_worthOf 26 = .ok (.iload_n 3, 1) := by decide +kernel
theorem dX12_worthOf_27 : decode cX12_worthOf 27 = .ok (.iaload, 1) := by decide +kernel
theorem dX12_worthOf_28 : decode cX12_worthOf 28 = .ok (.goto 4, 3) := by decide +kernel
theorem dX12_worthOf_31 : decode cX12_worthOf 31 = .ok (.iconst 0, 1) := by decide +kernel
theorem dX12_worthOf_32 : decode cX12_worthOf 32 = .ok (.iadd, 1) := by decide +kernel
theorem dX12_worthOf_33 : decode cX12_worthOf 33 = .ok (.istore_n 2, 1) := by decide +kernel
theorem dX12_worthOf_34 : decode cX12_worthOf 34 = .ok (.iinc 3 1, 3) := by decide +kernel
theorem dX12_worthOf_37 : decode cX12_worthOf 37 = .ok (.goto (-33), 3) := by decide +kernel
theorem dX12_worthOf_40 : decode cX12_worthOf 40 = .ok (.iload_n 2, 1) := by decide +kernel
theorem dX12_worthOf_41 : decode cX12_worthOf 41 = .ok (.ireturn, 1) := by decide +kernel
theorem dX12_bestCover_0 : decode cX12_bestCover 0 = .ok (.aload_n 0, 1) := by decide +kernel
theorem dX12_bestCover_1 : decode cX12_bestCover 1 = .ok (.invokevirtual 448, 3) := by decide +kernel
theorem dX12_bestCover_4 : decode cX12_bestCover 4 = .ok (.iconst 0, 1) := by decide +kernel
theorem dX12_bestCover_5 : decode cX12_bestCover 5 = .ok (.istore_n 1, 1) := by decide +kernel
theorem dX12_bestCover_6 : decode cX12_bestCover 6 = .ok (.iconst 0, 1) := by decide +kernel
theorem dX12_bestCover_7 : decode cX12_bestCover 7 = .ok (.istore_n 2, 1) := by decide +kernel
theorem dX12_bestCover_8 : decode cX12_bestCover 8 = .ok (.iload_n 2, 1) := by decide +kernel
theorem dX12_bestCover_9 : decode cX12_bestCover 9 = .ok (.iconst 1, 1) := by decide +kernel
theorem dX12_bestCover_10 : decode cX12_bestCover 10 = .ok (.aload_n 0, 1) := by decide +kernel
theorem dX12_bestCover_11 : decode cX12_bestCover 11 = .ok (.getfield 436, 3) := by decide +kernel
theorem dX12_bestCover_14 : decode cX12_bestCover 14 = .ok (.ishl, 1) := by decide +kernel
theorem dX12_bestCover_15 : decode cX12_bestCover 15 = .ok (.if_icmp .ge 37, 3) := by decide +kernel
theorem dX12_bestCover_18 : decode cX12_bestCover 18 = .ok (.aload_n 0, 1) := by decide +kernel
theorem dX12_bestCover_19 : decode cX12_bestCover 19 = .ok (.getfield 195, 3) := by decide +kernel
theorem dX12_bestCover_22 : decode cX12_bestCover 22 = .ok (.iload_n 2, 1) := by decide +kernel
theorem dX12_bestCover_23 : decode cX12_bestCover 23 = .ok (.baload, 1) := by decide +kernel
theorem dX12_bestCover_24 : decode cX12_bestCover 24 = .ok (.ifCond .eq 20, 3) := by decide +kernel
theorem dX12_bestCover_27 : decode cX12_bestCover 27 = .ok (.aload_n 0, 1) := by decide +kernel
theorem dX12_bestCover_28 : decode cX12_bestCover 28 = .ok (.iload_n 2, 1) := by decide +kernel
theorem dX12_bestCover_29 : decode cX12_bestCover 29 = .ok (.invokevirtual 451, 3) := by decide +kernel
theorem dX12_bestCover_32 : decode cX12_bestCover 32 = .ok (.iload_n 1, 1) := by decide +kernel
theorem dX12_bestCover_33 : decode cX12_bestCover 33 = .ok (.if_icmp .le 11, 3) := by decide +kernel
theorem dX12_bestCover_36 : decode cX12_bestCover 36 = .ok (.aload_n 0, 1) := by decide +kernel
theorem dX12_bestCover_37 : decode cX12_bestCover 37 = .ok (.iload_n 2, 1) := by decide +kernel
theorem dX12_bestCover_38 : decode cX12_bestCover 38 = .ok (.invokevirtual 451, 3) := by decide +kernel
theorem dX12_bestCover_41 : decode cX12_bestCover 41 = .ok (.goto 4, 3) := by decide +kernel
theorem dX12_bestCover_44 : decode cX12_bestCover 44 = .ok (.iload_n 1, 1) := by decide +kernel
theorem dX12_bestCover_45 : decode cX12_bestCover 45 = .ok (.istore_n 1, 1) := by decide +kernel
theorem dX12_bestCover_46 : decode cX12_bestCover 46 = .ok (.iinc 2 1, 3) := by decide +kernel
theorem dX12_bestCover_49 : decode cX12_bestCover 49 = .ok (.goto (-41), 3) := by decide +kernel
theorem dX12_bestCover_52 : decode cX12_bestCover 52 = .ok (.iload_n 1, 1) := by decide +kernel
theorem dX12_bestCover_53 : decode cX12_bestCover 53 = .ok (.ireturn, 1) := by decide +kernel
theorem dX12_cover_0 : decode cX12_cover 0 = .ok (.aload_n 0, 1) := by decide +kernel
theorem dX12_cover_1 : decode cX12_cover 1 = .ok (.invokevirtual 454, 3) := by decide +kernel
theorem dX12_cover_4 : decode cX12_cover 4 = .ok (.ireturn, 1) := by decide +kernel
theorem dX12_covered_0 : decode cX12_covered 0 = .ok (.iload_n 1, 1) := by decide +kernel
theorem dX12_covered_1 : decode cX12_covered 1 = .ok (.i2l, 1) := by decide +kernel
theorem dX12_covered_2 : decode cX12_covered 2 = .ok (.lconst 0, 1) := by decide +kernel
theorem dX12_covered_3 : decode cX12_covered 3 = .ok (.aload_n 0, 1) := by decide +kernel
theorem dX12_covered_4 : decode cX12_covered 4 = .ok (.getfield 436, 3) := by decide +kernel
theorem dX12_covered_7 : decode cX12_covered 7 = .ok (.iconst 1, 1) := by decide +kernel
theorem dX12_covered_8 : decode cX12_covered 8 = .ok (.isub, 1) := by decide +kernel
theorem dX12_covered_9 : decode cX12_covered 9 = .ok (.i2l, 1) := by decide +kernel
theorem dX12_covered_10 : decode cX12_covered 10 = .ok (.invokestatic 245, 3) := by decide +kernel
theorem dX12_covered_13 : decode cX12_covered 13 = .ok (.ifCond .ne 5, 3) := by decide +kernel
theorem dX12_covered_16 : decode cX12_covered 16 = .ok (.iconst (-1), 1) := by decide +kernel
theorem dX12_covered_17 : decode cX12_covered 17 = .ok (.ireturn, 1) := by decide +kernel
theorem dX12_covered_18 : decode cX12_covered 18 = .ok (.aload_n 0, 1) := by decide +kernel
theorem dX12_covered_19 : decode cX12_covered 19 = .ok (.invokevirtual 454, 3) := by decide +kernel
theorem dX12_covered_22 : decode cX12_covered 22 = .ok (.istore_n 2, 1) := by decide +kernel
theorem dX12_covered_23 : decode cX12_covered 23 = .ok (.iconst 0, 1) := by decide +kernel
theorem dX12_covered_24 : decode cX12_covered 24 = .ok (.istore_n 3, 1) := by decide +kernel
theorem dX12_covered_25 : decode cX12_covered 25 = .ok (.iconst 1, 1) := by decide +kernel
theorem dX12_covered_26 : decode cX12_covered 26 = .ok (.istore 4, 2) := by decide +kernel
theorem dX12_covered_28 : decode cX12_covered 28 = .ok (.iconst 0, 1) := by decide +kernel
theorem dX12_covered_29 : decode cX12_covered 29 = .ok (.istore 5, 2) := by decide +kernel
theorem dX12_covered_31 : decode cX12_covered 31 = .ok (.iload 5, 2) := by decide +kernel
theorem dX12_covered_33 : decode cX12_covered 33 = .ok (.iconst 1, 1) := by decide +kernel
theorem dX12_covered_34 : decode cX12_covered 34 = .ok (.aload_n 0, 1) := by decide +kernel
theorem dX12_covered_35 : decode cX12_covered 35 = .ok (.getfield 436, 3) := by decide +kernel
theorem dX12_covered_38 : decode cX12_covered 38 = .ok (.ishl, 1) := by decide +kernel
theorem dX12_covered_39 : decode cX12_covered 39 = .ok (.if_icmp .ge 78, 3) := by decide +kernel
theorem dX12_covered_42 : decode cX12_covered 42 = .ok (.aload_n 0, 1) := by decide +kernel
theorem dX12_covered_43 : decode cX12_covered 43 = .ok (.getfield 195, 3) := by decide +kernel
theorem dX12_covered_46 : decode cX12_covered 46 = .ok (.iload 5, 2) := by decide +kernel
theorem dX12_covered_48 : decode cX12_covered 48 = .ok (.baload, 1) := by decide +kernel
theorem dX12_covered_49 : decode cX12_covered 49 = .ok (.ifCond .eq 62, 3) := by decide +kernel
theorem dX12_covered_52 : decode cX12_covered 52 = .ok (.aload_n 0, 1) := by decide +kernel
theorem dX12_covered_53 : decode cX12_covered 53 = .ok (.iload 5, 2) := by decide +kernel
theorem dX12_covered_55 : decode cX12_covered 55 = .ok (.invokevirtual 451, 3) := by decide +kernel
theorem dX12_covered_58 : decode cX12_covered 58 = .ok (.iload_n 2, 1) := by decide +kernel
theorem dX12_covered_59 : decode cX12_covered 59 = .ok (.if_icmp .ne 52, 3) := by decide +kernel
theorem dX12_covered_62 : decode cX12_covered 62 = .ok (.iload 5, 2) := by decide +kernel
theorem dX12_covered_64 : decode cX12_covered 64 = .ok (.iload_n 1, 1) := by decide +kernel
theorem dX12_covered_65 : decode cX12_covered 65 = .ok (.ishr, 1) := by decide +kernel
theorem dX12_covered_66 : decode cX12_covered 66 = .ok (.iconst 1, 1) := by decide +kernel
theorem dX12_covered_67 : decode cX12_covered 67 = .ok (.iand, 1) := by decide +kernel
theorem dX12_covered_68 : decode cX12_covered 68 = .ok (.iconst 1, 1) := by decide +kernel
theorem dX12_covered_69 : decode cX12_covered 69 = .ok (.if_icmp .ne 7, 3) := by decide +kernel
theorem dX12_covered_72 : decode cX12_covered 72 = .ok (.iconst 1, 1) := by decide +kernel
theorem dX12_covered_73 : decode cX12_covered 73 = .ok (.goto 4, 3) := by decide +kernel
theorem dX12_covered_76 : decode cX12_covered 76 = .ok (.iconst 0, 1) := by decide +kernel
theorem dX12_covered_77 : decode cX12_covered 77 = .ok (.istore 6, 2) := by decide +kernel
theorem dX12_covered_79 : decode cX12_covered 79 = .ok (.iload_n 3, 1) := by decide +kernel
theorem dX12_covered_80 : decode cX12_covered 80 = .ok (.ifCond .ne 8, 3) := by decide +kernel
theorem dX12_covered_83 : decode cX12_covered 83 = .ok (.iload 6, 2) := by decide +kernel
theorem dX12_covered_85 : decode cX12_covered 85 = .ok (.ifCond .eq 7, 3) := by decide +kernel
theorem dX12_covered_88 : decode cX12_covered 88 = .ok (.iconst 1, 1) := by decide +kernel
theorem dX12_covered_89 : decode cX12_covered 89 = .ok (.goto 4, 3) := by decide +kernel
theorem dX12_covered_92 : decode cX12_covered 92 = .ok (.iconst 0, 1) := by decide +kernel
theorem dX12_covered_93 : decode cX12_covered 93 = .ok (.istore_n 3, 1) := by decide +kernel
theorem dX12_covered_94 : decode cX12_covered 94 = .ok (.iload 4, 2) := by decide +kernel
theorem dX12_covered_96 : decode cX12_covered 96 = .ok (.ifCond .eq 12, 3) := by decide +kernel
theorem dX12_covered_99 : decode cX12_covered 99 = .ok (.iload 6, 2) := by decide +kernel
theorem dX12_covered_101 : decode cX12_covered 101 = .ok (.ifCond .eq 7, 3) := by decide +kernel
theorem dX12_covered_104 : decode cX12_covered 104 = .ok (.iconst 1, 1) := by decide +kernel
theorem dX12_covered_105 : decode cX12_covered 105 = .ok (.goto 4, 3) := by decide +kernel
theorem dX12_covered_108 : decode cX12_covered 108 = .ok (.iconst 0, 1) := by decide +kernel
theorem dX12_covered_109 : decode cX12_covered 109 = .ok (.istore 4, 2) := by decide +kernel
theorem dX12_covered_111 : decode cX12_covered 111 = .ok (.iinc 5 1, 3) := by decide +kernel
theorem dX12_covered_114 : decode cX12_covered 114 = .ok (.goto (-83), 3) := by decide +kernel
theorem dX12_covered_117 : decode cX12_covered 117 = .ok (.iload 4, 2) := by decide +kernel
theorem dX12_covered_119 : decode cX12_covered 119 = .ok (.ifCond .eq 7, 3) := by decide +kernel
theorem dX12_covered_122 : decode cX12_covered 122 = .ok (.iconst 2, 1) := by decide +kernel
theorem dX12_covered_123 : decode cX12_covered 123 = .ok (.goto 12, 3) := by decide +kernel
theorem dX12_covered_126 : decode cX12_covered 126 = .ok (.iload_n 3, 1) := by decide +kernel
theorem dX12_covered_127 : decode cX12_covered 127 = .ok (.ifCond .eq 7, 3) := by decide +kernel
theorem dX12_covered_130 : decode cX12_covered 130 = .ok (.iconst 1, 1) := by decide +kernel
theorem dX12_covered_131 : decode cX12_covered 131 = .ok (.goto 4, 3) := by decide +kernel
theorem dX12_covered_134 : decode cX12_covered 134 = .ok (.iconst 0, 1) := by decide +kernel
theorem dX12_covered_135 : decode cX12_covered 135 = .ok (.ireturn, 1) := by decide +kernel
theorem dX12_hall_0 : decode cX12_hall 0 = .ok (.iload_n 1, 1) := by decide +kernel
theorem dX12_hall_1 : decode cX12_hall 1 = .ok (.invokestatic 386, 3) := by decide +kernel
theorem dX12_hall_4 : decode cX12_hall 4 = .ok (.ifCond .ne 5, 3) := by decide +kernel
theorem dX12_hall_7 : decode cX12_hall 7 = .ok (.iconst (-1), 1) := by decide +kernel
theorem dX12_hall_8 : decode cX12_hall 8 = .ok (.ireturn, 1) := by decide +kernel
theorem dX12_hall_9 : decode cX12_hall 9 = .ok (.iload_n 2, 1) := by decide +kernel
theorem dX12_hall_10 : decode cX12_hall 10 = .ok (.i2l, 1) := by decide +kernel
theorem dX12_hall_11 : decode cX12_hall 11 = .ok (.lconst 0, 1) := by decide +kernel
theorem dX12_hall_12 : decode cX12_hall 12 = .ok (.ldc2_w 458, 3) := by decide +kernel
theorem dX12_hall_15 : decode cX12_hall 15 = .ok (.invokestatic 245, 3) := by decide +kernel
theorem dX12_hall_18 : decode cX12_hall 18 = .ok (.ifCond .eq 29, 3) := by decide +kernel
theorem dX12_hall_21 : decode cX12_hall 21 = .ok (.iload_n 3, 1) := by decide +kernel
theorem dX12_hall_22 : decode cX12_hall 22 = .ok (.i2l, 1) := by decide +kernel
theorem dX12_hall_23 : decode cX12_hall 23 = .ok (.iload_n 2, 1) := by decide +kernel
theorem dX12_hall_24 : decode cX12_hall 24 = .ok (.i2l, 1) := by decide +kernel
theorem dX12_hall_25 : decode cX12_hall 25 = .ok (.ldc2_w 458, 3) := by decide +kernel
theorem dX12_hall_28 : decode cX12_hall 28 = .ok (.invokestatic 245, 3) := by decide +kernel
theorem dX12_hall_31 : decode cX12_hall 31 = .ok (.ifCond .eq 16, 3) := by decide +kernel
theorem dX12_hall_34 : decode cX12_hall 34 = .ok (.iload 4, 2) := by decide +kernel
theorem dX12_hall_36 : decode cX12_hall 36 = .ok (.i2l, 1) := by decide +kernel
theorem dX12_hall_37 : decode cX12_hall 37 = .ok (.lconst 1, 1) := by decide +kernel
theorem dX12_hall_38 : decode cX12_hall 38 = .ok (.ldc2_w 243, 3) := by decide +kernel
theorem dX12_hall_41 : decode cX12_hall 41 = .ok (.invokestatic 245, 3) := by decide +kernel
theorem dX12_hall_44 : decode cX12_hall 44 = .ok (.ifCond .ne 6, 3) := by decide +kernel
theorem dX12_hall_47 : decode cX12_hall 47 = .ok (.bipush (-2), 2) := by decide +kernel
theorem dX12_hall_49 : decode cX12_hall 49 = .ok (.ireturn, 1) := by decide +kernel
theorem dX12_hall_50 : decode cX12_hall 50 = .ok (.aload_n 0, 1) := by decide +kernel
theorem dX12_hall_51 : decode cX12_hall 51 = .ok (.getfield 460, 3) := by decide +kernel
theorem dX12_hall_54 : decode cX12_hall 54 = .ok (.bipush 8, 2) := by decide +kernel
theorem dX12_hall_56 : decode cX12_hall 56 = .ok (.if_icmp .ne 6, 3) := by decide +kernel
theorem dX12_hall_59 : decode cX12_hall 59 = .ok (.bipush (-4), 2) := by decide +kernel
theorem dX12_hall_61 : decode cX12_hall 61 = .ok (.ireturn, 1) := by decide +kernel
theorem dX12_hall_62 : decode cX12_hall 62 = .ok (.aload_n 0, 1) := by decide +kernel
theorem dX12_hall_63 : decode cX12_hall 63 = .ok (.getfield 207, 3) := by decide +kernel
theorem dX12_hall_66 : decode cX12_hall 66 = .ok (.aload_n 0, 1) := by decide +kernel
theorem dX12_hall_67 : decode cX12_hall 67 = .ok (.getfield 460, 3) := by decide +kernel
theorem dX12_hall_70 : decode cX12_hall 70 = .ok (.iload_n 2, 1) := by decide +kernel
theorem dX12_hall_71 : decode cX12_hall 71 = .ok (.iastore, 1) := by decide +kernel
theorem dX12_hall_72 : decode cX12_hall 72 = .ok (.aload_n 0, 1) := by decide +kernel
theorem dX12_hall_73 : decode cX12_hall 73 = .ok (.getfield 210, 3) := by decide +kernel
theorem dX12_hall_76 : decode cX12_hall 76 = .ok (.aload_n 0, 1) := by decide +kernel
theorem dX12_hall_77 : decode cX12_hall 77 = .ok (.getfield 460, 3) := by decide +kernel
theorem dX12_hall_80 : decode cX12_hall 80 = .ok (.iload_n 3, 1) := by decide +kernel
theorem dX12_hall_81 : decode cX12_hall 81 = .ok (.iastore, 1) := by decide +kernel
theorem dX12_hall_82 : decode cX12_hall 82 = .ok (.aload_n 0, 1) := by decide +kernel
theorem dX12_hall_83 : decode cX12_hall 83 = .ok (.getfield 213, 3) := by decide +kernel
theorem dX12_hall_86 : decode cX12_hall 86 = .ok (.aload_n 0, 1) := by decide +kernel
theorem dX12_hall_87 : decode cX12_hall 87 = .ok (.getfield 460, 3) := by decide +kernel
theorem dX12_hall_90 : decode cX12_hall 90 = .ok (.iload 4, 2) := by decide +kernel
theorem dX12_hall_92 : decode cX12_hall 92 = .ok (.iastore, 1) := by decide +kernel
theorem dX12_hall_93 : decode cX12_hall 93 = .ok (.aload_n 0, 1) := by decide +kernel
theorem dX12_hall_94 : decode cX12_hall 94 = .ok (.dup, 1) := by decide +kernel
theorem dX12_hall_95 : decode cX12_hall 95 = .ok (.getfield 460, 3) := by decide +kernel
theorem dX12_hall_98 : decode cX12_hall 98 = .ok (.iconst 1, 1) := by decide +kernel
theorem dX12_hall_99 : decode cX12_hall 99 = .ok (.iadd, 1) := by decide +kernel
theorem dX12_hall_100 : decode cX12_hall 100 = .ok (.putfield 460, 3) := by decide +kernel
theorem dX12_hall_103 : decode cX12_hall 103 = .ok (.aload_n 0, 1) := by decide +kernel
theorem dX12_hall_104 : decode cX12_hall 104 = .ok (.getfield 460, 3) := by decide +kernel
theorem dX12_hall_107 : decode cX12_hall 107 = .ok (.iconst 1, 1) := by decide +kernel
theorem dX12_hall_108 : decode cX12_hall 108 = .ok (.isub, 1) := by decide +kernel
theorem dX12_hall_109 : decode cX12_hall 109 = .ok (.ireturn, 1) := by decide +kernel
theorem dX12_part_0 : decode cX12_part 0 = .ok (.iload_n 1, 1) := by decide +kernel
theorem dX12_part_1 : decode cX12_part 1 = .ok (.i2l, 1) := by decide +kernel
theorem dX12_part_2 : decode cX12_part 2 = .ok (.lconst 0, 1) := by decide +kernel
theorem dX12_part_3 : decode cX12_part 3 = .ok (.ldc2_w 458, 3) := by decide +kernel
theorem dX12_part_6 : decode cX12_part 6 = .ok (.invokestatic 245, 3) := by decide +kernel
theorem dX12_part_9 : decode cX12_part 9 = .ok (.ifCond .eq 15, 3) := by decide +kernel
theorem dX12_part_12 : decode cX12_part 12 = .ok (.iload_n 2, 1) := by decide +kernel
theorem dX12_part_13 : decode cX12_part 13 = .ok (.i2l, 1) := by decide +kernel
theorem dX12_part_14 : decode cX12_part 14 = .ok (.lconst 0, 1) := by decide +kernel
theorem dX12_part_15 : decode cX12_part 15 = .ok (.ldc2_w 463, 3) := by decide +kernel
theorem dX12_part_18 : decode cX12_part 18 = .ok (.invokestatic 245, 3) := by decide +kernel
theorem dX12_part_21 : decode cX12_part 21 = .ok (.ifCond .ne 6, 3) := by decide +kernel
theorem dX12_part_24 : decode cX12_part 24 = .ok (.bipush (-2), 2) := by decide +kernel
theorem dX12_part_26 : decode cX12_part 26 = .ok (.ireturn, 1) := by decide +kernel
theorem dX12_part_27 : decode cX12_part 27 = .ok (.aload_n 0, 1) := by decide +kernel
theorem dX12_part_28 : decode cX12_part 28 = .ok (.getfield 216, 3) := by decide +kernel
theorem dX12_part_31 : decode cX12_part 31 = .ok (.iload_n 1, 1) := by decide +kernel
theorem dX12_part_32 : decode cX12_part 32 = .ok (.iaload, 1) := by decide +kernel
theorem dX12_part_33 : decode cX12_part 33 = .ok (.istore_n 3, 1) := by decide +kernel
theorem dX12_part_34 : decode cX12_part 34 = .ok (.aload_n 0, 1) := by decide +kernel
theorem dX12_part_35 : decode cX12_part 35 = .ok (.getfield 216, 3) := by decide +kernel
theorem dX12_part_38 : decode cX12_part 38 = .ok (.iload_n 1, 1) := by decide +kernel
theorem dX12_part_39 : decode cX12_part 39 = .ok (.iload_n 2, 1) := by decide +kernel
theorem dX12_part_40 : decode cX12_part 40 = .ok (.iastore, 1) := by decide +kernel
theorem dX12_part_41 : decode cX12_part 41 = .ok (.iload_n 3, 1) := by decide +kernel
theorem dX12_part_42 : decode cX12_part 42 = .ok (.ireturn, 1) := by decide +kernel
theorem dX12_prints_0 : decode cX12_prints 0 = .ok (.iload_n 1, 1) := by decide +kernel
theorem dX12_prints_1 : decode cX12_prints 1 = .ok (.i2l, 1) := by decide +kernel
theorem dX12_prints_2 : decode cX12_prints 2 = .ok (.lconst 0, 1) := by decide +kernel
theorem dX12_prints_3 : decode cX12_prints 3 = .ok (.ldc2_w 458, 3) := by decide +kernel
theorem dX12_prints_6 : decode cX12_prints 6 = .ok (.invokestatic 245, 3) := by decide +kernel
theorem dX12_prints_9 : decode cX12_prints 9 = .ok (.ifCond .ne 6, 3) := by decide +kernel
theorem dX12_prints_12 : decode cX12_prints 12 = .ok (.bipush (-2), 2) := by decide +kernel
theorem dX12_prints_14 : decode cX12_prints 14 = .ok (.ireturn, 1) := by decide +kernel
theorem dX12_prints_15 : decode cX12_prints 15 = .ok (.aload_n 0, 1) := by decide +kernel
theorem dX12_prints_16 : decode cX12_prints 16 = .ok (.getfield 219, 3) := by decide +kernel
theorem dX12_prints_19 : decode cX12_prints 19 = .ok (.istore_n 2, 1) := by decide +kernel
theorem dX12_prints_20 : decode cX12_prints 20 = .ok (.aload_n 0, 1) := by decide +kernel
theorem dX12_prints_21 : decode cX12_prints 21 = .ok (.iload_n 1, 1) := by decide +kernel
theorem dX12_prints_22 : decode cX12_prints 22 = .ok (.putfield 219, 3) := by decide +kernel
theorem dX12_prints_25 : decode cX12_prints 25 = .ok (.iload_n 2, 1) := by decide +kernel
theorem dX12_prints_26 : decode cX12_prints 26 = .ok (.ireturn, 1) := by decide +kernel
theorem dX12_edge_0 : decode cX12_edge 0 = .ok (.aload_n 0, 1) := by decide +kernel
theorem dX12_edge_1 : decode cX12_edge 1 = .ok (.getfield 222, 3) := by decide +kernel
theorem dX12_edge_4 : decode cX12_edge 4 = .ok (.aload_n 0, 1) := by decide +kernel
theorem dX12_edge_5 : decode cX12_edge 5 = .ok (.getfield 465, 3) := by decide +kernel
theorem dX12_edge_8 : decode cX12_edge 8 = .ok (.iload_n 1, 1) := by decide +kernel
theorem dX12_edge_9 : decode cX12_edge 9 = .ok (.iastore, 1) := by decide +kernel
theorem dX12_edge_10 : decode cX12_edge 10 = .ok (.aload_n 0, 1) := by decide +kernel
theorem dX12_edge_11 : decode cX12_edge 11 = .ok (.getfield 225, 3) := by decide +kernel
theorem dX12_edge_14 : decode cX12_edge 14 = .ok (.aload_n 0, 1) := by decide +kernel
theorem dX12_edge_15 : decode cX12_edge 15 = .ok (.getfield 465, 3) := by decide +kernel
theorem dX12_edge_18 : decode cX12_edge 18 = .ok (.iload_n 2, 1) := by decide +kernel
theorem dX12_edge_19 : decode cX12_edge 19 = .ok (.iastore, 1) := by decide +kernel
theorem dX12_edge_20 : decode cX12_edge 20 = .ok (.aload_n 0, 1) := by decide +kernel
theorem dX12_edge_21 : decode cX12_edge 21 = .ok (.getfield 228, 3) := by decide +kernel
theorem dX12_edge_24 : decode cX12_edge 24 = .ok (.aload_n 0, 1) := by decide +kernel
theorem dX12_edge_25 : decode cX12_edge 25 = .ok (.getfield 465, 3) := by decide +kernel
theorem dX12_edge_28 : decode cX12_edge 28 = .ok (.iload_n 3, 1) := by decide +kernel
theorem dX12_edge_29 : decode cX12_edge 29 = .ok (.iastore, 1) := by decide +kernel
theorem dX12_edge_30 : decode cX12_edge 30 = .ok (.aload_n 0, 1) := by decide +kernel
theorem dX12_edge_31 : decode cX12_edge 31 = .ok (.getfield 231, 3) := by decide +kernel
theorem dX12_edge_34 : decode cX12_edge 34 = .ok (.aload_n 0, 1) := by decide +kernel
theorem dX12_edge_35 : decode cX12_edge 35 = .ok (.getfield 465, 3) := by decide +kernel
theorem dX12_edge_38 : decode cX12_edge 38 = .ok (.iload 4, 2) := by decide +kernel
theorem dX12_edge_40 : decode cX12_edge 40 = .ok (.iastore, 1) := by decide +kernel
theorem dX12_edge_41 : decode cX12_edge 41 = .ok (.aload_n 0, 1) := by decide +kernel
theorem dX12_edge_42 : decode cX12_edge 42 = .ok (.getfield 222, 3) := by decide +kernel
theorem dX12_edge_45 : decode cX12_edge 45 = .ok (.aload_n 0, 1) := by decide +kernel
theorem dX12_edge_46 : decode cX12_edge 46 = .ok (.getfield 465, 3) := by decide +kernel
theorem dX12_edge_49 : decode cX12_edge 49 = .ok (.iconst 1, 1) := by decide +kernel
theorem dX12_edge_50 : decode cX12_edge 50 = .ok (.iadd, 1) := by decide +kernel
theorem dX12_edge_51 : decode cX12_edge 51 = .ok (.iload_n 2, 1) := by decide +kernel
theorem dX12_edge_52 : decode cX12_edge 52 = .ok (.iastore, 1) := by decide +kernel
theorem dX12_edge_53 : decode cX12_edge 53 = .ok (.aload_n 0, 1) := by decide +kernel
theorem dX12_edge_54 : decode cX12_edge 54 = .ok (.getfield 225, 3) := by decide +kernel
theorem dX12_edge_57 : decode cX12_edge 57 = .ok (.aload_n 0, 1) := by decide +kernel
theorem dX12_edge_58 : decode cX12_edge 58 = .ok (.getfield 465, 3) := by decide +kernel
theorem dX12_edge_61 : decode cX12_edge 61 = .ok (.iconst 1, 1) := by decide +kernel
theorem dX12_edge_62 : decode cX12_edge 62 = .ok (.iadd, 1) := by decide +kernel
theorem dX12_edge_63 : decode cX12_edge 63 = .ok (.iload_n 1, 1) := by decide +kernel
theorem dX12_edge_64 : decode cX12_edge 64 = .ok (.iastore, 1) := by decide +kernel
theorem dX12_edge_65 : decode cX12_edge 65 = .ok (.aload_n 0, 1) := by decide +kernel
theorem dX12_edge_66 : decode cX12_edge 66 = .ok (.getfield 228, 3) := by decide +kernel
theorem dX12_edge_69 : decode cX12_edge 69 = .ok (.aload_n 0, 1) := by decide +kernel
theorem dX12_edge_70 : decode cX12_edge 70 = .ok (.getfield 465, 3) := by decide +kernel
theorem dX12_edge_73 : decode cX12_edge 73 = .ok (.iconst 1, 1) := by decide +kernel
theorem dX12_edge_74 : decode cX12_edge 74 = .ok (.iadd, 1) := by decide +kernel
theorem dX12_edge_75 : decode cX12_edge 75 = .ok (.iconst 0, 1) := by decide +kernel
theorem dX12_edge_76 : decode cX12_edge 76 = .ok (.iastore, 1) := by decide +kernel
theorem dX12_edge_77 : decode cX12_edge 77 = .ok (.aload_n 0, 1) := by decide +kernel
theorem dX12_edge_78 : decode cX12_edge 78 = .ok (.getfield 231, 3) := by decide +kernel
theorem dX12_edge_81 : decode cX12_edge 81 = .ok (.aload_n 0, 1) := by decide +kernel
theorem dX12_edge_82 : decode cX12_edge 82 = .ok (.getfield 465, 3) := by decide +kernel
theorem dX12_edge_85 : decode cX12_edge 85 = .ok (.iconst 1, 1) := by decide +kernel
theorem dX12_edge_86 : decode cX12_edge 86 = .ok (.iadd, 1) := by decide +kernel
theorem dX12_edge_87 : decode cX12_edge 87 = .ok (.iload 4, 2) := by decide +kernel
theorem dX12_edge_89 : decode cX12_edge 89 = .ok (.ineg, 1) := by decide +kernel
theorem dX12_edge_90 : decode cX12_edge 90 = .ok (.iastore, 1) := by decide +kernel
theorem dX12_edge_91 : decode cX12_edge 91 = .ok (.aload_n 0, 1) := by decide +kernel
theorem dX12_edge_92 : decode cX12_edge 92 = .ok (.dup, 1) := by decide +kernel
theorem dX12_edge_93 : decode cX12_edge 93 = .ok (.getfield 465, 3) := by decide +kernel
theorem dX12_edge_96 : decode cX12_edge 96 = .ok (.iconst 2, 1) := by decide +kernel
theorem dX12_edge_97 : decode cX12_edge 97 = .ok (.iadd, 1) := by decide +kernel
theorem dX12_edge_98 : decode cX12_edge 98 = .ok (.putfield 465, 3) := by decide +kernel
theorem dX12_edge_101 : decode cX12_edge 101 = .ok (.return_, 1) := by decide +kernel
theorem dX12_earns_0 : decode cX12_earns 0 = .ok (.aload_n 0, 1) := by decide +kernel
theorem dX12_earns_1 : decode cX12_earns 1 = .ok (.getfield 213, 3) := by decide +kernel
theorem dX12_earns_4 : decode cX12_earns 4 = .ok (.iload_n 1, 1) := by decide +kernel
theorem dX12_earns_5 : decode cX12_earns 5 = .ok (.iaload, 1) := by decide +kernel
theorem dX12_earns_6 : decode cX12_earns 6 = .ok (.aload_n 0, 1) := by decide +kernel
theorem dX12_earns_7 : decode cX12_earns 7 = .ok (.getfield 216, 3) := by decide +kernel
theorem dX12_earns_10 : decode cX12_earns 10 = .ok (.iload_n 2, 1) := by decide +kernel
theorem dX12_earns_11 : decode cX12_earns 11 = .ok (.iaload, 1) := by decide +kernel
theorem dX12_earns_12 : decode cX12_earns 12 = .ok (.imul, 1) := by decide +kernel
theorem dX12_earns_13 : decode cX12_earns 13 = .ok (.bipush 100, 2) := by decide +kernel
theorem dX12_earns_15 : decode cX12_earns 15 = .ok (.idiv, 1) := by decide +kernel
theorem dX12_earns_16 : decode cX12_earns 16 = .ok (.ireturn, 1) := by decide +kernel
theorem dX12_layFar_0 : decode cX12_layFar 0 = .ok (.iconst 0, 1) := by decide +kernel
theorem dX12_layFar_1 : decode cX12_layFar 1 = .ok (.istore_n 1, 1) := by decide +kernel
theorem dX12_layFar_2 : decode cX12_layFar 2 = .ok (.iload_n 1, 1) := by decide +kernel
theorem dX12_layFar_3 : decode cX12_layFar 3 = .ok (.bipush 19, 2) := by decide +kernel
theorem dX12_layFar_5 : decode cX12_layFar 5 = .ok (.if_icmp .ge 26, 3) := by decide +kernel
theorem dX12_layFar_8 : decode cX12_layFar 8 = .ok (.aload_n 0, 1) := by decide +kernel
theorem dX12_layFar_9 : decode cX12_layFar 9 = .ok (.getfield 234, 3) := by decide +kernel
theorem dX12_layFar_12 : decode cX12_layFar 12 = .ok (.iload_n 1, 1) := by decide +kernel
theorem dX12_layFar_13 : decode cX12_layFar 13 = .ok (.iload_n 1, 1) := by decide +kernel
theorem dX12_layFar_14 : decode cX12_layFar 14 = .ok (.ifCond .ne 7, 3) := by decide +kernel
theorem dX12_layFar_17 : decode cX12_layFar 17 = .ok (.iconst 0, 1) := by decide +kernel
theorem dX12_layFar_18 : decode cX12_layFar 18 = .ok (.goto 6, 3) := by decide +kernel
theorem dX12_layFar_21 : decode cX12_layFar 21 = .ok (.ldc_w 270, 3) := by decide +kernel
theorem dX12_layFar_24 : decode cX12_layFar 24 = .ok (.iastore, 1) := by decide +kernel
theorem dX12_layFar_25 : decode cX12_layFar 25 = .ok (.iinc 1 1, 3) := by decide +kernel
theorem dX12_layFar_28 : decode cX12_layFar 28 = .ok (.goto (-26), 3) := by decide +kernel
theorem dX12_layFar_31 : decode cX12_layFar 31 = .ok (.iconst 1, 1) := by decide +kernel
theorem dX12_layFar_32 : decode cX12_layFar 32 = .ok (.istore_n 1, 1) := by decide +kernel
theorem dX12_layFar_33 : decode cX12_layFar 33 = .ok (.iload_n 1, 1) := by decide +kernel
theorem dX12_layFar_34 : decode cX12_layFar 34 = .ok (.ifCond .eq 110, 3) := by decide +kernel
theorem dX12_layFar_37 : decode cX12_layFar 37 = .ok (.iconst 0, 1) := by decide +kernel
theorem dX12_layFar_38 : decode cX12_layFar 38 = .ok (.istore_n 1, 1) := by decide +kernel
theorem dX12_layFar_39 : decode cX12_layFar 39 = .ok (.iconst 0, 1) := by decide +kernel
theorem dX12_layFar_40 : decode cX12_layFar 40 = .ok (.istore_n 2, 1) := by decide +kernel
theorem dX12_layFar_41 : decode cX12_layFar 41 = .ok (.iload_n 2, 1) := by decide +kernel
theorem dX12_layFar_42 : decode cX12_layFar 42 = .ok (.aload_n 0, 1) := by decide +kernel
theorem dX12_layFar_43 : decode cX12_layFar 43 = .ok (.getfield 465, 3) := by decide +kernel
theorem dX12_layFar_46 : decode cX12_layFar 46 = .ok (.if_icmp .ge 95, 3) := by decide +kernel
theorem dX12_layFar_49 : decode cX12_layFar 49 = .ok (.aload_n 0, 1) := by decide +kernel
theorem dX12_layFar_50 : decode cX12_layFar 50 = .ok (.getfield 234, 3) := by decide +kernel
theorem dX12_layFar_53 : decode cX12_layFar 53 = .ok (.aload_n 0, 1) := by decide +kernel
theorem dX12_layFar_54 : decode cX12_layFar 54 = .ok (.getfield 222, 3) := by decide +kernel
theorem dX12_layFar_57 : decode cX12_layFar 57 = .ok (.iload_n 2, 1) := by decide +kernel
theorem dX12_layFar_58 : decode cX12_layFar 58 = .ok (.iaload, 1) := by decide +kernel
theorem dX12_layFar_59 : decode cX12_layFar 59 = .ok (.iaload, 1) := by decide +kernel
theorem dX12_layFar_60 : decode cX12_layFar 60 = .ok (.aload_n 0, 1) := by decide +kernel
theorem dX12_layFar_61 : decode cX12_layFar 61 = .ok (.getfield 231, 3) := by decide +kernel
theorem dX12_layFar_64 : decode cX12_layFar 64 = .ok (.iload_n 2, 1) := by decide +kernel
theorem dX12_layFar_65 : decode cX12_layFar 65 = .ok (.iaload, 1) := by decide +kernel
theorem dX12_layFar_66 : decode cX12_layFar 66 = .ok (.iadd, 1) := by decide +kernel
theorem dX12_layFar_67 : decode cX12_layFar 67 = .ok (.istore_n 3, 1) := by decide +kernel
theorem dX12_layFar_68 : decode cX12_layFar 68 = .ok (.aload_n 0, 1) := by decide +kernel
theorem dX12_layFar_69 : decode cX12_layFar 69 = .ok (.getfield 228, 3) := by decide +kernel
theorem dX12_layFar_72 : decode cX12_layFar 72 = .ok (.iload_n 2, 1) := by decide +kernel
theorem dX12_layFar_73 : decode cX12_layFar 73 = .ok (.iaload, 1) := by decide +kernel
theorem dX12_layFar_74 : decode cX12_layFar 74 = .ok (.ifCond .le 61, 3) := by decide +kernel
theorem dX12_layFar_77 : decode cX12_layFar 77 = .ok (.aload_n 0, 1) := by decide +kernel
theorem dX12_layFar_78 : decode cX12_layFar 78 = .ok (.getfield 234, 3) := by decide +kernel
theorem dX12_layFar_81 : decode cX12_layFar 81 = .ok (.aload_n 0, 1) := by decide +kernel
theorem dX12_layFar_82 : decode cX12_layFar 82 = .ok (.getfield 222, 3) := by decide +kernel
theorem dX12_layFar_85 : decode cX12_layFar 85 = .ok (.iload_n 2, 1) := by decide +kernel
theorem dX12_layFar_86 : decode cX12_layFar 86 = .ok (.iaload, 1) := by decide +kernel
theorem dX12_layFar_87 : decode cX12_layFar 87 = .ok (.iaload, 1) := by decide +kernel
theorem dX12_layFar_88 : decode cX12_layFar 88 = .ok (.ldc_w 270, 3) := by decide +kernel
theorem dX12_layFar_91 : decode cX12_layFar 91 = .ok (.if_icmp .ge 44, 3) := by decide +kernel
theorem dX12_layFar_94 : decode cX12_layFar 94 = .ok (.iload_n 3, 1) := by decide +kernel
theorem dX12_layFar_95 : decode cX12_layFar 95 = .ok (.aload_n 0, 1) := by decide +kernel
theorem dX12_layFar_96 : decode cX12_layFar 96 = .ok (.getfield 234, 3) := by decide +kernel
theorem dX12_layFar_99 : decode cX12_layFar 99 = .ok (.aload_n 0, 1) := by decide +kernel
theorem dX12_layFar_100 : decode cX12_layFar 100 = .ok (.getfield 225, 3) := by decide +kernel
theorem dX12_layFar_103 : decode cX12_layFar 103 = .ok (.iload_n 2, 1) := by decide +kernel
theorem dX12_layFar_104 : decode cX12_layFar 104 = .ok (.iaload, 1) := by decide +kernel
theorem dX12_layFar_105 : decode cX12_layFar 105 = .ok (.iaload, 1) := by decide +kernel
theorem dX12_layFar_106 : decode cX12_layFar 106 = .ok (.if_icmp .ge 29, 3) := by decide +kernel
theorem dX12_layFar_109 : decode cX12_layFar 109 = .ok (.aload_n 0, 1) := by decide +kernel
theorem dX12_layFar_110 : decode cX12_layFar 110 = .ok (.getfield 234, 3) := by decide +kernel
theorem dX12_layFar_113 : decode cX12_layFar 113 = .ok (.aload_n 0, 1) := by decide +kernel
theorem dX12_layFar_114 : decode cX12_layFar 114 = .ok (.getfield 225, 3) := by decide +kernel
theorem dX12_layFar_117 : decode cX12_layFar 117 = .ok (.iload_n 2, 1) := by decide +kernel
theorem dX12_layFar_118 : decode cX12_layFar 118 = .ok (.iaload, 1) := by decide +kernel
theorem dX12_layFar_119 : decode cX12_layFar 119 = .ok (.iload_n 3, 1) := by decide +kernel
theorem dX12_layFar_120 : decode cX12_layFar 120 = .ok (.iastore, 1) := by decide +kernel
theorem dX12_layFar_121 : decode cX12_layFar 121 = .ok (.aload_n 0, 1) := by decide +kernel
theorem dX12_layFar_122 : decode cX12_layFar 122 = .ok (.getfield 237, 3) := by decide +kernel
theorem dX12_layFar_125 : decode cX12_layFar 125 = .ok (.aload_n 0, 1) := by decide +kernel
theorem dX12_layFar_126 : decode cX12_layFar 126 = .ok (.getfield 225, 3) := by decide +kernel
theorem dX12_layFar_129 : decode cX12_layFar 129 = .ok (.iload_n 2, 1) := by decide +kernel
theorem dX12_layFar_130 : decode cX12_layFar 130 = .ok (.iaload, 1) := by decide +kernel
theorem dX12_layFar_131 : decode cX12_layFar 131 = .ok (.iload_n 2, 1) := by decide +kernel
theorem dX12_layFar_132 : decode cX12_layFar 132 = .ok (.iastore, 1) := by decide +kernel
theorem dX12_layFar_133 : decode cX12_layFar 133 = .ok (.iconst 1, 1) := by decide +kernel
theorem dX12_layFar_134 : decode cX12_layFar 134 = .ok (.istore_n 1, 1) := by decide +kernel
theorem dX12_layFar_135 : decode cX12_layFar 135 = .ok (.iinc 2 1, 3) := by decide +kernel
theorem dX12_layFar_138 : decode cX12_layFar 138 = .ok (.goto (-97), 3) := by decide +kernel
theorem dX12_layFar_141 : decode cX12_layFar 141 = .ok (.goto (-108), 3) := by decide +kernel
theorem dX12_layFar_144 : decode cX12_layFar 144 = .ok (.aload_n 0, 1) := by decide +kernel
theorem dX12_layFar_145 : decode cX12_layFar 145 = .ok (.getfield 234, 3) := by decide +kernel
theorem dX12_layFar_148 : decode cX12_layFar 148 = .ok (.iconst 1, 1) := by decide +kernel
theorem dX12_layFar_149 : decode cX12_layFar 149 = .ok (.iaload, 1) := by decide +kernel
theorem dX12_layFar_150 : decode cX12_layFar 150 = .ok (.ifCond .ge 7, 3) := by decide +kernel
theorem dX12_layFar_153 : decode cX12_layFar 153 = .ok (.iconst 1, 1) := by decide +kernel
theorem dX12_layFar_154 : decode cX12_layFar 154 = .ok (.goto 4, 3) := by decide +kernel
theorem dX12_layFar_157 : decode cX12_layFar 157 = .ok (.iconst 0, 1) := by decide +kernel
theorem dX12_layFar_158 : decode cX12_layFar 158 = .ok (.ireturn, 1) := by decide +kernel
theorem dX12_earnsMost_0 : decode cX12_earnsMost 0 = .ok (.aload_n 0, 1) := by decide +kernel
theorem dX12_earnsMost_1 : decode cX12_earnsMost 1 = .ok (.iconst 0, 1) := by decide +kernel
theorem dX12_earnsMost_2 : decode cX12_earnsMost 2 = .ok (.putfield 465, 3) := by decide +kernel
theorem dX12_earnsMost_5 : decode cX12_earnsMost 5 = .ok (.iconst 0, 1) := by decide +kernel
theorem dX12_earnsMost_6 : decode cX12_earnsMost 6 = .ok (.istore_n 1, 1) := by decide +kernel
theorem dX12_earnsMost_7 : decode cX12_earnsMost 7 = .ok (.iconst 0, 1) := by decide +kernel
theorem dX12_earnsMost_8 : decode cX12_earnsMost 8 = .ok (.istore_n 2, 1) := by decide +kernel
theorem dX12_earnsMost_9 : decode cX12_earnsMost 9 = .ok (.iload_n 2, 1) := by decide +kernel
theorem dX12_earnsMost_10 : decode cX12_earnsMost 10 = .ok (.bipush 9, 2) := by decide +kernel
theorem dX12_earnsMost_12 : decode cX12_earnsMost 12 = .ok (.if_icmp .ge 74, 3) := by decide +kernel
theorem dX12_earnsMost_15 : decode cX12_earnsMost 15 = .ok (.aload_n 0, 1) := by decide +kernel
theorem dX12_earnsMost_16 : decode cX12_earnsMost 16 = .ok (.getfield 219, 3) := by decide +kernel
theorem dX12_earnsMost_19 : decode cX12_earnsMost 19 = .ok (.istore_n 3, 1) := by decide +kernel
theorem dX12_earnsMost_20 : decode cX12_earnsMost 20 = .ok (.iconst 0, 1) := by decide +kernel
theorem dX12_earnsMost_21 : decode cX12_earnsMost 21 = .ok (.istore 4, 2) := by decide +kernel
theorem dX12_earnsMost_23 : decode cX12_earnsMost 23 = .ok (.iload 4, 2) := by decide +kernel
theorem dX12_earnsMost_25 : decode cX12_earnsMost 25 = .ok (.aload_n 0, 1) := by decide +kernel
theorem dX12_earnsMost_26 : decode cX12_earnsMost 26 = .ok (.getfield 460, 3) := by decide +kernel
theorem dX12_earnsMost_29 : decode cX12_earnsMost 29 = .ok (.if_icmp .ge 33, 3) := by decide +kernel
theorem dX12_earnsMost_32 : decode cX12_earnsMost 32 = .ok (.aload_n 0, 1) := by decide +kernel
theorem dX12_earnsMost_33 : decode cX12_earnsMost 33 = .ok (.getfield 240, 3) := by decide +kernel
theorem dX12_earnsMost_36 : decode cX12_earnsMost 36 = .ok (.iload 4, 2) := by decide +kernel
theorem dX12_earnsMost_38 : decode cX12_earnsMost 38 = .ok (.iaload, 1) := by decide +kernel
theorem dX12_earnsMost_39 : decode cX12_earnsMost 39 = .ok (.iload_n 2, 1) := by decide +kernel
theorem dX12_earnsMost_40 : decode cX12_earnsMost 40 = .ok (.if_icmp .ne 16, 3) := by decide +kernel
theorem dX12_earnsMost_43 : decode cX12_earnsMost 43 = .ok (.iinc 3 (-1), 3) := by decide +kernel
theorem dX12_earnsMost_46 : decode cX12_earnsMost 46 = .ok (.iload_n 1, 1) := by decide +kernel
theorem dX12_earnsMost_47 : decode cX12_earnsMost 47 = .ok (.aload_n 0, 1) := by decide +kernel
theorem dX12_earnsMost_48 : decode cX12_earnsMost 48 = .ok (.iload 4, 2) := by decide +kernel
theorem dX12_earnsMost_50 : decode cX12_earnsMost 50 = .ok (.iload_n 2, 1) := by decide +kernel
theorem dX12_earnsMost_51 : decode cX12_earnsMost 51 = .ok (.invokevirtual 468, 3) := by decide +kernel
theorem dX12_earnsMost_54 : decode cX12_earnsMost 54 = .ok (.iadd, 1) := by decide +kernel
theorem dX12_earnsMost_55 : decode cX12_earnsMost 55 = .ok (.istore_n 1, 1) := by decide +kernel
theorem dX12_earnsMost_56 : decode cX12_earnsMost 56 = .ok (.iinc 4 1, 3) := by decide +kernel
theorem dX12_earnsMost_59 : decode cX12_earnsMost 59 = .ok (.goto (-36), 3) := by decide +kernel
theorem dX12_earnsMost_62 : decode cX12_earnsMost 62 = .ok (.iload_n 3, 1) := by decide +kernel
theorem dX12_earnsMost_63 : decode cX12_earnsMost 63 = .ok (.ifCond .ge 6, 3) := by decide +kernel
theorem dX12_earnsMost_66 : decode cX12_earnsMost 66 = .ok (.bipush (-9), 2) := by decide +kernel
theorem dX12_earnsMost_68 : decode cX12_earnsMost 68 = .ok (.ireturn, 1) := by decide +kernel
theorem dX12_earnsMost_69 : decode cX12_earnsMost 69 = .ok (.aload_n 0, 1) := by decide +kernel
theorem dX12_earnsMost_70 : decode cX12_earnsMost 70 = .ok (.bipush 10, 2) := by decide +kernel
theorem dX12_earnsMost_72 : decode cX12_earnsMost 72 = .ok (.iload_n 2, 1) := by decide +kernel
theorem dX12_earnsMost_73 : decode cX12_earnsMost 73 = .ok (.iadd, 1) := by decide +kernel
theorem dX12_earnsMost_74 : decode cX12_earnsMost 74 = .ok (.iconst 1, 1) := by decide +kernel
theorem dX12_earnsMost_75 : decode cX12_earnsMost 75 = .ok (.iload_n 3, 1) := by decide +kernel
theorem dX12_earnsMost_76 : decode cX12_earnsMost 76 = .ok (.iconst 0, 1) := by decide +kernel
theorem dX12_earnsMost_77 : decode cX12_earnsMost 77 = .ok (.invokevirtual 471, 3) := by decide +kernel
theorem dX12_earnsMost_80 : decode cX12_earnsMost 80 = .ok (.iinc 2 1, 3) := by decide +kernel
theorem dX12_earnsMost_83 : decode cX12_earnsMost 83 = .ok (.goto (-74), 3) := by decide +kernel
theorem dX12_earnsMost_86 : decode cX12_earnsMost 86 = .ok (.iconst 0, 1) := by decide +kernel
theorem dX12_earnsMost_87 : decode cX12_earnsMost 87 = .ok (.istore_n 2, 1) := by decide +kernel
theorem dX12_earnsMost_88 : decode cX12_earnsMost 88 = .ok (.iload_n 2, 1) := by decide +kernel
theorem dX12_earnsMost_89 : decode cX12_earnsMost 89 = .ok (.aload_n 0, 1) := by decide +kernel
theorem dX12_earnsMost_90 : decode cX12_earnsMost 90 = .ok (.getfield 460, 3) := by decide +kernel
theorem dX12_earnsMost_93 : decode cX12_earnsMost 93 = .ok (.if_icmp .ge 72, 3) := by decide +kernel
theorem dX12_earnsMost_96 : decode cX12_earnsMost 96 = .ok (.aload_n 0, 1) := by decide +kernel
theorem dX12_earnsMost_97 : decode cX12_earnsMost 97 = .ok (.getfield 240, 3) := by decide +kernel
theorem dX12_earnsMost_100 : decode cX12_earnsMost 100 = .ok (.iload_n 2, 1) := by decide +kernel
theorem dX12_earnsMost_101 : decode cX12_earnsMost 101 = .ok (.iaload, 1) := by decide +kernel
theorem dX12_earnsMost_102 : decode cX12_earnsMost 102 = .ok (.bipush 9, 2) := by decide +kernel
theorem dX12_earnsMost_104 : decode cX12_earnsMost 104 = .ok (.if_icmp .ne 55, 3) := by decide +kernel
theorem dX12_earnsMost_107 : decode cX12_earnsMost 107 = .ok (.aload_n 0, 1) := by decide +kernel
theorem dX12_earnsMost_108 : decode cX12_earnsMost 108 = .ok (.iconst 0, 1) := by decide +kernel
theorem dX12_earnsMost_109 : decode cX12_earnsMost 109 = .ok (.iconst 2, 1) := by decide +kernel
theorem dX12_earnsMost_110 : decode cX12_earnsMost 110 = .ok (.iload_n 2, 1) := by decide +kernel
theorem dX12_earnsMost_111 : decode cX12_earnsMost 111 = .ok (.iadd, 1) := by decide +kernel
theorem dX12_earnsMost_112 : decode cX12_earnsMost 112 = .ok (.iconst 1, 1) := by decide +kernel
theorem dX12_earnsMost_113 : decode cX12_earnsMost 113 = .ok (.iconst 0, 1) := by decide +kernel
theorem dX12_earnsMost_114 : decode cX12_earnsMost 114 = .ok (.invokevirtual 471, 3) := by decide +kernel
theorem dX12_earnsMost_117 : decode cX12_earnsMost 117 = .ok (.aload_n 0, 1) := by decide +kernel
theorem dX12_earnsMost_118 : decode cX12_earnsMost 118 = .ok (.getfield 207, 3) := by decide +kernel
theorem dX12_earnsMost_121 : decode cX12_earnsMost 121 = .ok (.iload_n 2, 1) := by decide +kernel
theorem dX12_earnsMost_122 : decode cX12_earnsMost 122 = .ok (.iaload, 1) := by decide +kernel
theorem dX12_earnsMost_123 : decode cX12_earnsMost 123 = .ok (.istore_n 3, 1) := by decide +kernel
theorem dX12_earnsMost_124 : decode cX12_earnsMost 124 = .ok (.iload_n 3, 1) := by decide +kernel
theorem dX12_earnsMost_125 : decode cX12_earnsMost 125 = .ok (.aload_n 0, 1) := by decide +kernel
theorem dX12_earnsMost_126 : decode cX12_earnsMost 126 = .ok (.getfield 210, 3) := by decide +kernel
theorem dX12_earnsMost_129 : decode cX12_earnsMost 129 = .ok (.iload_n 2, 1) := by decide +kernel
theorem dX12_earnsMost_130 : decode cX12_earnsMost 130 = .ok (.iaload, 1) := by decide +kernel
theorem dX12_earnsMost_131 : decode cX12_earnsMost 131 = .ok (.if_icmp .gt 28, 3) := by decide +kernel
theorem dX12_earnsMost_134 : decode cX12_earnsMost 134 = .ok (.aload_n 0, 1) := by decide +kernel
theorem dX12_earnsMost_135 : decode cX12_earnsMost 135 = .ok (.iconst 2, 1) := by decide +kernel
theorem dX12_earnsMost_136 : decode cX12_earnsMost 136 = .ok (.iload_n 2, 1) := by decide +kernel
theorem dX12_earnsMost_137 : decode cX12_earnsMost 137 = .ok (.iadd, 1) := by decide +kernel
theorem dX12_earnsMost_138 : decode cX12_earnsMost 138 = .ok (.bipush 10, 2) := by decide +kernel
theorem dX12_earnsMost_140 : decode cX12_earnsMost 140 = .ok (.iload_n 3, 1) := by decide +kernel
theorem dX12_earnsMost_141 : decode cX12_earnsMost 141 = .ok (.iadd, 1) := by decide +kernel
theorem dX12_earnsMost_142 : decode cX12_earnsMost 142 = .ok (.iconst 1, 1) := by decide +kernel
theorem dX12_earnsMost_143 : decode cX12_earnsMost 143 = .ok (.aload_n 0, 1) := by decide +kernel
theorem dX12_earnsMost_144 : decode cX12_earnsMost 144 = .ok (.iload_n 2, 1) := by decide +kernel
theorem dX12_earnsMost_145 : decode cX12_earnsMost 145 = .ok (.iload_n 3, 1) := by decide +kernel
theorem dX12_earnsMost_146 : decode cX12_earnsMost 146 = .ok (.invokevirtual 468, 3) := by decide +kernel
theorem dX12_earnsMost_149 : decode cX12_earnsMost 149 = .ok (.ineg, 1) := by decide +kernel
theorem dX12_earnsMost_150 : decode cX12_earnsMost 150 = .ok (.invokevirtual 471, 3) := by decide +kernel
theorem dX12_earnsMost_153 : decode cX12_earnsMost 153 = .ok (.iinc 3 1, 3) := by decide +kernel
theorem dX12_earnsMost_156 : decode cX12_earnsMost 156 = .ok (.goto (-32), 3) := by decide +kernel
theorem dX12_earnsMost_159 : decode cX12_earnsMost 159 = .ok (.iinc 2 1, 3) := by decide +kernel
theorem dX12_earnsMost_162 : decode cX12_earnsMost 162 = .ok (.goto (-74), 3) := by decide +kernel
theorem dX12_earnsMost_165 : decode cX12_earnsMost 165 = .ok (.aload_n 0, 1) := by decide +kernel
theorem dX12_earnsMost_166 : decode cX12_earnsMost 166 = .ok (.invokevirtual 474, 3) := by decide +kernel
theorem dX12_earnsMost_169 : decode cX12_earnsMost 169 = .ok (.ifCond .eq 68, 3) := by decide +kernel
theorem dX12_earnsMost_172 : decode cX12_earnsMost 172 = .ok (.iconst 1, 1) := by decide +kernel
theorem dX12_earnsMost_173 : decode cX12_earnsMost 173 = .ok (.istore_n 2, 1) := by decide +kernel
theorem dX12_earnsMost_174 : decode cX12_earnsMost 174 = .ok (.iload_n 2, 1) := by decide +kernel
theorem dX12_earnsMost_175 : decode cX12_earnsMost 175 = .ok (.ifCond .eq 50, 3) := by decide +kernel
theorem dX12_earnsMost_178 : decode cX12_earnsMost 178 = .ok (.aload_n 0, 1) := by decide +kernel
theorem dX12_earnsMost_179 : decode cX12_earnsMost 179 = .ok (.getfield 228, 3) := by decide +kernel
theorem dX12_earnsMost_182 : decode cX12_earnsMost 182 = .ok (.aload_n 0, 1) := by decide +kernel
theorem dX12_earnsMost_183 : decode cX12_earnsMost 183 = .ok (.getfield 237, 3) := by decide +kernel
theorem dX12_earnsMost_186 : decode cX12_earnsMost 186 = .ok (.iload_n 2, 1) := by decide +kernel
theorem dX12_earnsMost_187 : decode cX12_earnsMost 187 = .ok (.iaload, 1) := by decide +kernel
theorem dX12_earnsMost_188 : decode cX12_earnsMost 188 = .ok (.dup2, 1) := by decide +kernel
theorem dX12_earnsMost_189 : decode cX12_earnsMost 189 = .ok (.iaload, 1) := by decide +kernel
theorem dX12_earnsMost_190 : decode cX12_earnsMost 190 = .ok (.iconst 1, 1) := by decide +kernel
theorem dX12_earnsMost_191 : decode cX12_earnsMost 191 = .ok (.isub, 1) := by decide +kernel
theorem dX12_earnsMost_192 : decode cX12_earnsMost 192 = .ok (.iastore, 1) := by decide +kernel
theorem dX12_earnsMost_193 : decode cX12_earnsMost 193 = .ok (.aload_n 0, 1) := by decide +kernel
theorem dX12_earnsMost_194 : decode cX12_earnsMost 194 = .ok (.getfield 228, 3) := by decide +kernel
theorem dX12_earnsMost_197 : decode cX12_earnsMost 197 = .ok (.aload_n 0, 1) := by decide +kernel
theorem dX12_earnsMost_198 : decode cX12_earnsMost 198 = .ok (.getfield 237, 3) := by decide +kernel
theorem dX12_earnsMost_201 : decode cX12_earnsMost 201 = .ok (.iload_n 2, 1) := by decide +kernel
theorem dX12_earnsMost_202 : decode cX12_earnsMost 202 = .ok (.iaload, 1) := by decide +kernel
theorem dX12_earnsMost_203 : decode cX12_earnsMost 203 = .ok (.iconst 1, 1) := by decide +kernel
theorem dX12_earnsMost_204 : decode cX12_earnsMost 204 = .ok (.ixor, 1) := by decide +kernel
theorem dX12_earnsMost_205 : decode cX12_earnsMost 205 = .ok (.dup2, 1) := by decide +kernel
theorem dX12_earnsMost_206 : decode cX12_earnsMost 206 = .ok (.iaload, 1) := by decide +kernel
theorem dX12_earnsMost_207 : decode cX12_earnsMost 207 = .ok (.iconst 1, 1) := by decide +kernel
theorem dX12_earnsMost_208 : decode cX12_earnsMost 208 = .ok (.iadd, 1) := by decide +kernel
theorem dX12_earnsMost_209 : decode cX12_earnsMost 209 = .ok (.iastore, 1) := by decide +kernel
theorem dX12_earnsMost_210 : decode cX12_earnsMost 210 = .ok (.aload_n 0, 1) := by decide +kernel
theorem dX12_earnsMost_211 : decode cX12_earnsMost 211 = .ok (.getfield 222, 3) := by decide +kernel
theorem dX12_earnsMost_214 : decode cX12_earnsMost 214 = .ok (.aload_n 0, 1) := by decide +kernel
theorem dX12_earnsMost_215 : decode cX12_earnsMost 215 = .ok (.getfield 237, 3) := by decide +kernel
theorem dX12_earnsMost_218 : decode cX12_earnsMost 218 = .ok (.iload_n 2, 1) := by decide +kernel
theorem dX12_earnsMost_219 : decode cX12_earnsMost 219 = .ok (.iaload, 1) := by decide +kernel
theorem dX12_earnsMost_220 : decode cX12_earnsMost 220 = .ok (.iaload, 1) := by decide +kernel
theorem dX12_earnsMost_221 : decode cX12_earnsMost 221 = .ok (.istore_n 2, 1) := by decide +kernel
theorem dX12_earnsMost_222 : decode cX12_earnsMost 222 = .ok (.goto (-48), 3) := by decide +kernel
theorem dX12_earnsMost_225 : decode cX12_earnsMost 225 = .ok (.iload_n 1, 1) := by decide +kernel
theorem dX12_earnsMost_226 : decode cX12_earnsMost 226 = .ok (.aload_n 0, 1) := by decide +kernel
theorem dX12_earnsMost_227 : decode cX12_earnsMost 227 = .ok (.getfield 234, 3) := by decide +kernel
theorem dX12_earnsMost_230 : decode cX12_earnsMost 230 = .ok (.iconst 1, 1) := by decide +kernel
theorem dX12_earnsMost_231 : decode cX12_earnsMost 231 = .ok (.iaload, 1) := by decide +kernel
theorem dX12_earnsMost_232 : decode cX12_earnsMost 232 = .ok (.isub, 1) := by decide +kernel
theorem dX12_earnsMost_233 : decode cX12_earnsMost 233 = .ok (.istore_n 1, 1) := by decide +kernel
theorem dX12_earnsMost_234 : decode cX12_earnsMost 234 = .ok (.goto (-69), 3) := by decide +kernel
theorem dX12_earnsMost_237 : decode cX12_earnsMost 237 = .ok (.iload_n 1, 1) := by decide +kernel
theorem dX12_earnsMost_238 : decode cX12_earnsMost 238 = .ok (.ireturn, 1) := by decide +kernel
theorem dX12_freeAll_0 : decode cX12_freeAll 0 = .ok (.iconst 0, 1) := by decide +kernel
theorem dX12_freeAll_1 : decode cX12_freeAll 1 = .ok (.istore_n 1, 1) := by decide +kernel
theorem dX12_freeAll_2 : decode cX12_freeAll 2 = .ok (.iload_n 1, 1) := by decide +kernel
theorem dX12_freeAll_3 : decode cX12_freeAll 3 = .ok (.bipush 8, 2) := by decide +kernel
theorem dX12_freeAll_5 : decode cX12_freeAll 5 = .ok (.if_icmp .ge 17, 3) := by decide +kernel
theorem dX12_freeAll_8 : decode cX12_freeAll 8 = .ok (.aload_n 0, 1) := by decide +kernel
theorem dX12_freeAll_9 : decode cX12_freeAll 9 = .ok (.getfield 240, 3) := by decide +kernel
theorem dX12_freeAll_12 : decode cX12_freeAll 12 = .ok (.iload_n 1, 1) := by decide +kernel
theorem dX12_freeAll_13 : decode cX12_freeAll 13 = .ok (.bipush 9, 2) := by decide +kernel
theorem dX12_freeAll_15 : decode cX12_freeAll 15 = .ok (.iastore, 1) := by decide +kernel
theorem dX12_freeAll_16 : decode cX12_freeAll 16 = .ok (.iinc 1 1, 3) := by decide +kernel
theorem dX12_freeAll_19 : decode cX12_freeAll 19 = .ok (.goto (-17), 3) := by decide +kernel
theorem dX12_freeAll_22 : decode cX12_freeAll 22 = .ok (.aload_n 0, 1) := by decide +kernel
theorem dX12_freeAll_23 : decode cX12_freeAll 23 = .ok (.invokevirtual 478, 3) := by decide +kernel
theorem dX12_freeAll_26 : decode cX12_freeAll 26 = .ok (.ireturn, 1) := by decide +kernel
theorem dX12_run_0 : decode cX12_run 0 = .ok (.aload_n 0, 1) := by decide +kernel
theorem dX12_run_1 : decode cX12_run 1 = .ok (.invokevirtual 481, 3) := by decide +kernel
theorem dX12_run_4 : decode cX12_run 4 = .ok (.ireturn, 1) := by decide +kernel
theorem dX12_week_0 : decode cX12_week 0 = .ok (.iload_n 1, 1) := by decide +kernel
theorem dX12_week_1 : decode cX12_week 1 = .ok (.i2l, 1) := by decide +kernel
theorem dX12_week_2 : decode cX12_week 2 = .ok (.lconst 0, 1) := by decide +kernel
theorem dX12_week_3 : decode cX12_week 3 = .ok (.aload_n 0, 1) := by decide +kernel
theorem dX12_week_4 : decode cX12_week 4 = .ok (.getfield 460, 3) := by decide +kernel
theorem dX12_week_7 : decode cX12_week 7 = .ok (.iconst 1, 1) := by decide +kernel
theorem dX12_week_8 : decode cX12_week 8 = .ok (.isub, 1) := by decide +kernel
theorem dX12_week_9 : decode cX12_week 9 = .ok (.i2l, 1) := by decide +kernel
theorem dX12_week_10 : decode cX12_week 10 = .ok (.invokestatic 245, 3) := by decide +kernel
theorem dX12_week_13 : decode cX12_week 13 = .ok (.ifCond .ne 5, 3) := by decide +kernel
theorem dX12_week_16 : decode cX12_week 16 = .ok (.iconst (-1), 1) := by decide +kernel
theorem dX12_week_17 : decode cX12_week 17 = .ok (.ireturn, 1) := by decide +kernel
theorem dX12_week_18 : decode cX12_week 18 = .ok (.aload_n 0, 1) := by decide +kernel
theorem dX12_week_19 : decode cX12_week 19 = .ok (.invokevirtual 481, 3) := by decide +kernel
theorem dX12_week_22 : decode cX12_week 22 = .ok (.istore_n 2, 1) := by decide +kernel
theorem dX12_week_23 : decode cX12_week 23 = .ok (.iconst 0, 1) := by decide +kernel
theorem dX12_week_24 : decode cX12_week 24 = .ok (.istore_n 3, 1) := by decide +kernel
theorem dX12_week_25 : decode cX12_week 25 = .ok (.iload_n 3, 1) := by decide +kernel
theorem dX12_week_26 : decode cX12_week 26 = .ok (.iload_n 1, 1) := by decide +kernel
theorem dX12_week_27 : decode cX12_week 27 = .ok (.if_icmp .gt 82, 3) := by decide +kernel
theorem dX12_week_30 : decode cX12_week 30 = .ok (.aload_n 0, 1) := by decide +kernel
theorem dX12_week_31 : decode cX12_week 31 = .ok (.getfield 207, 3) := by decide +kernel
theorem dX12_week_34 : decode cX12_week 34 = .ok (.iload_n 3, 1) := by decide +kernel
theorem dX12_week_35 : decode cX12_week 35 = .ok (.iaload, 1) := by decide +kernel
theorem dX12_week_36 : decode cX12_week 36 = .ok (.istore 4, 2) := by decide +kernel
theorem dX12_week_38 : decode cX12_week 38 = .ok (.aload_n 0, 1) := by decide +kernel
theorem dX12_week_39 : decode cX12_week 39 = .ok (.getfield 240, 3) := by decide +kernel
theorem dX12_week_42 : decode cX12_week 42 = .ok (.iload_n 3, 1) := by decide +kernel
theorem dX12_week_43 : decode cX12_week 43 = .ok (.iload 4, 2) := by decide +kernel
theorem dX12_week_45 : decode cX12_week 45 = .ok (.iastore, 1) := by decide +kernel
theorem dX12_week_46 : decode cX12_week 46 = .ok (.iload 4, 2) := by decide +kernel
theorem dX12_week_48 : decode cX12_week 48 = .ok (.aload_n 0, 1) := by decide +kernel
theorem dX12_week_49 : decode cX12_week 49 = .ok (.getfield 210, 3) := by decide +kernel
theorem dX12_week_52 : decode cX12_week 52 = .ok (.iload_n 3, 1) := by decide +kernel
theorem dX12_week_53 : decode cX12_week 53 = .ok (.iaload, 1) := by decide +kernel
theorem dX12_week_54 : decode cX12_week 54 = .ok (.if_icmp .gt 25, 3) := by decide +kernel
theorem dX12_week_57 : decode cX12_week 57 = .ok (.aload_n 0, 1) := by decide +kernel
theorem dX12_week_58 : decode cX12_week 58 = .ok (.invokevirtual 478, 3) := by decide +kernel
theorem dX12_week_61 : decode cX12_week 61 = .ok (.iload_n 2, 1) := by decide +kernel
theorem dX12_week_62 : decode cX12_week 62 = .ok (.if_icmp .eq 17, 3) := by decide +kernel
theorem dX12_week_65 : decode cX12_week 65 = .ok (.iinc 4 1, 3) := by decide +kernel
theorem dX12_week_68 : decode cX12_week 68 = .ok (.aload_n 0, 1) := by decide +kernel
theorem dX12_week_69 : decode cX12_week 69 = .ok (.getfield 240, 3) := by decide +kernel
theorem dX12_week_72 : decode cX12_week 72 = .ok (.iload_n 3, 1) := by decide +kernel
theorem dX12_week_73 : decode cX12_week 73 = .ok (.iload 4, 2) := by decide +kernel
theorem dX12_week_75 : decode cX12_week 75 = .ok (.iastore, 1) := by decide +kernel
theorem dX12_week_76 : decode cX12_week 76 = .ok (.goto (-30), 3) := by decide +kernel
theorem dX12_week_79 : decode cX12_week 79 = .ok (.aload_n 0, 1) := by decide +kernel
theorem dX12_week_80 : decode cX12_week 80 = .ok (.getfield 240, 3) := by decide +kernel
theorem dX12_week_83 : decode cX12_week 83 = .ok (.iload_n 3, 1) := by decide +kernel
theorem dX12_week_84 : decode cX12_week 84 = .ok (.iload 4, 2) := by decide +kernel
theorem dX12_week_86 : decode cX12_week 86 = .ok (.aload_n 0, 1) := by decide +kernel
theorem dX12_week_87 : decode cX12_week 87 = .ok (.getfield 210, 3) := by decide +kernel
theorem dX12_week_90 : decode cX12_week 90 = .ok (.iload_n 3, 1) := by decide +kernel
theorem dX12_week_91 : decode cX12_week 91 = .ok (.iaload, 1) := by decide +kernel
theorem dX12_week_92 : decode cX12_week 92 = .ok (.if_icmp .le 8, 3) := by decide +kernel
theorem dX12_week_95 : decode cX12_week 95 = .ok (.bipush (-9), 2) := by decide +kernel
theorem dX12_week_97 : decode cX12_week 97 = .ok (.goto 5, 3) := by decide +kernel
theorem dX12_week_100 : decode cX12_week 100 = .ok (.iload 4, 2) := by decide +kernel
theorem dX12_week_102 : decode cX12_week 102 = .ok (.iastore, 1) := by decide +kernel
theorem dX12_week_103 : decode cX12_week 103 = .ok (.iinc 3 1, 3) := by decide +kernel
theorem dX12_week_106 : decode cX12_week 106 = .ok (.goto (-81), 3) := by decide +kernel
theorem dX12_week_109 : decode cX12_week 109 = .ok (.aload_n 0, 1) := by decide +kernel
theorem dX12_week_110 : decode cX12_week 110 = .ok (.getfield 240, 3) := by decide +kernel
theorem dX12_week_113 : decode cX12_week 113 = .ok (.iload_n 1, 1) := by decide +kernel
theorem dX12_week_114 : decode cX12_week 114 = .ok (.iaload, 1) := by decide +kernel
theorem dX12_week_115 : decode cX12_week 115 = .ok (.ireturn, 1) := by decide +kernel
theorem dX12_count_0 : decode cX12_count 0 = .ok (.iconst 0, 1) := by decide +kernel
theorem dX12_count_1 : decode cX12_count 1 = .ok (.istore_n 2, 1) := by decide +kernel
theorem dX12_count_2 : decode cX12_count 2 = .ok (.iconst 0, 1) := by decide +kernel
theorem dX12_count_3 : decode cX12_count 3 = .ok (.istore_n 3, 1) := by decide +kernel
theorem dX12_count_4 : decode cX12_count 4 = .ok (.iload_n 3, 1) := by decide +kernel
theorem dX12_count_5 : decode cX12_count 5 = .ok (.aload_n 0, 1) := by decide +kernel
theorem dX12_count_6 : decode cX12_count 6 = .ok (.getfield 279, 3) := by decide +kernel
theorem dX12_count_9 : decode cX12_count 9 = .ok (.if_icmp .ge 30, 3) := by decide +kernel
theorem dX12_count_12 : decode cX12_count 12 = .ok (.iload_n 2, 1) := by decide +kernel
theorem dX12_count_13 : decode cX12_count 13 = .ok (.aload_n 0, 1) := by decide +kernel
theorem dX12_count_14 : decode cX12_count 14 = .ok (.iload_n 3, 1) := by decide +kernel
theorem dX12_count_15 : decode cX12_count 15 = .ok (.aload_n 0, 1) := by decide +kernel
theorem dX12_count_16 : decode cX12_count 16 = .ok (.getfield 255, 3) := by decide +kernel
theorem dX12_count_19 : decode cX12_count 19 = .ok (.invokevirtual 297, 3) := by decide +kernel
theorem dX12_count_22 : decode cX12_count 22 = .ok (.iconst 3, 1) := by decide +kernel
theorem dX12_count_23 : decode cX12_count 23 = .ok (.if_icmp .ne 7, 3) := by decide +kernel
theorem dX12_count_26 : decode cX12_count 26 = .ok (.iconst 1, 1) := by decide +kernel
theorem dX12_count_27 : decode cX12_count 27 = .ok (.goto 4, 3) := by decide +kernel
theorem dX12_count_30 : decode cX12_count 30 = .ok (.iconst 0, 1) := by decide +kernel
theorem dX12_count_31 : decode cX12_count 31 = .ok (.iadd, 1) := by decide +kernel
theorem dX12_count_32 : decode cX12_count 32 = .ok (.istore_n 2, 1) := by decide +kernel
theorem dX12_count_33 : decode cX12_count 33 = .ok (.iinc 3 1, 3) := by decide +kernel
theorem dX12_count_36 : decode cX12_count 36 = .ok (.goto (-32), 3) := by decide +kernel
theorem dX12_count_39 : decode cX12_count 39 = .ok (.iload_n 1, 1) := by decide +kernel
theorem dX12_count_40 : decode cX12_count 40 = .ok (.tableswitch 85 0 7 #[48, 53, 55, 60, 65, 70, 75, 80], 48) := by decide +kernel
theorem dX12_count_88 : decode cX12_count 88 = .ok (.aload_n 0, 1) := by decide +kernel
theorem dX12_count_89 : decode cX12_count 89 = .ok (.getfield 279, 3) := by decide +kernel
theorem dX12_count_92 : decode cX12_count 92 = .ok (.ireturn, 1) := by decide +kernel
theorem dX12_count_93 : decode cX12_count 93 = .ok (.iload_n 2, 1) := by decide +kernel
theorem dX12_count_94 : decode cX12_count 94 = .ok (.ireturn, 1) := by decide +kernel
theorem dX12_count_95 : decode cX12_count 95 = .ok (.aload_n 0, 1) := by decide +kernel
theorem dX12_count_96 : decode cX12_count 96 = .ok (.getfield 311, 3) := by decide +kernel
theorem dX12_count_99 : decode cX12_count 99 = .ok (.ireturn, 1) := by decide +kernel
theorem dX12_count_100 : decode cX12_count 100 = .ok (.aload_n 0, 1) := by decide +kernel
theorem dX12_count_101 : decode cX12_count 101 = .ok (.getfield 336, 3) := by decide +kernel
theorem dX12_count_104 : decode cX12_count 104 = .ok (.ireturn, 1) := by decide +kernel
theorem dX12_count_105 : decode cX12_count 105 = .ok (.aload_n 0, 1) := by decide +kernel
theorem dX12_count_106 : decode cX12_count 106 = .ok (.getfield 397, 3) := by decide +kernel
theorem dX12_count_109 : decode cX12_count 109 = .ok (.ireturn, 1) := by decide +kernel
theorem dX12_count_110 : decode cX12_count 110 = .ok (.aload_n 0, 1) := by decide +kernel
theorem dX12_count_111 : decode cX12_count 111 = .ok (.getfield 436, 3) := by decide +kernel
theorem dX12_count_114 : decode cX12_count 114 = .ok (.ireturn, 1) := by decide +kernel
theorem dX12_count_115 : decode cX12_count 115 = .ok (.aload_n 0, 1) := by decide +kernel
theorem dX12_count_116 : decode cX12_count 116 = .ok (.getfield 460, 3) := by decide +kernel
theorem dX12_count_119 : decode cX12_count 119 = .ok (.ireturn, 1) := by decide +kernel
theorem dX12_count_120 : decode cX12_count 120 = .ok (.aload_n 0, 1) := by decide +kernel
theorem dX12_count_121 : decode cX12_count 121 = .ok (.getfield 255, 3) := by decide +kernel
theorem dX12_count_124 : decode cX12_count 124 = .ok (.ireturn, 1) := by decide +kernel
theorem dX12_count_125 : decode cX12_count 125 = .ok (.bipush (-2), 2) := by decide +kernel
theorem dX12_count_127 : decode cX12_count 127 = .ok (.ireturn, 1) := by decide +kernel
theorem dJ6_numberOfLeadingZeros_0f7a4_0 : decode cJ6_numberOfLeadingZeros_0f7a4 0 = .ok (.iload_n 0, 1) := by decide +kernel
theorem dJ6_numberOfLeadingZeros_0f7a4_1 : decode cJ6_numberOfLeadingZeros_0f7a4 1 = .ok (.ifCond .gt 14, 3) := by decide +kernel
theorem dJ6_numberOfLeadingZeros_0f7a4_4 : decode cJ6_numberOfLeadingZeros_0f7a4 4 = .ok (.iload_n 0, 1) := by decide +kernel
theorem dJ6_numberOfLeadingZeros_0f7a4_5 : decode cJ6_numberOfLeadingZeros_0f7a4 5 = .ok (.ifCond .ne 8, 3) := by decide +kernel
theorem dJ6_numberOfLeadingZeros_0f7a4_8 : decode cJ6_numberOfLeadingZeros_0f7a4 8 = .ok (.bipush 32, 2) := by decide +kernel
theorem dJ6_numberOfLeadingZeros_0f7a4_10 : decode cJ6_numberOfLeadingZeros_0f7a4 10 = .ok (.goto 4, 3) := by decide +kernel
theorem dJ6_numberOfLeadingZeros_0f7a4_13 : decode cJ6_numberOfLeadingZeros_0f7a4 13 = .ok (.iconst 0, 1) := by decide +kernel
theorem dJ6_numberOfLeadingZeros_0f7a4_14 : decode cJ6_numberOfLeadingZeros_0f7a4 14 = .ok (.ireturn, 1) := by decide +kernel
theorem dJ6_numberOfLeadingZeros_0f7a4_15 : decode cJ6_numberOfLeadingZeros_0f7a4 15 = .ok (.bipush 31, 2) := by decide +kernel
theorem dJ6_numberOfLeadingZeros_0f7a4_17 : decode cJ6_numberOfLeadingZeros_0f7a4 17 = .ok (.istore_n 1, 1) := by decide +kernel
theorem dJ6_numberOfLeadingZeros_0f7a4_18 : decode cJ6_numberOfLeadingZeros_0f7a4 18 = .ok (.iload_n 0, 1) := by decide +kernel
theorem dJ6_numberOfLeadingZeros_0f7a4_19 : decode cJ6_numberOfLeadingZeros_0f7a4 19 = .ok (.ldc_w 264, 3) := by decide +kernel
theorem dJ6_numberOfLeadingZeros_0f7a4_22 : decode cJ6_numberOfLeadingZeros_0f7a4 22 = .ok (.if_icmp .lt 11, 3) := by decide +kernel
theorem dJ6_numberOfLeadingZeros_0f7a4_25 : decode cJ6_numberOfLeadingZeros_0f7a4 25 = .ok (.iinc 1 (-16), 3) := by decide +kernel
theorem dJ6_numberOfLeadingZeros_0f7a4_28 : decode cJ6_numberOfLeadingZeros_0f7a4 28 = .ok (.iload_n 0, 1) := by decide +kernel
theorem dJ6_numberOfLeadingZeros_0f7a4_29 : decode cJ6_numberOfLeadingZeros_0f7a4 29 = .ok (.bipush 16, 2) := by decide +kernel
theorem dJ6_numberOfLeadingZeros_0f7a4_31 : decode cJ6_numberOfLeadingZeros_0f7a4 31 = .ok (.iushr, 1) := by decide +kernel
theorem dJ6_numberOfLeadingZeros_0f7a4_32 : decode cJ6_numberOfLeadingZeros_0f7a4 32 = .ok (.istore_n 0, 1) := by decide +kernel
theorem dJ6_numberOfLeadingZeros_0f7a4_33 : decode cJ6_numberOfLeadingZeros_0f7a4 33 = .ok (.iload_n 0, 1) := by decide +kernel
theorem dJ6_numberOfLeadingZeros_0f7a4_34 : decode cJ6_numberOfLeadingZeros_0f7a4 34 = .ok (.sipush 256, 3) := by decide +kernel
theorem dJ6_numberOfLeadingZeros_0f7a4_37 : decode cJ6_numberOfLeadingZeros_0f7a4 37 = .ok (.if_icmp .lt 11, 3) := by decide +kernel
theorem dJ6_numberOfLeadingZeros_0f7a4_40 : decode cJ6_numberOfLeadingZeros_0f7a4 40 = .ok (.iinc 1 (-8), 3) := by decide +kernel
theorem dJ6_numberOfLeadingZeros_0f7a4_43 : decode cJ6_numberOfLeadingZeros_0f7a4 43 = .ok (.iload_n 0, 1) := by decide +kernel
theorem dJ6_numberOfLeadingZeros_0f7a4_44 : decode cJ6_numberOfLeadingZeros_0f7a4 44 = .ok (.bipush 8, 2) := by decide +kernel
theorem dJ6_numberOfLeadingZeros_0f7a4_46 : decode cJ6_numberOfLeadingZeros_0f7a4 46 = .ok (.iushr, 1) := by decide +kernel
theorem dJ6_numberOfLeadingZeros_0f7a4_47 : decode cJ6_numberOfLeadingZeros_0f7a4 47 = .ok (.istore_n 0, 1) := by decide +kernel
theorem dJ6_numberOfLeadingZeros_0f7a4_48 : decode cJ6_numberOfLeadingZeros_0f7a4 48 = .ok (.iload_n 0, 1) := by decide +kernel
theorem dJ6_numberOfLeadingZeros_0f7a4_49 : decode cJ6_numberOfLeadingZeros_0f7a4 49 = .ok (.bipush 16, 2) := by decide +kernel
theorem dJ6_numberOfLeadingZeros_0f7a4_51 : decode cJ6_numberOfLeadingZeros_0f7a4 51 = .ok (.if_icmp .lt 10, 3) := by decide +kernel
theorem dJ6_numberOfLeadingZeros_0f7a4_54 : decode cJ6_numberOfLeadingZeros_0f7a4 54 = .ok (.iinc 1 (-4), 3) := by decide +kernel
theorem dJ6_numberOfLeadingZeros_0f7a4_57 : decode cJ6_numberOfLeadingZeros_0f7a4 57 = .ok (.iload_n 0, 1) := by decide +kernel
theorem dJ6_numberOfLeadingZeros_0f7a4_58 : decode cJ6_numberOfLeadingZeros_0f7a4 58 = .ok (.iconst 4, 1) := by decide +kernel
theorem dJ6_numberOfLeadingZeros_0f7a4_59 : decode cJ6_numberOfLeadingZeros_0f7a4 59 = .ok (.iushr, 1) := by decide +kernel
theorem dJ6_numberOfLeadingZeros_0f7a4_60 : decode cJ6_numberOfLeadingZeros_0f7a4 60 = .ok (.istore_n 0, 1) := by decide +kernel
theorem dJ6_numberOfLeadingZeros_0f7a4_61 : decode cJ6_numberOfLeadingZeros_0f7a4 61 = .ok (.iload_n 0, 1) := by decide +kernel
theorem dJ6_numberOfLeadingZeros_0f7a4_62 : decode cJ6_numberOfLeadingZeros_0f7a4 62 = .ok (.iconst 4, 1) := by decide +kernel
theorem dJ6_numberOfLeadingZeros_0f7a4_63 : decode cJ6_numberOfLeadingZeros_0f7a4 63 = .ok (.if_icmp .lt 10, 3) := by decide +kernel
theorem dJ6_numberOfLeadingZeros_0f7a4_66 : decode cJ6_numberOfLeadingZeros_0f7a4 66 = .ok (.iinc 1 (-2), 3) := by decide +kernel
theorem dJ6_numberOfLeadingZeros_0f7a4_69 : decode cJ6_numberOfLeadingZeros_0f7a4 69 = .ok (.iload_n 0, 1) := by decide +kernel
theorem dJ6_numberOfLeadingZeros_0f7a4_70 : decode cJ6_numberOfLeadingZeros_0f7a4 70 = .ok (.iconst 2, 1) := by decide +kernel
theorem dJ6_numberOfLeadingZeros_0f7a4_71 : decode cJ6_numberOfLeadingZeros_0f7a4 71 = .ok (.iushr, 1) := by decide +kernel
theorem dJ6_numberOfLeadingZeros_0f7a4_72 : decode cJ6_numberOfLeadingZeros_0f7a4 72 = .ok (.istore_n 0, 1) := by decide +kernel
theorem dJ6_numberOfLeadingZeros_0f7a4_73 : decode cJ6_numberOfLeadingZeros_0f7a4 73 = .ok (.iload_n 1, 1) := by decide +kernel
theorem dJ6_numberOfLeadingZeros_0f7a4_74 : decode cJ6_numberOfLeadingZeros_0f7a4 74 = .ok (.iload_n 0, 1) := by decide +kernel
theorem dJ6_numberOfLeadingZeros_0f7a4_75 : decode cJ6_numberOfLeadingZeros_0f7a4 75 = .ok (.iconst 1, 1) := by decide +kernel
theorem dJ6_numberOfLeadingZeros_0f7a4_76 : decode cJ6_numberOfLeadingZeros_0f7a4 76 = .ok (.iushr, 1) := by decide +kernel
theorem dJ6_numberOfLeadingZeros_0f7a4_77 : decode cJ6_numberOfLeadingZeros_0f7a4 77 = .ok (.isub, 1) := by decide +kernel
theorem dJ6_numberOfLeadingZeros_0f7a4_78 : decode cJ6_numberOfLeadingZeros_0f7a4 78 = .ok (.ireturn, 1) := by decide +kernel
theorem dJ6_bitCount_0f7a4_0 : decode cJ6_bitCount_0f7a4 0 = .ok (.iload_n 0, 1) := by decide +kernel
theorem dJ6_bitCount_0f7a4_1 : decode cJ6_bitCount_0f7a4 1 = .ok (.iload_n 0, 1) := by decide +kernel
theorem dJ6_bitCount_0f7a4_2 : decode cJ6_bitCount_0f7a4 2 = .ok (.iconst 1, 1) := by decide +kernel
theorem dJ6_bitCount_0f7a4_3 : decode cJ6_bitCount_0f7a4 3 = .ok (.iushr, 1) := by decide +kernel
theorem dJ6_bitCount_0f7a4_4 : decode cJ6_bitCount_0f7a4 4 = .ok (.ldc_w 265, 3) := by decide +kernel
theorem dJ6_bitCount_0f7a4_7 : decode cJ6_bitCount_0f7a4 7 = .ok (.iand, 1) := by decide +kernel
theorem dJ6_bitCount_0f7a4_8 : decode cJ6_bitCount_0f7a4 8 = .ok (.isub, 1) := by decide +kernel
theorem dJ6_bitCount_0f7a4_9 : decode cJ6_bitCount_0f7a4 9 = .ok (.istore_n 0, 1) := by decide +kernel
theorem dJ6_bitCount_0f7a4_10 : decode cJ6_bitCount_0f7a4 10 = .ok (.iload_n 0, 1) := by decide +kernel
theorem dJ6_bitCount_0f7a4_11 : decode cJ6_bitCount_0f7a4 11 = .ok (.ldc_w 266, 3) := by decide +kernel
theorem dJ6_bitCount_0f7a4_14 : decode cJ6_bitCount_0f7a4 14 = .ok (.iand, 1) := by decide +kernel
theorem dJ6_bitCount_0f7a4_15 : decode cJ6_bitCount_0f7a4 15 = .ok (.iload_n 0, 1) := by decide +kernel
theorem dJ6_bitCount_0f7a4_16 : decode cJ6_bitCount_0f7a4 16 = .ok (.iconst 2, 1) := by decide +kernel
theorem dJ6_bitCount_0f7a4_17 : decode cJ6_bitCount_0f7a4 17 = .ok (.iushr, 1) := by decide +kernel
theorem dJ6_bitCount_0f7a4_18 : decode cJ6_bitCount_0f7a4 18 = .ok (.ldc_w 266, 3) := by decide +kernel
theorem dJ6_bitCount_0f7a4_21 : decode cJ6_bitCount_0f7a4 21 = .ok (.iand, 1) := by decide +kernel
theorem dJ6_bitCount_0f7a4_22 : decode cJ6_bitCount_0f7a4 22 = .ok (.iadd, 1) := by decide +kernel
theorem dJ6_bitCount_0f7a4_23 : decode cJ6_bitCount_0f7a4 23 = .ok (.istore_n 0, 1) := by decide +kernel
theorem dJ6_bitCount_0f7a4_24 : decode cJ6_bitCount_0f7a4 24 = .ok (.iload_n 0, 1) := by decide +kernel
theorem dJ6_bitCount_0f7a4_25 : decode cJ6_bitCount_0f7a4 25 = .ok (.iload_n 0, 1) := by decide +kernel
theorem dJ6_bitCount_0f7a4_26 : decode cJ6_bitCount_0f7a4 26 = .ok (.iconst 4, 1) := by decide +kernel
theorem dJ6_bitCount_0f7a4_27 : decode cJ6_bitCount_0f7a4 27 = .ok (.iushr, 1) := by decide +kernel
theorem dJ6_bitCount_0f7a4_28 : decode cJ6_bitCount_0f7a4 28 = .ok (.iadd, 1) := by decide +kernel
theorem dJ6_bitCount_0f7a4_29 : decode cJ6_bitCount_0f7a4 29 = .ok (.ldc_w 267, 3) := by decide +kernel
theorem dJ6_bitCount_0f7a4_32 : decode cJ6_bitCount_0f7a4 32 = .ok (.iand, 1) := by decide +kernel
theorem dJ6_bitCount_0f7a4_33 : decode cJ6_bitCount_0f7a4 33 = .ok (.istore_n 0, 1) := by decide +kernel
theorem dJ6_bitCount_0f7a4_34 : decode cJ6_bitCount_0f7a4 34 = .ok (.iload_n 0, 1) := by decide +kernel
theorem dJ6_bitCount_0f7a4_35 : decode cJ6_bitCount_0f7a4 35 = .ok (.iload_n 0, 1) := by decide +kernel
theorem dJ6_bitCount_0f7a4_36 : decode cJ6_bitCount_0f7a4 36 = .ok (.bipush 8, 2) := by decide +kernel
theorem dJ6_bitCount_0f7a4_38 : decode cJ6_bitCount_0f7a4 38 = .ok (.iushr, 1) := by decide +kernel
theorem dJ6_bitCount_0f7a4_39 : decode cJ6_bitCount_0f7a4 39 = .ok (.iadd, 1) := by decide +kernel
theorem dJ6_bitCount_0f7a4_40 : decode cJ6_bitCount_0f7a4 40 = .ok (.istore_n 0, 1) := by decide +kernel
theorem dJ6_bitCount_0f7a4_41 : decode cJ6_bitCount_0f7a4 41 = .ok (.iload_n 0, 1) := by decide +kernel
theorem dJ6_bitCount_0f7a4_42 : decode cJ6_bitCount_0f7a4 42 = .ok (.iload_n 0, 1) := by decide +kernel
theorem dJ6_bitCount_0f7a4_43 : decode cJ6_bitCount_0f7a4 43 = .ok (.bipush 16, 2) := by decide +kernel
theorem dJ6_bitCount_0f7a4_45 : decode cJ6_bitCount_0f7a4 45 = .ok (.iushr, 1) := by decide +kernel
theorem dJ6_bitCount_0f7a4_46 : decode cJ6_bitCount_0f7a4 46 = .ok (.iadd, 1) := by decide +kernel
theorem dJ6_bitCount_0f7a4_47 : decode cJ6_bitCount_0f7a4 47 = .ok (.istore_n 0, 1) := by decide +kernel
theorem dJ6_bitCount_0f7a4_48 : decode cJ6_bitCount_0f7a4 48 = .ok (.iload_n 0, 1) := by decide +kernel
theorem dJ6_bitCount_0f7a4_49 : decode cJ6_bitCount_0f7a4 49 = .ok (.bipush 63, 2) := by decide +kernel
theorem dJ6_bitCount_0f7a4_51 : decode cJ6_bitCount_0f7a4 51 = .ok (.iand, 1) := by decide +kernel
theorem dJ6_bitCount_0f7a4_52 : decode cJ6_bitCount_0f7a4 52 = .ok (.ireturn, 1) := by decide +kernel
theorem dJ9_max_7cf53_0 : decode cJ9_max_7cf53 0 = .ok (.iload_n 0, 1) := by decide +kernel
theorem dJ9_max_7cf53_1 : decode cJ9_max_7cf53 1 = .ok (.iload_n 1, 1) := by decide +kernel
theorem dJ9_max_7cf53_2 : decode cJ9_max_7cf53 2 = .ok (.if_icmp .lt 7, 3) := by decide +kernel
theorem dJ9_max_7cf53_5 : decode cJ9_max_7cf53 5 = .ok (.iload_n 0, 1) := by decide +kernel
theorem dJ9_max_7cf53_6 : decode cJ9_max_7cf53 6 = .ok (.goto 4, 3) := by decide +kernel
theorem dJ9_max_7cf53_9 : decode cJ9_max_7cf53 9 = .ok (.iload_n 1, 1) := by decide +kernel
theorem dJ9_max_7cf53_10 : decode cJ9_max_7cf53 10 = .ok (.ireturn, 1) := by decide +kernel
theorem dJ9_max_f86c9_0 : decode cJ9_max_f86c9 0 = .ok (.lload_n 0, 1) := by decide +kernel
theorem dJ9_max_f86c9_1 : decode cJ9_max_f86c9 1 = .ok (.lload_n 2, 1) := by decide +kernel
theorem dJ9_max_f86c9_2 : decode cJ9_max_f86c9 2 = .ok (.lcmp, 1) := by decide +kernel
theorem dJ9_max_f86c9_3 : decode cJ9_max_f86c9 3 = .ok (.ifCond .lt 7, 3) := by decide +kernel
theorem dJ9_max_f86c9_6 : decode cJ9_max_f86c9 6 = .ok (.lload_n 0, 1) := by decide +kernel
theorem dJ9_max_f86c9_7 : decode cJ9_max_f86c9 7 = .ok (.goto 4, 3) := by decide +kernel
theorem dJ9_max_f86c9_10 : decode cJ9_max_f86c9 10 = .ok (.lload_n 2, 1) := by decide +kernel
theorem dJ9_max_f86c9_11 : decode cJ9_max_f86c9 11 = .ok (.lreturn, 1) := by decide +kernel
theorem dJ9_min_7cf53_0 : decode cJ9_min_7cf53 0 = .ok (.iload_n 0, 1) := by decide +kernel
theorem dJ9_min_7cf53_1 : decode cJ9_min_7cf53 1 = .ok (.iload_n 1, 1) := by decide +kernel
theorem dJ9_min_7cf53_2 : decode cJ9_min_7cf53 2 = .ok (.if_icmp .gt 7, 3) := by decide +kernel
theorem dJ9_min_7cf53_5 : decode cJ9_min_7cf53 5 = .ok (.iload_n 0, 1) := by decide +kernel
theorem dJ9_min_7cf53_6 : decode cJ9_min_7cf53 6 = .ok (.goto 4, 3) := by decide +kernel
theorem dJ9_min_7cf53_9 : decode cJ9_min_7cf53 9 = .ok (.iload_n 1, 1) := by decide +kernel
theorem dJ9_min_7cf53_10 : decode cJ9_min_7cf53 10 = .ok (.ireturn, 1) := by decide +kernel
theorem dJ7_fill_d0a16_0 : decode cJ7_fill_d0a16 0 = .ok (.iconst 0, 1) := by decide +kernel
theorem dJ7_fill_d0a16_1 : decode cJ7_fill_d0a16 1 = .ok (.istore_n 3, 1) := by decide +kernel
theorem dJ7_fill_d0a16_2 : decode cJ7_fill_d0a16 2 = .ok (.aload_n 0, 1) := by decide +kernel
theorem dJ7_fill_d0a16_3 : decode cJ7_fill_d0a16 3 = .ok (.arraylength, 1) := by decide +kernel
theorem dJ7_fill_d0a16_4 : decode cJ7_fill_d0a16 4 = .ok (.istore 4, 2) := by decide +kernel
theorem dJ7_fill_d0a16_6 : decode cJ7_fill_d0a16 6 = .ok (.iload_n 3, 1) := by decide +kernel
theorem dJ7_fill_d0a16_7 : decode cJ7_fill_d0a16 7 = .ok (.iload 4, 2) := by decide +kernel
theorem dJ7_fill_d0a16_9 : decode cJ7_fill_d0a16 9 = .ok (.if_icmp .ge 13, 3) := by decide +kernel
theorem dJ7_fill_d0a16_12 : decode cJ7_fill_d0a16 12 = .ok (.aload_n 0, 1) := by decide +kernel
theorem dJ7_fill_d0a16_13 : decode cJ7_fill_d0a16 13 = .ok (.iload_n 3, 1) := by decide +kernel
theorem dJ7_fill_d0a16_14 : decode cJ7_fill_d0a16 14 = .ok (.lload_n 1, 1) := by decide +kernel
theorem dJ7_fill_d0a16_15 : decode cJ7_fill_d0a16 15 = .ok (.lastore, 1) := by decide +kernel
theorem dJ7_fill_d0a16_16 : decode cJ7_fill_d0a16 16 = .ok (.iinc 3 1, 3) := by decide +kernel
theorem dJ7_fill_d0a16_19 : decode cJ7_fill_d0a16 19 = .ok (.goto (-13), 3) := by decide +kernel
theorem dJ7_fill_d0a16_22 : decode cJ7_fill_d0a16 22 = .ok (.return_, 1) := by decide +kernel
theorem dJ7_fill_53178_0 : decode cJ7_fill_53178 0 = .ok (.iconst 0, 1) := by decide +kernel
theorem dJ7_fill_53178_1 : decode cJ7_fill_53178 1 = .ok (.istore_n 2, 1) := by decide +kernel
theorem dJ7_fill_53178_2 : decode cJ7_fill_53178 2 = .ok (.aload_n 0, 1) := by decide +kernel
theorem dJ7_fill_53178_3 : decode cJ7_fill_53178 3 = .ok (.arraylength, 1) := by decide +kernel
theorem dJ7_fill_53178_4 : decode cJ7_fill_53178 4 = .ok (.istore_n 3, 1) := by decide +kernel
theorem dJ7_fill_53178_5 : decode cJ7_fill_53178 5 = .ok (.iload_n 2, 1) := by decide +kernel
theorem dJ7_fill_53178_6 : decode cJ7_fill_53178 6 = .ok (.iload_n 3, 1) := by decide +kernel
theorem dJ7_fill_53178_7 : decode cJ7_fill_53178 7 = .ok (.if_icmp .ge 13, 3) := by decide +kernel
theorem dJ7_fill_53178_10 : decode cJ7_fill_53178 10 = .ok (.aload_n 0, 1) := by decide +kernel
theorem dJ7_fill_53178_11 : decode cJ7_fill_53178 11 = .ok (.iload_n 2, 1) := by decide +kernel
theorem dJ7_fill_53178_12 : decode cJ7_fill_53178 12 = .ok (.iload_n 1, 1) := by decide +kernel
theorem dJ7_fill_53178_13 : decode cJ7_fill_53178 13 = .ok (.iastore, 1) := by decide +kernel
theorem dJ7_fill_53178_14 : decode cJ7_fill_53178 14 = .ok (.iinc 2 1, 3) := by decide +kernel
theorem dJ7_fill_53178_17 : decode cJ7_fill_53178 17 = .ok (.goto (-12), 3) := by decide +kernel
theorem dJ7_fill_53178_20 : decode cJ7_fill_53178 20 = .ok (.return_, 1) := by decide +kernel
theorem dL_law_0 : decode cL_law 0 = .ok (.new 7, 3) := by decide +kernel
theorem dL_law_3 : decode cL_law 3 = .ok (.dup, 1) := by decide +kernel
theorem dL_law_4 : decode cL_law 4 = .ok (.invokespecial 9, 3) := by decide +kernel
theorem dL_law_7 : decode cL_law 7 = .ok (.astore_n 1, 1) := by decide +kernel
theorem dL_law_8 : decode cL_law 8 = .ok (.new 10, 3) := by decide +kernel
theorem dL_law_11 : decode cL_law 11 = .ok (.dup, 1) := by decide +kernel
theorem dL_law_12 : decode cL_law 12 = .ok (.invokespecial 12, 3) := by decide +kernel
theorem dL_law_15 : decode cL_law 15 = .ok (.astore_n 2, 1) := by decide +kernel
theorem dL_law_16 : decode cL_law 16 = .ok (.iconst 0, 1) := by decide +kernel
theorem dL_law_17 : decode cL_law 17 = .ok (.istore_n 3, 1) := by decide +kernel
theorem dL_law_18 : decode cL_law 18 = .ok (.iload_n 3, 1) := by decide +kernel
theorem dL_law_19 : decode cL_law 19 = .ok (.aload_n 0, 1) := by decide +kernel
theorem dL_law_20 : decode cL_law 20 = .ok (.arraylength, 1) := by decide +kernel
theorem dL_law_21 : decode cL_law 21 = .ok (.bipush 7, 2) := by decide +kernel
theorem dL_law_23 : decode cL_law 23 = .ok (.isub, 1) := by decide +kernel
theorem dL_law_24 : decode cL_law 24 = .ok (.if_icmp .gt 2152, 3) := by decide +kernel
theorem dL_law_27 : decode cL_law 27 = .ok (.aload_n 0, 1) := by decide +kernel
theorem dL_law_28 : decode cL_law 28 = .ok (.iload_n 3, 1) := by decide +kernel
theorem dL_law_29 : decode cL_law 29 = .ok (.iaload, 1) := by decide +kernel
theorem dL_law_30 : decode cL_law 30 = .ok (.bipush 63, 2) := by decide +kernel
theorem dL_law_32 : decode cL_law 32 = .ok (.iand, 1) := by decide +kernel
theorem dL_law_33 : decode cL_law 33 = .ok (.tableswitch 2137 0 49 #[215, 238, 313, 336, 405, 480, 513, 536, 585, 608, 631, 664, 677, 730, 773, 816, 869, 902, 935, 984, 1033, 1066, 1089, 1112, 1145, 1168, 1231, 1254, 1287, 1330, 1379, 1442, 1465, 1508, 1557, 1616, 1665, 1698, 1741, 1814, 1847, 1890, 1933, 1946, 1969, 2022, 2055, 2078, 2091, 2114], 215) := by decide +kernel
theorem dL_law_248 : decode cL_law 248 = .ok (.aload_n 1, 1) := by decide +kernel
theorem dL_law_249 : decode cL_law 249 = .ok (.aload_n 0, 1) := by decide +kernel
theorem dL_law_250 : decode cL_law 250 = .ok (.iload_n 3, 1) := by decide +kernel
theorem dL_law_251 : decode cL_law 251 = .ok (.iconst 1, 1) := by decide +kernel
theorem dL_law_252 : decode cL_law 252 = .ok (.iadd, 1) := by decide +kernel
theorem dL_law_253 : decode cL_law 253 = .ok (.iaload, 1) := by decide +kernel
theorem dL_law_254 : decode cL_law 254 = .ok (.invokevirtual 13, 3) := by decide +kernel
theorem dL_law_257 : decode cL_law 257 = .ok (.aload_n 2, 1) := by decide +kernel
theorem dL_law_258 : decode cL_law 258 = .ok (.aload_n 0, 1) := by decide +kernel
theorem dL_law_259 : decode cL_law 259 = .ok (.iload_n 3, 1) := by decide +kernel
theorem dL_law_260 : decode cL_law 260 = .ok (.iconst 1, 1) := by decide +kernel
theorem dL_law_261 : decode cL_law 261 = .ok (.iadd, 1) := by decide +kernel
theorem dL_law_262 : decode cL_law 262 = .ok (.iaload, 1) := by decide +kernel
theorem dL_law_263 : decode cL_law 263 = .ok (.invokevirtual 17, 3) := by decide +kernel
theorem dL_law_266 : decode cL_law 266 = .ok (.if_icmp .eq 1904, 3) := by decide +kernel
theorem dL_law_269 : decode cL_law 269 = .ok (.iconst 0, 1) := by decide +kernel
theorem dL_law_270 : decode cL_law 270 = .ok (.ireturn, 1) := by decide +kernel
theorem dL_law_271 : decode cL_law 271 = .ok (.aload_n 1, 1) := by decide +kernel
theorem dL_law_272 : decode cL_law 272 = .ok (.aload_n 0, 1) := by decide +kernel
theorem dL_law_273 : decode cL_law 273 = .ok (.iload_n 3, 1) := by decide +kernel
theorem dL_law_274 : decode cL_law 274 = .ok (.iconst 1, 1) := by decide +kernel
theorem dL_law_275 : decode cL_law 275 = .ok (.iadd, 1) := by decide +kernel
theorem dL_law_276 : decode cL_law 276 = .ok (.iaload, 1) := by decide +kernel
theorem dL_law_277 : decode cL_law 277 = .ok (.aload_n 0, 1) := by decide +kernel
theorem dL_law_278 : decode cL_law 278 = .ok (.iload_n 3, 1) := by decide +kernel
theorem dL_law_279 : decode cL_law 279 = .ok (.iconst 2, 1) := by decide +kernel
theorem dL_law_280 : decode cL_law 280 = .ok (.iadd, 1) := by decide +kernel
theorem dL_law_281 : decode cL_law 281 = .ok (.iaload, 1) := by decide +kernel
theorem dL_law_282 : decode cL_law 282 = .ok (.aload_n 0, 1) := by decide +kernel
theorem dL_law_283 : decode cL_law 283 = .ok (.iload_n 3, 1) := by decide +kernel
theorem dL_law_284 : decode cL_law 284 = .ok (.iconst 3, 1) := by decide +kernel
theorem dL_law_285 : decode cL_law 285 = .ok (.iadd, 1) := by decide +kernel
theorem dL_law_286 : decode cL_law 286 = .ok (.iaload, 1) := by decide +kernel
theorem dL_law_287 : decode cL_law 287 = .ok (.aload_n 0, 1) := by decide +kernel
theorem dL_law_288 : decode cL_law 288 = .ok (.iload_n 3, 1) := by decide +kernel
theorem dL_law_289 : decode cL_law 289 = .ok (.iconst 4, 1) := by decide +kernel
theorem dL_law_290 : decode cL_law 290 = .ok (.iadd, 1) := by decide +kernel
theorem dL_law_291 : decode cL_law 291 = .ok (.iaload, 1) := by decide +kernel
theorem dL_law_292 : decode cL_law 292 = .ok (.aload_n 0, 1) := by decide +kernel
theorem dL_law_293 : decode cL_law 293 = .ok (.iload_n 3, 1) := by decide +kernel
theorem dL_law_294 : decode cL_law 294 = .ok (.iconst 5, 1) := by decide +kernel
theorem dL_law_295 : decode cL_law 295 = .ok (.iadd, 1) := by decide +kernel
theorem dL_law_296 : decode cL_law 296 = .ok (.iaload, 1) := by decide +kernel
theorem dL_law_297 : decode cL_law 297 = .ok (.aload_n 0, 1) := by decide +kernel
theorem dL_law_298 : decode cL_law 298 = .ok (.iload_n 3, 1) := by decide +kernel
theorem dL_law_299 : decode cL_law 299 = .ok (.bipush 6, 2) := by decide +kernel
theorem dL_law_301 : decode cL_law 301 = .ok (.iadd, 1) := by decide +kernel
theorem dL_law_302 : decode cL_law 302 = .ok (.iaload, 1) := by decide +kernel
theorem dL_law_303 : decode cL_law 303 = .ok (.invokevirtual 18, 3) := by decide +kernel
theorem dL_law_306 : decode cL_law 306 = .ok (.aload_n 2, 1) := by decide +kernel
theorem dL_law_307 : decode cL_law 307 = .ok (.aload_n 0, 1) := by decide +kernel
theorem dL_law_308 : decode cL_law 308 = .ok (.iload_n 3, 1) := by decide +kernel
theorem dL_law_309 : decode cL_law 309 = .ok (.iconst 1, 1) := by decide +kernel
theorem dL_law_310 : decode cL_law 310 = .ok (.iadd, 1) := by decide +kernel
theorem dL_law_311 : decode cL_law 311 = .ok (.iaload, 1) := by decide +kernel
theorem dL_law_312 : decode cL_law 312 = .ok (.aload_n 0, 1) := by decide +kernel
theorem dL_law_313 : decode cL_law 313 = .ok (.iload_n 3, 1) := by decide +kernel
theorem dL_law_314 : decode cL_law 314 = .ok (.iconst 2, 1) := by decide +kernel
theorem dL_law_315 : decode cL_law 315 = .ok (.iadd, 1) := by decide +kernel
theorem dL_law_316 : decode cL_law 316 = .ok (.iaload, 1) := by decide +kernel
theorem dL_law_317 : decode cL_law 317 = .ok (.aload_n 0, 1) := by decide +kernel
theorem dL_law_318 : decode cL_law 318 = .ok (.iload_n 3, 1) := by decide +kernel
theorem dL_law_319 : decode cL_law 319 = .ok (.iconst 3, 1) := by decide +kernel
theorem dL_law_320 : decode cL_law 320 = .ok (.iadd, 1) := by decide +kernel
theorem dL_law_321 : decode cL_law 321 = .ok (.iaload, 1) := by decide +kernel
theorem dL_law_322 : decode cL_law 322 = .ok (.aload_n 0, 1) := by decide +kernel
theorem dL_law_323 : decode cL_law 323 = .ok (.iload_n 3, 1) := by decide +kernel
theorem dL_law_324 : decode cL_law 324 = .ok (.iconst 4, 1) := by decide +kernel
theorem dL_law_325 : decode cL_law 325 = .ok (.iadd, 1) := by decide +kernel
theorem dL_law_326 : decode cL_law 326 = .ok (.iaload, 1) := by decide +kernel
theorem dL_law_327 : decode cL_law 327 = .ok (.aload_n 0, 1) := by decide +kernel
theorem dL_law_328 : decode cL_law 328 = .ok (.iload_n 3, 1) := by decide +kernel
theorem dL_law_329 : decode cL_law 329 = .ok (.iconst 5, 1) := by decide +kernel
theorem dL_law_330 : decode cL_law 330 = .ok (.iadd, 1) := by decide +kernel
theorem dL_law_331 : decode cL_law 331 = .ok (.iaload, 1) := by decide +kernel
theorem dL_law_332 : decode cL_law 332 = .ok (.aload_n 0, 1) := by decide +kernel
theorem dL_law_333 : decode cL_law 333 = .ok (.iload_n 3, 1) := by decide +kernel
theorem dL_law_334 : decode cL_law 334 = .ok (.bipush 6, 2) := by decide +kernel
theorem dL_law_336 : decode cL_law 336 = .ok (.iadd, 1) := by decide +kernel
theorem dL_law_337 : decode cL_law 337 = .ok (.iaload, 1) := by decide +kernel
theorem dL_law_338 : decode cL_law 338 = .ok (.invokevirtual 22, 3) := by decide +kernel
theorem dL_law_341 : decode cL_law 341 = .ok (.if_icmp .eq 1829, 3) := by decide +kernel
theorem dL_law_344 : decode cL_law 344 = .ok (.iconst 0, 1) := by decide +kernel
theorem dL_law_345 : decode cL_law 345 = .ok (.ireturn, 1) := by decide +kernel
theorem dL_law_346 : decode cL_law 346 = .ok (.aload_n 1, 1) := by decide +kernel
theorem dL_law_347 : decode cL_law 347 = .ok (.aload_n 0, 1) := by decide +kernel
theorem dL_law_348 : decode cL_law 348 = .ok (.iload_n 3, 1) := by decide +kernel
theorem dL_law_349 : decode cL_law 349 = .ok (.iconst 1, 1) := by decide +kernel
theorem dL_law_350 : decode cL_law 350 = .ok (.iadd, 1) := by decide +kernel
theorem dL_law_351 : decode cL_law 351 = .ok (.iaload, 1) := by decide +kernel
theorem dL_law_352 : decode cL_law 352 = .ok (.invokevirtual 23, 3) := by decide +kernel
theorem dL_law_355 : decode cL_law 355 = .ok (.aload_n 2, 1) := by decide +kernel
theorem dL_law_356 : decode cL_law 356 = .ok (.aload_n 0, 1) := by decide +kernel
theorem dL_law_357 : decode cL_law 357 = .ok (.iload_n 3, 1) := by decide +kernel
theorem dL_law_358 : decode cL_law 358 = .ok (.iconst 1, 1) := by decide +kernel
theorem dL_law_359 : decode cL_law 359 = .ok (.iadd, 1) := by decide +kernel
theorem dL_law_360 : decode cL_law 360 = .ok (.iaload, 1) := by decide +kernel
theorem dL_law_361 : decode cL_law 361 = .ok (.invokevirtual 26, 3) := by decide +kernel
theorem dL_law_364 : decode cL_law 364 = .ok (.if_icmp .eq 1806, 3) := by decide +kernel
theorem dL_law_367 : decode cL_law 367 = .ok (.iconst 0, 1) := by decide +kernel
theorem dL_law_368 : decode cL_law 368 = .ok (.ireturn, 1) := by decide +kernel
theorem dL_law_369 : decode cL_law 369 = .ok (.aload_n 1, 1) := by decide +kernel
theorem dL_law_370 : decode cL_law 370 = .ok (.aload_n 0, 1) := by decide +kernel
theorem dL_law_371 : decode cL_law 371 = .ok (.iload_n 3, 1) := by decide +kernel
theorem dL_law_372 : decode cL_law 372 = .ok (.iconst 1, 1) := by decide +kernel
theorem dL_law_373 : decode cL_law 373 = .ok (.iadd, 1) := by decide +kernel
theorem dL_law_374 : decode cL_law 374 = .ok (.iaload, 1) := by decide +kernel
theorem dL_law_375 : decode cL_law 375 = .ok (.aload_n 0, 1) := by decide +kernel
theorem dL_law_376 : decode cL_law 376 = .ok (.iload_n 3, 1) := by decide +kernel
theorem dL_law_377 : decode cL_law 377 = .ok (.iconst 2, 1) := by decide +kernel
theorem dL_law_378 : decode cL_law 378 = .ok (.iadd, 1) := by decide +kernel
theorem dL_law_379 : decode cL_law 379 = .ok (.iaload, 1) := by decide +kernel
theorem dL_law_380 : decode cL_law 380 = .ok (.aload_n 0, 1) := by decide +kernel
theorem dL_law_381 : decode cL_law 381 = .ok (.iload_n 3, 1) := by decide +kernel
theorem dL_law_382 : decode cL_law 382 = .ok (.iconst 3, 1) := by decide +kernel
theorem dL_law_383 : decode cL_law 383 = .ok (.iadd, 1) := by decide +kernel
theorem dL_law_384 : decode cL_law 384 = .ok (.iaload, 1) := by decide +kernel
theorem dL_law_385 : decode cL_law 385 = .ok (.aload_n 0, 1) := by decide +kernel
theorem dL_law_386 : decode cL_law 386 = .ok (.iload_n 3, 1) := by decide +kernel
theorem dL_law_387 : decode cL_law 387 = .ok (.iconst 4, 1) := by decide +kernel
theorem dL_law_388 : decode cL_law 388 = .ok (.iadd, 1) := by decide +kernel
theorem dL_law_389 : decode cL_law 389 = .ok (.iaload, 1) := by decide +kernel
theorem dL_law_390 : decode cL_law 390 = .ok (.ifCond .eq 7, 3) := by decide +kernel
theorem dL_law_393 : decode cL_law 393 = .ok (.iconst 1, 1) := by decide +kernel
theorem dL_law_394 : decode cL_law 394 = .ok (.goto 4, 3) := by decide +kernel
theorem dL_law_397 : decode cL_law 397 = .ok (.iconst 0, 1) := by decide +kernel
theorem dL_law_398 : decode cL_law 398 = .ok (.invokevirtual 27, 3) := by decide +kernel
theorem dL_law_401 : decode cL_law 401 = .ok (.aload_n 2, 1) := by decide +kernel
theorem dL_law_402 : decode cL_law 402 = .ok (.aload_n 0, 1) := by decide +kernel
theorem dL_law_403 : decode cL_law 403 = .ok (.iload_n 3, 1) := by decide +kernel
theorem dL_law_404 : decode cL_law 404 = .ok (.iconst 1, 1) := by decide +kernel
theorem dL_law_405 : decode cL_law 405 = .ok (.iadd, 1) := by decide +kernel
theorem dL_law_406 : decode cL_law 406 = .ok (.iaload, 1) := by decide +kernel
theorem dL_law_407 : decode cL_law 407 = .ok (.aload_n 0, 1) := by decide +kernel
theorem dL_law_408 : decode cL_law 408 = .ok (.iload_n 3, 1) := by decide +kernel
theorem dL_law_409 : decode cL_law 409 = .ok (.iconst 2, 1) := by decide +kernel
theorem dL_law_410 : decode cL_law 410 = .ok (.iadd, 1) := by decide +kernel
theorem dL_law_411 : decode cL_law 411 = .ok (.iaload, 1) := by decide +kernel
theorem dL_law_412 : decode cL_law 412 = .ok (.aload_n 0, 1) := by decide +kernel
theorem dL_law_413 : decode cL_law 413 = .ok (.iload_n 3, 1) := by decide +kernel
theorem dL_law_414 : decode cL_law 414 = .ok (.iconst 3, 1) := by decide +kernel
theorem dL_law_415 : decode cL_law 415 = .ok (.iadd, 1) := by decide +kernel
theorem dL_law_416 : decode cL_law 416 = .ok (.iaload, 1) := by decide +kernel
theorem dL_law_417 : decode cL_law 417 = .ok (.aload_n 0, 1) := by decide +kernel
theorem dL_law_418 : decode cL_law 418 = .ok (.iload_n 3, 1) := by decide +kernel
theorem dL_law_419 : decode cL_law 419 = .ok (.iconst 4, 1) := by decide +kernel
theorem dL_law_420 : decode cL_law 420 = .ok (.iadd, 1) := by decide +kernel
theorem dL_law_421 : decode cL_law 421 = .ok (.iaload, 1) := by decide +kernel
theorem dL_law_422 : decode cL_law 422 = .ok (.ifCond .eq 7, 3) := by decide +kernel
theorem dL_law_425 : decode cL_law 425 = .ok (.iconst 1, 1) := by decide +kernel
theorem dL_law_426 : decode cL_law 426 = .ok (.goto 4, 3) := by decide +kernel
theorem dL_law_429 : decode cL_law 429 = .ok (.iconst 0, 1) := by decide +kernel
theorem dL_law_430 : decode cL_law 430 = .ok (.invokevirtual 31, 3) := by decide +kernel
theorem dL_law_433 : decode cL_law 433 = .ok (.if_icmp .eq 1737, 3) := by decide +kernel
theorem dL_law_436 : decode cL_law 436 = .ok (.iconst 0, 1) := by decide +kernel
theorem dL_law_437 : decode cL_law 437 = .ok (.ireturn, 1) := by decide +kernel
theorem dL_law_438 : decode cL_law 438 = .ok (.aload_n 1, 1) := by decide +kernel
theorem dL_law_439 : decode cL_law 439 = .ok (.aload_n 0, 1) := by decide +kernel
theorem dL_law_440 : decode cL_law 440 = .ok (.iload_n 3, 1) := by decide +kernel
theorem dL_law_441 : decode cL_law 441 = .ok (.iconst 1, 1) := by decide +kernel
theorem dL_law_442 : decode cL_law 442 = .ok (.iadd, 1) := by decide +kernel
theorem dL_law_443 : decode cL_law 443 = .ok (.iaload, 1) := by decide +kernel
theorem dL_law_444 : decode cL_law 444 = .ok (.aload_n 0, 1) := by decide +kernel
theorem dL_law_445 : decode cL_law 445 = .ok (.iload_n 3, 1) := by decide +kernel
theorem dL_law_446 : decode cL_law 446 = .ok (.iconst 2, 1) := by decide +kernel
theorem dL_law_447 : decode cL_law 447 = .ok (.iadd, 1) := by decide +kernel
theorem dL_law_448 : decode cL_law 448 = .ok (.iaload, 1) := by decide +kernel
theorem dL_law_449 : decode cL_law 449 = .ok (.aload_n 0, 1) := by decide +kernel
theorem dL_law_450 : decode cL_law 450 = .ok (.iload_n 3, 1) := by decide +kernel
theorem dL_law_451 : decode cL_law 451 = .ok (.iconst 3, 1) := by decide +kernel
theorem dL_law_452 : decode cL_law 452 = .ok (.iadd, 1) := by decide +kernel
theorem dL_law_453 : decode cL_law 453 = .ok (.iaload, 1) := by decide +kernel
theorem dL_law_454 : decode cL_law 454 = .ok (.aload_n 0, 1) := by decide +kernel
theorem dL_law_455 : decode cL_law 455 = .ok (.iload_n 3, 1) := by decide +kernel
theorem dL_law_456 : decode cL_law 456 = .ok (.iconst 4, 1) := by decide +kernel
theorem dL_law_457 : decode cL_law 457 = .ok (.iadd, 1) := by decide +kernel
theorem dL_law_458 : decode cL_law 458 = .ok (.iaload, 1) := by decide +kernel
theorem dL_law_459 : decode cL_law 459 = .ok (.aload_n 0, 1) := by decide +kernel
theorem dL_law_460 : decode cL_law 460 = .ok (.iload_n 3, 1) := by decide +kernel
theorem dL_law_461 : decode cL_law 461 = .ok (.iconst 5, 1) := by decide +kernel
theorem dL_law_462 : decode cL_law 462 = .ok (.iadd, 1) := by decide +kernel
theorem dL_law_463 : decode cL_law 463 = .ok (.iaload, 1) := by decide +kernel
theorem dL_law_464 : decode cL_law 464 = .ok (.aload_n 0, 1) := by decide +kernel
theorem dL_law_465 : decode cL_law 465 = .ok (.iload_n 3, 1) := by decide +kernel
theorem dL_law_466 : decode cL_law 466 = .ok (.bipush 6, 2) := by decide +kernel
theorem dL_law_468 : decode cL_law 468 = .ok (.iadd, 1) := by decide +kernel
theorem dL_law_469 : decode cL_law 469 = .ok (.iaload, 1) := by decide +kernel
theorem dL_law_470 : decode cL_law 470 = .ok (.invokevirtual 32, 3) := by decide +kernel
theorem dL_law_473 : decode cL_law 473 = .ok (.aload_n 2, 1) := by decide +kernel
theorem dL_law_474 : decode cL_law 474 = .ok (.aload_n 0, 1) := by decide +kernel
theorem dL_law_475 : decode cL_law 475 = .ok (.iload_n 3, 1) := by decide +kernel
theorem dL_law_476 : decode cL_law 476 = .ok (.iconst 1, 1) := by decide +kernel
theorem dL_law_477 : decode cL_law 477 = .ok (.iadd, 1) := by decide +kernel
theorem dL_law_478 : decode cL_law 478 = .ok (.iaload, 1) := by decide +kernel
theorem dL_law_479 : decode cL_law 479 = .ok (.aload_n 0, 1) := by decide +kernel
theorem dL_law_480 : decode cL_law 480 = .ok (.iload_n 3, 1) := by decide +kernel
theorem dL_law_481 : decode cL_law 481 = .ok (.iconst 2, 1) := by decide +kernel
theorem dL_law_482 : decode cL_law 482 = .ok (.iadd, 1) := by decide +kernel
theorem dL_law_483 : decode cL_law 483 = .ok (.iaload, 1) := by decide +kernel
theorem dL_law_484 : decode cL_law 484 = .ok (.aload_n 0, 1) := by decide +kernel
theorem dL_law_485 : decode cL_law 485 = .ok (.iload_n 3, 1) := by decide +kernel
theorem dL_law_486 : decode cL_law 486 = .ok (.iconst 3, 1) := by decide +kernel
theorem dL_law_487 : decode cL_law 487 = .ok (.iadd, 1) := by decide +kernel
theorem dL_law_488 : decode cL_law 488 = .ok (.iaload, 1) := by decide +kernel
theorem dL_law_489 : decode cL_law 489 = .ok (.aload_n 0, 1) := by decide +kernel
theorem dL_law_490 : decode cL_law 490 = .ok (.iload_n 3, 1) := by decide +kernel
theorem dL_law_491 : decode cL_law 491 = .ok (.iconst 4, 1) := by decide +kernel
theorem dL_law_492 : decode cL_law 492 = .ok (.iadd, 1) := by decide +kernel
theorem dL_law_493 : decode cL_law 493 = .ok (.iaload, 1) := by decide +kernel
theorem dL_law_494 : decode cL_law 494 = .ok (.aload_n 0, 1) := by decide +kernel
theorem dL_law_495 : decode cL_law 495 = .ok (.iload_n 3, 1) := by decide +kernel
theorem dL_law_496 : decode cL_law 496 = .ok (.iconst 5, 1) := by decide +kernel
theorem dL_law_497 : decode cL_law 497 = .ok (.iadd, 1) := by decide +kernel
theorem dL_law_498 : decode cL_law 498 = .ok (.iaload, 1) := by decide +kernel
theorem dL_law_499 : decode cL_law 499 = .ok (.aload_n 0, 1) := by decide +kernel
theorem dL_law_500 : decode cL_law 500 = .ok (.iload_n 3, 1) := by decide +kernel
theorem dL_law_501 : decode cL_law 501 = .ok (.bipush 6, 2) := by decide +kernel
theorem dL_law_503 : decode cL_law 503 = .ok (.iadd, 1) := by decide +kernel
theorem dL_law_504 : decode cL_law 504 = .ok (.iaload, 1) := by decide +kernel
theorem dL_law_505 : decode cL_law 505 = .ok (.invokevirtual 35, 3) := by decide +kernel
theorem dL_law_508 : decode cL_law 508 = .ok (.if_icmp .eq 1662, 3) := by decide +kernel
theorem dL_law_511 : decode cL_law 511 = .ok (.iconst 0, 1) := by decide +kernel
theorem dL_law_512 : decode cL_law 512 = .ok (.ireturn, 1) := by decide +kernel
theorem dL_law_513 : decode cL_law 513 = .ok (.aload_n 1, 1) := by decide +kernel
theorem dL_law_514 : decode cL_law 514 = .ok (.aload_n 0, 1) := by decide +kernel
theorem dL_law_515 : decode cL_law 515 = .ok (.iload_n 3, 1) := by decide +kernel
theorem dL_law_516 : decode cL_law 516 = .ok (.iconst 1, 1) := by decide +kernel
theorem dL_law_517 : decode cL_law 517 = .ok (.iadd, 1) := by decide +kernel
theorem dL_law_518 : decode cL_law 518 = .ok (.iaload, 1) := by decide +kernel
theorem dL_law_519 : decode cL_law 519 = .ok (.aload_n 0, 1) := by decide +kernel
theorem dL_law_520 : decode cL_law 520 = .ok (.iload_n 3, 1) := by decide +kernel
theorem dL_law_521 : decode cL_law 521 = .ok (.iconst 2, 1) := by decide +kernel
theorem dL_law_522 : decode cL_law 522 = .ok (.iadd, 1) := by decide +kernel
theorem dL_law_523 : decode cL_law 523 = .ok (.iaload, 1) := by decide +kernel
theorem dL_law_524 : decode cL_law 524 = .ok (.invokevirtual 36, 3) := by decide +kernel
theorem dL_law_527 : decode cL_law 527 = .ok (.aload_n 2, 1) := by decide +kernel
theorem dL_law_528 : decode cL_law 528 = .ok (.aload_n 0, 1) := by decide +kernel
theorem dL_law_529 : decode cL_law 529 = .ok (.iload_n 3, 1) := by decide +kernel
theorem dL_law_530 : decode cL_law 530 = .ok (.iconst 1, 1) := by decide +kernel
theorem dL_law_531 : decode cL_law 531 = .ok (.iadd, 1) := by decide +kernel
theorem dL_law_532 : decode cL_law 532 = .ok (.iaload, 1) := by decide +kernel
theorem dL_law_533 : decode cL_law 533 = .ok (.aload_n 0, 1) := by decide +kernel
theorem dL_law_534 : decode cL_law 534 = .ok (.iload_n 3, 1) := by decide +kernel
theorem dL_law_535 : decode cL_law 535 = .ok (.iconst 2, 1) := by decide +kernel
theorem dL_law_536 : decode cL_law 536 = .ok (.iadd, 1) := by decide +kernel
theorem dL_law_537 : decode cL_law 537 = .ok (.iaload, 1) := by decide +kernel
theorem dL_law_538 : decode cL_law 538 = .ok (.invokevirtual 40, 3) := by decide +kernel
theorem dL_law_541 : decode cL_law 541 = .ok (.if_icmp .eq 1629, 3) := by decide +kernel
theorem dL_law_544 : decode cL_law 544 = .ok (.iconst 0, 1) := by decide +kernel
theorem dL_law_545 : decode cL_law 545 = .ok (.ireturn, 1) := by decide +kernel
theorem dL_law_546 : decode cL_law 546 = .ok (.aload_n 1, 1) := by decide +kernel
theorem dL_law_547 : decode cL_law 547 = .ok (.aload_n 0, 1) := by decide +kernel
theorem dL_law_548 : decode cL_law 548 = .ok (.iload_n 3, 1) := by decide +kernel
theorem dL_law_549 : decode cL_law 549 = .ok (.iconst 1, 1) := by decide +kernel
theorem dL_law_550 : decode cL_law 550 = .ok (.iadd, 1) := by decide +kernel
theorem dL_law_551 : decode cL_law 551 = .ok (.iaload, 1) := by decide +kernel
theorem dL_law_552 : decode cL_law 552 = .ok (.invokevirtual 41, 3) := by decide +kernel
theorem dL_law_555 : decode cL_law 555 = .ok (.aload_n 2, 1) := by decide +kernel
theorem dL_law_556 : decode cL_law 556 = .ok (.aload_n 0, 1) := by decide +kernel
theorem dL_law_557 : decode cL_law 557 = .ok (.iload_n 3, 1) := by decide +kernel
theorem dL_law_558 : decode cL_law 558 = .ok (.iconst 1, 1) := by decide +kernel
theorem dL_law_559 : decode cL_law 559 = .ok (.iadd, 1) := by decide +kernel
theorem dL_law_560 : decode cL_law 560 = .ok (.iaload, 1) := by decide +kernel
theorem dL_law_561 : decode cL_law 561 = .ok (.invokevirtual 44, 3) := by decide +kernel
theorem dL_law_564 : decode cL_law 564 = .ok (.if_icmp .eq 1606, 3) := by decide +kernel
theorem dL_law_567 : decode cL_law 567 = .ok (.iconst 0, 1) := by decide +kernel
theorem dL_law_568 : decode cL_law 568 = .ok (.ireturn, 1) := by decide +kernel
theorem dL_law_569 : decode cL_law 569 = .ok (.aload_n 1, 1) := by decide +kernel
theorem dL_law_570 : decode cL_law 570 = .ok (.aload_n 0, 1) := by decide +kernel
theorem dL_law_571 : decode cL_law 571 = .ok (.iload_n 3, 1) := by decide +kernel
theorem dL_law_572 : decode cL_law 572 = .ok (.iconst 1, 1) := by decide +kernel
theorem dL_law_573 : decode cL_law 573 = .ok (.iadd, 1) := by decide +kernel
theorem dL_law_574 : decode cL_law 574 = .ok (.iaload, 1) := by decide +kernel
theorem dL_law_575 : decode cL_law 575 = .ok (.aload_n 0, 1) := by decide +kernel
theorem dL_law_576 : decode cL_law 576 = .ok (.iload_n 3, 1) := by decide +kernel
theorem dL_law_577 : decode cL_law 577 = .ok (.iconst 2, 1) := by decide +kernel
theorem dL_law_578 : decode cL_law 578 = .ok (.iadd, 1) := by decide +kernel
theorem dL_law_579 : decode cL_law 579 = .ok (.iaload, 1) := by decide +kernel
theorem dL_law_580 : decode cL_law 580 = .ok (.ifCond .eq 7, 3) := by decide +kernel
theorem dL_law_583 : decode cL_law 583 = .ok (.iconst 1, 1) := by decide +kernel
theorem dL_law_584 : decode cL_law 584 = .ok (.goto 4, 3) := by decide +kernel
theorem dL_law_587 : decode cL_law 587 = .ok (.iconst 0, 1) := by decide +kernel
theorem dL_law_588 : decode cL_law 588 = .ok (.invokevirtual 45, 3) := by decide +kernel
theorem dL_law_591 : decode cL_law 591 = .ok (.aload_n 2, 1) := by decide +kernel
theorem dL_law_592 : decode cL_law 592 = .ok (.aload_n 0, 1) := by decide +kernel
theorem dL_law_593 : decode cL_law 593 = .ok (.iload_n 3, 1) := by decide +kernel
theorem dL_law_594 : decode cL_law 594 = .ok (.iconst 1, 1) := by decide +kernel
theorem dL_law_595 : decode cL_law 595 = .ok (.iadd, 1) := by decide +kernel
theorem dL_law_596 : decode cL_law 596 = .ok (.iaload, 1) := by decide +kernel
theorem dL_law_597 : decode cL_law 597 = .ok (.aload_n 0, 1) := by decide +kernel
theorem dL_law_598 : decode cL_law 598 = .ok (.iload_n 3, 1) := by decide +kernel
theorem dL_law_599 : decode cL_law 599 = .ok (.iconst 2, 1) := by decide +kernel
theorem dL_law_600 : decode cL_law 600 = .ok (.iadd, 1) := by decide +kernel
theorem dL_law_601 : decode cL_law 601 = .ok (.iaload, 1) := by decide +kernel
theorem dL_law_602 : decode cL_law 602 = .ok (.ifCond .eq 7, 3) := by decide +kernel
theorem dL_law_605 : decode cL_law 605 = .ok (.iconst 1, 1) := by decide +kernel
theorem dL_law_606 : decode cL_law 606 = .ok (.goto 4, 3) := by decide +kernel
theorem dL_law_609 : decode cL_law 609 = .ok (.iconst 0, 1) := by decide +kernel
theorem dL_law_610 : decode cL_law 610 = .ok (.invokevirtual 49, 3) := by decide +kernel
theorem dL_law_613 : decode cL_law 613 = .ok (.if_icmp .eq 1557, 3) := by decide +kernel
theorem dL_law_616 : decode cL_law 616 = .ok (.iconst 0, 1) := by decide +kernel
theorem dL_law_617 : decode cL_law 617 = .ok (.ireturn, 1) := by decide +kernel
theorem dL_law_618 : decode cL_law 618 = .ok (.aload_n 1, 1) := by decide +kernel
theorem dL_law_619 : decode cL_law 619 = .ok (.aload_n 0, 1) := by decide +kernel
theorem dL_law_620 : decode cL_law 620 = .ok (.iload_n 3, 1) := by decide +kernel
theorem dL_law_621 : decode cL_law 621 = .ok (.iconst 1, 1) := by decide +kernel
theorem dL_law_622 : decode cL_law 622 = .ok (.iadd, 1) := by decide +kernel
theorem dL_law_623 : decode cL_law 623 = .ok (.iaload, 1) := by decide +kernel
theorem dL_law_624 : decode cL_law 624 = .ok (.invokevirtual 50, 3) := by decide +kernel
theorem dL_law_627 : decode cL_law 627 = .ok (.aload_n 2, 1) := by decide +kernel
theorem dL_law_628 : decode cL_law 628 = .ok (.aload_n 0, 1) := by decide +kernel
theorem dL_law_629 : decode cL_law 629 = .ok (.iload_n 3, 1) := by decide +kernel
theorem dL_law_630 : decode cL_law 630 = .ok (.iconst 1, 1) := by decide +kernel
theorem dL_law_631 : decode cL_law 631 = .ok (.iadd, 1) := by decide +kernel
theorem dL_law_632 : decode cL_law 632 = .ok (.iaload, 1) := by decide +kernel
theorem dL_law_633 : decode cL_law 633 = .ok (.invokevirtual 53, 3) := by decide +kernel
theorem dL_law_636 : decode cL_law 636 = .ok (.if_icmp .eq 1534, 3) := by decide +kernel
theorem dL_law_639 : decode cL_law 639 = .ok (.iconst 0, 1) := by decide +kernel
theorem dL_law_640 : decode cL_law 640 = .ok (.ireturn, 1) := by decide +kernel
theorem dL_law_641 : decode cL_law 641 = .ok (.aload_n 1, 1) := by decide +kernel
theorem dL_law_642 : decode cL_law 642 = .ok (.aload_n 0, 1) := by decide +kernel
theorem dL_law_643 : decode cL_law 643 = .ok (.iload_n 3, 1) := by decide +kernel
theorem dL_law_644 : decode cL_law 644 = .ok (.iconst 1, 1) := by decide +kernel
theorem dL_law_645 : decode cL_law 645 = .ok (.iadd, 1) := by decide +kernel
theorem dL_law_646 : decode cL_law 646 = .ok (.iaload, 1) := by decide +kernel
theorem dL_law_647 : decode cL_law 647 = .ok (.invokevirtual 54, 3) := by decide +kernel
theorem dL_law_650 : decode cL_law 650 = .ok (.aload_n 2, 1) := by decide +kernel
theorem dL_law_651 : decode cL_law 651 = .ok (.aload_n 0, 1) := by decide +kernel
theorem dL_law_652 : decode cL_law 652 = .ok (.iload_n 3, 1) := by decide +kernel
theorem dL_law_653 : decode cL_law 653 = .ok (.iconst 1, 1) := by decide +kernel
theorem dL_law_654 : decode cL_law 654 = .ok (.iadd, 1) := by decide +kernel
theorem dL_law_655 : decode cL_law 655 = .ok (.iaload, 1) := by decide +kernel
theorem dL_law_656 : decode cL_law 656 = .ok (.invokevirtual 57, 3) := by decide +kernel
theorem dL_law_659 : decode cL_law 659 = .ok (.if_icmp .eq 1511, 3) := by decide +kernel
theorem dL_law_662 : decode cL_law 662 = .ok (.iconst 0, 1) := by decide +kernel
theorem dL_law_663 : decode cL_law 663 = .ok (.ireturn, 1) := by decide +kernel
theorem dL_law_664 : decode cL_law 664 = .ok (.aload_n 1, 1) := by decide +kernel
theorem dL_law_665 : decode cL_law 665 = .ok (.aload_n 0, 1) := by decide +kernel
theorem dL_law_666 : decode cL_law 666 = .ok (.iload_n 3, 1) := by decide +kernel
theorem dL_law_667 : decode cL_law 667 = .ok (.iconst 1, 1) := by decide +kernel
theorem dL_law_668 : decode cL_law 668 = .ok (.iadd, 1) := by decide +kernel
theorem dL_law_669 : decode cL_law 669 = .ok (.iaload, 1) := by decide +kernel
theorem dL_law_670 : decode cL_law 670 = .ok (.aload_n 0, 1) := by decide +kernel
theorem dL_law_671 : decode cL_law 671 = .ok (.iload_n 3, 1) := by decide +kernel
theorem dL_law_672 : decode cL_law 672 = .ok (.iconst 2, 1) := by decide +kernel
theorem dL_law_673 : decode cL_law 673 = .ok (.iadd, 1) := by decide +kernel
theorem dL_law_674 : decode cL_law 674 = .ok (.iaload, 1) := by decide +kernel
theorem dL_law_675 : decode cL_law 675 = .ok (.invokevirtual 58, 3) := by decide +kernel
theorem dL_law_678 : decode cL_law 678 = .ok (.aload_n 2, 1) := by decide +kernel
theorem dL_law_679 : decode cL_law 679 = .ok (.aload_n 0, 1) := by decide +kernel
theorem dL_law_680 : decode cL_law 680 = .ok (.iload_n 3, 1) := by decide +kernel
theorem dL_law_681 : decode cL_law 681 = .ok (.iconst 1, 1) := by decide +kernel
theorem dL_law_682 : decode cL_law 682 = .ok (.iadd, 1) := by decide +kernel
theorem dL_law_683 : decode cL_law 683 = .ok (.iaload, 1) := by decide +kernel
theorem dL_law_684 : decode cL_law 684 = .ok (.aload_n 0, 1) := by decide +kernel
theorem dL_law_685 : decode cL_law 685 = .ok (.iload_n 3, 1) := by decide +kernel
theorem dL_law_686 : decode cL_law 686 = .ok (.iconst 2, 1) := by decide +kernel
theorem dL_law_687 : decode cL_law 687 = .ok (.iadd, 1) := by decide +kernel
theorem dL_law_688 : decode cL_law 688 = .ok (.iaload, 1) := by decide +kernel
theorem dL_law_689 : decode cL_law 689 = .ok (.invokevirtual 61, 3) := by decide +kernel
theorem dL_law_692 : decode cL_law 692 = .ok (.if_icmp .eq 1478, 3) := by decide +kernel
theorem dL_law_695 : decode cL_law 695 = .ok (.iconst 0, 1) := by decide +kernel
theorem dL_law_696 : decode cL_law 696 = .ok (.ireturn, 1) := by decide +kernel
theorem dL_law_697 : decode cL_law 697 = .ok (.aload_n 1, 1) := by decide +kernel
theorem dL_law_698 : decode cL_law 698 = .ok (.invokevirtual 62, 3) := by decide +kernel
theorem dL_law_701 : decode cL_law 701 = .ok (.aload_n 2, 1) := by decide +kernel
theorem dL_law_702 : decode cL_law 702 = .ok (.invokevirtual 66, 3) := by decide +kernel
theorem dL_law_705 : decode cL_law 705 = .ok (.if_icmp .eq 1465, 3) := by decide +kernel
theorem dL_law_708 : decode cL_law 708 = .ok (.iconst 0, 1) := by decide +kernel
theorem dL_law_709 : decode cL_law 709 = .ok (.ireturn, 1) := by decide +kernel
theorem dL_law_710 : decode cL_law 710 = .ok (.aload_n 1, 1) := by decide +kernel
theorem dL_law_711 : decode cL_law 711 = .ok (.aload_n 0, 1) := by decide +kernel
theorem dL_law_712 : decode cL_law 712 = .ok (.iload_n 3, 1) := by decide +kernel
theorem dL_law_713 : decode cL_law 713 = .ok (.iconst 1, 1) := by decide +kernel
theorem dL_law_714 : decode cL_law 714 = .ok (.iadd, 1) := by decide +kernel
theorem dL_law_715 : decode cL_law 715 = .ok (.iaload, 1) := by decide +kernel
theorem dL_law_716 : decode cL_law 716 = .ok (.aload_n 0, 1) := by decide +kernel
theorem dL_law_717 : decode cL_law 717 = .ok (.iload_n 3, 1) := by decide +kernel
theorem dL_law_718 : decode cL_law 718 = .ok (.iconst 2, 1) := by decide +kernel
theorem dL_law_719 : decode cL_law 719 = .ok (.iadd, 1) := by decide +kernel
theorem dL_law_720 : decode cL_law 720 = .ok (.iaload, 1) := by decide +kernel
theorem dL_law_721 : decode cL_law 721 = .ok (.aload_n 0, 1) := by decide +kernel
theorem dL_law_722 : decode cL_law 722 = .ok (.iload_n 3, 1) := by decide +kernel
theorem dL_law_723 : decode cL_law 723 = .ok (.iconst 3, 1) := by decide +kernel
theorem dL_law_724 : decode cL_law 724 = .ok (.iadd, 1) := by decide +kernel
theorem dL_law_725 : decode cL_law 725 = .ok (.iaload, 1) := by decide +kernel
theorem dL_law_726 : decode cL_law 726 = .ok (.aload_n 0, 1) := by decide +kernel
theorem dL_law_727 : decode cL_law 727 = .ok (.iload_n 3, 1) := by decide +kernel
theorem dL_law_728 : decode cL_law 728 = .ok (.iconst 4, 1) := by decide +kernel
theorem dL_law_729 : decode cL_law 729 = .ok (.iadd, 1) := by decide +kernel
theorem dL_law_730 : decode cL_law 730 = .ok (.iaload, 1) := by decide +kernel
theorem dL_law_731 : decode cL_law 731 = .ok (.invokevirtual 67, 3) := by decide +kernel
theorem dL_law_734 : decode cL_law 734 = .ok (.aload_n 2, 1) := by decide +kernel
theorem dL_law_735 : decode cL_law 735 = .ok (.aload_n 0, 1) := by decide +kernel
theorem dL_law_736 : decode cL_law 736 = .ok (.iload_n 3, 1) := by decide +kernel
theorem dL_law_737 : decode cL_law 737 = .ok (.iconst 1, 1) := by decide +kernel
theorem dL_law_738 : decode cL_law 738 = .ok (.iadd, 1) := by decide +kernel
theorem dL_law_739 : decode cL_law 739 = .ok (.iaload, 1) := by decide +kernel
theorem dL_law_740 : decode cL_law 740 = .ok (.aload_n 0, 1) := by decide +kernel
theorem dL_law_741 : decode cL_law 741 = .ok (.iload_n 3, 1) := by decide +kernel
theorem dL_law_742 : decode cL_law 742 = .ok (.iconst 2, 1) := by decide +kernel
theorem dL_law_743 : decode cL_law 743 = .ok (.iadd, 1) := by decide +kernel
theorem dL_law_744 : decode cL_law 744 = .ok (.iaload, 1) := by decide +kernel
theorem dL_law_745 : decode cL_law 745 = .ok (.aload_n 0, 1) := by decide +kernel
theorem dL_law_746 : decode cL_law 746 = .ok (.iload_n 3, 1) := by decide +kernel
theorem dL_law_747 : decode cL_law 747 = .ok (.iconst 3, 1) := by decide +kernel
theorem dL_law_748 : decode cL_law 748 = .ok (.iadd, 1) := by decide +kernel
theorem dL_law_749 : decode cL_law 749 = .ok (.iaload, 1) := by decide +kernel
theorem dL_law_750 : decode cL_law 750 = .ok (.aload_n 0, 1) := by decide +kernel
theorem dL_law_751 : decode cL_law 751 = .ok (.iload_n 3, 1) := by decide +kernel
theorem dL_law_752 : decode cL_law 752 = .ok (.iconst 4, 1) := by decide +kernel
theorem dL_law_753 : decode cL_law 753 = .ok (.iadd, 1) := by decide +kernel
theorem dL_law_754 : decode cL_law 754 = .ok (.iaload, 1) := by decide +kernel
theorem dL_law_755 : decode cL_law 755 = .ok (.invokevirtual 71, 3) := by decide +kernel
theorem dL_law_758 : decode cL_law 758 = .ok (.if_icmp .eq 1412, 3) := by decide +kernel
theorem dL_law_761 : decode cL_law 761 = .ok (.iconst 0, 1) := by decide +kernel
theorem dL_law_762 : decode cL_law 762 = .ok (.ireturn, 1) := by decide +kernel
theorem dL_law_763 : decode cL_law 763 = .ok (.aload_n 1, 1) := by decide +kernel
theorem dL_law_764 : decode cL_law 764 = .ok (.aload_n 0, 1) := by decide +kernel
theorem dL_law_765 : decode cL_law 765 = .ok (.iload_n 3, 1) := by decide +kernel
theorem dL_law_766 : decode cL_law 766 = .ok (.iconst 1, 1) := by decide +kernel
theorem dL_law_767 : decode cL_law 767 = .ok (.iadd, 1) := by decide +kernel
theorem dL_law_768 : decode cL_law 768 = .ok (.iaload, 1) := by decide +kernel
theorem dL_law_769 : decode cL_law 769 = .ok (.aload_n 0, 1) := by decide +kernel
theorem dL_law_770 : decode cL_law 770 = .ok (.iload_n 3, 1) := by decide +kernel
theorem dL_law_771 : decode cL_law 771 = .ok (.iconst 2, 1) := by decide +kernel
theorem dL_law_772 : decode cL_law 772 = .ok (.iadd, 1) := by decide +kernel
theorem dL_law_773 : decode cL_law 773 = .ok (.iaload, 1) := by decide +kernel
theorem dL_law_774 : decode cL_law 774 = .ok (.aload_n 0, 1) := by decide +kernel
theorem dL_law_775 : decode cL_law 775 = .ok (.iload_n 3, 1) := by decide +kernel
theorem dL_law_776 : decode cL_law 776 = .ok (.iconst 3, 1) := by decide +kernel
theorem dL_law_777 : decode cL_law 777 = .ok (.iadd, 1) := by decide +kernel
theorem dL_law_778 : decode cL_law 778 = .ok (.iaload, 1) := by decide +kernel
theorem dL_law_779 : decode cL_law 779 = .ok (.invokevirtual 72, 3) := by decide +kernel
theorem dL_law_782 : decode cL_law 782 = .ok (.aload_n 2, 1) := by decide +kernel
theorem dL_law_783 : decode cL_law 783 = .ok (.aload_n 0, 1) := by decide +kernel
theorem dL_law_784 : decode cL_law 784 = .ok (.iload_n 3, 1) := by decide +kernel
theorem dL_law_785 : decode cL_law 785 = .ok (.iconst 1, 1) := by decide +kernel
theorem dL_law_786 : decode cL_law 786 = .ok (.iadd, 1) := by decide +kernel
theorem dL_law_787 : decode cL_law 787 = .ok (.iaload, 1) := by decide +kernel
theorem dL_law_788 : decode cL_law 788 = .ok (.aload_n 0, 1) := by decide +kernel
theorem dL_law_789 : decode cL_law 789 = .ok (.iload_n 3, 1) := by decide +kernel
theorem dL_law_790 : decode cL_law 790 = .ok (.iconst 2, 1) := by decide +kernel
theorem dL_law_791 : decode cL_law 791 = .ok (.iadd, 1) := by decide +kernel
theorem dL_law_792 : decode cL_law 792 = .ok (.iaload, 1) := by decide +kernel
theorem dL_law_793 : decode cL_law 793 = .ok (.aload_n 0, 1) := by decide +kernel
theorem dL_law_794 : decode cL_law 794 = .ok (.iload_n 3, 1) := by decide +kernel
theorem dL_law_795 : decode cL_law 795 = .ok (.iconst 3, 1) := by decide +kernel
theorem dL_law_796 : decode cL_law 796 = .ok (.iadd, 1) := by decide +kernel
theorem dL_law_797 : decode cL_law 797 = .ok (.iaload, 1) := by decide +kernel
theorem dL_law_798 : decode cL_law 798 = .ok (.invokevirtual 76, 3) := by decide +kernel
theorem dL_law_801 : decode cL_law 801 = .ok (.if_icmp .eq 1369, 3) := by decide +kernel
theorem dL_law_804 : decode cL_law 804 = .ok (.iconst 0, 1) := by decide +kernel
theorem dL_law_805 : decode cL_law 805 = .ok (.ireturn, 1) := by decide +kernel
theorem dL_law_806 : decode cL_law 806 = .ok (.aload_n 1, 1) := by decide +kernel
theorem dL_law_807 : decode cL_law 807 = .ok (.aload_n 0, 1) := by decide +kernel
theorem dL_law_808 : decode cL_law 808 = .ok (.iload_n 3, 1) := by decide +kernel
theorem dL_law_809 : decode cL_law 809 = .ok (.iconst 1, 1) := by decide +kernel
theorem dL_law_810 : decode cL_law 810 = .ok (.iadd, 1) := by decide +kernel
theorem dL_law_811 : decode cL_law 811 = .ok (.iaload, 1) := by decide +kernel
theorem dL_law_812 : decode cL_law 812 = .ok (.aload_n 0, 1) := by decide +kernel
theorem dL_law_813 : decode cL_law 813 = .ok (.iload_n 3, 1) := by decide +kernel
theorem dL_law_814 : decode cL_law 814 = .ok (.iconst 2, 1) := by decide +kernel
theorem dL_law_815 : decode cL_law 815 = .ok (.iadd, 1) := by decide +kernel
theorem dL_law_816 : decode cL_law 816 = .ok (.iaload, 1) := by decide +kernel
theorem dL_law_817 : decode cL_law 817 = .ok (.aload_n 0, 1) := by decide +kernel
theorem dL_law_818 : decode cL_law 818 = .ok (.iload_n 3, 1) := by decide +kernel
theorem dL_law_819 : decode cL_law 819 = .ok (.iconst 3, 1) := by decide +kernel
theorem dL_law_820 : decode cL_law 820 = .ok (.iadd, 1) := by decide +kernel
theorem dL_law_821 : decode cL_law 821 = .ok (.iaload, 1) := by decide +kernel
theorem dL_law_822 : decode cL_law 822 = .ok (.invokevirtual 77, 3) := by decide +kernel
theorem dL_law_825 : decode cL_law 825 = .ok (.aload_n 2, 1) := by decide +kernel
theorem dL_law_826 : decode cL_law 826 = .ok (.aload_n 0, 1) := by decide +kernel
theorem dL_law_827 : decode cL_law 827 = .ok (.iload_n 3, 1) := by decide +kernel
theorem dL_law_828 : decode cL_law 828 = .ok (.iconst 1, 1) := by decide +kernel
theorem dL_law_829 : decode cL_law 829 = .ok (.iadd, 1) := by decide +kernel
theorem dL_law_830 : decode cL_law 830 = .ok (.iaload, 1) := by decide +kernel
theorem dL_law_831 : decode cL_law 831 = .ok (.aload_n 0, 1) := by decide +kernel
theorem dL_law_832 : decode cL_law 832 = .ok (.iload_n 3, 1) := by decide +kernel
theorem dL_law_833 : decode cL_law 833 = .ok (.iconst 2, 1) := by decide +kernel
theorem dL_law_834 : decode cL_law 834 = .ok (.iadd, 1) := by decide +kernel
theorem dL_law_835 : decode cL_law 835 = .ok (.iaload, 1) := by decide +kernel
theorem dL_law_836 : decode cL_law 836 = .ok (.aload_n 0, 1) := by decide +kernel
theorem dL_law_837 : decode cL_law 837 = .ok (.iload_n 3, 1) := by decide +kernel
theorem dL_law_838 : decode cL_law 838 = .ok (.iconst 3, 1) := by decide +kernel
theorem dL_law_839 : decode cL_law 839 = .ok (.iadd, 1) := by decide +kernel
theorem dL_law_840 : decode cL_law 840 = .ok (.iaload, 1) := by decide +kernel
theorem dL_law_841 : decode cL_law 841 = .ok (.invokevirtual 80, 3) := by decide +kernel
theorem dL_law_844 : decode cL_law 844 = .ok (.if_icmp .eq 1326, 3) := by decide +kernel
theorem dL_law_847 : decode cL_law 847 = .ok (.iconst 0, 1) := by decide +kernel
theorem dL_law_848 : decode cL_law 848 = .ok (.ireturn, 1) := by decide +kernel
theorem dL_law_849 : decode cL_law 849 = .ok (.aload_n 1, 1) := by decide +kernel
theorem dL_law_850 : decode cL_law 850 = .ok (.aload_n 0, 1) := by decide +kernel
theorem dL_law_851 : decode cL_law 851 = .ok (.iload_n 3, 1) := by decide +kernel
theorem dL_law_852 : decode cL_law 852 = .ok (.iconst 1, 1) := by decide +kernel
theorem dL_law_853 : decode cL_law 853 = .ok (.iadd, 1) := by decide +kernel
theorem dL_law_854 : decode cL_law 854 = .ok (.iaload, 1) := by decide +kernel
theorem dL_law_855 : decode cL_law 855 = .ok (.aload_n 0, 1) := by decide +kernel
theorem dL_law_856 : decode cL_law 856 = .ok (.iload_n 3, 1) := by decide +kernel
theorem dL_law_857 : decode cL_law 857 = .ok (.iconst 2, 1) := by decide +kernel
theorem dL_law_858 : decode cL_law 858 = .ok (.iadd, 1) := by decide +kernel
theorem dL_law_859 : decode cL_law 859 = .ok (.iaload, 1) := by decide +kernel
theorem dL_law_860 : decode cL_law 860 = .ok (.aload_n 0, 1) := by decide +kernel
theorem dL_law_861 : decode cL_law 861 = .ok (.iload_n 3, 1) := by decide +kernel
theorem dL_law_862 : decode cL_law 862 = .ok (.iconst 3, 1) := by decide +kernel
theorem dL_law_863 : decode cL_law 863 = .ok (.iadd, 1) := by decide +kernel
theorem dL_law_864 : decode cL_law 864 = .ok (.iaload, 1) := by decide +kernel
theorem dL_law_865 : decode cL_law 865 = .ok (.aload_n 0, 1) := by decide +kernel
theorem dL_law_866 : decode cL_law 866 = .ok (.iload_n 3, 1) := by decide +kernel
theorem dL_law_867 : decode cL_law 867 = .ok (.iconst 4, 1) := by decide +kernel
theorem dL_law_868 : decode cL_law 868 = .ok (.iadd, 1) := by decide +kernel
theorem dL_law_869 : decode cL_law 869 = .ok (.iaload, 1) := by decide +kernel
theorem dL_law_870 : decode cL_law 870 = .ok (.invokevirtual 81, 3) := by decide +kernel
theorem dL_law_873 : decode cL_law 873 = .ok (.aload_n 2, 1) := by decide +kernel
theorem dL_law_874 : decode cL_law 874 = .ok (.aload_n 0, 1) := by decide +kernel
theorem dL_law_875 : decode cL_law 875 = .ok (.iload_n 3, 1) := by decide +kernel
theorem dL_law_876 : decode cL_law 876 = .ok (.iconst 1, 1) := by decide +kernel
theorem dL_law_877 : decode cL_law 877 = .ok (.iadd, 1) := by decide +kernel
theorem dL_law_878 : decode cL_law 878 = .ok (.iaload, 1) := by decide +kernel
theorem dL_law_879 : decode cL_law 879 = .ok (.aload_n 0, 1) := by decide +kernel
theorem dL_law_880 : decode cL_law 880 = .ok (.iload_n 3, 1) := by decide +kernel
theorem dL_law_881 : decode cL_law 881 = .ok (.iconst 2, 1) := by decide +kernel
theorem dL_law_882 : decode cL_law 882 = .ok (.iadd, 1) := by decide +kernel
theorem dL_law_883 : decode cL_law 883 = .ok (.iaload, 1) := by decide +kernel
theorem dL_law_884 : decode cL_law 884 = .ok (.aload_n 0, 1) := by decide +kernel
theorem dL_law_885 : decode cL_law 885 = .ok (.iload_n 3, 1) := by decide +kernel
theorem dL_law_886 : decode cL_law 886 = .ok (.iconst 3, 1) := by decide +kernel
theorem dL_law_887 : decode cL_law 887 = .ok (.iadd, 1) := by decide +kernel
theorem dL_law_888 : decode cL_law 888 = .ok (.iaload, 1) := by decide +kernel
theorem dL_law_889 : decode cL_law 889 = .ok (.aload_n 0, 1) := by decide +kernel
theorem dL_law_890 : decode cL_law 890 = .ok (.iload_n 3, 1) := by decide +kernel
theorem dL_law_891 : decode cL_law 891 = .ok (.iconst 4, 1) := by decide +kernel
theorem dL_law_892 : decode cL_law 892 = .ok (.iadd, 1) := by decide +kernel
theorem dL_law_893 : decode cL_law 893 = .ok (.iaload, 1) := by decide +kernel
theorem dL_law_894 : decode cL_law 894 = .ok (.invokevirtual 84, 3) := by decide +kernel
theorem dL_law_897 : decode cL_law 897 = .ok (.if_icmp .eq 1273, 3) := by decide +kernel
theorem dL_law_900 : decode cL_law 900 = .ok (.iconst 0, 1) := by decide +kernel
theorem dL_law_901 : decode cL_law 901 = .ok (.ireturn, 1) := by decide +kernel
theorem dL_law_902 : decode cL_law 902 = .ok (.aload_n 1, 1) := by decide +kernel
theorem dL_law_903 : decode cL_law 903 = .ok (.aload_n 0, 1) := by decide +kernel
theorem dL_law_904 : decode cL_law 904 = .ok (.iload_n 3, 1) := by decide +kernel
theorem dL_law_905 : decode cL_law 905 = .ok (.iconst 1, 1) := by decide +kernel
theorem dL_law_906 : decode cL_law 906 = .ok (.iadd, 1) := by decide +kernel
theorem dL_law_907 : decode cL_law 907 = .ok (.iaload, 1) := by decide +kernel
theorem dL_law_908 : decode cL_law 908 = .ok (.aload_n 0, 1) := by decide +kernel
theorem dL_law_909 : decode cL_law 909 = .ok (.iload_n 3, 1) := by decide +kernel
theorem dL_law_910 : decode cL_law 910 = .ok (.iconst 2, 1) := by decide +kernel
theorem dL_law_911 : decode cL_law 911 = .ok (.iadd, 1) := by decide +kernel
theorem dL_law_912 : decode cL_law 912 = .ok (.iaload, 1) := by decide +kernel
theorem dL_law_913 : decode cL_law 913 = .ok (.invokevirtual 85, 3) := by decide +kernel
theorem dL_law_916 : decode cL_law 916 = .ok (.aload_n 2, 1) := by decide +kernel
theorem dL_law_917 : decode cL_law 917 = .ok (.aload_n 0, 1) := by decide +kernel
theorem dL_law_918 : decode cL_law 918 = .ok (.iload_n 3, 1) := by decide +kernel
theorem dL_law_919 : decode cL_law 919 = .ok (.iconst 1, 1) := by decide +kernel
theorem dL_law_920 : decode cL_law 920 = .ok (.iadd, 1) := by decide +kernel
theorem dL_law_921 : decode cL_law 921 = .ok (.iaload, 1) := by decide +kernel
theorem dL_law_922 : decode cL_law 922 = .ok (.aload_n 0, 1) := by decide +kernel
theorem dL_law_923 : decode cL_law 923 = .ok (.iload_n 3, 1) := by decide +kernel
theorem dL_law_924 : decode cL_law 924 = .ok (.iconst 2, 1) := by decide +kernel
theorem dL_law_925 : decode cL_law 925 = .ok (.iadd, 1) := by decide +kernel
theorem dL_law_926 : decode cL_law 926 = .ok (.iaload, 1) := by decide +kernel
theorem dL_law_927 : decode cL_law 927 = .ok (.invokevirtual 88, 3) := by decide +kernel
theorem dL_law_930 : decode cL_law 930 = .ok (.if_icmp .eq 1240, 3) := by decide +kernel
theorem dL_law_933 : decode cL_law 933 = .ok (.iconst 0, 1) := by decide +kernel
theorem dL_law_934 : decode cL_law 934 = .ok (.ireturn, 1) := by decide +kernel
theorem dL_law_935 : decode cL_law 935 = .ok (.aload_n 1, 1) := by decide +kernel
theorem dL_law_936 : decode cL_law 936 = .ok (.aload_n 0, 1) := by decide +kernel
theorem dL_law_937 : decode cL_law 937 = .ok (.iload_n 3, 1) := by decide +kernel
theorem dL_law_938 : decode cL_law 938 = .ok (.iconst 1, 1) := by decide +kernel
theorem dL_law_939 : decode cL_law 939 = .ok (.iadd, 1) := by decide +kernel
theorem dL_law_940 : decode cL_law 940 = .ok (.iaload, 1) := by decide +kernel
theorem dL_law_941 : decode cL_law 941 = .ok (.aload_n 0, 1) := by decide +kernel
theorem dL_law_942 : decode cL_law 942 = .ok (.iload_n 3, 1) := by decide +kernel
theorem dL_law_943 : decode cL_law 943 = .ok (.iconst 2, 1) := by decide +kernel
theorem dL_law_944 : decode cL_law 944 = .ok (.iadd, 1) := by decide +kernel
theorem dL_law_945 : decode cL_law 945 = .ok (.iaload, 1) := by decide +kernel
theorem dL_law_946 : decode cL_law 946 = .ok (.invokevirtual 89, 3) := by decide +kernel
theorem dL_law_949 : decode cL_law 949 = .ok (.aload_n 2, 1) := by decide +kernel
theorem dL_law_950 : decode cL_law 950 = .ok (.aload_n 0, 1) := by decide +kernel
theorem dL_law_951 : decode cL_law 951 = .ok (.iload_n 3, 1) := by decide +kernel
theorem dL_law_952 : decode cL_law 952 = .ok (.iconst 1, 1) := by decide +kernel
theorem dL_law_953 : decode cL_law 953 = .ok (.iadd, 1) := by decide +kernel
theorem dL_law_954 : decode cL_law 954 = .ok (.iaload, 1) := by decide +kernel
theorem dL_law_955 : decode cL_law 955 = .ok (.aload_n 0, 1) := by decide +kernel
theorem dL_law_956 : decode cL_law 956 = .ok (.iload_n 3, 1) := by decide +kernel
theorem dL_law_957 : decode cL_law 957 = .ok (.iconst 2, 1) := by decide +kernel
theorem dL_law_958 : decode cL_law 958 = .ok (.iadd, 1) := by decide +kernel
theorem dL_law_959 : decode cL_law 959 = .ok (.iaload, 1) := by decide +kernel
theorem dL_law_960 : decode cL_law 960 = .ok (.invokevirtual 92, 3) := by decide +kernel
theorem dL_law_963 : decode cL_law 963 = .ok (.if_icmp .eq 1207, 3) := by decide +kernel
theorem dL_law_966 : decode cL_law 966 = .ok (.iconst 0, 1) := by decide +kernel
theorem dL_law_967 : decode cL_law 967 = .ok (.ireturn, 1) := by decide +kernel
theorem dL_law_968 : decode cL_law 968 = .ok (.aload_n 1, 1) := by decide +kernel
theorem dL_law_969 : decode cL_law 969 = .ok (.aload_n 0, 1) := by decide +kernel
theorem dL_law_970 : decode cL_law 970 = .ok (.iload_n 3, 1) := by decide +kernel
theorem dL_law_971 : decode cL_law 971 = .ok (.iconst 1, 1) := by decide +kernel
theorem dL_law_972 : decode cL_law 972 = .ok (.iadd, 1) := by decide +kernel
theorem dL_law_973 : decode cL_law 973 = .ok (.iaload, 1) := by decide +kernel
theorem dL_law_974 : decode cL_law 974 = .ok (.aload_n 0, 1) := by decide +kernel
theorem dL_law_975 : decode cL_law 975 = .ok (.iload_n 3, 1) := by decide +kernel
theorem dL_law_976 : decode cL_law 976 = .ok (.iconst 2, 1) := by decide +kernel
theorem dL_law_977 : decode cL_law 977 = .ok (.iadd, 1) := by decide +kernel
theorem dL_law_978 : decode cL_law 978 = .ok (.iaload, 1) := by decide +kernel
theorem dL_law_979 : decode cL_law 979 = .ok (.ifCond .eq 7, 3) := by decide +kernel
theorem dL_law_982 : decode cL_law 982 = .ok (.iconst 1, 1) := by decide +kernel
theorem dL_law_983 : decode cL_law 983 = .ok (.goto 4, 3) := by decide +kernel
theorem dL_law_986 : decode cL_law 986 = .ok (.iconst 0, 1) := by decide +kernel
theorem dL_law_987 : decode cL_law 987 = .ok (.invokevirtual 93, 3) := by decide +kernel
theorem dL_law_990 : decode cL_law 990 = .ok (.aload_n 2, 1) := by decide +kernel
theorem dL_law_991 : decode cL_law 991 = .ok (.aload_n 0, 1) := by decide +kernel
theorem dL_law_992 : decode cL_law 992 = .ok (.iload_n 3, 1) := by decide +kernel
theorem dL_law_993 : decode cL_law 993 = .ok (.iconst 1, 1) := by decide +kernel
theorem dL_law_994 : decode cL_law 994 = .ok (.iadd, 1) := by decide +kernel
theorem dL_law_995 : decode cL_law 995 = .ok (.iaload, 1) := by decide +kernel
theorem dL_law_996 : decode cL_law 996 = .ok (.aload_n 0, 1) := by decide +kernel
theorem dL_law_997 : decode cL_law 997 = .ok (.iload_n 3, 1) := by decide +kernel
theorem dL_law_998 : decode cL_law 998 = .ok (.iconst 2, 1) := by decide +kernel
theorem dL_law_999 : decode cL_law 999 = .ok (.iadd, 1) := by decide +kernel
theorem dL_law_1000 : decode cL_law 1000 = .ok (.iaload, 1) := by decide +kernel
theorem dL_law_1001 : decode cL_law 1001 = .ok (.ifCond .eq 7, 3) := by decide +kernel
theorem dL_law_1004 : decode cL_law 1004 = .ok (.iconst 1, 1) := by decide +kernel
theorem dL_law_1005 : decode cL_law 1005 = .ok (.goto 4, 3) := by decide +kernel
theorem dL_law_1008 : decode cL_law 1008 = .ok (.iconst 0, 1) := by decide +kernel
theorem dL_law_1009 : decode cL_law 1009 = .ok (.invokevirtual 96, 3) := by decide +kernel
theorem dL_law_1012 : decode cL_law 1012 = .ok (.if_icmp .eq 1158, 3) := by decide +kernel
theorem dL_law_1015 : decode cL_law 1015 = .ok (.iconst 0, 1) := by decide +kernel
theorem dL_law_1016 : decode cL_law 1016 = .ok (.ireturn, 1) := by decide +kernel
theorem dL_law_1017 : decode cL_law 1017 = .ok (.aload_n 1, 1) := by decide +kernel
theorem dL_law_1018 : decode cL_law 1018 = .ok (.aload_n 0, 1) := by decide +kernel
theorem dL_law_1019 : decode cL_law 1019 = .ok (.iload_n 3, 1) := by decide +kernel
theorem dL_law_1020 : decode cL_law 1020 = .ok (.iconst 1, 1) := by decide +kernel
theorem dL_law_1021 : decode cL_law 1021 = .ok (.iadd, 1) := by decide +kernel
theorem dL_law_1022 : decode cL_law 1022 = .ok (.iaload, 1) := by decide +kernel
theorem dL_law_1023 : decode cL_law 1023 = .ok (.aload_n 0, 1) := by decide +kernel
theorem dL_law_1024 : decode cL_law 1024 = .ok (.iload_n 3, 1) := by decide +kernel
theorem dL_law_1025 : decode cL_law 1025 = .ok (.iconst 2, 1) := by decide +kernel
theorem dL_law_1026 : decode cL_law 1026 = .ok (.iadd, 1) := by decide +kernel
theorem dL_law_1027 : decode cL_law 1027 = .ok (.iaload, 1) := by decide +kernel
theorem dL_law_1028 : decode cL_law 1028 = .ok (.ifCond .eq 7, 3) := by decide +kernel
theorem dL_law_1031 : decode cL_law 1031 = .ok (.iconst 1, 1) := by decide +kernel
theorem dL_law_1032 : decode cL_law 1032 = .ok (.goto 4, 3) := by decide +kernel
theorem dL_law_1035 : decode cL_law 1035 = .ok (.iconst 0, 1) := by decide +kernel
theorem dL_law_1036 : decode cL_law 1036 = .ok (.invokevirtual 97, 3) := by decide +kernel
theorem dL_law_1039 : decode cL_law 1039 = .ok (.aload_n 2, 1) := by decide +kernel
theorem dL_law_1040 : decode cL_law 1040 = .ok (.aload_n 0, 1) := by decide +kernel
theorem dL_law_1041 : decode cL_law 1041 = .ok (.iload_n 3, 1) := by decide +kernel
theorem dL_law_1042 : decode cL_law 1042 = .ok (.iconst 1, 1) := by decide +kernel
theorem dL_law_1043 : decode cL_law 1043 = .ok (.iadd, 1) := by decide +kernel
theorem dL_law_1044 : decode cL_law 1044 = .ok (.iaload, 1) := by decide +kernel
theorem dL_law_1045 : decode cL_law 1045 = .ok (.aload_n 0, 1) := by decide +kernel
theorem dL_law_1046 : decode cL_law 1046 = .ok (.iload_n 3, 1) := by decide +kernel
theorem dL_law_1047 : decode cL_law 1047 = .ok (.iconst 2, 1) := by decide +kernel
theorem dL_law_1048 : decode cL_law 1048 = .ok (.iadd, 1) := by decide +kernel
theorem dL_law_1049 : decode cL_law 1049 = .ok (.iaload, 1) := by decide +kernel
theorem dL_law_1050 : decode cL_law 1050 = .ok (.ifCond .eq 7, 3) := by decide +kernel
theorem dL_law_1053 : decode cL_law 1053 = .ok (.iconst 1, 1) := by decide +kernel
theorem dL_law_1054 : decode cL_law 1054 = .ok (.goto 4, 3) := by decide +kernel
theorem dL_law_1057 : decode cL_law 1057 = .ok (.iconst 0, 1) := by decide +kernel
theorem dL_law_1058 : decode cL_law 1058 = .ok (.invokevirtual 100, 3) := by decide +kernel
theorem dL_law_1061 : decode cL_law 1061 = .ok (.if_icmp .eq 1109, 3) := by decide +kernel
theorem dL_law_1064 : decode cL_law 1064 = .ok (.iconst 0, 1) := by decide +kernel
theorem dL_law_1065 : decode cL_law 1065 = .ok (.ireturn, 1) := by decide +kernel
theorem dL_law_1066 : decode cL_law 1066 = .ok (.aload_n 1, 1) := by decide +kernel
theorem dL_law_1067 : decode cL_law 1067 = .ok (.aload_n 0, 1) := by decide +kernel
theorem dL_law_1068 : decode cL_law 1068 = .ok (.iload_n 3, 1) := by decide +kernel
theorem dL_law_1069 : decode cL_law 1069 = .ok (.iconst 1, 1) := by decide +kernel
theorem dL_law_1070 : decode cL_law 1070 = .ok (.iadd, 1) := by decide +kernel
theorem dL_law_1071 : decode cL_law 1071 = .ok (.iaload, 1) := by decide +kernel
theorem dL_law_1072 : decode cL_law 1072 = .ok (.aload_n 0, 1) := by decide +kernel
theorem dL_law_1073 : decode cL_law 1073 = .ok (.iload_n 3, 1) := by decide +kernel
theorem dL_law_1074 : decode cL_law 1074 = .ok (.iconst 2, 1) := by decide +kernel
theorem dL_law_1075 : decode cL_law 1075 = .ok (.iadd, 1) := by decide +kernel
theorem dL_law_1076 : decode cL_law 1076 = .ok (.iaload, 1) := by decide +kernel
theorem dL_law_1077 : decode cL_law 1077 = .ok (.invokevirtual 101, 3) := by decide +kernel
theorem dL_law_1080 : decode cL_law 1080 = .ok (.aload_n 2, 1) := by decide +kernel
theorem dL_law_1081 : decode cL_law 1081 = .ok (.aload_n 0, 1) := by decide +kernel
theorem dL_law_1082 : decode cL_law 1082 = .ok (.iload_n 3, 1) := by decide +kernel
theorem dL_law_1083 : decode cL_law 1083 = .ok (.iconst 1, 1) := by decide +kernel
theorem dL_law_1084 : decode cL_law 1084 = .ok (.iadd, 1) := by decide +kernel
theorem dL_law_1085 : decode cL_law 1085 = .ok (.iaload, 1) := by decide +kernel
theorem dL_law_1086 : decode cL_law 1086 = .ok (.aload_n 0, 1) := by decide +kernel
theorem dL_law_1087 : decode cL_law 1087 = .ok (.iload_n 3, 1) := by decide +kernel
theorem dL_law_1088 : decode cL_law 1088 = .ok (.iconst 2, 1) := by decide +kernel
theorem dL_law_1089 : decode cL_law 1089 = .ok (.iadd, 1) := by decide +kernel
theorem dL_law_1090 : decode cL_law 1090 = .ok (.iaload, 1) := by decide +kernel
theorem dL_law_1091 : decode cL_law 1091 = .ok (.invokevirtual 104, 3) := by decide +kernel
theorem dL_law_1094 : decode cL_law 1094 = .ok (.if_icmp .eq 1076, 3) := by decide +kernel
theorem dL_law_1097 : decode cL_law 1097 = .ok (.iconst 0, 1) := by decide +kernel
theorem dL_law_1098 : decode cL_law 1098 = .ok (.ireturn, 1) := by decide +kernel
theorem dL_law_1099 : decode cL_law 1099 = .ok (.aload_n 1, 1) := by decide +kernel
theorem dL_law_1100 : decode cL_law 1100 = .ok (.aload_n 0, 1) := by decide +kernel
theorem dL_law_1101 : decode cL_law 1101 = .ok (.iload_n 3, 1) := by decide +kernel
theorem dL_law_1102 : decode cL_law 1102 = .ok (.iconst 1, 1) := by decide +kernel
theorem dL_law_1103 : decode cL_law 1103 = .ok (.iadd, 1) := by decide +kernel
theorem dL_law_1104 : decode cL_law 1104 = .ok (.iaload, 1) := by decide +kernel
theorem dL_law_1105 : decode cL_law 1105 = .ok (.invokevirtual 105, 3) := by decide +kernel
theorem dL_law_1108 : decode cL_law 1108 = .ok (.aload_n 2, 1) := by decide +kernel
theorem dL_law_1109 : decode cL_law 1109 = .ok (.aload_n 0, 1) := by decide +kernel
theorem dL_law_1110 : decode cL_law 1110 = .ok (.iload_n 3, 1) := by decide +kernel
theorem dL_law_1111 : decode cL_law 1111 = .ok (.iconst 1, 1) := by decide +kernel
theorem dL_law_1112 : decode cL_law 1112 = .ok (.iadd, 1) := by decide +kernel
theorem dL_law_1113 : decode cL_law 1113 = .ok (.iaload, 1) := by decide +kernel
theorem dL_law_1114 : decode cL_law 1114 = .ok (.invokevirtual 108, 3) := by decide +kernel
theorem dL_law_1117 : decode cL_law 1117 = .ok (.if_icmp .eq 1053, 3) := by decide +kernel
theorem dL_law_1120 : decode cL_law 1120 = .ok (.iconst 0, 1) := by decide +kernel
theorem dL_law_1121 : decode cL_law 1121 = .ok (.ireturn, 1) := by decide +kernel
theorem dL_law_1122 : decode cL_law 1122 = .ok (.aload_n 1, 1) := by decide +kernel
theorem dL_law_1123 : decode cL_law 1123 = .ok (.aload_n 0, 1) := by decide +kernel
theorem dL_law_1124 : decode cL_law 1124 = .ok (.iload_n 3, 1) := by decide +kernel
theorem dL_law_1125 : decode cL_law 1125 = .ok (.iconst 1, 1) := by decide +kernel
theorem dL_law_1126 : decode cL_law 1126 = .ok (.iadd, 1) := by decide +kernel
theorem dL_law_1127 : decode cL_law 1127 = .ok (.iaload, 1) := by decide +kernel
theorem dL_law_1128 : decode cL_law 1128 = .ok (.invokevirtual 109, 3) := by decide +kernel
theorem dL_law_1131 : decode cL_law 1131 = .ok (.aload_n 2, 1) := by decide +kernel
theorem dL_law_1132 : decode cL_law 1132 = .ok (.aload_n 0, 1) := by decide +kernel
theorem dL_law_1133 : decode cL_law 1133 = .ok (.iload_n 3, 1) := by decide +kernel
theorem dL_law_1134 : decode cL_law 1134 = .ok (.iconst 1, 1) := by decide +kernel
theorem dL_law_1135 : decode cL_law 1135 = .ok (.iadd, 1) := by decide +kernel
theorem dL_law_1136 : decode cL_law 1136 = .ok (.iaload, 1) := by decide +kernel
theorem dL_law_1137 : decode cL_law 1137 = .ok (.invokevirtual 112, 3) := by decide +kernel
theorem dL_law_1140 : decode cL_law 1140 = .ok (.if_icmp .eq 1030, 3) := by decide +kernel
theorem dL_law_1143 : decode cL_law 1143 = .ok (.iconst 0, 1) := by decide +kernel
theorem dL_law_1144 : decode cL_law 1144 = .ok (.ireturn, 1) := by decide +kernel
theorem dL_law_1145 : decode cL_law 1145 = .ok (.aload_n 1, 1) := by decide +kernel
theorem dL_law_1146 : decode cL_law 1146 = .ok (.aload_n 0, 1) := by decide +kernel
theorem dL_law_1147 : decode cL_law 1147 = .ok (.iload_n 3, 1) := by decide +kernel
theorem dL_law_1148 : decode cL_law 1148 = .ok (.iconst 1, 1) := by decide +kernel
theorem dL_law_1149 : decode cL_law 1149 = .ok (.iadd, 1) := by decide +kernel
theorem dL_law_1150 : decode cL_law 1150 = .ok (.iaload, 1) := by decide +kernel
theorem dL_law_1151 : decode cL_law 1151 = .ok (.aload_n 0, 1) := by decide +kernel
theorem dL_law_1152 : decode cL_law 1152 = .ok (.iload_n 3, 1) := by decide +kernel
theorem dL_law_1153 : decode cL_law 1153 = .ok (.iconst 2, 1) := by decide +kernel
theorem dL_law_1154 : decode cL_law 1154 = .ok (.iadd, 1) := by decide +kernel
theorem dL_law_1155 : decode cL_law 1155 = .ok (.iaload, 1) := by decide +kernel
theorem dL_law_1156 : decode cL_law 1156 = .ok (.invokevirtual 113, 3) := by decide +kernel
theorem dL_law_1159 : decode cL_law 1159 = .ok (.aload_n 2, 1) := by decide +kernel
theorem dL_law_1160 : decode cL_law 1160 = .ok (.aload_n 0, 1) := by decide +kernel
theorem dL_law_1161 : decode cL_law 1161 = .ok (.iload_n 3, 1) := by decide +kernel
theorem dL_law_1162 : decode cL_law 1162 = .ok (.iconst 1, 1) := by decide +kernel
theorem dL_law_1163 : decode cL_law 1163 = .ok (.iadd, 1) := by decide +kernel
theorem dL_law_1164 : decode cL_law 1164 = .ok (.iaload, 1) := by decide +kernel
theorem dL_law_1165 : decode cL_law 1165 = .ok (.aload_n 0, 1) := by decide +kernel
theorem dL_law_1166 : decode cL_law 1166 = .ok (.iload_n 3, 1) := by decide +kernel
theorem dL_law_1167 : decode cL_law 1167 = .ok (.iconst 2, 1) := by decide +kernel
theorem dL_law_1168 : decode cL_law 1168 = .ok (.iadd, 1) := by decide +kernel
theorem dL_law_1169 : decode cL_law 1169 = .ok (.iaload, 1) := by decide +kernel
theorem dL_law_1170 : decode cL_law 1170 = .ok (.invokevirtual 116, 3) := by decide +kernel
theorem dL_law_1173 : decode cL_law 1173 = .ok (.if_icmp .eq 997, 3) := by decide +kernel
theorem dL_law_1176 : decode cL_law 1176 = .ok (.iconst 0, 1) := by decide +kernel
theorem dL_law_1177 : decode cL_law 1177 = .ok (.ireturn, 1) := by decide +kernel
theorem dL_law_1178 : decode cL_law 1178 = .ok (.aload_n 1, 1) := by decide +kernel
theorem dL_law_1179 : decode cL_law 1179 = .ok (.aload_n 0, 1) := by decide +kernel
theorem dL_law_1180 : decode cL_law 1180 = .ok (.iload_n 3, 1) := by decide +kernel
theorem dL_law_1181 : decode cL_law 1181 = .ok (.iconst 1, 1) := by decide +kernel
theorem dL_law_1182 : decode cL_law 1182 = .ok (.iadd, 1) := by decide +kernel
theorem dL_law_1183 : decode cL_law 1183 = .ok (.iaload, 1) := by decide +kernel
theorem dL_law_1184 : decode cL_law 1184 = .ok (.invokevirtual 117, 3) := by decide +kernel
theorem dL_law_1187 : decode cL_law 1187 = .ok (.aload_n 2, 1) := by decide +kernel
theorem dL_law_1188 : decode cL_law 1188 = .ok (.aload_n 0, 1) := by decide +kernel
theorem dL_law_1189 : decode cL_law 1189 = .ok (.iload_n 3, 1) := by decide +kernel
theorem dL_law_1190 : decode cL_law 1190 = .ok (.iconst 1, 1) := by decide +kernel
theorem dL_law_1191 : decode cL_law 1191 = .ok (.iadd, 1) := by decide +kernel
theorem dL_law_1192 : decode cL_law 1192 = .ok (.iaload, 1) := by decide +kernel
theorem dL_law_1193 : decode cL_law 1193 = .ok (.invokevirtual 120, 3) := by decide +kernel
theorem dL_law_1196 : decode cL_law 1196 = .ok (.if_icmp .eq 974, 3) := by decide +kernel
theorem dL_law_1199 : decode cL_law 1199 = .ok (.iconst 0, 1) := by decide +kernel
theorem dL_law_1200 : decode cL_law 1200 = .ok (.ireturn, 1) := by decide +kernel
theorem dL_law_1201 : decode cL_law 1201 = .ok (.aload_n 1, 1) := by decide +kernel
theorem dL_law_1202 : decode cL_law 1202 = .ok (.aload_n 0, 1) := by decide +kernel
theorem dL_law_1203 : decode cL_law 1203 = .ok (.iload_n 3, 1) := by decide +kernel
theorem dL_law_1204 : decode cL_law 1204 = .ok (.iconst 1, 1) := by decide +kernel
theorem dL_law_1205 : decode cL_law 1205 = .ok (.iadd, 1) := by decide +kernel
theorem dL_law_1206 : decode cL_law 1206 = .ok (.iaload, 1) := by decide +kernel
theorem dL_law_1207 : decode cL_law 1207 = .ok (.aload_n 0, 1) := by decide +kernel
theorem dL_law_1208 : decode cL_law 1208 = .ok (.iload_n 3, 1) := by decide +kernel
theorem dL_law_1209 : decode cL_law 1209 = .ok (.iconst 2, 1) := by decide +kernel
theorem dL_law_1210 : decode cL_law 1210 = .ok (.iadd, 1) := by decide +kernel
theorem dL_law_1211 : decode cL_law 1211 = .ok (.iaload, 1) := by decide +kernel
theorem dL_law_1212 : decode cL_law 1212 = .ok (.i2l, 1) := by decide +kernel
theorem dL_law_1213 : decode cL_law 1213 = .ok (.bipush 32, 2) := by decide +kernel
theorem dL_law_1215 : decode cL_law 1215 = .ok (.lshl, 1) := by decide +kernel
theorem dL_law_1216 : decode cL_law 1216 = .ok (.aload_n 0, 1) := by decide +kernel
theorem dL_law_1217 : decode cL_law 1217 = .ok (.iload_n 3, 1) := by decide +kernel
theorem dL_law_1218 : decode cL_law 1218 = .ok (.iconst 3, 1) := by decide +kernel
theorem dL_law_1219 : decode cL_law 1219 = .ok (.iadd, 1) := by decide +kernel
theorem dL_law_1220 : decode cL_law 1220 = .ok (.iaload, 1) := by decide +kernel
theorem dL_law_1221 : decode cL_law 1221 = .ok (.i2l, 1) := by decide +kernel
theorem dL_law_1222 : decode cL_law 1222 = .ok (.ldc2_w 121, 3) := by decide +kernel
theorem dL_law_1225 : decode cL_law 1225 = .ok (.land, 1) := by decide +kernel
theorem dL_law_1226 : decode cL_law 1226 = .ok (.lor, 1) := by decide +kernel
theorem dL_law_1227 : decode cL_law 1227 = .ok (.invokevirtual 123, 3) := by decide +kernel
theorem dL_law_1230 : decode cL_law 1230 = .ok (.aload_n 2, 1) := by decide +kernel
theorem dL_law_1231 : decode cL_law 1231 = .ok (.aload_n 0, 1) := by decide +kernel
theorem dL_law_1232 : decode cL_law 1232 = .ok (.iload_n 3, 1) := by decide +kernel
theorem dL_law_1233 : decode cL_law 1233 = .ok (.iconst 1, 1) := by decide +kernel
theorem dL_law_1234 : decode cL_law 1234 = .ok (.iadd, 1) := by decide +kernel
theorem dL_law_1235 : decode cL_law 1235 = .ok (.iaload, 1) := by decide +kernel
theorem dL_law_1236 : decode cL_law 1236 = .ok (.aload_n 0, 1) := by decide +kernel
theorem dL_law_1237 : decode cL_law 1237 = .ok (.iload_n 3, 1) := by decide +kernel
theorem dL_law_1238 : decode cL_law 1238 = .ok (.iconst 2, 1) := by decide +kernel
theorem dL_law_1239 : decode cL_law 1239 = .ok (.iadd, 1) := by decide +kernel
theorem dL_law_1240 : decode cL_law 1240 = .ok (.iaload, 1) := by decide +kernel
theorem dL_law_1241 : decode cL_law 1241 = .ok (.i2l, 1) := by decide +kernel
theorem dL_law_1242 : decode cL_law 1242 = .ok (.bipush 32, 2) := by decide +kernel
theorem dL_law_1244 : decode cL_law 1244 = .ok (.lshl, 1) := by decide +kernel
theorem dL_law_1245 : decode cL_law 1245 = .ok (.aload_n 0, 1) := by decide +kernel
theorem dL_law_1246 : decode cL_law 1246 = .ok (.iload_n 3, 1) := by decide +kernel
theorem dL_law_1247 : decode cL_law 1247 = .ok (.iconst 3, 1) := by decide +kernel
theorem dL_law_1248 : decode cL_law 1248 = .ok (.iadd, 1) := by decide +kernel
theorem dL_law_1249 : decode cL_law 1249 = .ok (.iaload, 1) := by decide +kernel
theorem dL_law_1250 : decode cL_law 1250 = .ok (.i2l, 1) := by decide +kernel
theorem dL_law_1251 : decode cL_law 1251 = .ok (.ldc2_w 121, 3) := by decide +kernel
theorem dL_law_1254 : decode cL_law 1254 = .ok (.land, 1) := by decide +kernel
theorem dL_law_1255 : decode cL_law 1255 = .ok (.lor, 1) := by decide +kernel
theorem dL_law_1256 : decode cL_law 1256 = .ok (.invokevirtual 127, 3) := by decide +kernel
theorem dL_law_1259 : decode cL_law 1259 = .ok (.if_icmp .eq 911, 3) := by decide +kernel
theorem dL_law_1262 : decode cL_law 1262 = .ok (.iconst 0, 1) := by decide +kernel
theorem dL_law_1263 : decode cL_law 1263 = .ok (.ireturn, 1) := by decide +kernel
theorem dL_law_1264 : decode cL_law 1264 = .ok (.aload_n 1, 1) := by decide +kernel
theorem dL_law_1265 : decode cL_law 1265 = .ok (.aload_n 0, 1) := by decide +kernel
theorem dL_law_1266 : decode cL_law 1266 = .ok (.iload_n 3, 1) := by decide +kernel
theorem dL_law_1267 : decode cL_law 1267 = .ok (.iconst 1, 1) := by decide +kernel
theorem dL_law_1268 : decode cL_law 1268 = .ok (.iadd, 1) := by decide +kernel
theorem dL_law_1269 : decode cL_law 1269 = .ok (.iaload, 1) := by decide +kernel
theorem dL_law_1270 : decode cL_law 1270 = .ok (.invokevirtual 128, 3) := by decide +kernel
theorem dL_law_1273 : decode cL_law 1273 = .ok (.aload_n 2, 1) := by decide +kernel
theorem dL_law_1274 : decode cL_law 1274 = .ok (.aload_n 0, 1) := by decide +kernel
theorem dL_law_1275 : decode cL_law 1275 = .ok (.iload_n 3, 1) := by decide +kernel
theorem dL_law_1276 : decode cL_law 1276 = .ok (.iconst 1, 1) := by decide +kernel
theorem dL_law_1277 : decode cL_law 1277 = .ok (.iadd, 1) := by decide +kernel
theorem dL_law_1278 : decode cL_law 1278 = .ok (.iaload, 1) := by decide +kernel
theorem dL_law_1279 : decode cL_law 1279 = .ok (.invokevirtual 131, 3) := by decide +kernel
theorem dL_law_1282 : decode cL_law 1282 = .ok (.if_icmp .eq 888, 3) := by decide +kernel
theorem dL_law_1285 : decode cL_law 1285 = .ok (.iconst 0, 1) := by decide +kernel
theorem dL_law_1286 : decode cL_law 1286 = .ok (.ireturn, 1) := by decide +kernel
theorem dL_law_1287 : decode cL_law 1287 = .ok (.aload_n 1, 1) := by decide +kernel
theorem dL_law_1288 : decode cL_law 1288 = .ok (.aload_n 0, 1) := by decide +kernel
theorem dL_law_1289 : decode cL_law 1289 = .ok (.iload_n 3, 1) := by decide +kernel
theorem dL_law_1290 : decode cL_law 1290 = .ok (.iconst 1, 1) := by decide +kernel
theorem dL_law_1291 : decode cL_law 1291 = .ok (.iadd, 1) := by decide +kernel
theorem dL_law_1292 : decode cL_law 1292 = .ok (.iaload, 1) := by decide +kernel
theorem dL_law_1293 : decode cL_law 1293 = .ok (.aload_n 0, 1) := by decide +kernel
theorem dL_law_1294 : decode cL_law 1294 = .ok (.iload_n 3, 1) := by decide +kernel
theorem dL_law_1295 : decode cL_law 1295 = .ok (.iconst 2, 1) := by decide +kernel
theorem dL_law_1296 : decode cL_law 1296 = .ok (.iadd, 1) := by decide +kernel
theorem dL_law_1297 : decode cL_law 1297 = .ok (.iaload, 1) := by decide +kernel
theorem dL_law_1298 : decode cL_law 1298 = .ok (.invokevirtual 132, 3) := by decide +kernel
theorem dL_law_1301 : decode cL_law 1301 = .ok (.aload_n 2, 1) := by decide +kernel
theorem dL_law_1302 : decode cL_law 1302 = .ok (.aload_n 0, 1) := by decide +kernel
theorem dL_law_1303 : decode cL_law 1303 = .ok (.iload_n 3, 1) := by decide +kernel
theorem dL_law_1304 : decode cL_law 1304 = .ok (.iconst 1, 1) := by decide +kernel
theorem dL_law_1305 : decode cL_law 1305 = .ok (.iadd, 1) := by decide +kernel
theorem dL_law_1306 : decode cL_law 1306 = .ok (.iaload, 1) := by decide +kernel
theorem dL_law_1307 : decode cL_law 1307 = .ok (.aload_n 0, 1) := by decide +kernel
theorem dL_law_1308 : decode cL_law 1308 = .ok (.iload_n 3, 1) := by decide +kernel
theorem dL_law_1309 : decode cL_law 1309 = .ok (.iconst 2, 1) := by decide +kernel
theorem dL_law_1310 : decode cL_law 1310 = .ok (.iadd, 1) := by decide +kernel
theorem dL_law_1311 : decode cL_law 1311 = .ok (.iaload, 1) := by decide +kernel
theorem dL_law_1312 : decode cL_law 1312 = .ok (.invokevirtual 135, 3) := by decide +kernel
theorem dL_law_1315 : decode cL_law 1315 = .ok (.if_icmp .eq 855, 3) := by decide +kernel
theorem dL_law_1318 : decode cL_law 1318 = .ok (.iconst 0, 1) := by decide +kernel
theorem dL_law_1319 : decode cL_law 1319 = .ok (.ireturn, 1) := by decide +kernel
theorem dL_law_1320 : decode cL_law 1320 = .ok (.aload_n 1, 1) := by decide +kernel
theorem dL_law_1321 : decode cL_law 1321 = .ok (.aload_n 0, 1) := by decide +kernel
theorem dL_law_1322 : decode cL_law 1322 = .ok (.iload_n 3, 1) := by decide +kernel
theorem dL_law_1323 : decode cL_law 1323 = .ok (.iconst 1, 1) := by decide +kernel
theorem dL_law_1324 : decode cL_law 1324 = .ok (.iadd, 1) := by decide +kernel
theorem dL_law_1325 : decode cL_law 1325 = .ok (.iaload, 1) := by decide +kernel
theorem dL_law_1326 : decode cL_law 1326 = .ok (.aload_n 0, 1) := by decide +kernel
theorem dL_law_1327 : decode cL_law 1327 = .ok (.iload_n 3, 1) := by decide +kernel
theorem dL_law_1328 : decode cL_law 1328 = .ok (.iconst 2, 1) := by decide +kernel
theorem dL_law_1329 : decode cL_law 1329 = .ok (.iadd, 1) := by decide +kernel
theorem dL_law_1330 : decode cL_law 1330 = .ok (.iaload, 1) := by decide +kernel
theorem dL_law_1331 : decode cL_law 1331 = .ok (.aload_n 0, 1) := by decide +kernel
theorem dL_law_1332 : decode cL_law 1332 = .ok (.iload_n 3, 1) := by decide +kernel
theorem dL_law_1333 : decode cL_law 1333 = .ok (.iconst 3, 1) := by decide +kernel
theorem dL_law_1334 : decode cL_law 1334 = .ok (.iadd, 1) := by decide +kernel
theorem dL_law_1335 : decode cL_law 1335 = .ok (.iaload, 1) := by decide +kernel
theorem dL_law_1336 : decode cL_law 1336 = .ok (.invokevirtual 136, 3) := by decide +kernel
theorem dL_law_1339 : decode cL_law 1339 = .ok (.aload_n 2, 1) := by decide +kernel
theorem dL_law_1340 : decode cL_law 1340 = .ok (.aload_n 0, 1) := by decide +kernel
theorem dL_law_1341 : decode cL_law 1341 = .ok (.iload_n 3, 1) := by decide +kernel
theorem dL_law_1342 : decode cL_law 1342 = .ok (.iconst 1, 1) := by decide +kernel
theorem dL_law_1343 : decode cL_law 1343 = .ok (.iadd, 1) := by decide +kernel
theorem dL_law_1344 : decode cL_law 1344 = .ok (.iaload, 1) := by decide +kernel
theorem dL_law_1345 : decode cL_law 1345 = .ok (.aload_n 0, 1) := by decide +kernel
theorem dL_law_1346 : decode cL_law 1346 = .ok (.iload_n 3, 1) := by decide +kernel
theorem dL_law_1347 : decode cL_law 1347 = .ok (.iconst 2, 1) := by decide +kernel
theorem dL_law_1348 : decode cL_law 1348 = .ok (.iadd, 1) := by decide +kernel
theorem dL_law_1349 : decode cL_law 1349 = .ok (.iaload, 1) := by decide +kernel
theorem dL_law_1350 : decode cL_law 1350 = .ok (.aload_n 0, 1) := by decide +kernel
theorem dL_law_1351 : decode cL_law 1351 = .ok (.iload_n 3, 1) := by decide +kernel
theorem dL_law_1352 : decode cL_law 1352 = .ok (.iconst 3, 1) := by decide +kernel
theorem dL_law_1353 : decode cL_law 1353 = .ok (.iadd, 1) := by decide +kernel
theorem dL_law_1354 : decode cL_law 1354 = .ok (.iaload, 1) := by decide +kernel
theorem dL_law_1355 : decode cL_law 1355 = .ok (.invokevirtual 139, 3) := by decide +kernel
theorem dL_law_1358 : decode cL_law 1358 = .ok (.if_icmp .eq 812, 3) := by decide +kernel
theorem dL_law_1361 : decode cL_law 1361 = .ok (.iconst 0, 1) := by decide +kernel
theorem dL_law_1362 : decode cL_law 1362 = .ok (.ireturn, 1) := by decide +kernel
theorem dL_law_1363 : decode cL_law 1363 = .ok (.aload_n 1, 1) := by decide +kernel
theorem dL_law_1364 : decode cL_law 1364 = .ok (.aload_n 0, 1) := by decide +kernel
theorem dL_law_1365 : decode cL_law 1365 = .ok (.iload_n 3, 1) := by decide +kernel
theorem dL_law_1366 : decode cL_law 1366 = .ok (.iconst 1, 1) := by decide +kernel
theorem dL_law_1367 : decode cL_law 1367 = .ok (.iadd, 1) := by decide +kernel
theorem dL_law_1368 : decode cL_law 1368 = .ok (.iaload, 1) := by decide +kernel
theorem dL_law_1369 : decode cL_law 1369 = .ok (.aload_n 0, 1) := by decide +kernel
theorem dL_law_1370 : decode cL_law 1370 = .ok (.iload_n 3, 1) := by decide +kernel
theorem dL_law_1371 : decode cL_law 1371 = .ok (.iconst 2, 1) := by decide +kernel
theorem dL_law_1372 : decode cL_law 1372 = .ok (.iadd, 1) := by decide +kernel
theorem dL_law_1373 : decode cL_law 1373 = .ok (.iaload, 1) := by decide +kernel
theorem dL_law_1374 : decode cL_law 1374 = .ok (.ifCond .eq 7, 3) := by decide +kernel
theorem dL_law_1377 : decode cL_law 1377 = .ok (.iconst 1, 1) := by decide +kernel
theorem dL_law_1378 : decode cL_law 1378 = .ok (.goto 4, 3) := by decide +kernel
theorem dL_law_1381 : decode cL_law 1381 = .ok (.iconst 0, 1) := by decide +kernel
theorem dL_law_1382 : decode cL_law 1382 = .ok (.invokevirtual 140, 3) := by decide +kernel
theorem dL_law_1385 : decode cL_law 1385 = .ok (.aload_n 2, 1) := by decide +kernel
theorem dL_law_1386 : decode cL_law 1386 = .ok (.aload_n 0, 1) := by decide +kernel
theorem dL_law_1387 : decode cL_law 1387 = .ok (.iload_n 3, 1) := by decide +kernel
theorem dL_law_1388 : decode cL_law 1388 = .ok (.iconst 1, 1) := by decide +kernel
theorem dL_law_1389 : decode cL_law 1389 = .ok (.iadd, 1) := by decide +kernel
theorem dL_law_1390 : decode cL_law 1390 = .ok (.iaload, 1) := by decide +kernel
theorem dL_law_1391 : decode cL_law 1391 = .ok (.aload_n 0, 1) := by decide +kernel
theorem dL_law_1392 : decode cL_law 1392 = .ok (.iload_n 3, 1) := by decide +kernel
theorem dL_law_1393 : decode cL_law 1393 = .ok (.iconst 2, 1) := by decide +kernel
theorem dL_law_1394 : decode cL_law 1394 = .ok (.iadd, 1) := by decide +kernel
theorem dL_law_1395 : decode cL_law 1395 = .ok (.iaload, 1) := by decide +kernel
theorem dL_law_1396 : decode cL_law 1396 = .ok (.ifCond .eq 7, 3) := by decide +kernel
theorem dL_law_1399 : decode cL_law 1399 = .ok (.iconst 1, 1) := by decide +kernel
theorem dL_law_1400 : decode cL_law 1400 = .ok (.goto 4, 3) := by decide +kernel
theorem dL_law_1403 : decode cL_law 1403 = .ok (.iconst 0, 1) := by decide +kernel
theorem dL_law_1404 : decode cL_law 1404 = .ok (.invokevirtual 143, 3) := by decide +kernel
theorem dL_law_1407 : decode cL_law 1407 = .ok (.if_icmp .eq 763, 3) := by decide +kernel
theorem dL_law_1410 : decode cL_law 1410 = .ok (.iconst 0, 1) := by decide +kernel
theorem dL_law_1411 : decode cL_law 1411 = .ok (.ireturn, 1) := by decide +kernel
theorem dL_law_1412 : decode cL_law 1412 = .ok (.aload_n 1, 1) := by decide +kernel
theorem dL_law_1413 : decode cL_law 1413 = .ok (.aload_n 0, 1) := by decide +kernel
theorem dL_law_1414 : decode cL_law 1414 = .ok (.iload_n 3, 1) := by decide +kernel
theorem dL_law_1415 : decode cL_law 1415 = .ok (.iconst 1, 1) := by decide +kernel
theorem dL_law_1416 : decode cL_law 1416 = .ok (.iadd, 1) := by decide +kernel
theorem dL_law_1417 : decode cL_law 1417 = .ok (.iaload, 1) := by decide +kernel
theorem dL_law_1418 : decode cL_law 1418 = .ok (.aload_n 0, 1) := by decide +kernel
theorem dL_law_1419 : decode cL_law 1419 = .ok (.iload_n 3, 1) := by decide +kernel
theorem dL_law_1420 : decode cL_law 1420 = .ok (.iconst 2, 1) := by decide +kernel
theorem dL_law_1421 : decode cL_law 1421 = .ok (.iadd, 1) := by decide +kernel
theorem dL_law_1422 : decode cL_law 1422 = .ok (.iaload, 1) := by decide +kernel
theorem dL_law_1423 : decode cL_law 1423 = .ok (.aload_n 0, 1) := by decide +kernel
theorem dL_law_1424 : decode cL_law 1424 = .ok (.iload_n 3, 1) := by decide +kernel
theorem dL_law_1425 : decode cL_law 1425 = .ok (.iconst 3, 1) := by decide +kernel
theorem dL_law_1426 : decode cL_law 1426 = .ok (.iadd, 1) := by decide +kernel
theorem dL_law_1427 : decode cL_law 1427 = .ok (.iaload, 1) := by decide +kernel
theorem dL_law_1428 : decode cL_law 1428 = .ok (.aload_n 0, 1) := by decide +kernel
theorem dL_law_1429 : decode cL_law 1429 = .ok (.iload_n 3, 1) := by decide +kernel
theorem dL_law_1430 : decode cL_law 1430 = .ok (.iconst 4, 1) := by decide +kernel
theorem dL_law_1431 : decode cL_law 1431 = .ok (.iadd, 1) := by decide +kernel
theorem dL_law_1432 : decode cL_law 1432 = .ok (.iaload, 1) := by decide +kernel
theorem dL_law_1433 : decode cL_law 1433 = .ok (.aload_n 0, 1) := by decide +kernel
theorem dL_law_1434 : decode cL_law 1434 = .ok (.iload_n 3, 1) := by decide +kernel
theorem dL_law_1435 : decode cL_law 1435 = .ok (.iconst 5, 1) := by decide +kernel
theorem dL_law_1436 : decode cL_law 1436 = .ok (.iadd, 1) := by decide +kernel
theorem dL_law_1437 : decode cL_law 1437 = .ok (.iaload, 1) := by decide +kernel
theorem dL_law_1438 : decode cL_law 1438 = .ok (.invokevirtual 144, 3) := by decide +kernel
theorem dL_law_1441 : decode cL_law 1441 = .ok (.aload_n 2, 1) := by decide +kernel
theorem dL_law_1442 : decode cL_law 1442 = .ok (.aload_n 0, 1) := by decide +kernel
theorem dL_law_1443 : decode cL_law 1443 = .ok (.iload_n 3, 1) := by decide +kernel
theorem dL_law_1444 : decode cL_law 1444 = .ok (.iconst 1, 1) := by decide +kernel
theorem dL_law_1445 : decode cL_law 1445 = .ok (.iadd, 1) := by decide +kernel
theorem dL_law_1446 : decode cL_law 1446 = .ok (.iaload, 1) := by decide +kernel
theorem dL_law_1447 : decode cL_law 1447 = .ok (.aload_n 0, 1) := by decide +kernel
theorem dL_law_1448 : decode cL_law 1448 = .ok (.iload_n 3, 1) := by decide +kernel
theorem dL_law_1449 : decode cL_law 1449 = .ok (.iconst 2, 1) := by decide +kernel
theorem dL_law_1450 : decode cL_law 1450 = .ok (.iadd, 1) := by decide +kernel
theorem dL_law_1451 : decode cL_law 1451 = .ok (.iaload, 1) := by decide +kernel
theorem dL_law_1452 : decode cL_law 1452 = .ok (.aload_n 0, 1) := by decide +kernel
theorem dL_law_1453 : decode cL_law 1453 = .ok (.iload_n 3, 1) := by decide +kernel
theorem dL_law_1454 : decode cL_law 1454 = .ok (.iconst 3, 1) := by decide +kernel
theorem dL_law_1455 : decode cL_law 1455 = .ok (.iadd, 1) := by decide +kernel
theorem dL_law_1456 : decode cL_law 1456 = .ok (.iaload, 1) := by decide +kernel
theorem dL_law_1457 : decode cL_law 1457 = .ok (.aload_n 0, 1) := by decide +kernel
theorem dL_law_1458 : decode cL_law 1458 = .ok (.iload_n 3, 1) := by decide +kernel
theorem dL_law_1459 : decode cL_law 1459 = .ok (.iconst 4, 1) := by decide +kernel
theorem dL_law_1460 : decode cL_law 1460 = .ok (.iadd, 1) := by decide +kernel
theorem dL_law_1461 : decode cL_law 1461 = .ok (.iaload, 1) := by decide +kernel
theorem dL_law_1462 : decode cL_law 1462 = .ok (.aload_n 0, 1) := by decide +kernel
theorem dL_law_1463 : decode cL_law 1463 = .ok (.iload_n 3, 1) := by decide +kernel
theorem dL_law_1464 : decode cL_law 1464 = .ok (.iconst 5, 1) := by decide +kernel
theorem dL_law_1465 : decode cL_law 1465 = .ok (.iadd, 1) := by decide +kernel
theorem dL_law_1466 : decode cL_law 1466 = .ok (.iaload, 1) := by decide +kernel
theorem dL_law_1467 : decode cL_law 1467 = .ok (.invokevirtual 148, 3) := by decide +kernel
theorem dL_law_1470 : decode cL_law 1470 = .ok (.if_icmp .eq 700, 3) := by decide +kernel
theorem dL_law_1473 : decode cL_law 1473 = .ok (.iconst 0, 1) := by decide +kernel
theorem dL_law_1474 : decode cL_law 1474 = .ok (.ireturn, 1) := by decide +kernel
theorem dL_law_1475 : decode cL_law 1475 = .ok (.aload_n 1, 1) := by decide +kernel
theorem dL_law_1476 : decode cL_law 1476 = .ok (.aload_n 0, 1) := by decide +kernel
theorem dL_law_1477 : decode cL_law 1477 = .ok (.iload_n 3, 1) := by decide +kernel
theorem dL_law_1478 : decode cL_law 1478 = .ok (.iconst 1, 1) := by decide +kernel
theorem dL_law_1479 : decode cL_law 1479 = .ok (.iadd, 1) := by decide +kernel
theorem dL_law_1480 : decode cL_law 1480 = .ok (.iaload, 1) := by decide +kernel
theorem dL_law_1481 : decode cL_law 1481 = .ok (.invokevirtual 149, 3) := by decide +kernel
theorem dL_law_1484 : decode cL_law 1484 = .ok (.aload_n 2, 1) := by decide +kernel
theorem dL_law_1485 : decode cL_law 1485 = .ok (.aload_n 0, 1) := by decide +kernel
theorem dL_law_1486 : decode cL_law 1486 = .ok (.iload_n 3, 1) := by decide +kernel
theorem dL_law_1487 : decode cL_law 1487 = .ok (.iconst 1, 1) := by decide +kernel
theorem dL_law_1488 : decode cL_law 1488 = .ok (.iadd, 1) := by decide +kernel
theorem dL_law_1489 : decode cL_law 1489 = .ok (.iaload, 1) := by decide +kernel
theorem dL_law_1490 : decode cL_law 1490 = .ok (.invokevirtual 152, 3) := by decide +kernel
theorem dL_law_1493 : decode cL_law 1493 = .ok (.if_icmp .eq 677, 3) := by decide +kernel
theorem dL_law_1496 : decode cL_law 1496 = .ok (.iconst 0, 1) := by decide +kernel
theorem dL_law_1497 : decode cL_law 1497 = .ok (.ireturn, 1) := by decide +kernel
theorem dL_law_1498 : decode cL_law 1498 = .ok (.aload_n 1, 1) := by decide +kernel
theorem dL_law_1499 : decode cL_law 1499 = .ok (.aload_n 0, 1) := by decide +kernel
theorem dL_law_1500 : decode cL_law 1500 = .ok (.iload_n 3, 1) := by decide +kernel
theorem dL_law_1501 : decode cL_law 1501 = .ok (.iconst 1, 1) := by decide +kernel
theorem dL_law_1502 : decode cL_law 1502 = .ok (.iadd, 1) := by decide +kernel
theorem dL_law_1503 : decode cL_law 1503 = .ok (.iaload, 1) := by decide +kernel
theorem dL_law_1504 : decode cL_law 1504 = .ok (.aload_n 0, 1) := by decide +kernel
theorem dL_law_1505 : decode cL_law 1505 = .ok (.iload_n 3, 1) := by decide +kernel
theorem dL_law_1506 : decode cL_law 1506 = .ok (.iconst 2, 1) := by decide +kernel
theorem dL_law_1507 : decode cL_law 1507 = .ok (.iadd, 1) := by decide +kernel
theorem dL_law_1508 : decode cL_law 1508 = .ok (.iaload, 1) := by decide +kernel
theorem dL_law_1509 : decode cL_law 1509 = .ok (.aload_n 0, 1) := by decide +kernel
theorem dL_law_1510 : decode cL_law 1510 = .ok (.iload_n 3, 1) := by decide +kernel
theorem dL_law_1511 : decode cL_law 1511 = .ok (.iconst 3, 1) := by decide +kernel
theorem dL_law_1512 : decode cL_law 1512 = .ok (.iadd, 1) := by decide +kernel
theorem dL_law_1513 : decode cL_law 1513 = .ok (.iaload, 1) := by decide +kernel
theorem dL_law_1514 : decode cL_law 1514 = .ok (.invokevirtual 153, 3) := by decide +kernel
theorem dL_law_1517 : decode cL_law 1517 = .ok (.aload_n 2, 1) := by decide +kernel
theorem dL_law_1518 : decode cL_law 1518 = .ok (.aload_n 0, 1) := by decide +kernel
theorem dL_law_1519 : decode cL_law 1519 = .ok (.iload_n 3, 1) := by decide +kernel
theorem dL_law_1520 : decode cL_law 1520 = .ok (.iconst 1, 1) := by decide +kernel
theorem dL_law_1521 : decode cL_law 1521 = .ok (.iadd, 1) := by decide +kernel
theorem dL_law_1522 : decode cL_law 1522 = .ok (.iaload, 1) := by decide +kernel
theorem dL_law_1523 : decode cL_law 1523 = .ok (.aload_n 0, 1) := by decide +kernel
theorem dL_law_1524 : decode cL_law 1524 = .ok (.iload_n 3, 1) := by decide +kernel
theorem dL_law_1525 : decode cL_law 1525 = .ok (.iconst 2, 1) := by decide +kernel
theorem dL_law_1526 : decode cL_law 1526 = .ok (.iadd, 1) := by decide +kernel
theorem dL_law_1527 : decode cL_law 1527 = .ok (.iaload, 1) := by decide +kernel
theorem dL_law_1528 : decode cL_law 1528 = .ok (.aload_n 0, 1) := by decide +kernel
theorem dL_law_1529 : decode cL_law 1529 = .ok (.iload_n 3, 1) := by decide +kernel
theorem dL_law_1530 : decode cL_law 1530 = .ok (.iconst 3, 1) := by decide +kernel
theorem dL_law_1531 : decode cL_law 1531 = .ok (.iadd, 1) := by decide +kernel
theorem dL_law_1532 : decode cL_law 1532 = .ok (.iaload, 1) := by decide +kernel
theorem dL_law_1533 : decode cL_law 1533 = .ok (.invokevirtual 156, 3) := by decide +kernel
theorem dL_law_1536 : decode cL_law 1536 = .ok (.if_icmp .eq 634, 3) := by decide +kernel
theorem dL_law_1539 : decode cL_law 1539 = .ok (.iconst 0, 1) := by decide +kernel
theorem dL_law_1540 : decode cL_law 1540 = .ok (.ireturn, 1) := by decide +kernel
theorem dL_law_1541 : decode cL_law 1541 = .ok (.aload_n 1, 1) := by decide +kernel
theorem dL_law_1542 : decode cL_law 1542 = .ok (.aload_n 0, 1) := by decide +kernel
theorem dL_law_1543 : decode cL_law 1543 = .ok (.iload_n 3, 1) := by decide +kernel
theorem dL_law_1544 : decode cL_law 1544 = .ok (.iconst 1, 1) := by decide +kernel
theorem dL_law_1545 : decode cL_law 1545 = .ok (.iadd, 1) := by decide +kernel
theorem dL_law_1546 : decode cL_law 1546 = .ok (.iaload, 1) := by decide +kernel
theorem dL_law_1547 : decode cL_law 1547 = .ok (.ifCond .eq 7, 3) := by decide +kernel
theorem dL_law_1550 : decode cL_law 1550 = .ok (.iconst 1, 1) := by decide +kernel
theorem dL_law_1551 : decode cL_law 1551 = .ok (.goto 4, 3) := by decide +kernel
theorem dL_law_1554 : decode cL_law 1554 = .ok (.iconst 0, 1) := by decide +kernel
theorem dL_law_1555 : decode cL_law 1555 = .ok (.aload_n 0, 1) := by decide +kernel
theorem dL_law_1556 : decode cL_law 1556 = .ok (.iload_n 3, 1) := by decide +kernel
theorem dL_law_1557 : decode cL_law 1557 = .ok (.iconst 2, 1) := by decide +kernel
theorem dL_law_1558 : decode cL_law 1558 = .ok (.iadd, 1) := by decide +kernel
theorem dL_law_1559 : decode cL_law 1559 = .ok (.iaload, 1) := by decide +kernel
theorem dL_law_1560 : decode cL_law 1560 = .ok (.invokevirtual 157, 3) := by decide +kernel
theorem dL_law_1563 : decode cL_law 1563 = .ok (.aload_n 2, 1) := by decide +kernel
theorem dL_law_1564 : decode cL_law 1564 = .ok (.aload_n 0, 1) := by decide +kernel
theorem dL_law_1565 : decode cL_law 1565 = .ok (.iload_n 3, 1) := by decide +kernel
theorem dL_law_1566 : decode cL_law 1566 = .ok (.iconst 1, 1) := by decide +kernel
theorem dL_law_1567 : decode cL_law 1567 = .ok (.iadd, 1) := by decide +kernel
theorem dL_law_1568 : decode cL_law 1568 = .ok (.iaload, 1) := by decide +kernel
theorem dL_law_1569 : decode cL_law 1569 = .ok (.ifCond .eq 7, 3) := by decide +kernel
theorem dL_law_1572 : decode cL_law 1572 = .ok (.iconst 1, 1) := by decide +kernel
theorem dL_law_1573 : decode cL_law 1573 = .ok (.goto 4, 3) := by decide +kernel
theorem dL_law_1576 : decode cL_law 1576 = .ok (.iconst 0, 1) := by decide +kernel
theorem dL_law_1577 : decode cL_law 1577 = .ok (.aload_n 0, 1) := by decide +kernel
theorem dL_law_1578 : decode cL_law 1578 = .ok (.iload_n 3, 1) := by decide +kernel
theorem dL_law_1579 : decode cL_law 1579 = .ok (.iconst 2, 1) := by decide +kernel
theorem dL_law_1580 : decode cL_law 1580 = .ok (.iadd, 1) := by decide +kernel
theorem dL_law_1581 : decode cL_law 1581 = .ok (.iaload, 1) := by decide +kernel
theorem dL_law_1582 : decode cL_law 1582 = .ok (.invokevirtual 161, 3) := by decide +kernel
theorem dL_law_1585 : decode cL_law 1585 = .ok (.if_icmp .eq 585, 3) := by decide +kernel
theorem dL_law_1588 : decode cL_law 1588 = .ok (.iconst 0, 1) := by decide +kernel
theorem dL_law_1589 : decode cL_law 1589 = .ok (.ireturn, 1) := by decide +kernel
theorem dL_law_1590 : decode cL_law 1590 = .ok (.aload_n 1, 1) := by decide +kernel
theorem dL_law_1591 : decode cL_law 1591 = .ok (.aload_n 0, 1) := by decide +kernel
theorem dL_law_1592 : decode cL_law 1592 = .ok (.iload_n 3, 1) := by decide +kernel
theorem dL_law_1593 : decode cL_law 1593 = .ok (.iconst 1, 1) := by decide +kernel
theorem dL_law_1594 : decode cL_law 1594 = .ok (.iadd, 1) := by decide +kernel
theorem dL_law_1595 : decode cL_law 1595 = .ok (.iaload, 1) := by decide +kernel
theorem dL_law_1596 : decode cL_law 1596 = .ok (.aload_n 0, 1) := by decide +kernel
theorem dL_law_1597 : decode cL_law 1597 = .ok (.iload_n 3, 1) := by decide +kernel
theorem dL_law_1598 : decode cL_law 1598 = .ok (.iconst 2, 1) := by decide +kernel
theorem dL_law_1599 : decode cL_law 1599 = .ok (.iadd, 1) := by decide +kernel
theorem dL_law_1600 : decode cL_law 1600 = .ok (.iaload, 1) := by decide +kernel
theorem dL_law_1601 : decode cL_law 1601 = .ok (.aload_n 0, 1) := by decide +kernel
theorem dL_law_1602 : decode cL_law 1602 = .ok (.iload_n 3, 1) := by decide +kernel
theorem dL_law_1603 : decode cL_law 1603 = .ok (.iconst 3, 1) := by decide +kernel
theorem dL_law_1604 : decode cL_law 1604 = .ok (.iadd, 1) := by decide +kernel
theorem dL_law_1605 : decode cL_law 1605 = .ok (.iaload, 1) := by decide +kernel
theorem dL_law_1606 : decode cL_law 1606 = .ok (.ifCond .eq 7, 3) := by decide +kernel
theorem dL_law_1609 : decode cL_law 1609 = .ok (.iconst 1, 1) := by decide +kernel
theorem dL_law_1610 : decode cL_law 1610 = .ok (.goto 4, 3) := by decide +kernel
theorem dL_law_1613 : decode cL_law 1613 = .ok (.iconst 0, 1) := by decide +kernel
theorem dL_law_1614 : decode cL_law 1614 = .ok (.invokevirtual 162, 3) := by decide +kernel
theorem dL_law_1617 : decode cL_law 1617 = .ok (.aload_n 2, 1) := by decide +kernel
theorem dL_law_1618 : decode cL_law 1618 = .ok (.aload_n 0, 1) := by decide +kernel
theorem dL_law_1619 : decode cL_law 1619 = .ok (.iload_n 3, 1) := by decide +kernel
theorem dL_law_1620 : decode cL_law 1620 = .ok (.iconst 1, 1) := by decide +kernel
theorem dL_law_1621 : decode cL_law 1621 = .ok (.iadd, 1) := by decide +kernel
theorem dL_law_1622 : decode cL_law 1622 = .ok (.iaload, 1) := by decide +kernel
theorem dL_law_1623 : decode cL_law 1623 = .ok (.aload_n 0, 1) := by decide +kernel
theorem dL_law_1624 : decode cL_law 1624 = .ok (.iload_n 3, 1) := by decide +kernel
theorem dL_law_1625 : decode cL_law 1625 = .ok (.iconst 2, 1) := by decide +kernel
theorem dL_law_1626 : decode cL_law 1626 = .ok (.iadd, 1) := by decide +kernel
theorem dL_law_1627 : decode cL_law 1627 = .ok (.iaload, 1) := by decide +kernel
theorem dL_law_1628 : decode cL_law 1628 = .ok (.aload_n 0, 1) := by decide +kernel
theorem dL_law_1629 : decode cL_law 1629 = .ok (.iload_n 3, 1) := by decide +kernel
theorem dL_law_1630 : decode cL_law 1630 = .ok (.iconst 3, 1) := by decide +kernel
theorem dL_law_1631 : decode cL_law 1631 = .ok (.iadd, 1) := by decide +kernel
theorem dL_law_1632 : decode cL_law 1632 = .ok (.iaload, 1) := by decide +kernel
theorem dL_law_1633 : decode cL_law 1633 = .ok (.ifCond .eq 7, 3) := by decide +kernel
theorem dL_law_1636 : decode cL_law 1636 = .ok (.iconst 1, 1) := by decide +kernel
theorem dL_law_1637 : decode cL_law 1637 = .ok (.goto 4, 3) := by decide +kernel
theorem dL_law_1640 : decode cL_law 1640 = .ok (.iconst 0, 1) := by decide +kernel
theorem dL_law_1641 : decode cL_law 1641 = .ok (.invokevirtual 166, 3) := by decide +kernel
theorem dL_law_1644 : decode cL_law 1644 = .ok (.if_icmp .eq 526, 3) := by decide +kernel
theorem dL_law_1647 : decode cL_law 1647 = .ok (.iconst 0, 1) := by decide +kernel
theorem dL_law_1648 : decode cL_law 1648 = .ok (.ireturn, 1) := by decide +kernel
theorem dL_law_1649 : decode cL_law 1649 = .ok (.aload_n 1, 1) := by decide +kernel
theorem dL_law_1650 : decode cL_law 1650 = .ok (.aload_n 0, 1) := by decide +kernel
theorem dL_law_1651 : decode cL_law 1651 = .ok (.iload_n 3, 1) := by decide +kernel
theorem dL_law_1652 : decode cL_law 1652 = .ok (.iconst 1, 1) := by decide +kernel
theorem dL_law_1653 : decode cL_law 1653 = .ok (.iadd, 1) := by decide +kernel
theorem dL_law_1654 : decode cL_law 1654 = .ok (.iaload, 1) := by decide +kernel
theorem dL_law_1655 : decode cL_law 1655 = .ok (.aload_n 0, 1) := by decide +kernel
theorem dL_law_1656 : decode cL_law 1656 = .ok (.iload_n 3, 1) := by decide +kernel
theorem dL_law_1657 : decode cL_law 1657 = .ok (.iconst 2, 1) := by decide +kernel
theorem dL_law_1658 : decode cL_law 1658 = .ok (.iadd, 1) := by decide +kernel
theorem dL_law_1659 : decode cL_law 1659 = .ok (.iaload, 1) := by decide +kernel
theorem dL_law_1660 : decode cL_law 1660 = .ok (.ifCond .eq 7, 3) := by decide +kernel
theorem dL_law_1663 : decode cL_law 1663 = .ok (.iconst 1, 1) := by decide +kernel
theorem dL_law_1664 : decode cL_law 1664 = .ok (.goto 4, 3) := by decide +kernel
theorem dL_law_1667 : decode cL_law 1667 = .ok (.iconst 0, 1) := by decide +kernel
theorem dL_law_1668 : decode cL_law 1668 = .ok (.invokevirtual 167, 3) := by decide +kernel
theorem dL_law_1671 : decode cL_law 1671 = .ok (.aload_n 2, 1) := by decide +kernel
theorem dL_law_1672 : decode cL_law 1672 = .ok (.aload_n 0, 1) := by decide +kernel
theorem dL_law_1673 : decode cL_law 1673 = .ok (.iload_n 3, 1) := by decide +kernel
theorem dL_law_1674 : decode cL_law 1674 = .ok (.iconst 1, 1) := by decide +kernel
theorem dL_law_1675 : decode cL_law 1675 = .ok (.iadd, 1) := by decide +kernel
theorem dL_law_1676 : decode cL_law 1676 = .ok (.iaload, 1) := by decide +kernel
theorem dL_law_1677 : decode cL_law 1677 = .ok (.aload_n 0, 1) := by decide +kernel
theorem dL_law_1678 : decode cL_law 1678 = .ok (.iload_n 3, 1) := by decide +kernel
theorem dL_law_1679 : decode cL_law 1679 = .ok (.iconst 2, 1) := by decide +kernel
theorem dL_law_1680 : decode cL_law 1680 = .ok (.iadd, 1) := by decide +kernel
theorem dL_law_1681 : decode cL_law 1681 = .ok (.iaload, 1) := by decide +kernel
theorem dL_law_1682 : decode cL_law 1682 = .ok (.ifCond .eq 7, 3) := by decide +kernel
theorem dL_law_1685 : decode cL_law 1685 = .ok (.iconst 1, 1) := by decide +kernel
theorem dL_law_1686 : decode cL_law 1686 = .ok (.goto 4, 3) := by decide +kernel
theorem dL_law_1689 : decode cL_law 1689 = .ok (.iconst 0, 1) := by decide +kernel
theorem dL_law_1690 : decode cL_law 1690 = .ok (.invokevirtual 170, 3) := by decide +kernel
theorem dL_law_1693 : decode cL_law 1693 = .ok (.if_icmp .eq 477, 3) := by decide +kernel
theorem dL_law_1696 : decode cL_law 1696 = .ok (.iconst 0, 1) := by decide +kernel
theorem dL_law_1697 : decode cL_law 1697 = .ok (.ireturn, 1) := by decide +kernel
theorem dL_law_1698 : decode cL_law 1698 = .ok (.aload_n 1, 1) := by decide +kernel
theorem dL_law_1699 : decode cL_law 1699 = .ok (.aload_n 0, 1) := by decide +kernel
theorem dL_law_1700 : decode cL_law 1700 = .ok (.iload_n 3, 1) := by decide +kernel
theorem dL_law_1701 : decode cL_law 1701 = .ok (.iconst 1, 1) := by decide +kernel
theorem dL_law_1702 : decode cL_law 1702 = .ok (.iadd, 1) := by decide +kernel
theorem dL_law_1703 : decode cL_law 1703 = .ok (.iaload, 1) := by decide +kernel
theorem dL_law_1704 : decode cL_law 1704 = .ok (.aload_n 0, 1) := by decide +kernel
theorem dL_law_1705 : decode cL_law 1705 = .ok (.iload_n 3, 1) := by decide +kernel
theorem dL_law_1706 : decode cL_law 1706 = .ok (.iconst 2, 1) := by decide +kernel
theorem dL_law_1707 : decode cL_law 1707 = .ok (.iadd, 1) := by decide +kernel
theorem dL_law_1708 : decode cL_law 1708 = .ok (.iaload, 1) := by decide +kernel
theorem dL_law_1709 : decode cL_law 1709 = .ok (.invokevirtual 171, 3) := by decide +kernel
theorem dL_law_1712 : decode cL_law 1712 = .ok (.aload_n 2, 1) := by decide +kernel
theorem dL_law_1713 : decode cL_law 1713 = .ok (.aload_n 0, 1) := by decide +kernel
theorem dL_law_1714 : decode cL_law 1714 = .ok (.iload_n 3, 1) := by decide +kernel
theorem dL_law_1715 : decode cL_law 1715 = .ok (.iconst 1, 1) := by decide +kernel
theorem dL_law_1716 : decode cL_law 1716 = .ok (.iadd, 1) := by decide +kernel
theorem dL_law_1717 : decode cL_law 1717 = .ok (.iaload, 1) := by decide +kernel
theorem dL_law_1718 : decode cL_law 1718 = .ok (.aload_n 0, 1) := by decide +kernel
theorem dL_law_1719 : decode cL_law 1719 = .ok (.iload_n 3, 1) := by decide +kernel
theorem dL_law_1720 : decode cL_law 1720 = .ok (.iconst 2, 1) := by decide +kernel
theorem dL_law_1721 : decode cL_law 1721 = .ok (.iadd, 1) := by decide +kernel
theorem dL_law_1722 : decode cL_law 1722 = .ok (.iaload, 1) := by decide +kernel
theorem dL_law_1723 : decode cL_law 1723 = .ok (.invokevirtual 174, 3) := by decide +kernel
theorem dL_law_1726 : decode cL_law 1726 = .ok (.if_icmp .eq 444, 3) := by decide +kernel
theorem dL_law_1729 : decode cL_law 1729 = .ok (.iconst 0, 1) := by decide +kernel
theorem dL_law_1730 : decode cL_law 1730 = .ok (.ireturn, 1) := by decide +kernel
theorem dL_law_1731 : decode cL_law 1731 = .ok (.aload_n 1, 1) := by decide +kernel
theorem dL_law_1732 : decode cL_law 1732 = .ok (.aload_n 0, 1) := by decide +kernel
theorem dL_law_1733 : decode cL_law 1733 = .ok (.iload_n 3, 1) := by decide +kernel
theorem dL_law_1734 : decode cL_law 1734 = .ok (.iconst 1, 1) := by decide +kernel
theorem dL_law_1735 : decode cL_law 1735 = .ok (.iadd, 1) := by decide +kernel
theorem dL_law_1736 : decode cL_law 1736 = .ok (.iaload, 1) := by decide +kernel
theorem dL_law_1737 : decode cL_law 1737 = .ok (.aload_n 0, 1) := by decide +kernel
theorem dL_law_1738 : decode cL_law 1738 = .ok (.iload_n 3, 1) := by decide +kernel
theorem dL_law_1739 : decode cL_law 1739 = .ok (.iconst 2, 1) := by decide +kernel
theorem dL_law_1740 : decode cL_law 1740 = .ok (.iadd, 1) := by decide +kernel
theorem dL_law_1741 : decode cL_law 1741 = .ok (.iaload, 1) := by decide +kernel
theorem dL_law_1742 : decode cL_law 1742 = .ok (.aload_n 0, 1) := by decide +kernel
theorem dL_law_1743 : decode cL_law 1743 = .ok (.iload_n 3, 1) := by decide +kernel
theorem dL_law_1744 : decode cL_law 1744 = .ok (.iconst 3, 1) := by decide +kernel
theorem dL_law_1745 : decode cL_law 1745 = .ok (.iadd, 1) := by decide +kernel
theorem dL_law_1746 : decode cL_law 1746 = .ok (.iaload, 1) := by decide +kernel
theorem dL_law_1747 : decode cL_law 1747 = .ok (.invokevirtual 175, 3) := by decide +kernel
theorem dL_law_1750 : decode cL_law 1750 = .ok (.aload_n 2, 1) := by decide +kernel
theorem dL_law_1751 : decode cL_law 1751 = .ok (.aload_n 0, 1) := by decide +kernel
theorem dL_law_1752 : decode cL_law 1752 = .ok (.iload_n 3, 1) := by decide +kernel
theorem dL_law_1753 : decode cL_law 1753 = .ok (.iconst 1, 1) := by decide +kernel
theorem dL_law_1754 : decode cL_law 1754 = .ok (.iadd, 1) := by decide +kernel
theorem dL_law_1755 : decode cL_law 1755 = .ok (.iaload, 1) := by decide +kernel
theorem dL_law_1756 : decode cL_law 1756 = .ok (.aload_n 0, 1) := by decide +kernel
theorem dL_law_1757 : decode cL_law 1757 = .ok (.iload_n 3, 1) := by decide +kernel
theorem dL_law_1758 : decode cL_law 1758 = .ok (.iconst 2, 1) := by decide +kernel
theorem dL_law_1759 : decode cL_law 1759 = .ok (.iadd, 1) := by decide +kernel
theorem dL_law_1760 : decode cL_law 1760 = .ok (.iaload, 1) := by decide +kernel
theorem dL_law_1761 : decode cL_law 1761 = .ok (.aload_n 0, 1) := by decide +kernel
theorem dL_law_1762 : decode cL_law 1762 = .ok (.iload_n 3, 1) := by decide +kernel
theorem dL_law_1763 : decode cL_law 1763 = .ok (.iconst 3, 1) := by decide +kernel
theorem dL_law_1764 : decode cL_law 1764 = .ok (.iadd, 1) := by decide +kernel
theorem dL_law_1765 : decode cL_law 1765 = .ok (.iaload, 1) := by decide +kernel
theorem dL_law_1766 : decode cL_law 1766 = .ok (.invokevirtual 178, 3) := by decide +kernel
theorem dL_law_1769 : decode cL_law 1769 = .ok (.if_icmp .eq 401, 3) := by decide +kernel
theorem dL_law_1772 : decode cL_law 1772 = .ok (.iconst 0, 1) := by decide +kernel
theorem dL_law_1773 : decode cL_law 1773 = .ok (.ireturn, 1) := by decide +kernel
theorem dL_law_1774 : decode cL_law 1774 = .ok (.aload_n 1, 1) := by decide +kernel
theorem dL_law_1775 : decode cL_law 1775 = .ok (.aload_n 0, 1) := by decide +kernel
theorem dL_law_1776 : decode cL_law 1776 = .ok (.iload_n 3, 1) := by decide +kernel
theorem dL_law_1777 : decode cL_law 1777 = .ok (.iconst 1, 1) := by decide +kernel
theorem dL_law_1778 : decode cL_law 1778 = .ok (.iadd, 1) := by decide +kernel
theorem dL_law_1779 : decode cL_law 1779 = .ok (.iaload, 1) := by decide +kernel
theorem dL_law_1780 : decode cL_law 1780 = .ok (.aload_n 0, 1) := by decide +kernel
theorem dL_law_1781 : decode cL_law 1781 = .ok (.iload_n 3, 1) := by decide +kernel
theorem dL_law_1782 : decode cL_law 1782 = .ok (.iconst 2, 1) := by decide +kernel
theorem dL_law_1783 : decode cL_law 1783 = .ok (.iadd, 1) := by decide +kernel
theorem dL_law_1784 : decode cL_law 1784 = .ok (.iaload, 1) := by decide +kernel
theorem dL_law_1785 : decode cL_law 1785 = .ok (.aload_n 0, 1) := by decide +kernel
theorem dL_law_1786 : decode cL_law 1786 = .ok (.iload_n 3, 1) := by decide +kernel
theorem dL_law_1787 : decode cL_law 1787 = .ok (.iconst 3, 1) := by decide +kernel
theorem dL_law_1788 : decode cL_law 1788 = .ok (.iadd, 1) := by decide +kernel
theorem dL_law_1789 : decode cL_law 1789 = .ok (.iaload, 1) := by decide +kernel
theorem dL_law_1790 : decode cL_law 1790 = .ok (.i2l, 1) := by decide +kernel
theorem dL_law_1791 : decode cL_law 1791 = .ok (.bipush 32, 2) := by decide +kernel
theorem dL_law_1793 : decode cL_law 1793 = .ok (.lshl, 1) := by decide +kernel
theorem dL_law_1794 : decode cL_law 1794 = .ok (.aload_n 0, 1) := by decide +kernel
theorem dL_law_1795 : decode cL_law 1795 = .ok (.iload_n 3, 1) := by decide +kernel
theorem dL_law_1796 : decode cL_law 1796 = .ok (.iconst 4, 1) := by decide +kernel
theorem dL_law_1797 : decode cL_law 1797 = .ok (.iadd, 1) := by decide +kernel
theorem dL_law_1798 : decode cL_law 1798 = .ok (.iaload, 1) := by decide +kernel
theorem dL_law_1799 : decode cL_law 1799 = .ok (.i2l, 1) := by decide +kernel
theorem dL_law_1800 : decode cL_law 1800 = .ok (.ldc2_w 121, 3) := by decide +kernel
theorem dL_law_1803 : decode cL_law 1803 = .ok (.land, 1) := by decide +kernel
theorem dL_law_1804 : decode cL_law 1804 = .ok (.lor, 1) := by decide +kernel
theorem dL_law_1805 : decode cL_law 1805 = .ok (.invokevirtual 179, 3) := by decide +kernel
theorem dL_law_1808 : decode cL_law 1808 = .ok (.aload_n 2, 1) := by decide +kernel
theorem dL_law_1809 : decode cL_law 1809 = .ok (.aload_n 0, 1) := by decide +kernel
theorem dL_law_1810 : decode cL_law 1810 = .ok (.iload_n 3, 1) := by decide +kernel
theorem dL_law_1811 : decode cL_law 1811 = .ok (.iconst 1, 1) := by decide +kernel
theorem dL_law_1812 : decode cL_law 1812 = .ok (.iadd, 1) := by decide +kernel
theorem dL_law_1813 : decode cL_law 1813 = .ok (.iaload, 1) := by decide +kernel
theorem dL_law_1814 : decode cL_law 1814 = .ok (.aload_n 0, 1) := by decide +kernel
theorem dL_law_1815 : decode cL_law 1815 = .ok (.iload_n 3, 1) := by decide +kernel
theorem dL_law_1816 : decode cL_law 1816 = .ok (.iconst 2, 1) := by decide +kernel
theorem dL_law_1817 : decode cL_law 1817 = .ok (.iadd, 1) := by decide +kernel
theorem dL_law_1818 : decode cL_law 1818 = .ok (.iaload, 1) := by decide +kernel
theorem dL_law_1819 : decode cL_law 1819 = .ok (.aload_n 0, 1) := by decide +kernel
theorem dL_law_1820 : decode cL_law 1820 = .ok (.iload_n 3, 1) := by decide +kernel
theorem dL_law_1821 : decode cL_law 1821 = .ok (.iconst 3, 1) := by decide +kernel
theorem dL_law_1822 : decode cL_law 1822 = .ok (.iadd, 1) := by decide +kernel
theorem dL_law_1823 : decode cL_law 1823 = .ok (.iaload, 1) := by decide +kernel
theorem dL_law_1824 : decode cL_law 1824 = .ok (.i2l, 1) := by decide +kernel
theorem dL_law_1825 : decode cL_law 1825 = .ok (.bipush 32, 2) := by decide +kernel
theorem dL_law_1827 : decode cL_law 1827 = .ok (.lshl, 1) := by decide +kernel
theorem dL_law_1828 : decode cL_law 1828 = .ok (.aload_n 0, 1) := by decide +kernel
theorem dL_law_1829 : decode cL_law 1829 = .ok (.iload_n 3, 1) := by decide +kernel
theorem dL_law_1830 : decode cL_law 1830 = .ok (.iconst 4, 1) := by decide +kernel
theorem dL_law_1831 : decode cL_law 1831 = .ok (.iadd, 1) := by decide +kernel
theorem dL_law_1832 : decode cL_law 1832 = .ok (.iaload, 1) := by decide +kernel
theorem dL_law_1833 : decode cL_law 1833 = .ok (.i2l, 1) := by decide +kernel
theorem dL_law_1834 : decode cL_law 1834 = .ok (.ldc2_w 121, 3) := by decide +kernel
theorem dL_law_1837 : decode cL_law 1837 = .ok (.land, 1) := by decide +kernel
theorem dL_law_1838 : decode cL_law 1838 = .ok (.lor, 1) := by decide +kernel
theorem dL_law_1839 : decode cL_law 1839 = .ok (.invokevirtual 183, 3) := by decide +kernel
theorem dL_law_1842 : decode cL_law 1842 = .ok (.if_icmp .eq 328, 3) := by decide +kernel
theorem dL_law_1845 : decode cL_law 1845 = .ok (.iconst 0, 1) := by decide +kernel
theorem dL_law_1846 : decode cL_law 1846 = .ok (.ireturn, 1) := by decide +kernel
theorem dL_law_1847 : decode cL_law 1847 = .ok (.aload_n 1, 1) := by decide +kernel
theorem dL_law_1848 : decode cL_law 1848 = .ok (.aload_n 0, 1) := by decide +kernel
theorem dL_law_1849 : decode cL_law 1849 = .ok (.iload_n 3, 1) := by decide +kernel
theorem dL_law_1850 : decode cL_law 1850 = .ok (.iconst 1, 1) := by decide +kernel
theorem dL_law_1851 : decode cL_law 1851 = .ok (.iadd, 1) := by decide +kernel
theorem dL_law_1852 : decode cL_law 1852 = .ok (.iaload, 1) := by decide +kernel
theorem dL_law_1853 : decode cL_law 1853 = .ok (.aload_n 0, 1) := by decide +kernel
theorem dL_law_1854 : decode cL_law 1854 = .ok (.iload_n 3, 1) := by decide +kernel
theorem dL_law_1855 : decode cL_law 1855 = .ok (.iconst 2, 1) := by decide +kernel
theorem dL_law_1856 : decode cL_law 1856 = .ok (.iadd, 1) := by decide +kernel
theorem dL_law_1857 : decode cL_law 1857 = .ok (.iaload, 1) := by decide +kernel
theorem dL_law_1858 : decode cL_law 1858 = .ok (.invokevirtual 184, 3) := by decide +kernel
theorem dL_law_1861 : decode cL_law 1861 = .ok (.aload_n 2, 1) := by decide +kernel
theorem dL_law_1862 : decode cL_law 1862 = .ok (.aload_n 0, 1) := by decide +kernel
theorem dL_law_1863 : decode cL_law 1863 = .ok (.iload_n 3, 1) := by decide +kernel
theorem dL_law_1864 : decode cL_law 1864 = .ok (.iconst 1, 1) := by decide +kernel
theorem dL_law_1865 : decode cL_law 1865 = .ok (.iadd, 1) := by decide +kernel
theorem dL_law_1866 : decode cL_law 1866 = .ok (.iaload, 1) := by decide +kernel
theorem dL_law_1867 : decode cL_law 1867 = .ok (.aload_n 0, 1) := by decide +kernel
theorem dL_law_1868 : decode cL_law 1868 = .ok (.iload_n 3, 1) := by decide +kernel
theorem dL_law_1869 : decode cL_law 1869 = .ok (.iconst 2, 1) := by decide +kernel
theorem dL_law_1870 : decode cL_law 1870 = .ok (.iadd, 1) := by decide +kernel
theorem dL_law_1871 : decode cL_law 1871 = .ok (.iaload, 1) := by decide +kernel
theorem dL_law_1872 : decode cL_law 1872 = .ok (.invokevirtual 187, 3) := by decide +kernel
theorem dL_law_1875 : decode cL_law 1875 = .ok (.if_icmp .eq 295, 3) := by decide +kernel
theorem dL_law_1878 : decode cL_law 1878 = .ok (.iconst 0, 1) := by decide +kernel
theorem dL_law_1879 : decode cL_law 1879 = .ok (.ireturn, 1) := by decide +kernel
theorem dL_law_1880 : decode cL_law 1880 = .ok (.aload_n 1, 1) := by decide +kernel
theorem dL_law_1881 : decode cL_law 1881 = .ok (.aload_n 0, 1) := by decide +kernel
theorem dL_law_1882 : decode cL_law 1882 = .ok (.iload_n 3, 1) := by decide +kernel
theorem dL_law_1883 : decode cL_law 1883 = .ok (.iconst 1, 1) := by decide +kernel
theorem dL_law_1884 : decode cL_law 1884 = .ok (.iadd, 1) := by decide +kernel
theorem dL_law_1885 : decode cL_law 1885 = .ok (.iaload, 1) := by decide +kernel
theorem dL_law_1886 : decode cL_law 1886 = .ok (.aload_n 0, 1) := by decide +kernel
theorem dL_law_1887 : decode cL_law 1887 = .ok (.iload_n 3, 1) := by decide +kernel
theorem dL_law_1888 : decode cL_law 1888 = .ok (.iconst 2, 1) := by decide +kernel
theorem dL_law_1889 : decode cL_law 1889 = .ok (.iadd, 1) := by decide +kernel
theorem dL_law_1890 : decode cL_law 1890 = .ok (.iaload, 1) := by decide +kernel
theorem dL_law_1891 : decode cL_law 1891 = .ok (.aload_n 0, 1) := by decide +kernel
theorem dL_law_1892 : decode cL_law 1892 = .ok (.iload_n 3, 1) := by decide +kernel
theorem dL_law_1893 : decode cL_law 1893 = .ok (.iconst 3, 1) := by decide +kernel
theorem dL_law_1894 : decode cL_law 1894 = .ok (.iadd, 1) := by decide +kernel
theorem dL_law_1895 : decode cL_law 1895 = .ok (.iaload, 1) := by decide +kernel
theorem dL_law_1896 : decode cL_law 1896 = .ok (.invokevirtual 188, 3) := by decide +kernel
theorem dL_law_1899 : decode cL_law 1899 = .ok (.aload_n 2, 1) := by decide +kernel
theorem dL_law_1900 : decode cL_law 1900 = .ok (.aload_n 0, 1) := by decide +kernel
theorem dL_law_1901 : decode cL_law 1901 = .ok (.iload_n 3, 1) := by decide +kernel
theorem dL_law_1902 : decode cL_law 1902 = .ok (.iconst 1, 1) := by decide +kernel
theorem dL_law_1903 : decode cL_law 1903 = .ok (.iadd, 1) := by decide +kernel
theorem dL_law_1904 : decode cL_law 1904 = .ok (.iaload, 1) := by decide +kernel
theorem dL_law_1905 : decode cL_law 1905 = .ok (.aload_n 0, 1) := by decide +kernel
theorem dL_law_1906 : decode cL_law 1906 = .ok (.iload_n 3, 1) := by decide +kernel
theorem dL_law_1907 : decode cL_law 1907 = .ok (.iconst 2, 1) := by decide +kernel
theorem dL_law_1908 : decode cL_law 1908 = .ok (.iadd, 1) := by decide +kernel
theorem dL_law_1909 : decode cL_law 1909 = .ok (.iaload, 1) := by decide +kernel
theorem dL_law_1910 : decode cL_law 1910 = .ok (.aload_n 0, 1) := by decide +kernel
theorem dL_law_1911 : decode cL_law 1911 = .ok (.iload_n 3, 1) := by decide +kernel
theorem dL_law_1912 : decode cL_law 1912 = .ok (.iconst 3, 1) := by decide +kernel
theorem dL_law_1913 : decode cL_law 1913 = .ok (.iadd, 1) := by decide +kernel
theorem dL_law_1914 : decode cL_law 1914 = .ok (.iaload, 1) := by decide +kernel
theorem dL_law_1915 : decode cL_law 1915 = .ok (.invokevirtual 191, 3) := by decide +kernel
theorem dL_law_1918 : decode cL_law 1918 = .ok (.if_icmp .eq 252, 3) := by decide +kernel
theorem dL_law_1921 : decode cL_law 1921 = .ok (.iconst 0, 1) := by decide +kernel
theorem dL_law_1922 : decode cL_law 1922 = .ok (.ireturn, 1) := by decide +kernel
theorem dL_law_1923 : decode cL_law 1923 = .ok (.aload_n 1, 1) := by decide +kernel
theorem dL_law_1924 : decode cL_law 1924 = .ok (.aload_n 0, 1) := by decide +kernel
theorem dL_law_1925 : decode cL_law 1925 = .ok (.iload_n 3, 1) := by decide +kernel
theorem dL_law_1926 : decode cL_law 1926 = .ok (.iconst 1, 1) := by decide +kernel
theorem dL_law_1927 : decode cL_law 1927 = .ok (.iadd, 1) := by decide +kernel
theorem dL_law_1928 : decode cL_law 1928 = .ok (.iaload, 1) := by decide +kernel
theorem dL_law_1929 : decode cL_law 1929 = .ok (.aload_n 0, 1) := by decide +kernel
theorem dL_law_1930 : decode cL_law 1930 = .ok (.iload_n 3, 1) := by decide +kernel
theorem dL_law_1931 : decode cL_law 1931 = .ok (.iconst 2, 1) := by decide +kernel
theorem dL_law_1932 : decode cL_law 1932 = .ok (.iadd, 1) := by decide +kernel
theorem dL_law_1933 : decode cL_law 1933 = .ok (.iaload, 1) := by decide +kernel
theorem dL_law_1934 : decode cL_law 1934 = .ok (.aload_n 0, 1) := by decide +kernel
theorem dL_law_1935 : decode cL_law 1935 = .ok (.iload_n 3, 1) := by decide +kernel
theorem dL_law_1936 : decode cL_law 1936 = .ok (.iconst 3, 1) := by decide +kernel
theorem dL_law_1937 : decode cL_law 1937 = .ok (.iadd, 1) := by decide +kernel
theorem dL_law_1938 : decode cL_law 1938 = .ok (.iaload, 1) := by decide +kernel
theorem dL_law_1939 : decode cL_law 1939 = .ok (.invokevirtual 192, 3) := by decide +kernel
theorem dL_law_1942 : decode cL_law 1942 = .ok (.aload_n 2, 1) := by decide +kernel
theorem dL_law_1943 : decode cL_law 1943 = .ok (.aload_n 0, 1) := by decide +kernel
theorem dL_law_1944 : decode cL_law 1944 = .ok (.iload_n 3, 1) := by decide +kernel
theorem dL_law_1945 : decode cL_law 1945 = .ok (.iconst 1, 1) := by decide +kernel
theorem dL_law_1946 : decode cL_law 1946 = .ok (.iadd, 1) := by decide +kernel
theorem dL_law_1947 : decode cL_law 1947 = .ok (.iaload, 1) := by decide +kernel
theorem dL_law_1948 : decode cL_law 1948 = .ok (.aload_n 0, 1) := by decide +kernel
theorem dL_law_1949 : decode cL_law 1949 = .ok (.iload_n 3, 1) := by decide +kernel
theorem dL_law_1950 : decode cL_law 1950 = .ok (.iconst 2, 1) := by decide +kernel
theorem dL_law_1951 : decode cL_law 1951 = .ok (.iadd, 1) := by decide +kernel
theorem dL_law_1952 : decode cL_law 1952 = .ok (.iaload, 1) := by decide +kernel
theorem dL_law_1953 : decode cL_law 1953 = .ok (.aload_n 0, 1) := by decide +kernel
theorem dL_law_1954 : decode cL_law 1954 = .ok (.iload_n 3, 1) := by decide +kernel
theorem dL_law_1955 : decode cL_law 1955 = .ok (.iconst 3, 1) := by decide +kernel
theorem dL_law_1956 : decode cL_law 1956 = .ok (.iadd, 1) := by decide +kernel
theorem dL_law_1957 : decode cL_law 1957 = .ok (.iaload, 1) := by decide +kernel
theorem dL_law_1958 : decode cL_law 1958 = .ok (.invokevirtual 195, 3) := by decide +kernel
theorem dL_law_1961 : decode cL_law 1961 = .ok (.if_icmp .eq 209, 3) := by decide +kernel
theorem dL_law_1964 : decode cL_law 1964 = .ok (.iconst 0, 1) := by decide +kernel
theorem dL_law_1965 : decode cL_law 1965 = .ok (.ireturn, 1) := by decide +kernel
theorem dL_law_1966 : decode cL_law 1966 = .ok (.aload_n 1, 1) := by decide +kernel
theorem dL_law_1967 : decode cL_law 1967 = .ok (.invokevirtual 196, 3) := by decide +kernel
theorem dL_law_1970 : decode cL_law 1970 = .ok (.aload_n 2, 1) := by decide +kernel
theorem dL_law_1971 : decode cL_law 1971 = .ok (.invokevirtual 199, 3) := by decide +kernel
theorem dL_law_1974 : decode cL_law 1974 = .ok (.if_icmp .eq 196, 3) := by decide +kernel
theorem dL_law_1977 : decode cL_law 1977 = .ok (.iconst 0, 1) := by decide +kernel
theorem dL_law_1978 : decode cL_law 1978 = .ok (.ireturn, 1) := by decide +kernel
theorem dL_law_1979 : decode cL_law 1979 = .ok (.aload_n 1, 1) := by decide +kernel
theorem dL_law_1980 : decode cL_law 1980 = .ok (.aload_n 0, 1) := by decide +kernel
theorem dL_law_1981 : decode cL_law 1981 = .ok (.iload_n 3, 1) := by decide +kernel
theorem dL_law_1982 : decode cL_law 1982 = .ok (.iconst 1, 1) := by decide +kernel
theorem dL_law_1983 : decode cL_law 1983 = .ok (.iadd, 1) := by decide +kernel
theorem dL_law_1984 : decode cL_law 1984 = .ok (.iaload, 1) := by decide +kernel
theorem dL_law_1985 : decode cL_law 1985 = .ok (.invokevirtual 200, 3) := by decide +kernel
theorem dL_law_1988 : decode cL_law 1988 = .ok (.aload_n 2, 1) := by decide +kernel
theorem dL_law_1989 : decode cL_law 1989 = .ok (.aload_n 0, 1) := by decide +kernel
theorem dL_law_1990 : decode cL_law 1990 = .ok (.iload_n 3, 1) := by decide +kernel
theorem dL_law_1991 : decode cL_law 1991 = .ok (.iconst 1, 1) := by decide +kernel
theorem dL_law_1992 : decode cL_law 1992 = .ok (.iadd, 1) := by decide +kernel
theorem dL_law_1993 : decode cL_law 1993 = .ok (.iaload, 1) := by decide +kernel
theorem dL_law_1994 : decode cL_law 1994 = .ok (.invokevirtual 203, 3) := by decide +kernel
theorem dL_law_1997 : decode cL_law 1997 = .ok (.if_icmp .eq 173, 3) := by decide +kernel
theorem dL_law_2000 : decode cL_law 2000 = .ok (.iconst 0, 1) := by decide +kernel
theorem dL_law_2001 : decode cL_law 2001 = .ok (.ireturn, 1) := by decide +kernel
theorem dL_law_2002 : decode cL_law 2002 = .ok (.aload_n 1, 1) := by decide +kernel
theorem dL_law_2003 : decode cL_law 2003 = .ok (.aload_n 0, 1) := by decide +kernel
theorem dL_law_2004 : decode cL_law 2004 = .ok (.iload_n 3, 1) := by decide +kernel
theorem dL_law_2005 : decode cL_law 2005 = .ok (.iconst 1, 1) := by decide +kernel
theorem dL_law_2006 : decode cL_law 2006 = .ok (.iadd, 1) := by decide +kernel
theorem dL_law_2007 : decode cL_law 2007 = .ok (.iaload, 1) := by decide +kernel
theorem dL_law_2008 : decode cL_law 2008 = .ok (.aload_n 0, 1) := by decide +kernel
theorem dL_law_2009 : decode cL_law 2009 = .ok (.iload_n 3, 1) := by decide +kernel
theorem dL_law_2010 : decode cL_law 2010 = .ok (.iconst 2, 1) := by decide +kernel
theorem dL_law_2011 : decode cL_law 2011 = .ok (.iadd, 1) := by decide +kernel
theorem dL_law_2012 : decode cL_law 2012 = .ok (.iaload, 1) := by decide +kernel
theorem dL_law_2013 : decode cL_law 2013 = .ok (.aload_n 0, 1) := by decide +kernel
theorem dL_law_2014 : decode cL_law 2014 = .ok (.iload_n 3, 1) := by decide +kernel
theorem dL_law_2015 : decode cL_law 2015 = .ok (.iconst 3, 1) := by decide +kernel
theorem dL_law_2016 : decode cL_law 2016 = .ok (.iadd, 1) := by decide +kernel
theorem dL_law_2017 : decode cL_law 2017 = .ok (.iaload, 1) := by decide +kernel
theorem dL_law_2018 : decode cL_law 2018 = .ok (.aload_n 0, 1) := by decide +kernel
theorem dL_law_2019 : decode cL_law 2019 = .ok (.iload_n 3, 1) := by decide +kernel
theorem dL_law_2020 : decode cL_law 2020 = .ok (.iconst 4, 1) := by decide +kernel
theorem dL_law_2021 : decode cL_law 2021 = .ok (.iadd, 1) := by decide +kernel
theorem dL_law_2022 : decode cL_law 2022 = .ok (.iaload, 1) := by decide +kernel
theorem dL_law_2023 : decode cL_law 2023 = .ok (.invokevirtual 204, 3) := by decide +kernel
theorem dL_law_2026 : decode cL_law 2026 = .ok (.aload_n 2, 1) := by decide +kernel
theorem dL_law_2027 : decode cL_law 2027 = .ok (.aload_n 0, 1) := by decide +kernel
theorem dL_law_2028 : decode cL_law 2028 = .ok (.iload_n 3, 1) := by decide +kernel
theorem dL_law_2029 : decode cL_law 2029 = .ok (.iconst 1, 1) := by decide +kernel
theorem dL_law_2030 : decode cL_law 2030 = .ok (.iadd, 1) := by decide +kernel
theorem dL_law_2031 : decode cL_law 2031 = .ok (.iaload, 1) := by decide +kernel
theorem dL_law_2032 : decode cL_law 2032 = .ok (.aload_n 0, 1) := by decide +kernel
theorem dL_law_2033 : decode cL_law 2033 = .ok (.iload_n 3, 1) := by decide +kernel
theorem dL_law_2034 : decode cL_law 2034 = .ok (.iconst 2, 1) := by decide +kernel
theorem dL_law_2035 : decode cL_law 2035 = .ok (.iadd, 1) := by decide +kernel
theorem dL_law_2036 : decode cL_law 2036 = .ok (.iaload, 1) := by decide +kernel
theorem dL_law_2037 : decode cL_law 2037 = .ok (.aload_n 0, 1) := by decide +kernel
theorem dL_law_2038 : decode cL_law 2038 = .ok (.iload_n 3, 1) := by decide +kernel
theorem dL_law_2039 : decode cL_law 2039 = .ok (.iconst 3, 1) := by decide +kernel
theorem dL_law_2040 : decode cL_law 2040 = .ok (.iadd, 1) := by decide +kernel
theorem dL_law_2041 : decode cL_law 2041 = .ok (.iaload, 1) := by decide +kernel
theorem dL_law_2042 : decode cL_law 2042 = .ok (.aload_n 0, 1) := by decide +kernel
theorem dL_law_2043 : decode cL_law 2043 = .ok (.iload_n 3, 1) := by decide +kernel
theorem dL_law_2044 : decode cL_law 2044 = .ok (.iconst 4, 1) := by decide +kernel
theorem dL_law_2045 : decode cL_law 2045 = .ok (.iadd, 1) := by decide +kernel
theorem dL_law_2046 : decode cL_law 2046 = .ok (.iaload, 1) := by decide +kernel
theorem dL_law_2047 : decode cL_law 2047 = .ok (.invokevirtual 207, 3) := by decide +kernel
theorem dL_law_2050 : decode cL_law 2050 = .ok (.if_icmp .eq 120, 3) := by decide +kernel
theorem dL_law_2053 : decode cL_law 2053 = .ok (.iconst 0, 1) := by decide +kernel
theorem dL_law_2054 : decode cL_law 2054 = .ok (.ireturn, 1) := by decide +kernel
theorem dL_law_2055 : decode cL_law 2055 = .ok (.aload_n 1, 1) := by decide +kernel
theorem dL_law_2056 : decode cL_law 2056 = .ok (.aload_n 0, 1) := by decide +kernel
theorem dL_law_2057 : decode cL_law 2057 = .ok (.iload_n 3, 1) := by decide +kernel
theorem dL_law_2058 : decode cL_law 2058 = .ok (.iconst 1, 1) := by decide +kernel
theorem dL_law_2059 : decode cL_law 2059 = .ok (.iadd, 1) := by decide +kernel
theorem dL_law_2060 : decode cL_law 2060 = .ok (.iaload, 1) := by decide +kernel
theorem dL_law_2061 : decode cL_law 2061 = .ok (.aload_n 0, 1) := by decide +kernel
theorem dL_law_2062 : decode cL_law 2062 = .ok (.iload_n 3, 1) := by decide +kernel
theorem dL_law_2063 : decode cL_law 2063 = .ok (.iconst 2, 1) := by decide +kernel
theorem dL_law_2064 : decode cL_law 2064 = .ok (.iadd, 1) := by decide +kernel
theorem dL_law_2065 : decode cL_law 2065 = .ok (.iaload, 1) := by decide +kernel
theorem dL_law_2066 : decode cL_law 2066 = .ok (.invokevirtual 208, 3) := by decide +kernel
theorem dL_law_2069 : decode cL_law 2069 = .ok (.aload_n 2, 1) := by decide +kernel
theorem dL_law_2070 : decode cL_law 2070 = .ok (.aload_n 0, 1) := by decide +kernel
theorem dL_law_2071 : decode cL_law 2071 = .ok (.iload_n 3, 1) := by decide +kernel
theorem dL_law_2072 : decode cL_law 2072 = .ok (.iconst 1, 1) := by decide +kernel
theorem dL_law_2073 : decode cL_law 2073 = .ok (.iadd, 1) := by decide +kernel
theorem dL_law_2074 : decode cL_law 2074 = .ok (.iaload, 1) := by decide +kernel
theorem dL_law_2075 : decode cL_law 2075 = .ok (.aload_n 0, 1) := by decide +kernel
theorem dL_law_2076 : decode cL_law 2076 = .ok (.iload_n 3, 1) := by decide +kernel
theorem dL_law_2077 : decode cL_law 2077 = .ok (.iconst 2, 1) := by decide +kernel
theorem dL_law_2078 : decode cL_law 2078 = .ok (.iadd, 1) := by decide +kernel
theorem dL_law_2079 : decode cL_law 2079 = .ok (.iaload, 1) := by decide +kernel
theorem dL_law_2080 : decode cL_law 2080 = .ok (.invokevirtual 211, 3) := by decide +kernel
theorem dL_law_2083 : decode cL_law 2083 = .ok (.if_icmp .eq 87, 3) := by decide +kernel
theorem dL_law_2086 : decode cL_law 2086 = .ok (.iconst 0, 1) := by decide +kernel
theorem dL_law_2087 : decode cL_law 2087 = .ok (.ireturn, 1) := by decide +kernel
theorem dL_law_2088 : decode cL_law 2088 = .ok (.aload_n 1, 1) := by decide +kernel
theorem dL_law_2089 : decode cL_law 2089 = .ok (.aload_n 0, 1) := by decide +kernel
theorem dL_law_2090 : decode cL_law 2090 = .ok (.iload_n 3, 1) := by decide +kernel
theorem dL_law_2091 : decode cL_law 2091 = .ok (.iconst 1, 1) := by decide +kernel
theorem dL_law_2092 : decode cL_law 2092 = .ok (.iadd, 1) := by decide +kernel
theorem dL_law_2093 : decode cL_law 2093 = .ok (.iaload, 1) := by decide +kernel
theorem dL_law_2094 : decode cL_law 2094 = .ok (.invokevirtual 212, 3) := by decide +kernel
theorem dL_law_2097 : decode cL_law 2097 = .ok (.aload_n 2, 1) := by decide +kernel
theorem dL_law_2098 : decode cL_law 2098 = .ok (.aload_n 0, 1) := by decide +kernel
theorem dL_law_2099 : decode cL_law 2099 = .ok (.iload_n 3, 1) := by decide +kernel
theorem dL_law_2100 : decode cL_law 2100 = .ok (.iconst 1, 1) := by decide +kernel
theorem dL_law_2101 : decode cL_law 2101 = .ok (.iadd, 1) := by decide +kernel
theorem dL_law_2102 : decode cL_law 2102 = .ok (.iaload, 1) := by decide +kernel
theorem dL_law_2103 : decode cL_law 2103 = .ok (.invokevirtual 215, 3) := by decide +kernel
theorem dL_law_2106 : decode cL_law 2106 = .ok (.if_icmp .eq 64, 3) := by decide +kernel
theorem dL_law_2109 : decode cL_law 2109 = .ok (.iconst 0, 1) := by decide +kernel
theorem dL_law_2110 : decode cL_law 2110 = .ok (.ireturn, 1) := by decide +kernel
theorem dL_law_2111 : decode cL_law 2111 = .ok (.aload_n 1, 1) := by decide +kernel
theorem dL_law_2112 : decode cL_law 2112 = .ok (.invokevirtual 216, 3) := by decide +kernel
theorem dL_law_2115 : decode cL_law 2115 = .ok (.aload_n 2, 1) := by decide +kernel
theorem dL_law_2116 : decode cL_law 2116 = .ok (.invokevirtual 219, 3) := by decide +kernel
theorem dL_law_2119 : decode cL_law 2119 = .ok (.if_icmp .eq 51, 3) := by decide +kernel
theorem dL_law_2122 : decode cL_law 2122 = .ok (.iconst 0, 1) := by decide +kernel
theorem dL_law_2123 : decode cL_law 2123 = .ok (.ireturn, 1) := by decide +kernel
theorem dL_law_2124 : decode cL_law 2124 = .ok (.aload_n 1, 1) := by decide +kernel
theorem dL_law_2125 : decode cL_law 2125 = .ok (.aload_n 0, 1) := by decide +kernel
theorem dL_law_2126 : decode cL_law 2126 = .ok (.iload_n 3, 1) := by decide +kernel
theorem dL_law_2127 : decode cL_law 2127 = .ok (.iconst 1, 1) := by decide +kernel
theorem dL_law_2128 : decode cL_law 2128 = .ok (.iadd, 1) := by decide +kernel
theorem dL_law_2129 : decode cL_law 2129 = .ok (.iaload, 1) := by decide +kernel
theorem dL_law_2130 : decode cL_law 2130 = .ok (.invokevirtual 220, 3) := by decide +kernel
theorem dL_law_2133 : decode cL_law 2133 = .ok (.aload_n 2, 1) := by decide +kernel
theorem dL_law_2134 : decode cL_law 2134 = .ok (.aload_n 0, 1) := by decide +kernel
theorem dL_law_2135 : decode cL_law 2135 = .ok (.iload_n 3, 1) := by decide +kernel
theorem dL_law_2136 : decode cL_law 2136 = .ok (.iconst 1, 1) := by decide +kernel
theorem dL_law_2137 : decode cL_law 2137 = .ok (.iadd, 1) := by decide +kernel
theorem dL_law_2138 : decode cL_law 2138 = .ok (.iaload, 1) := by decide +kernel
theorem dL_law_2139 : decode cL_law 2139 = .ok (.invokevirtual 223, 3) := by decide +kernel
theorem dL_law_2142 : decode cL_law 2142 = .ok (.if_icmp .eq 28, 3) := by decide +kernel
theorem dL_law_2145 : decode cL_law 2145 = .ok (.iconst 0, 1) := by decide +kernel
theorem dL_law_2146 : decode cL_law 2146 = .ok (.ireturn, 1) := by decide +kernel
theorem dL_law_2147 : decode cL_law 2147 = .ok (.aload_n 1, 1) := by decide +kernel
theorem dL_law_2148 : decode cL_law 2148 = .ok (.aload_n 0, 1) := by decide +kernel
theorem dL_law_2149 : decode cL_law 2149 = .ok (.iload_n 3, 1) := by decide +kernel
theorem dL_law_2150 : decode cL_law 2150 = .ok (.iconst 1, 1) := by decide +kernel
theorem dL_law_2151 : decode cL_law 2151 = .ok (.iadd, 1) := by decide +kernel
theorem dL_law_2152 : decode cL_law 2152 = .ok (.iaload, 1) := by decide +kernel
theorem dL_law_2153 : decode cL_law 2153 = .ok (.invokevirtual 224, 3) := by decide +kernel
theorem dL_law_2156 : decode cL_law 2156 = .ok (.aload_n 2, 1) := by decide +kernel
theorem dL_law_2157 : decode cL_law 2157 = .ok (.aload_n 0, 1) := by decide +kernel
theorem dL_law_2158 : decode cL_law 2158 = .ok (.iload_n 3, 1) := by decide +kernel
theorem dL_law_2159 : decode cL_law 2159 = .ok (.iconst 1, 1) := by decide +kernel
theorem dL_law_2160 : decode cL_law 2160 = .ok (.iadd, 1) := by decide +kernel
theorem dL_law_2161 : decode cL_law 2161 = .ok (.iaload, 1) := by decide +kernel
theorem dL_law_2162 : decode cL_law 2162 = .ok (.invokevirtual 227, 3) := by decide +kernel
theorem dL_law_2165 : decode cL_law 2165 = .ok (.if_icmp .eq 5, 3) := by decide +kernel
theorem dL_law_2168 : decode cL_law 2168 = .ok (.iconst 0, 1) := by decide +kernel
theorem dL_law_2169 : decode cL_law 2169 = .ok (.ireturn, 1) := by decide +kernel
theorem dL_law_2170 : decode cL_law 2170 = .ok (.iinc 3 7, 3) := by decide +kernel
theorem dL_law_2173 : decode cL_law 2173 = .ok (.goto (-2155), 3) := by decide +kernel
theorem dL_law_2176 : decode cL_law 2176 = .ok (.iconst 1, 1) := by decide +kernel
theorem dL_law_2177 : decode cL_law 2177 = .ok (.ireturn, 1) := by decide +kernel
