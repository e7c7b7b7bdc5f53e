theorem dX11_put_36 : decode cX11_put 36 = .ok (.invokevirtual 388, 3) := by decide +kernel
theorem dX11_put_39 : decode cX11_put 39 = .ok (.goto 4, 3) := by decide +kernel
theorem dX11_put_42 : decode cX11_put 42 = .ok (.iconst (-1), 1) := by decide +kernel
theorem dX11_put_43 : decode cX11_put 43 = .ok (.ireturn, 1) := by decide +kernel
theorem dX11_puts_0 : decode cX11_puts 0 = .ok (.iconst 0, 1) := by decide +kernel
theorem dX11_puts_1 : decode cX11_puts 1 = .ok (.istore 4, 2) := by decide +kernel
theorem dX11_puts_3 : decode cX11_puts 3 = .ok (.iconst 0, 1) := by decide +kernel
theorem dX11_puts_4 : decode cX11_puts 4 = .ok (.istore 5, 2) := by decide +kernel
theorem dX11_puts_6 : decode cX11_puts 6 = .ok (.iload 5, 2) := by decide +kernel
theorem dX11_puts_8 : decode cX11_puts 8 = .ok (.iload_n 3, 1) := by decide +kernel
theorem dX11_puts_9 : decode cX11_puts 9 = .ok (.if_icmp .ge 120, 3) := by decide +kernel
theorem dX11_puts_12 : decode cX11_puts 12 = .ok (.aload_n 0, 1) := by decide +kernel
theorem dX11_puts_13 : decode cX11_puts 13 = .ok (.getfield 95, 3) := by decide +kernel
theorem dX11_puts_16 : decode cX11_puts 16 = .ok (.iconst 0, 1) := by decide +kernel
theorem dX11_puts_17 : decode cX11_puts 17 = .ok (.aload_n 0, 1) := by decide +kernel
theorem dX11_puts_18 : decode cX11_puts 18 = .ok (.iload_n 1, 1) := by decide +kernel
theorem dX11_puts_19 : decode cX11_puts 19 = .ok (.aload_n 0, 1) := by decide +kernel
theorem dX11_puts_20 : decode cX11_puts 20 = .ok (.iload_n 2, 1) := by decide +kernel
theorem dX11_puts_21 : decode cX11_puts 21 = .ok (.iconst 0, 1) := by decide +kernel
theorem dX11_puts_22 : decode cX11_puts 22 = .ok (.invokevirtual 288, 3) := by decide +kernel
theorem dX11_puts_25 : decode cX11_puts 25 = .ok (.invokevirtual 375, 3) := by decide +kernel
theorem dX11_puts_28 : decode cX11_puts 28 = .ok (.iastore, 1) := by decide +kernel
theorem dX11_puts_29 : decode cX11_puts 29 = .ok (.aload_n 0, 1) := by decide +kernel
theorem dX11_puts_30 : decode cX11_puts 30 = .ok (.getfield 95, 3) := by decide +kernel
theorem dX11_puts_33 : decode cX11_puts 33 = .ok (.iconst 1, 1) := by decide +kernel
theorem dX11_puts_34 : decode cX11_puts 34 = .ok (.aload_n 0, 1) := by decide +kernel
theorem dX11_puts_35 : decode cX11_puts 35 = .ok (.getfield 101, 3) := by decide +kernel
theorem dX11_puts_38 : decode cX11_puts 38 = .ok (.iload_n 1, 1) := by decide +kernel
theorem dX11_puts_39 : decode cX11_puts 39 = .ok (.iconst 1, 1) := by decide +kernel
theorem dX11_puts_40 : decode cX11_puts 40 = .ok (.iadd, 1) := by decide +kernel
theorem dX11_puts_41 : decode cX11_puts 41 = .ok (.iaload, 1) := by decide +kernel
theorem dX11_puts_42 : decode cX11_puts 42 = .ok (.iastore, 1) := by decide +kernel
theorem dX11_puts_43 : decode cX11_puts 43 = .ok (.aload_n 0, 1) := by decide +kernel
theorem dX11_puts_44 : decode cX11_puts 44 = .ok (.getfield 95, 3) := by decide +kernel
theorem dX11_puts_47 : decode cX11_puts 47 = .ok (.iconst 2, 1) := by decide +kernel
theorem dX11_puts_48 : decode cX11_puts 48 = .ok (.iload_n 2, 1) := by decide +kernel
theorem dX11_puts_49 : decode cX11_puts 49 = .ok (.iastore, 1) := by decide +kernel
theorem dX11_puts_50 : decode cX11_puts 50 = .ok (.aload_n 0, 1) := by decide +kernel
theorem dX11_puts_51 : decode cX11_puts 51 = .ok (.getfield 95, 3) := by decide +kernel
theorem dX11_puts_54 : decode cX11_puts 54 = .ok (.iconst 3, 1) := by decide +kernel
theorem dX11_puts_55 : decode cX11_puts 55 = .ok (.aload_n 0, 1) := by decide +kernel
theorem dX11_puts_56 : decode cX11_puts 56 = .ok (.getfield 101, 3) := by decide +kernel
theorem dX11_puts_59 : decode cX11_puts 59 = .ok (.iload_n 1, 1) := by decide +kernel
theorem dX11_puts_60 : decode cX11_puts 60 = .ok (.iconst 0, 1) := by decide +kernel
theorem dX11_puts_61 : decode cX11_puts 61 = .ok (.iadd, 1) := by decide +kernel
theorem dX11_puts_62 : decode cX11_puts 62 = .ok (.iaload, 1) := by decide +kernel
theorem dX11_puts_63 : decode cX11_puts 63 = .ok (.iastore, 1) := by decide +kernel
theorem dX11_puts_64 : decode cX11_puts 64 = .ok (.aload_n 0, 1) := by decide +kernel
theorem dX11_puts_65 : decode cX11_puts 65 = .ok (.getfield 83, 3) := by decide +kernel
theorem dX11_puts_68 : decode cX11_puts 68 = .ok (.iconst 3, 1) := by decide +kernel
theorem dX11_puts_69 : decode cX11_puts 69 = .ok (.iaload, 1) := by decide +kernel
theorem dX11_puts_70 : decode cX11_puts 70 = .ok (.ifCond .lt 35, 3) := by decide +kernel
theorem dX11_puts_73 : decode cX11_puts 73 = .ok (.aload_n 0, 1) := by decide +kernel
theorem dX11_puts_74 : decode cX11_puts 74 = .ok (.aload_n 0, 1) := by decide +kernel
theorem dX11_puts_75 : decode cX11_puts 75 = .ok (.getfield 83, 3) := by decide +kernel
theorem dX11_puts_78 : decode cX11_puts 78 = .ok (.iconst 3, 1) := by decide +kernel
theorem dX11_puts_79 : decode cX11_puts 79 = .ok (.iaload, 1) := by decide +kernel
theorem dX11_puts_80 : decode cX11_puts 80 = .ok (.invokevirtual 378, 3) := by decide +kernel
theorem dX11_puts_83 : decode cX11_puts 83 = .ok (.ifCond .eq 22, 3) := by decide +kernel
theorem dX11_puts_86 : decode cX11_puts 86 = .ok (.aload_n 0, 1) := by decide +kernel
theorem dX11_puts_87 : decode cX11_puts 87 = .ok (.getfield 101, 3) := by decide +kernel
theorem dX11_puts_90 : decode cX11_puts 90 = .ok (.iload_n 1, 1) := by decide +kernel
theorem dX11_puts_91 : decode cX11_puts 91 = .ok (.sipush 130, 3) := by decide +kernel
theorem dX11_puts_94 : decode cX11_puts 94 = .ok (.iadd, 1) := by decide +kernel
theorem dX11_puts_95 : decode cX11_puts 95 = .ok (.iload_n 2, 1) := by decide +kernel
theorem dX11_puts_96 : decode cX11_puts 96 = .ok (.iadd, 1) := by decide +kernel
theorem dX11_puts_97 : decode cX11_puts 97 = .ok (.dup2, 1) := by decide +kernel
theorem dX11_puts_98 : decode cX11_puts 98 = .ok (.iaload, 1) := by decide +kernel
theorem dX11_puts_99 : decode cX11_puts 99 = .ok (.iconst 1, 1) := by decide +kernel
theorem dX11_puts_100 : decode cX11_puts 100 = .ok (.iadd, 1) := by decide +kernel
theorem dX11_puts_101 : decode cX11_puts 101 = .ok (.iastore, 1) := by decide +kernel
theorem dX11_puts_102 : decode cX11_puts 102 = .ok (.goto 21, 3) := by decide +kernel
theorem dX11_puts_105 : decode cX11_puts 105 = .ok (.aload_n 0, 1) := by decide +kernel
theorem dX11_puts_106 : decode cX11_puts 106 = .ok (.iload_n 1, 1) := by decide +kernel
theorem dX11_puts_107 : decode cX11_puts 107 = .ok (.iload_n 2, 1) := by decide +kernel
theorem dX11_puts_108 : decode cX11_puts 108 = .ok (.iconst 0, 1) := by decide +kernel
theorem dX11_puts_109 : decode cX11_puts 109 = .ok (.aload_n 0, 1) := by decide +kernel
theorem dX11_puts_110 : decode cX11_puts 110 = .ok (.getfield 101, 3) := by decide +kernel
theorem dX11_puts_113 : decode cX11_puts 113 = .ok (.iload_n 1, 1) := by decide +kernel
theorem dX11_puts_114 : decode cX11_puts 114 = .ok (.iconst 0, 1) := by decide +kernel
theorem dX11_puts_115 : decode cX11_puts 115 = .ok (.iadd, 1) := by decide +kernel
theorem dX11_puts_116 : decode cX11_puts 116 = .ok (.iaload, 1) := by decide +kernel
theorem dX11_puts_117 : decode cX11_puts 117 = .ok (.invokevirtual 381, 3) := by decide +kernel
theorem dX11_puts_120 : decode cX11_puts 120 = .ok (.iinc 4 1, 3) := by decide +kernel
theorem dX11_puts_123 : decode cX11_puts 123 = .ok (.iinc 5 1, 3) := by decide +kernel
theorem dX11_puts_126 : decode cX11_puts 126 = .ok (.goto (-120), 3) := by decide +kernel
theorem dX11_puts_129 : decode cX11_puts 129 = .ok (.aload_n 0, 1) := by decide +kernel
theorem dX11_puts_130 : decode cX11_puts 130 = .ok (.getfield 101, 3) := by decide +kernel
theorem dX11_puts_133 : decode cX11_puts 133 = .ok (.iload_n 1, 1) := by decide +kernel
theorem dX11_puts_134 : decode cX11_puts 134 = .ok (.sipush 138, 3) := by decide +kernel
theorem dX11_puts_137 : decode cX11_puts 137 = .ok (.iadd, 1) := by decide +kernel
theorem dX11_puts_138 : decode cX11_puts 138 = .ok (.bipush 61, 2) := by decide +kernel
theorem dX11_puts_140 : decode cX11_puts 140 = .ok (.iload_n 2, 1) := by decide +kernel
theorem dX11_puts_141 : decode cX11_puts 141 = .ok (.imul, 1) := by decide +kernel
theorem dX11_puts_142 : decode cX11_puts 142 = .ok (.iadd, 1) := by decide +kernel
theorem dX11_puts_143 : decode cX11_puts 143 = .ok (.aload_n 0, 1) := by decide +kernel
theorem dX11_puts_144 : decode cX11_puts 144 = .ok (.getfield 101, 3) := by decide +kernel
theorem dX11_puts_147 : decode cX11_puts 147 = .ok (.iload_n 1, 1) := by decide +kernel
theorem dX11_puts_148 : decode cX11_puts 148 = .ok (.iconst 0, 1) := by decide +kernel
theorem dX11_puts_149 : decode cX11_puts 149 = .ok (.iadd, 1) := by decide +kernel
theorem dX11_puts_150 : decode cX11_puts 150 = .ok (.iaload, 1) := by decide +kernel
theorem dX11_puts_151 : decode cX11_puts 151 = .ok (.iadd, 1) := by decide +kernel
theorem dX11_puts_152 : decode cX11_puts 152 = .ok (.dup2, 1) := by decide +kernel
theorem dX11_puts_153 : decode cX11_puts 153 = .ok (.iaload, 1) := by decide +kernel
theorem dX11_puts_154 : decode cX11_puts 154 = .ok (.iload_n 3, 1) := by decide +kernel
theorem dX11_puts_155 : decode cX11_puts 155 = .ok (.iadd, 1) := by decide +kernel
theorem dX11_puts_156 : decode cX11_puts 156 = .ok (.iastore, 1) := by decide +kernel
theorem dX11_puts_157 : decode cX11_puts 157 = .ok (.iload 4, 2) := by decide +kernel
theorem dX11_puts_159 : decode cX11_puts 159 = .ok (.ireturn, 1) := by decide +kernel
theorem dX11_rank_0 : decode cX11_rank 0 = .ok (.iload_n 0, 1) := by decide +kernel
theorem dX11_rank_1 : decode cX11_rank 1 = .ok (.invokestatic 142, 3) := by decide +kernel
theorem dX11_rank_4 : decode cX11_rank 4 = .ok (.ifCond .eq 10, 3) := by decide +kernel
theorem dX11_rank_7 : decode cX11_rank 7 = .ok (.iload_n 0, 1) := by decide +kernel
theorem dX11_rank_8 : decode cX11_rank 8 = .ok (.bipush 96, 2) := by decide +kernel
theorem dX11_rank_10 : decode cX11_rank 10 = .ok (.isub, 1) := by decide +kernel
theorem dX11_rank_11 : decode cX11_rank 11 = .ok (.goto 7, 3) := by decide +kernel
theorem dX11_rank_14 : decode cX11_rank 14 = .ok (.iload_n 0, 1) := by decide +kernel
theorem dX11_rank_15 : decode cX11_rank 15 = .ok (.bipush 21, 2) := by decide +kernel
theorem dX11_rank_17 : decode cX11_rank 17 = .ok (.isub, 1) := by decide +kernel
theorem dX11_rank_18 : decode cX11_rank 18 = .ok (.ireturn, 1) := by decide +kernel
theorem dX11_rateNow_0 : decode cX11_rateNow 0 = .ok (.aload_n 0, 1) := by decide +kernel
theorem dX11_rateNow_1 : decode cX11_rateNow 1 = .ok (.getfield 101, 3) := by decide +kernel
theorem dX11_rateNow_4 : decode cX11_rateNow 4 = .ok (.iload_n 1, 1) := by decide +kernel
theorem dX11_rateNow_5 : decode cX11_rateNow 5 = .ok (.bipush 122, 2) := by decide +kernel
theorem dX11_rateNow_7 : decode cX11_rateNow 7 = .ok (.iadd, 1) := by decide +kernel
theorem dX11_rateNow_8 : decode cX11_rateNow 8 = .ok (.iload_n 2, 1) := by decide +kernel
theorem dX11_rateNow_9 : decode cX11_rateNow 9 = .ok (.iadd, 1) := by decide +kernel
theorem dX11_rateNow_10 : decode cX11_rateNow 10 = .ok (.iaload, 1) := by decide +kernel
theorem dX11_rateNow_11 : decode cX11_rateNow 11 = .ok (.istore_n 3, 1) := by decide +kernel
theorem dX11_rateNow_12 : decode cX11_rateNow 12 = .ok (.aload_n 0, 1) := by decide +kernel
theorem dX11_rateNow_13 : decode cX11_rateNow 13 = .ok (.getfield 83, 3) := by decide +kernel
theorem dX11_rateNow_16 : decode cX11_rateNow 16 = .ok (.bipush 70, 2) := by decide +kernel
theorem dX11_rateNow_18 : decode cX11_rateNow 18 = .ok (.iconst 2, 1) := by decide +kernel
theorem dX11_rateNow_19 : decode cX11_rateNow 19 = .ok (.iload_n 2, 1) := by decide +kernel
theorem dX11_rateNow_20 : decode cX11_rateNow 20 = .ok (.imul, 1) := by decide +kernel
theorem dX11_rateNow_21 : decode cX11_rateNow 21 = .ok (.iadd, 1) := by decide +kernel
theorem dX11_rateNow_22 : decode cX11_rateNow 22 = .ok (.iconst 1, 1) := by decide +kernel
theorem dX11_rateNow_23 : decode cX11_rateNow 23 = .ok (.iadd, 1) := by decide +kernel
theorem dX11_rateNow_24 : decode cX11_rateNow 24 = .ok (.iaload, 1) := by decide +kernel
theorem dX11_rateNow_25 : decode cX11_rateNow 25 = .ok (.istore 4, 2) := by decide +kernel
theorem dX11_rateNow_27 : decode cX11_rateNow 27 = .ok (.aload_n 0, 1) := by decide +kernel
theorem dX11_rateNow_28 : decode cX11_rateNow 28 = .ok (.iload 4, 2) := by decide +kernel
theorem dX11_rateNow_30 : decode cX11_rateNow 30 = .ok (.iload_n 3, 1) := by decide +kernel
theorem dX11_rateNow_31 : decode cX11_rateNow 31 = .ok (.iconst 1, 1) := by decide +kernel
theorem dX11_rateNow_32 : decode cX11_rateNow 32 = .ok (.iadd, 1) := by decide +kernel
theorem dX11_rateNow_33 : decode cX11_rateNow 33 = .ok (.invokevirtual 294, 3) := by decide +kernel
theorem dX11_rateNow_36 : decode cX11_rateNow 36 = .ok (.aload_n 0, 1) := by decide +kernel
theorem dX11_rateNow_37 : decode cX11_rateNow 37 = .ok (.iload 4, 2) := by decide +kernel
theorem dX11_rateNow_39 : decode cX11_rateNow 39 = .ok (.iload_n 3, 1) := by decide +kernel
theorem dX11_rateNow_40 : decode cX11_rateNow 40 = .ok (.invokevirtual 294, 3) := by decide +kernel
theorem dX11_rateNow_43 : decode cX11_rateNow 43 = .ok (.isub, 1) := by decide +kernel
theorem dX11_rateNow_44 : decode cX11_rateNow 44 = .ok (.ireturn, 1) := by decide +kernel
theorem dX11_read_0 : decode cX11_read 0 = .ok (.aload_n 0, 1) := by decide +kernel
theorem dX11_read_1 : decode cX11_read 1 = .ok (.getfield 83, 3) := by decide +kernel
theorem dX11_read_4 : decode cX11_read 4 = .ok (.bipush 110, 2) := by decide +kernel
theorem dX11_read_6 : decode cX11_read 6 = .ok (.iload_n 1, 1) := by decide +kernel
theorem dX11_read_7 : decode cX11_read 7 = .ok (.iadd, 1) := by decide +kernel
theorem dX11_read_8 : decode cX11_read 8 = .ok (.iaload, 1) := by decide +kernel
theorem dX11_read_9 : decode cX11_read 9 = .ok (.ireturn, 1) := by decide +kernel
theorem dX11_readCurve_0 : decode cX11_readCurve 0 = .ok (.aload_n 0, 1) := by decide +kernel
theorem dX11_readCurve_1 : decode cX11_readCurve 1 = .ok (.iconst 0, 1) := by decide +kernel
theorem dX11_readCurve_2 : decode cX11_readCurve 2 = .ok (.invokevirtual 221, 3) := by decide +kernel
theorem dX11_readCurve_5 : decode cX11_readCurve 5 = .ok (.istore_n 1, 1) := by decide +kernel
theorem dX11_readCurve_6 : decode cX11_readCurve 6 = .ok (.aload_n 0, 1) := by decide +kernel
theorem dX11_readCurve_7 : decode cX11_readCurve 7 = .ok (.iconst 0, 1) := by decide +kernel
theorem dX11_readCurve_8 : decode cX11_readCurve 8 = .ok (.iload_n 1, 1) := by decide +kernel
theorem dX11_readCurve_9 : decode cX11_readCurve 9 = .ok (.bipush 6, 2) := by decide +kernel
theorem dX11_readCurve_11 : decode cX11_readCurve 11 = .ok (.invokevirtual 231, 3) := by decide +kernel
theorem dX11_readCurve_14 : decode cX11_readCurve 14 = .ok (.aload_n 0, 1) := by decide +kernel
theorem dX11_readCurve_15 : decode cX11_readCurve 15 = .ok (.iconst 1, 1) := by decide +kernel
theorem dX11_readCurve_16 : decode cX11_readCurve 16 = .ok (.invokevirtual 183, 3) := by decide +kernel
theorem dX11_readCurve_19 : decode cX11_readCurve 19 = .ok (.bipush 114, 2) := by decide +kernel
theorem dX11_readCurve_21 : decode cX11_readCurve 21 = .ok (.bipush 11, 2) := by decide +kernel
theorem dX11_readCurve_23 : decode cX11_readCurve 23 = .ok (.iload_n 1, 1) := by decide +kernel
theorem dX11_readCurve_24 : decode cX11_readCurve 24 = .ok (.imul, 1) := by decide +kernel
theorem dX11_readCurve_25 : decode cX11_readCurve 25 = .ok (.iadd, 1) := by decide +kernel
theorem dX11_readCurve_26 : decode cX11_readCurve 26 = .ok (.istore_n 2, 1) := by decide +kernel
theorem dX11_readCurve_27 : decode cX11_readCurve 27 = .ok (.iconst 0, 1) := by decide +kernel
theorem dX11_readCurve_28 : decode cX11_readCurve 28 = .ok (.istore_n 3, 1) := by decide +kernel
theorem dX11_readCurve_29 : decode cX11_readCurve 29 = .ok (.iconst 0, 1) := by decide +kernel
theorem dX11_readCurve_30 : decode cX11_readCurve 30 = .ok (.istore 4, 2) := by decide +kernel
theorem dX11_readCurve_32 : decode cX11_readCurve 32 = .ok (.aload_n 0, 1) := by decide +kernel
theorem dX11_readCurve_33 : decode cX11_readCurve 33 = .ok (.iload 4, 2) := by decide +kernel
theorem dX11_readCurve_35 : decode cX11_readCurve 35 = .ok (.bipush 99, 2) := by decide +kernel
theorem dX11_readCurve_37 : decode cX11_readCurve 37 = .ok (.invokevirtual 186, 3) := by decide +kernel
theorem dX11_readCurve_40 : decode cX11_readCurve 40 = .ok (.istore 5, 2) := by decide +kernel
theorem dX11_readCurve_42 : decode cX11_readCurve 42 = .ok (.aload_n 0, 1) := by decide +kernel
theorem dX11_readCurve_43 : decode cX11_readCurve 43 = .ok (.getfield 168, 3) := by decide +kernel
theorem dX11_readCurve_46 : decode cX11_readCurve 46 = .ok (.ifCond .ne 24, 3) := by decide +kernel
theorem dX11_readCurve_49 : decode cX11_readCurve 49 = .ok (.iload_n 3, 1) := by decide +kernel
theorem dX11_readCurve_50 : decode cX11_readCurve 50 = .ok (.bipush 8, 2) := by decide +kernel
theorem dX11_readCurve_52 : decode cX11_readCurve 52 = .ok (.if_icmp .ne 18, 3) := by decide +kernel
theorem dX11_readCurve_55 : decode cX11_readCurve 55 = .ok (.aload_n 0, 1) := by decide +kernel
theorem dX11_readCurve_56 : decode cX11_readCurve 56 = .ok (.dup, 1) := by decide +kernel
theorem dX11_readCurve_57 : decode cX11_readCurve 57 = .ok (.getfield 165, 3) := by decide +kernel
theorem dX11_readCurve_60 : decode cX11_readCurve 60 = .ok (.iconst 1, 1) := by decide +kernel
theorem dX11_readCurve_61 : decode cX11_readCurve 61 = .ok (.isub, 1) := by decide +kernel
theorem dX11_readCurve_62 : decode cX11_readCurve 62 = .ok (.putfield 165, 3) := by decide +kernel
theorem dX11_readCurve_65 : decode cX11_readCurve 65 = .ok (.aload_n 0, 1) := by decide +kernel
theorem dX11_readCurve_66 : decode cX11_readCurve 66 = .ok (.iconst 5, 1) := by decide +kernel
theorem dX11_readCurve_67 : decode cX11_readCurve 67 = .ok (.invokevirtual 174, 3) := by decide +kernel
theorem dX11_readCurve_70 : decode cX11_readCurve 70 = .ok (.aload_n 0, 1) := by decide +kernel
theorem dX11_readCurve_71 : decode cX11_readCurve 71 = .ok (.getfield 168, 3) := by decide +kernel
theorem dX11_readCurve_74 : decode cX11_readCurve 74 = .ok (.ifCond .ne 22, 3) := by decide +kernel
theorem dX11_readCurve_77 : decode cX11_readCurve 77 = .ok (.aload_n 0, 1) := by decide +kernel
theorem dX11_readCurve_78 : decode cX11_readCurve 78 = .ok (.getfield 83, 3) := by decide +kernel
theorem dX11_readCurve_81 : decode cX11_readCurve 81 = .ok (.iload_n 2, 1) := by decide +kernel
theorem dX11_readCurve_82 : decode cX11_readCurve 82 = .ok (.iconst 3, 1) := by decide +kernel
theorem dX11_readCurve_83 : decode cX11_readCurve 83 = .ok (.iadd, 1) := by decide +kernel
theorem dX11_readCurve_84 : decode cX11_readCurve 84 = .ok (.iload_n 3, 1) := by decide +kernel
theorem dX11_readCurve_85 : decode cX11_readCurve 85 = .ok (.iadd, 1) := by decide +kernel
theorem dX11_readCurve_86 : decode cX11_readCurve 86 = .ok (.iload 5, 2) := by decide +kernel
theorem dX11_readCurve_88 : decode cX11_readCurve 88 = .ok (.iastore, 1) := by decide +kernel
theorem dX11_readCurve_89 : decode cX11_readCurve 89 = .ok (.iload 5, 2) := by decide +kernel
theorem dX11_readCurve_91 : decode cX11_readCurve 91 = .ok (.istore 4, 2) := by decide +kernel
theorem dX11_readCurve_93 : decode cX11_readCurve 93 = .ok (.iinc 3 1, 3) := by decide +kernel
theorem dX11_readCurve_96 : decode cX11_readCurve 96 = .ok (.aload_n 0, 1) := by decide +kernel
theorem dX11_readCurve_97 : decode cX11_readCurve 97 = .ok (.getfield 168, 3) := by decide +kernel
theorem dX11_readCurve_100 : decode cX11_readCurve 100 = .ok (.ifCond .ne 16, 3) := by decide +kernel
theorem dX11_readCurve_103 : decode cX11_readCurve 103 = .ok (.aload_n 0, 1) := by decide +kernel
theorem dX11_readCurve_104 : decode cX11_readCurve 104 = .ok (.getfield 24, 3) := by decide +kernel
theorem dX11_readCurve_107 : decode cX11_readCurve 107 = .ok (.aload_n 0, 1) := by decide +kernel
theorem dX11_readCurve_108 : decode cX11_readCurve 108 = .ok (.getfield 165, 3) := by decide +kernel
theorem dX11_readCurve_111 : decode cX11_readCurve 111 = .ok (.iaload, 1) := by decide +kernel
theorem dX11_readCurve_112 : decode cX11_readCurve 112 = .ok (.iconst 2, 1) := by decide +kernel
theorem dX11_readCurve_113 : decode cX11_readCurve 113 = .ok (.if_icmp .eq (-81), 3) := by decide +kernel
theorem dX11_readCurve_116 : decode cX11_readCurve 116 = .ok (.aload_n 0, 1) := by decide +kernel
theorem dX11_readCurve_117 : decode cX11_readCurve 117 = .ok (.iconst 2, 1) := by decide +kernel
theorem dX11_readCurve_118 : decode cX11_readCurve 118 = .ok (.iconst 1, 1) := by decide +kernel
theorem dX11_readCurve_119 : decode cX11_readCurve 119 = .ok (.iload_n 3, 1) := by decide +kernel
theorem dX11_readCurve_120 : decode cX11_readCurve 120 = .ok (.invokevirtual 235, 3) := by decide +kernel
theorem dX11_readCurve_123 : decode cX11_readCurve 123 = .ok (.istore 5, 2) := by decide +kernel
theorem dX11_readCurve_125 : decode cX11_readCurve 125 = .ok (.aload_n 0, 1) := by decide +kernel
theorem dX11_readCurve_126 : decode cX11_readCurve 126 = .ok (.getfield 168, 3) := by decide +kernel
theorem dX11_readCurve_129 : decode cX11_readCurve 129 = .ok (.ifCond .le 7, 3) := by decide +kernel
theorem dX11_readCurve_132 : decode cX11_readCurve 132 = .ok (.iconst 0, 1) := by decide +kernel
theorem dX11_readCurve_133 : decode cX11_readCurve 133 = .ok (.goto 26, 3) := by decide +kernel
theorem dX11_readCurve_136 : decode cX11_readCurve 136 = .ok (.aload_n 0, 1) := by decide +kernel
theorem dX11_readCurve_137 : decode cX11_readCurve 137 = .ok (.iconst 3, 1) := by decide +kernel
theorem dX11_readCurve_138 : decode cX11_readCurve 138 = .ok (.iload 4, 2) := by decide +kernel
theorem dX11_readCurve_140 : decode cX11_readCurve 140 = .ok (.aload_n 0, 1) := by decide +kernel
theorem dX11_readCurve_141 : decode cX11_readCurve 141 = .ok (.getfield 83, 3) := by decide +kernel
theorem dX11_readCurve_144 : decode cX11_readCurve 144 = .ok (.iload_n 2, 1) := by decide +kernel
theorem dX11_readCurve_145 : decode cX11_readCurve 145 = .ok (.iconst 3, 1) := by decide +kernel
theorem dX11_readCurve_146 : decode cX11_readCurve 146 = .ok (.iadd, 1) := by decide +kernel
theorem dX11_readCurve_147 : decode cX11_readCurve 147 = .ok (.iload_n 3, 1) := by decide +kernel
theorem dX11_readCurve_148 : decode cX11_readCurve 148 = .ok (.iadd, 1) := by decide +kernel
theorem dX11_readCurve_149 : decode cX11_readCurve 149 = .ok (.iload 5, 2) := by decide +kernel
theorem dX11_readCurve_151 : decode cX11_readCurve 151 = .ok (.isub, 1) := by decide +kernel
theorem dX11_readCurve_152 : decode cX11_readCurve 152 = .ok (.iaload, 1) := by decide +kernel
theorem dX11_readCurve_153 : decode cX11_readCurve 153 = .ok (.isub, 1) := by decide +kernel
theorem dX11_readCurve_154 : decode cX11_readCurve 154 = .ok (.bipush 99, 2) := by decide +kernel
theorem dX11_readCurve_156 : decode cX11_readCurve 156 = .ok (.invokevirtual 235, 3) := by decide +kernel
theorem dX11_readCurve_159 : decode cX11_readCurve 159 = .ok (.istore 6, 2) := by decide +kernel
theorem dX11_readCurve_161 : decode cX11_readCurve 161 = .ok (.aload_n 0, 1) := by decide +kernel
theorem dX11_readCurve_162 : decode cX11_readCurve 162 = .ok (.getfield 168, 3) := by decide +kernel
theorem dX11_readCurve_165 : decode cX11_readCurve 165 = .ok (.ifCond .ne 41, 3) := by decide +kernel
theorem dX11_readCurve_168 : decode cX11_readCurve 168 = .ok (.aload_n 0, 1) := by decide +kernel
theorem dX11_readCurve_169 : decode cX11_readCurve 169 = .ok (.getfield 83, 3) := by decide +kernel
theorem dX11_readCurve_172 : decode cX11_readCurve 172 = .ok (.iload_n 2, 1) := by decide +kernel
theorem dX11_readCurve_173 : decode cX11_readCurve 173 = .ok (.iload_n 3, 1) := by decide +kernel
theorem dX11_readCurve_174 : decode cX11_readCurve 174 = .ok (.iastore, 1) := by decide +kernel
theorem dX11_readCurve_175 : decode cX11_readCurve 175 = .ok (.aload_n 0, 1) := by decide +kernel
theorem dX11_readCurve_176 : decode cX11_readCurve 176 = .ok (.getfield 83, 3) := by decide +kernel
theorem dX11_readCurve_179 : decode cX11_readCurve 179 = .ok (.iload_n 2, 1) := by decide +kernel
theorem dX11_readCurve_180 : decode cX11_readCurve 180 = .ok (.iconst 1, 1) := by decide +kernel
theorem dX11_readCurve_181 : decode cX11_readCurve 181 = .ok (.iadd, 1) := by decide +kernel
theorem dX11_readCurve_182 : decode cX11_readCurve 182 = .ok (.iload 5, 2) := by decide +kernel
theorem dX11_readCurve_184 : decode cX11_readCurve 184 = .ok (.iastore, 1) := by decide +kernel
theorem dX11_readCurve_185 : decode cX11_readCurve 185 = .ok (.aload_n 0, 1) := by decide +kernel
theorem dX11_readCurve_186 : decode cX11_readCurve 186 = .ok (.getfield 83, 3) := by decide +kernel
theorem dX11_readCurve_189 : decode cX11_readCurve 189 = .ok (.iload_n 2, 1) := by decide +kernel
theorem dX11_readCurve_190 : decode cX11_readCurve 190 = .ok (.iconst 2, 1) := by decide +kernel
theorem dX11_readCurve_191 : decode cX11_readCurve 191 = .ok (.iadd, 1) := by decide +kernel
theorem dX11_readCurve_192 : decode cX11_readCurve 192 = .ok (.iload 6, 2) := by decide +kernel
theorem dX11_readCurve_194 : decode cX11_readCurve 194 = .ok (.iastore, 1) := by decide +kernel
theorem dX11_readCurve_195 : decode cX11_readCurve 195 = .ok (.aload_n 0, 1) := by decide +kernel
theorem dX11_readCurve_196 : decode cX11_readCurve 196 = .ok (.getfield 83, 3) := by decide +kernel
theorem dX11_readCurve_199 : decode cX11_readCurve 199 = .ok (.bipush 110, 2) := by decide +kernel
theorem dX11_readCurve_201 : decode cX11_readCurve 201 = .ok (.dup2, 1) := by decide +kernel
theorem dX11_readCurve_202 : decode cX11_readCurve 202 = .ok (.iaload, 1) := by decide +kernel
theorem dX11_readCurve_203 : decode cX11_readCurve 203 = .ok (.iconst 1, 1) := by decide +kernel
theorem dX11_readCurve_204 : decode cX11_readCurve 204 = .ok (.iadd, 1) := by decide +kernel
theorem dX11_readCurve_205 : decode cX11_readCurve 205 = .ok (.iastore, 1) := by decide +kernel
theorem dX11_readCurve_206 : decode cX11_readCurve 206 = .ok (.return_, 1) := by decide +kernel
theorem dX11_readFlow_0 : decode cX11_readFlow 0 = .ok (.aload_n 0, 1) := by decide +kernel
theorem dX11_readFlow_1 : decode cX11_readFlow 1 = .ok (.iconst 2, 1) := by decide +kernel
theorem dX11_readFlow_2 : decode cX11_readFlow 2 = .ok (.invokevirtual 221, 3) := by decide +kernel
theorem dX11_readFlow_5 : decode cX11_readFlow 5 = .ok (.istore_n 1, 1) := by decide +kernel
theorem dX11_readFlow_6 : decode cX11_readFlow 6 = .ok (.aload_n 0, 1) := by decide +kernel
theorem dX11_readFlow_7 : decode cX11_readFlow 7 = .ok (.bipush 10, 2) := by decide +kernel
theorem dX11_readFlow_9 : decode cX11_readFlow 9 = .ok (.iload_n 1, 1) := by decide +kernel
theorem dX11_readFlow_10 : decode cX11_readFlow 10 = .ok (.iconst 4, 1) := by decide +kernel
theorem dX11_readFlow_11 : decode cX11_readFlow 11 = .ok (.invokevirtual 231, 3) := by decide +kernel
theorem dX11_readFlow_14 : decode cX11_readFlow 14 = .ok (.aload_n 0, 1) := by decide +kernel
theorem dX11_readFlow_15 : decode cX11_readFlow 15 = .ok (.bipush 7, 2) := by decide +kernel
theorem dX11_readFlow_17 : decode cX11_readFlow 17 = .ok (.invokevirtual 183, 3) := by decide +kernel
theorem dX11_readFlow_20 : decode cX11_readFlow 20 = .ok (.aload_n 0, 1) := by decide +kernel
theorem dX11_readFlow_21 : decode cX11_readFlow 21 = .ok (.bipush 14, 2) := by decide +kernel
theorem dX11_readFlow_23 : decode cX11_readFlow 23 = .ok (.aload_n 0, 1) := by decide +kernel
theorem dX11_readFlow_24 : decode cX11_readFlow 24 = .ok (.iconst 0, 1) := by decide +kernel
theorem dX11_readFlow_25 : decode cX11_readFlow 25 = .ok (.invokevirtual 221, 3) := by decide +kernel
theorem dX11_readFlow_28 : decode cX11_readFlow 28 = .ok (.iconst 0, 1) := by decide +kernel
theorem dX11_readFlow_29 : decode cX11_readFlow 29 = .ok (.invokevirtual 242, 3) := by decide +kernel
theorem dX11_readFlow_32 : decode cX11_readFlow 32 = .ok (.istore_n 2, 1) := by decide +kernel
theorem dX11_readFlow_33 : decode cX11_readFlow 33 = .ok (.aload_n 0, 1) := by decide +kernel
theorem dX11_readFlow_34 : decode cX11_readFlow 34 = .ok (.bipush 8, 2) := by decide +kernel
theorem dX11_readFlow_36 : decode cX11_readFlow 36 = .ok (.invokevirtual 183, 3) := by decide +kernel
theorem dX11_readFlow_39 : decode cX11_readFlow 39 = .ok (.sipush 188, 3) := by decide +kernel
theorem dX11_readFlow_42 : decode cX11_readFlow 42 = .ok (.bipush 6, 2) := by decide +kernel
theorem dX11_readFlow_44 : decode cX11_readFlow 44 = .ok (.iload_n 1, 1) := by decide +kernel
theorem dX11_readFlow_45 : decode cX11_readFlow 45 = .ok (.imul, 1) := by decide +kernel
theorem dX11_readFlow_46 : decode cX11_readFlow 46 = .ok (.iadd, 1) := by decide +kernel
theorem dX11_readFlow_47 : decode cX11_readFlow 47 = .ok (.istore_n 3, 1) := by decide +kernel
theorem dX11_readFlow_48 : decode cX11_readFlow 48 = .ok (.iconst 0, 1) := by decide +kernel
theorem dX11_readFlow_49 : decode cX11_readFlow 49 = .ok (.istore 4, 2) := by decide +kernel
theorem dX11_readFlow_51 : decode cX11_readFlow 51 = .ok (.iconst 0, 1) := by decide +kernel
theorem dX11_readFlow_52 : decode cX11_readFlow 52 = .ok (.istore 5, 2) := by decide +kernel
theorem dX11_readFlow_54 : decode cX11_readFlow 54 = .ok (.aload_n 0, 1) := by decide +kernel
theorem dX11_readFlow_55 : decode cX11_readFlow 55 = .ok (.bipush 20, 2) := by decide +kernel
theorem dX11_readFlow_57 : decode cX11_readFlow 57 = .ok (.aload_n 0, 1) := by decide +kernel
theorem dX11_readFlow_58 : decode cX11_readFlow 58 = .ok (.iconst 1, 1) := by decide +kernel
theorem dX11_readFlow_59 : decode cX11_readFlow 59 = .ok (.invokevirtual 221, 3) := by decide +kernel
theorem dX11_readFlow_62 : decode cX11_readFlow 62 = .ok (.iload 4, 2) := by decide +kernel
theorem dX11_readFlow_64 : decode cX11_readFlow 64 = .ok (.invokevirtual 242, 3) := by decide +kernel
theorem dX11_readFlow_67 : decode cX11_readFlow 67 = .ok (.istore 6, 2) := by decide +kernel
theorem dX11_readFlow_69 : decode cX11_readFlow 69 = .ok (.aload_n 0, 1) := by decide +kernel
theorem dX11_readFlow_70 : decode cX11_readFlow 70 = .ok (.getfield 168, 3) := by decide +kernel
theorem dX11_readFlow_73 : decode cX11_readFlow 73 = .ok (.ifCond .ne 28, 3) := by decide +kernel
theorem dX11_readFlow_76 : decode cX11_readFlow 76 = .ok (.aload_n 0, 1) := by decide +kernel
theorem dX11_readFlow_77 : decode cX11_readFlow 77 = .ok (.getfield 83, 3) := by decide +kernel
theorem dX11_readFlow_80 : decode cX11_readFlow 80 = .ok (.iload_n 3, 1) := by decide +kernel
theorem dX11_readFlow_81 : decode cX11_readFlow 81 = .ok (.iconst 2, 1) := by decide +kernel
theorem dX11_readFlow_82 : decode cX11_readFlow 82 = .ok (.iadd, 1) := by decide +kernel
theorem dX11_readFlow_83 : decode cX11_readFlow 83 = .ok (.iload 5, 2) := by decide +kernel
theorem dX11_readFlow_85 : decode cX11_readFlow 85 = .ok (.iadd, 1) := by decide +kernel
theorem dX11_readFlow_86 : decode cX11_readFlow 86 = .ok (.iload 6, 2) := by decide +kernel
theorem dX11_readFlow_88 : decode cX11_readFlow 88 = .ok (.iastore, 1) := by decide +kernel
theorem dX11_readFlow_89 : decode cX11_readFlow 89 = .ok (.iload 4, 2) := by decide +kernel
theorem dX11_readFlow_91 : decode cX11_readFlow 91 = .ok (.iconst 1, 1) := by decide +kernel
theorem dX11_readFlow_92 : decode cX11_readFlow 92 = .ok (.iload 6, 2) := by decide +kernel
theorem dX11_readFlow_94 : decode cX11_readFlow 94 = .ok (.ishl, 1) := by decide +kernel
theorem dX11_readFlow_95 : decode cX11_readFlow 95 = .ok (.ior, 1) := by decide +kernel
theorem dX11_readFlow_96 : decode cX11_readFlow 96 = .ok (.istore 4, 2) := by decide +kernel
theorem dX11_readFlow_98 : decode cX11_readFlow 98 = .ok (.iinc 5 1, 3) := by decide +kernel
theorem dX11_readFlow_101 : decode cX11_readFlow 101 = .ok (.aload_n 0, 1) := by decide +kernel
theorem dX11_readFlow_102 : decode cX11_readFlow 102 = .ok (.getfield 168, 3) := by decide +kernel
theorem dX11_readFlow_105 : decode cX11_readFlow 105 = .ok (.ifCond .ne 10, 3) := by decide +kernel
theorem dX11_readFlow_108 : decode cX11_readFlow 108 = .ok (.aload_n 0, 1) := by decide +kernel
theorem dX11_readFlow_109 : decode cX11_readFlow 109 = .ok (.invokevirtual 193, 3) := by decide +kernel
theorem dX11_readFlow_112 : decode cX11_readFlow 112 = .ok (.ifCond .ne (-58), 3) := by decide +kernel
theorem dX11_readFlow_115 : decode cX11_readFlow 115 = .ok (.aload_n 0, 1) := by decide +kernel
theorem dX11_readFlow_116 : decode cX11_readFlow 116 = .ok (.getfield 168, 3) := by decide +kernel
theorem dX11_readFlow_119 : decode cX11_readFlow 119 = .ok (.ifCond .ne 31, 3) := by decide +kernel
theorem dX11_readFlow_122 : decode cX11_readFlow 122 = .ok (.aload_n 0, 1) := by decide +kernel
theorem dX11_readFlow_123 : decode cX11_readFlow 123 = .ok (.getfield 83, 3) := by decide +kernel
theorem dX11_readFlow_126 : decode cX11_readFlow 126 = .ok (.iload_n 3, 1) := by decide +kernel
theorem dX11_readFlow_127 : decode cX11_readFlow 127 = .ok (.iload_n 2, 1) := by decide +kernel
theorem dX11_readFlow_128 : decode cX11_readFlow 128 = .ok (.iastore, 1) := by decide +kernel
theorem dX11_readFlow_129 : decode cX11_readFlow 129 = .ok (.aload_n 0, 1) := by decide +kernel
theorem dX11_readFlow_130 : decode cX11_readFlow 130 = .ok (.getfield 83, 3) := by decide +kernel
theorem dX11_readFlow_133 : decode cX11_readFlow 133 = .ok (.iload_n 3, 1) := by decide +kernel
theorem dX11_readFlow_134 : decode cX11_readFlow 134 = .ok (.iconst 1, 1) := by decide +kernel
theorem dX11_readFlow_135 : decode cX11_readFlow 135 = .ok (.iadd, 1) := by decide +kernel
theorem dX11_readFlow_136 : decode cX11_readFlow 136 = .ok (.iload 5, 2) := by decide +kernel
theorem dX11_readFlow_138 : decode cX11_readFlow 138 = .ok (.iastore, 1) := by decide +kernel
theorem dX11_readFlow_139 : decode cX11_readFlow 139 = .ok (.aload_n 0, 1) := by decide +kernel
theorem dX11_readFlow_140 : decode cX11_readFlow 140 = .ok (.getfield 83, 3) := by decide +kernel
theorem dX11_readFlow_143 : decode cX11_readFlow 143 = .ok (.bipush 112, 2) := by decide +kernel
theorem dX11_readFlow_145 : decode cX11_readFlow 145 = .ok (.dup2, 1) := by decide +kernel
theorem dX11_readFlow_146 : decode cX11_readFlow 146 = .ok (.iaload, 1) := by decide +kernel
theorem dX11_readFlow_147 : decode cX11_readFlow 147 = .ok (.iconst 1, 1) := by decide +kernel
theorem dX11_readFlow_148 : decode cX11_readFlow 148 = .ok (.iadd, 1) := by decide +kernel
theorem dX11_readFlow_149 : decode cX11_readFlow 149 = .ok (.iastore, 1) := by decide +kernel
theorem dX11_readFlow_150 : decode cX11_readFlow 150 = .ok (.return_, 1) := by decide +kernel
theorem dX11_readLine_0 : decode cX11_readLine 0 = .ok (.aload_n 0, 1) := by decide +kernel
theorem dX11_readLine_1 : decode cX11_readLine 1 = .ok (.iconst 0, 1) := by decide +kernel
theorem dX11_readLine_2 : decode cX11_readLine 2 = .ok (.invokevirtual 177, 3) := by decide +kernel
theorem dX11_readLine_5 : decode cX11_readLine 5 = .ok (.ifCond .eq 10, 3) := by decide +kernel
theorem dX11_readLine_8 : decode cX11_readLine 8 = .ok (.aload_n 0, 1) := by decide +kernel
theorem dX11_readLine_9 : decode cX11_readLine 9 = .ok (.invokevirtual 212, 3) := by decide +kernel
theorem dX11_readLine_12 : decode cX11_readLine 12 = .ok (.goto 99, 3) := by decide +kernel
theorem dX11_readLine_15 : decode cX11_readLine 15 = .ok (.aload_n 0, 1) := by decide +kernel
theorem dX11_readLine_16 : decode cX11_readLine 16 = .ok (.iconst 4, 1) := by decide +kernel
theorem dX11_readLine_17 : decode cX11_readLine 17 = .ok (.invokevirtual 177, 3) := by decide +kernel
theorem dX11_readLine_20 : decode cX11_readLine 20 = .ok (.ifCond .eq 10, 3) := by decide +kernel
theorem dX11_readLine_23 : decode cX11_readLine 23 = .ok (.aload_n 0, 1) := by decide +kernel
theorem dX11_readLine_24 : decode cX11_readLine 24 = .ok (.invokevirtual 215, 3) := by decide +kernel
theorem dX11_readLine_27 : decode cX11_readLine 27 = .ok (.goto 84, 3) := by decide +kernel
theorem dX11_readLine_30 : decode cX11_readLine 30 = .ok (.aload_n 0, 1) := by decide +kernel
theorem dX11_readLine_31 : decode cX11_readLine 31 = .ok (.bipush 6, 2) := by decide +kernel
theorem dX11_readLine_33 : decode cX11_readLine 33 = .ok (.invokevirtual 177, 3) := by decide +kernel
theorem dX11_readLine_36 : decode cX11_readLine 36 = .ok (.ifCond .eq 10, 3) := by decide +kernel
theorem dX11_readLine_39 : decode cX11_readLine 39 = .ok (.aload_n 0, 1) := by decide +kernel
theorem dX11_readLine_40 : decode cX11_readLine 40 = .ok (.invokevirtual 218, 3) := by decide +kernel
theorem dX11_readLine_43 : decode cX11_readLine 43 = .ok (.goto 68, 3) := by decide +kernel
theorem dX11_readLine_46 : decode cX11_readLine 46 = .ok (.aload_n 0, 1) := by decide +kernel
theorem dX11_readLine_47 : decode cX11_readLine 47 = .ok (.bipush 9, 2) := by decide +kernel
theorem dX11_readLine_49 : decode cX11_readLine 49 = .ok (.invokevirtual 177, 3) := by decide +kernel
theorem dX11_readLine_52 : decode cX11_readLine 52 = .ok (.ifCond .ne 11, 3) := by decide +kernel
theorem dX11_readLine_55 : decode cX11_readLine 55 = .ok (.aload_n 0, 1) := by decide +kernel
theorem dX11_readLine_56 : decode cX11_readLine 56 = .ok (.iconst 1, 1) := by decide +kernel
theorem dX11_readLine_57 : decode cX11_readLine 57 = .ok (.invokevirtual 174, 3) := by decide +kernel
theorem dX11_readLine_60 : decode cX11_readLine 60 = .ok (.goto 51, 3) := by decide +kernel
theorem dX11_readLine_63 : decode cX11_readLine 63 = .ok (.aload_n 0, 1) := by decide +kernel
theorem dX11_readLine_64 : decode cX11_readLine 64 = .ok (.iconst 3, 1) := by decide +kernel
theorem dX11_readLine_65 : decode cX11_readLine 65 = .ok (.invokevirtual 221, 3) := by decide +kernel
theorem dX11_readLine_68 : decode cX11_readLine 68 = .ok (.ifCond .lt 11, 3) := by decide +kernel
theorem dX11_readLine_71 : decode cX11_readLine 71 = .ok (.aload_n 0, 1) := by decide +kernel
theorem dX11_readLine_72 : decode cX11_readLine 72 = .ok (.iconst 3, 1) := by decide +kernel
theorem dX11_readLine_73 : decode cX11_readLine 73 = .ok (.invokevirtual 174, 3) := by decide +kernel
theorem dX11_readLine_76 : decode cX11_readLine 76 = .ok (.goto 35, 3) := by decide +kernel
theorem dX11_readLine_79 : decode cX11_readLine 79 = .ok (.aload_n 0, 1) := by decide +kernel
theorem dX11_readLine_80 : decode cX11_readLine 80 = .ok (.dup, 1) := by decide +kernel
theorem dX11_readLine_81 : decode cX11_readLine 81 = .ok (.getfield 165, 3) := by decide +kernel
theorem dX11_readLine_84 : decode cX11_readLine 84 = .ok (.iconst 1, 1) := by decide +kernel
theorem dX11_readLine_85 : decode cX11_readLine 85 = .ok (.iadd, 1) := by decide +kernel
theorem dX11_readLine_86 : decode cX11_readLine 86 = .ok (.putfield 165, 3) := by decide +kernel
theorem dX11_readLine_89 : decode cX11_readLine 89 = .ok (.aload_n 0, 1) := by decide +kernel
theorem dX11_readLine_90 : decode cX11_readLine 90 = .ok (.getfield 83, 3) := by decide +kernel
theorem dX11_readLine_93 : decode cX11_readLine 93 = .ok (.bipush 113, 2) := by decide +kernel
theorem dX11_readLine_95 : decode cX11_readLine 95 = .ok (.aload_n 0, 1) := by decide +kernel
theorem dX11_readLine_96 : decode cX11_readLine 96 = .ok (.getfield 203, 3) := by decide +kernel
theorem dX11_readLine_99 : decode cX11_readLine 99 = .ok (.iastore, 1) := by decide +kernel
theorem dX11_readLine_100 : decode cX11_readLine 100 = .ok (.aload_n 0, 1) := by decide +kernel
theorem dX11_readLine_101 : decode cX11_readLine 101 = .ok (.iconst 0, 1) := by decide +kernel
theorem dX11_readLine_102 : decode cX11_readLine 102 = .ok (.invokevirtual 224, 3) := by decide +kernel
theorem dX11_readLine_105 : decode cX11_readLine 105 = .ok (.aload_n 0, 1) := by decide +kernel
theorem dX11_readLine_106 : decode cX11_readLine 106 = .ok (.iconst 0, 1) := by decide +kernel
theorem dX11_readLine_107 : decode cX11_readLine 107 = .ok (.iconst 0, 1) := by decide +kernel
theorem dX11_readLine_108 : decode cX11_readLine 108 = .ok (.invokevirtual 227, 3) := by decide +kernel
theorem dX11_readLine_111 : decode cX11_readLine 111 = .ok (.return_, 1) := by decide +kernel
theorem dX11_readName_0 : decode cX11_readName 0 = .ok (.iload_n 2, 1) := by decide +kernel
theorem dX11_readName_1 : decode cX11_readName 1 = .ok (.iload_n 3, 1) := by decide +kernel
theorem dX11_readName_2 : decode cX11_readName 2 = .ok (.if_icmp .ne 9, 3) := by decide +kernel
theorem dX11_readName_5 : decode cX11_readName 5 = .ok (.aload_n 0, 1) := by decide +kernel
theorem dX11_readName_6 : decode cX11_readName 6 = .ok (.iconst 5, 1) := by decide +kernel
theorem dX11_readName_7 : decode cX11_readName 7 = .ok (.invokevirtual 174, 3) := by decide +kernel
theorem dX11_readName_10 : decode cX11_readName 10 = .ok (.return_, 1) := by decide +kernel
theorem dX11_readName_11 : decode cX11_readName 11 = .ok (.aload_n 0, 1) := by decide +kernel
theorem dX11_readName_12 : decode cX11_readName 12 = .ok (.dup, 1) := by decide +kernel
theorem dX11_readName_13 : decode cX11_readName 13 = .ok (.getfield 165, 3) := by decide +kernel
theorem dX11_readName_16 : decode cX11_readName 16 = .ok (.iconst 1, 1) := by decide +kernel
theorem dX11_readName_17 : decode cX11_readName 17 = .ok (.iadd, 1) := by decide +kernel
theorem dX11_readName_18 : decode cX11_readName 18 = .ok (.putfield 165, 3) := by decide +kernel
theorem dX11_readName_21 : decode cX11_readName 21 = .ok (.aload_n 0, 1) := by decide +kernel
theorem dX11_readName_22 : decode cX11_readName 22 = .ok (.invokevirtual 193, 3) := by decide +kernel
theorem dX11_readName_25 : decode cX11_readName 25 = .ok (.ifCond .ne 11, 3) := by decide +kernel
theorem dX11_readName_28 : decode cX11_readName 28 = .ok (.aload_n 0, 1) := by decide +kernel
theorem dX11_readName_29 : decode cX11_readName 29 = .ok (.iconst 1, 1) := by decide +kernel
theorem dX11_readName_30 : decode cX11_readName 30 = .ok (.invokevirtual 174, 3) := by decide +kernel
theorem dX11_readName_33 : decode cX11_readName 33 = .ok (.goto 50, 3) := by decide +kernel
theorem dX11_readName_36 : decode cX11_readName 36 = .ok (.aload_n 0, 1) := by decide +kernel
theorem dX11_readName_37 : decode cX11_readName 37 = .ok (.bipush 14, 2) := by decide +kernel
theorem dX11_readName_39 : decode cX11_readName 39 = .ok (.aload_n 0, 1) := by decide +kernel
theorem dX11_readName_40 : decode cX11_readName 40 = .ok (.iconst 0, 1) := by decide +kernel
theorem dX11_readName_41 : decode cX11_readName 41 = .ok (.invokevirtual 221, 3) := by decide +kernel
theorem dX11_readName_44 : decode cX11_readName 44 = .ok (.invokevirtual 197, 3) := by decide +kernel
theorem dX11_readName_47 : decode cX11_readName 47 = .ok (.ifCond .ge 31, 3) := by decide +kernel
theorem dX11_readName_50 : decode cX11_readName 50 = .ok (.aload_n 0, 1) := by decide +kernel
theorem dX11_readName_51 : decode cX11_readName 51 = .ok (.bipush 20, 2) := by decide +kernel
theorem dX11_readName_53 : decode cX11_readName 53 = .ok (.aload_n 0, 1) := by decide +kernel
theorem dX11_readName_54 : decode cX11_readName 54 = .ok (.iconst 1, 1) := by decide +kernel
theorem dX11_readName_55 : decode cX11_readName 55 = .ok (.invokevirtual 221, 3) := by decide +kernel
theorem dX11_readName_58 : decode cX11_readName 58 = .ok (.invokevirtual 197, 3) := by decide +kernel
theorem dX11_readName_61 : decode cX11_readName 61 = .ok (.ifCond .ge 17, 3) := by decide +kernel
theorem dX11_readName_64 : decode cX11_readName 64 = .ok (.aload_n 0, 1) := by decide +kernel
theorem dX11_readName_65 : decode cX11_readName 65 = .ok (.bipush 24, 2) := by decide +kernel
theorem dX11_readName_67 : decode cX11_readName 67 = .ok (.aload_n 0, 1) := by decide +kernel
theorem dX11_readName_68 : decode cX11_readName 68 = .ok (.iconst 2, 1) := by decide +kernel
theorem dX11_readName_69 : decode cX11_readName 69 = .ok (.invokevirtual 221, 3) := by decide +kernel
theorem dX11_readName_72 : decode cX11_readName 72 = .ok (.invokevirtual 197, 3) := by decide +kernel
theorem dX11_readName_75 : decode cX11_readName 75 = .ok (.ifCond .lt 8, 3) := by decide +kernel
theorem dX11_readName_78 : decode cX11_readName 78 = .ok (.aload_n 0, 1) := by decide +kernel
theorem dX11_readName_79 : decode cX11_readName 79 = .ok (.iconst 3, 1) := by decide +kernel
theorem dX11_readName_80 : decode cX11_readName 80 = .ok (.invokevirtual 174, 3) := by decide +kernel
theorem dX11_readName_83 : decode cX11_readName 83 = .ok (.aload_n 0, 1) := by decide +kernel
theorem dX11_readName_84 : decode cX11_readName 84 = .ok (.getfield 168, 3) := by decide +kernel
theorem dX11_readName_87 : decode cX11_readName 87 = .ok (.ifCond .ne 33, 3) := by decide +kernel
theorem dX11_readName_90 : decode cX11_readName 90 = .ok (.aload_n 0, 1) := by decide +kernel
theorem dX11_readName_91 : decode cX11_readName 91 = .ok (.getfield 89, 3) := by decide +kernel
theorem dX11_readName_94 : decode cX11_readName 94 = .ok (.bipush 14, 2) := by decide +kernel
theorem dX11_readName_96 : decode cX11_readName 96 = .ok (.iload_n 1, 1) := by decide +kernel
theorem dX11_readName_97 : decode cX11_readName 97 = .ok (.iadd, 1) := by decide +kernel
theorem dX11_readName_98 : decode cX11_readName 98 = .ok (.iload_n 2, 1) := by decide +kernel
theorem dX11_readName_99 : decode cX11_readName 99 = .ok (.iadd, 1) := by decide +kernel
theorem dX11_readName_100 : decode cX11_readName 100 = .ok (.aload_n 0, 1) := by decide +kernel
theorem dX11_readName_101 : decode cX11_readName 101 = .ok (.getfield 30, 3) := by decide +kernel
theorem dX11_readName_104 : decode cX11_readName 104 = .ok (.aload_n 0, 1) := by decide +kernel
theorem dX11_readName_105 : decode cX11_readName 105 = .ok (.getfield 165, 3) := by decide +kernel
theorem dX11_readName_108 : decode cX11_readName 108 = .ok (.laload, 1) := by decide +kernel
theorem dX11_readName_109 : decode cX11_readName 109 = .ok (.lastore, 1) := by decide +kernel
theorem dX11_readName_110 : decode cX11_readName 110 = .ok (.aload_n 0, 1) := by decide +kernel
theorem dX11_readName_111 : decode cX11_readName 111 = .ok (.dup, 1) := by decide +kernel
theorem dX11_readName_112 : decode cX11_readName 112 = .ok (.getfield 165, 3) := by decide +kernel
theorem dX11_readName_115 : decode cX11_readName 115 = .ok (.iconst 1, 1) := by decide +kernel
theorem dX11_readName_116 : decode cX11_readName 116 = .ok (.iadd, 1) := by decide +kernel
theorem dX11_readName_117 : decode cX11_readName 117 = .ok (.putfield 165, 3) := by decide +kernel
theorem dX11_readName_120 : decode cX11_readName 120 = .ok (.return_, 1) := by decide +kernel
theorem dX11_readNode_0 : decode cX11_readNode 0 = .ok (.aload_n 0, 1) := by decide +kernel
theorem dX11_readNode_1 : decode cX11_readNode 1 = .ok (.iconst 1, 1) := by decide +kernel
theorem dX11_readNode_2 : decode cX11_readNode 2 = .ok (.invokevirtual 221, 3) := by decide +kernel
theorem dX11_readNode_5 : decode cX11_readNode 5 = .ok (.istore_n 1, 1) := by decide +kernel
theorem dX11_readNode_6 : decode cX11_readNode 6 = .ok (.aload_n 0, 1) := by decide +kernel
theorem dX11_readNode_7 : decode cX11_readNode 7 = .ok (.bipush 6, 2) := by decide +kernel
theorem dX11_readNode_9 : decode cX11_readNode 9 = .ok (.iload_n 1, 1) := by decide +kernel
theorem dX11_readNode_10 : decode cX11_readNode 10 = .ok (.iconst 4, 1) := by decide +kernel
theorem dX11_readNode_11 : decode cX11_readNode 11 = .ok (.invokevirtual 231, 3) := by decide +kernel
theorem dX11_readNode_14 : decode cX11_readNode 14 = .ok (.aload_n 0, 1) := by decide +kernel
theorem dX11_readNode_15 : decode cX11_readNode 15 = .ok (.bipush 12, 2) := by decide +kernel
theorem dX11_readNode_17 : decode cX11_readNode 17 = .ok (.iconst 4, 1) := by decide +kernel
theorem dX11_readNode_18 : decode cX11_readNode 18 = .ok (.invokevirtual 239, 3) := by decide +kernel
theorem dX11_readNode_21 : decode cX11_readNode 21 = .ok (.istore_n 2, 1) := by decide +kernel
theorem dX11_readNode_22 : decode cX11_readNode 22 = .ok (.aload_n 0, 1) := by decide +kernel
theorem dX11_readNode_23 : decode cX11_readNode 23 = .ok (.iconst 5, 1) := by decide +kernel
theorem dX11_readNode_24 : decode cX11_readNode 24 = .ok (.invokevirtual 183, 3) := by decide +kernel
theorem dX11_readNode_27 : decode cX11_readNode 27 = .ok (.aload_n 0, 1) := by decide +kernel
theorem dX11_readNode_28 : decode cX11_readNode 28 = .ok (.bipush 14, 2) := by decide +kernel
theorem dX11_readNode_30 : decode cX11_readNode 30 = .ok (.aload_n 0, 1) := by decide +kernel
theorem dX11_readNode_31 : decode cX11_readNode 31 = .ok (.iconst 0, 1) := by decide +kernel
theorem dX11_readNode_32 : decode cX11_readNode 32 = .ok (.invokevirtual 221, 3) := by decide +kernel
theorem dX11_readNode_35 : decode cX11_readNode 35 = .ok (.iconst 0, 1) := by decide +kernel
theorem dX11_readNode_36 : decode cX11_readNode 36 = .ok (.invokevirtual 242, 3) := by decide +kernel
theorem dX11_readNode_39 : decode cX11_readNode 39 = .ok (.istore_n 3, 1) := by decide +kernel
theorem dX11_readNode_40 : decode cX11_readNode 40 = .ok (.aload_n 0, 1) := by decide +kernel
theorem dX11_readNode_41 : decode cX11_readNode 41 = .ok (.getfield 168, 3) := by decide +kernel
theorem dX11_readNode_44 : decode cX11_readNode 44 = .ok (.ifCond .ne 42, 3) := by decide +kernel
theorem dX11_readNode_47 : decode cX11_readNode 47 = .ok (.aload_n 0, 1) := by decide +kernel
theorem dX11_readNode_48 : decode cX11_readNode 48 = .ok (.getfield 83, 3) := by decide +kernel
theorem dX11_readNode_51 : decode cX11_readNode 51 = .ok (.sipush 180, 3) := by decide +kernel
theorem dX11_readNode_54 : decode cX11_readNode 54 = .ok (.iconst 2, 1) := by decide +kernel
theorem dX11_readNode_55 : decode cX11_readNode 55 = .ok (.iload_n 1, 1) := by decide +kernel
theorem dX11_readNode_56 : decode cX11_readNode 56 = .ok (.imul, 1) := by decide +kernel
theorem dX11_readNode_57 : decode cX11_readNode 57 = .ok (.iadd, 1) := by decide +kernel
theorem dX11_readNode_58 : decode cX11_readNode 58 = .ok (.iload_n 2, 1) := by decide +kernel
theorem dX11_readNode_59 : decode cX11_readNode 59 = .ok (.iastore, 1) := by decide +kernel
theorem dX11_readNode_60 : decode cX11_readNode 60 = .ok (.aload_n 0, 1) := by decide +kernel
theorem dX11_readNode_61 : decode cX11_readNode 61 = .ok (.getfield 83, 3) := by decide +kernel
theorem dX11_readNode_64 : decode cX11_readNode 64 = .ok (.sipush 180, 3) := by decide +kernel
theorem dX11_readNode_67 : decode cX11_readNode 67 = .ok (.iconst 2, 1) := by decide +kernel
theorem dX11_readNode_68 : decode cX11_readNode 68 = .ok (.iload_n 1, 1) := by decide +kernel
theorem dX11_readNode_69 : decode cX11_readNode 69 = .ok (.imul, 1) := by decide +kernel
theorem dX11_readNode_70 : decode cX11_readNode 70 = .ok (.iadd, 1) := by decide +kernel
theorem dX11_readNode_71 : decode cX11_readNode 71 = .ok (.iconst 1, 1) := by decide +kernel
theorem dX11_readNode_72 : decode cX11_readNode 72 = .ok (.iadd, 1) := by decide +kernel
theorem dX11_readNode_73 : decode cX11_readNode 73 = .ok (.iload_n 3, 1) := by decide +kernel
theorem dX11_readNode_74 : decode cX11_readNode 74 = .ok (.iastore, 1) := by decide +kernel
theorem dX11_readNode_75 : decode cX11_readNode 75 = .ok (.aload_n 0, 1) := by decide +kernel
theorem dX11_readNode_76 : decode cX11_readNode 76 = .ok (.getfield 83, 3) := by decide +kernel
theorem dX11_readNode_79 : decode cX11_readNode 79 = .ok (.bipush 111, 2) := by decide +kernel
theorem dX11_readNode_81 : decode cX11_readNode 81 = .ok (.dup2, 1) := by decide +kernel
theorem dX11_readNode_82 : decode cX11_readNode 82 = .ok (.iaload, 1) := by decide +kernel
theorem dX11_readNode_83 : decode cX11_readNode 83 = .ok (.iconst 1, 1) := by decide +kernel
theorem dX11_readNode_84 : decode cX11_readNode 84 = .ok (.iadd, 1) := by decide +kernel
theorem dX11_readNode_85 : decode cX11_readNode 85 = .ok (.iastore, 1) := by decide +kernel
theorem dX11_readNode_86 : decode cX11_readNode 86 = .ok (.return_, 1) := by decide +kernel
theorem dX11_rounds_0 : decode cX11_rounds 0 = .ok (.aload_n 0, 1) := by decide +kernel
theorem dX11_rounds_1 : decode cX11_rounds 1 = .ok (.iconst 0, 1) := by decide +kernel
theorem dX11_rounds_2 : decode cX11_rounds 2 = .ok (.putfield 1, 3) := by decide +kernel
theorem dX11_rounds_5 : decode cX11_rounds 5 = .ok (.aload_n 0, 1) := by decide +kernel
theorem dX11_rounds_6 : decode cX11_rounds 6 = .ok (.invokevirtual 349, 3) := by decide +kernel
theorem dX11_rounds_9 : decode cX11_rounds 9 = .ok (.ireturn, 1) := by decide +kernel
theorem dX11_run_0 : decode cX11_run 0 = .ok (.aload_n 0, 1) := by decide +kernel
theorem dX11_run_1 : decode cX11_run 1 = .ok (.iconst 0, 1) := by decide +kernel
theorem dX11_run_2 : decode cX11_run 2 = .ok (.putfield 1, 3) := by decide +kernel
theorem dX11_run_5 : decode cX11_run 5 = .ok (.aload_n 0, 1) := by decide +kernel
theorem dX11_run_6 : decode cX11_run 6 = .ok (.invokevirtual 200, 3) := by decide +kernel
theorem dX11_run_9 : decode cX11_run 9 = .ok (.iconst 0, 1) := by decide +kernel
theorem dX11_run_10 : decode cX11_run 10 = .ok (.istore_n 1, 1) := by decide +kernel
theorem dX11_run_11 : decode cX11_run 11 = .ok (.aload_n 0, 1) := by decide +kernel
theorem dX11_run_12 : decode cX11_run 12 = .ok (.getfield 168, 3) := by decide +kernel
theorem dX11_run_15 : decode cX11_run 15 = .ok (.ifCond .ne 127, 3) := by decide +kernel
theorem dX11_run_18 : decode cX11_run 18 = .ok (.aload_n 0, 1) := by decide +kernel
theorem dX11_run_19 : decode cX11_run 19 = .ok (.getfield 24, 3) := by decide +kernel
theorem dX11_run_22 : decode cX11_run 22 = .ok (.aload_n 0, 1) := by decide +kernel
theorem dX11_run_23 : decode cX11_run 23 = .ok (.getfield 165, 3) := by decide +kernel
theorem dX11_run_26 : decode cX11_run 26 = .ok (.iaload, 1) := by decide +kernel
theorem dX11_run_27 : decode cX11_run 27 = .ok (.ifCond .eq 115, 3) := by decide +kernel
theorem dX11_run_30 : decode cX11_run 30 = .ok (.aload_n 0, 1) := by decide +kernel
theorem dX11_run_31 : decode cX11_run 31 = .ok (.bipush 10, 2) := by decide +kernel
theorem dX11_run_33 : decode cX11_run 33 = .ok (.iconst 2, 1) := by decide +kernel
theorem dX11_run_34 : decode cX11_run 34 = .ok (.invokevirtual 190, 3) := by decide +kernel
theorem dX11_run_37 : decode cX11_run 37 = .ok (.istore_n 2, 1) := by decide +kernel
theorem dX11_run_38 : decode cX11_run 38 = .ok (.iload_n 2, 1) := by decide +kernel
theorem dX11_run_39 : decode cX11_run 39 = .ok (.ifCond .ge 11, 3) := by decide +kernel
theorem dX11_run_42 : decode cX11_run 42 = .ok (.aload_n 0, 1) := by decide +kernel
theorem dX11_run_43 : decode cX11_run 43 = .ok (.iconst 1, 1) := by decide +kernel
theorem dX11_run_44 : decode cX11_run 44 = .ok (.invokevirtual 174, 3) := by decide +kernel
theorem dX11_run_47 : decode cX11_run 47 = .ok (.goto 86, 3) := by decide +kernel
theorem dX11_run_50 : decode cX11_run 50 = .ok (.iload_n 1, 1) := by decide +kernel
theorem dX11_run_51 : decode cX11_run 51 = .ok (.bipush 40, 2) := by decide +kernel
theorem dX11_run_53 : decode cX11_run 53 = .ok (.if_icmp .ne 11, 3) := by decide +kernel
theorem dX11_run_56 : decode cX11_run 56 = .ok (.aload_n 0, 1) := by decide +kernel
theorem dX11_run_57 : decode cX11_run 57 = .ok (.iconst 5, 1) := by decide +kernel
theorem dX11_run_58 : decode cX11_run 58 = .ok (.invokevirtual 174, 3) := by decide +kernel
theorem dX11_run_61 : decode cX11_run 61 = .ok (.goto 72, 3) := by decide +kernel
theorem dX11_run_64 : decode cX11_run 64 = .ok (.aload_n 0, 1) := by decide +kernel
theorem dX11_run_65 : decode cX11_run 65 = .ok (.dup, 1) := by decide +kernel
theorem dX11_run_66 : decode cX11_run 66 = .ok (.getfield 165, 3) := by decide +kernel
theorem dX11_run_69 : decode cX11_run 69 = .ok (.iconst 1, 1) := by decide +kernel
theorem dX11_run_70 : decode cX11_run 70 = .ok (.iadd, 1) := by decide +kernel
theorem dX11_run_71 : decode cX11_run 71 = .ok (.putfield 165, 3) := by decide +kernel
theorem dX11_run_74 : decode cX11_run 74 = .ok (.aload_n 0, 1) := by decide +kernel
theorem dX11_run_75 : decode cX11_run 75 = .ok (.getfield 92, 3) := by decide +kernel
theorem dX11_run_78 : decode cX11_run 78 = .ok (.bipush 85, 2) := by decide +kernel
theorem dX11_run_80 : decode cX11_run 80 = .ok (.iconst 2, 1) := by decide +kernel
theorem dX11_run_81 : decode cX11_run 81 = .ok (.iload_n 1, 1) := by decide +kernel
theorem dX11_run_82 : decode cX11_run 82 = .ok (.imul, 1) := by decide +kernel
theorem dX11_run_83 : decode cX11_run 83 = .ok (.iadd, 1) := by decide +kernel
theorem dX11_run_84 : decode cX11_run 84 = .ok (.iload_n 2, 1) := by decide +kernel
theorem dX11_run_85 : decode cX11_run 85 = .ok (.ifCond .ne 7, 3) := by decide +kernel
theorem dX11_run_88 : decode cX11_run 88 = .ok (.iconst (-1), 1) := by decide +kernel
theorem dX11_run_89 : decode cX11_run 89 = .ok (.goto 14, 3) := by decide +kernel
theorem dX11_run_92 : decode cX11_run 92 = .ok (.aload_n 0, 1) := by decide +kernel
theorem dX11_run_93 : decode cX11_run 93 = .ok (.bipush 10, 2) := by decide +kernel
theorem dX11_run_95 : decode cX11_run 95 = .ok (.aload_n 0, 1) := by decide +kernel
theorem dX11_run_96 : decode cX11_run 96 = .ok (.invokevirtual 245, 3) := by decide +kernel
theorem dX11_run_99 : decode cX11_run 99 = .ok (.iconst 0, 1) := by decide +kernel
theorem dX11_run_100 : decode cX11_run 100 = .ok (.invokevirtual 242, 3) := by decide +kernel
theorem dX11_run_103 : decode cX11_run 103 = .ok (.iastore, 1) := by decide +kernel
theorem dX11_run_104 : decode cX11_run 104 = .ok (.aload_n 0, 1) := by decide +kernel
theorem dX11_run_105 : decode cX11_run 105 = .ok (.getfield 92, 3) := by decide +kernel
theorem dX11_run_108 : decode cX11_run 108 = .ok (.bipush 86, 2) := by decide +kernel
theorem dX11_run_110 : decode cX11_run 110 = .ok (.iconst 2, 1) := by decide +kernel
theorem dX11_run_111 : decode cX11_run 111 = .ok (.iload_n 1, 1) := by decide +kernel
theorem dX11_run_112 : decode cX11_run 112 = .ok (.imul, 1) := by decide +kernel
theorem dX11_run_113 : decode cX11_run 113 = .ok (.iadd, 1) := by decide +kernel
theorem dX11_run_114 : decode cX11_run 114 = .ok (.iload_n 2, 1) := by decide +kernel
theorem dX11_run_115 : decode cX11_run 115 = .ok (.ifCond .ne 7, 3) := by decide +kernel
theorem dX11_run_118 : decode cX11_run 118 = .ok (.iconst 0, 1) := by decide +kernel
theorem dX11_run_119 : decode cX11_run 119 = .ok (.goto 10, 3) := by decide +kernel
theorem dX11_run_122 : decode cX11_run 122 = .ok (.aload_n 0, 1) := by decide +kernel
theorem dX11_run_123 : decode cX11_run 123 = .ok (.iconst 1, 1) := by decide +kernel
theorem dX11_run_124 : decode cX11_run 124 = .ok (.bipush 9, 2) := by decide +kernel
theorem dX11_run_126 : decode cX11_run 126 = .ok (.invokevirtual 186, 3) := by decide +kernel
theorem dX11_run_129 : decode cX11_run 129 = .ok (.iastore, 1) := by decide +kernel
theorem dX11_run_130 : decode cX11_run 130 = .ok (.iinc 1 1, 3) := by decide +kernel
theorem dX11_run_133 : decode cX11_run 133 = .ok (.aload_n 0, 1) := by decide +kernel
theorem dX11_run_134 : decode cX11_run 134 = .ok (.bipush 59, 2) := by decide +kernel
theorem dX11_run_136 : decode cX11_run 136 = .ok (.invokevirtual 209, 3) := by decide +kernel
theorem dX11_run_139 : decode cX11_run 139 = .ok (.goto (-128), 3) := by decide +kernel
theorem dX11_run_142 : decode cX11_run 142 = .ok (.aload_n 0, 1) := by decide +kernel
theorem dX11_run_143 : decode cX11_run 143 = .ok (.getfield 168, 3) := by decide +kernel
theorem dX11_run_146 : decode cX11_run 146 = .ok (.ifCond .le 8, 3) := by decide +kernel
theorem dX11_run_149 : decode cX11_run 149 = .ok (.aload_n 0, 1) := by decide +kernel
theorem dX11_run_150 : decode cX11_run 150 = .ok (.getfield 168, 3) := by decide +kernel
theorem dX11_run_153 : decode cX11_run 153 = .ok (.ireturn, 1) := by decide +kernel
theorem dX11_run_154 : decode cX11_run 154 = .ok (.aload_n 0, 1) := by decide +kernel
theorem dX11_run_155 : decode cX11_run 155 = .ok (.getfield 92, 3) := by decide +kernel
theorem dX11_run_158 : decode cX11_run 158 = .ok (.iconst 0, 1) := by decide +kernel
theorem dX11_run_159 : decode cX11_run 159 = .ok (.iload_n 1, 1) := by decide +kernel
theorem dX11_run_160 : decode cX11_run 160 = .ok (.iastore, 1) := by decide +kernel
theorem dX11_run_161 : decode cX11_run 161 = .ok (.iconst 0, 1) := by decide +kernel
theorem dX11_run_162 : decode cX11_run 162 = .ok (.istore_n 2, 1) := by decide +kernel
theorem dX11_run_163 : decode cX11_run 163 = .ok (.iload_n 2, 1) := by decide +kernel
theorem dX11_run_164 : decode cX11_run 164 = .ok (.iconst 2, 1) := by decide +kernel
theorem dX11_run_165 : decode cX11_run 165 = .ok (.iload_n 1, 1) := by decide +kernel
theorem dX11_run_166 : decode cX11_run 166 = .ok (.imul, 1) := by decide +kernel
theorem dX11_run_167 : decode cX11_run 167 = .ok (.if_icmp .ge 26, 3) := by decide +kernel
theorem dX11_run_170 : decode cX11_run 170 = .ok (.aload_n 0, 1) := by decide +kernel
theorem dX11_run_171 : decode cX11_run 171 = .ok (.getfield 92, 3) := by decide +kernel
theorem dX11_run_174 : decode cX11_run 174 = .ok (.iconst 1, 1) := by decide +kernel
theorem dX11_run_175 : decode cX11_run 175 = .ok (.iload_n 2, 1) := by decide +kernel
theorem dX11_run_176 : decode cX11_run 176 = .ok (.iadd, 1) := by decide +kernel
theorem dX11_run_177 : decode cX11_run 177 = .ok (.aload_n 0, 1) := by decide +kernel
theorem dX11_run_178 : decode cX11_run 178 = .ok (.getfield 92, 3) := by decide +kernel
theorem dX11_run_181 : decode cX11_run 181 = .ok (.bipush 85, 2) := by decide +kernel
theorem dX11_run_183 : decode cX11_run 183 = .ok (.iload_n 2, 1) := by decide +kernel
theorem dX11_run_184 : decode cX11_run 184 = .ok (.iadd, 1) := by decide +kernel
theorem dX11_run_185 : decode cX11_run 185 = .ok (.iaload, 1) := by decide +kernel
theorem dX11_run_186 : decode cX11_run 186 = .ok (.iastore, 1) := by decide +kernel
theorem dX11_run_187 : decode cX11_run 187 = .ok (.iinc 2 1, 3) := by decide +kernel
theorem dX11_run_190 : decode cX11_run 190 = .ok (.goto (-27), 3) := by decide +kernel
theorem dX11_run_193 : decode cX11_run 193 = .ok (.iconst 0, 1) := by decide +kernel
theorem dX11_run_194 : decode cX11_run 194 = .ok (.ireturn, 1) := by decide +kernel
theorem dX11_saves_0 : decode cX11_saves 0 = .ok (.aload_n 0, 1) := by decide +kernel
theorem dX11_saves_1 : decode cX11_saves 1 = .ok (.iconst 0, 1) := by decide +kernel
theorem dX11_saves_2 : decode cX11_saves 2 = .ok (.putfield 1, 3) := by decide +kernel
theorem dX11_saves_5 : decode cX11_saves 5 = .ok (.aload_n 0, 1) := by decide +kernel
theorem dX11_saves_6 : decode cX11_saves 6 = .ok (.iload_n 1, 1) := by decide +kernel
theorem dX11_saves_7 : decode cX11_saves 7 = .ok (.invokevirtual 282, 3) := by decide +kernel
theorem dX11_saves_10 : decode cX11_saves 10 = .ok (.ifCond .eq 18, 3) := by decide +kernel
theorem dX11_saves_13 : decode cX11_saves 13 = .ok (.aload_n 0, 1) := by decide +kernel
theorem dX11_saves_14 : decode cX11_saves 14 = .ok (.invokevirtual 349, 3) := by decide +kernel
theorem dX11_saves_17 : decode cX11_saves 17 = .ok (.ifCond .le 11, 3) := by decide +kernel
theorem dX11_saves_20 : decode cX11_saves 20 = .ok (.aload_n 0, 1) := by decide +kernel
theorem dX11_saves_21 : decode cX11_saves 21 = .ok (.iload_n 1, 1) := by decide +kernel
theorem dX11_saves_22 : decode cX11_saves 22 = .ok (.invokevirtual 360, 3) := by decide +kernel
theorem dX11_saves_25 : decode cX11_saves 25 = .ok (.goto 4, 3) := by decide +kernel
theorem dX11_saves_28 : decode cX11_saves 28 = .ok (.iconst (-1), 1) := by decide +kernel
theorem dX11_saves_29 : decode cX11_saves 29 = .ok (.istore_n 2, 1) := by decide +kernel
theorem dX11_saves_30 : decode cX11_saves 30 = .ok (.aload_n 0, 1) := by decide +kernel
theorem dX11_saves_31 : decode cX11_saves 31 = .ok (.iload_n 2, 1) := by decide +kernel
theorem dX11_saves_32 : decode cX11_saves 32 = .ok (.ifCond .ge 7, 3) := by decide +kernel
theorem dX11_saves_35 : decode cX11_saves 35 = .ok (.iconst 1, 1) := by decide +kernel
theorem dX11_saves_36 : decode cX11_saves 36 = .ok (.goto 4, 3) := by decide +kernel
theorem dX11_saves_39 : decode cX11_saves 39 = .ok (.iconst 0, 1) := by decide +kernel
theorem dX11_saves_40 : decode cX11_saves 40 = .ok (.putfield 1, 3) := by decide +kernel
theorem dX11_saves_43 : decode cX11_saves 43 = .ok (.iload_n 2, 1) := by decide +kernel
theorem dX11_saves_44 : decode cX11_saves 44 = .ok (.ifCond .ge 7, 3) := by decide +kernel
theorem dX11_saves_47 : decode cX11_saves 47 = .ok (.iconst 0, 1) := by decide +kernel
theorem dX11_saves_48 : decode cX11_saves 48 = .ok (.goto 15, 3) := by decide +kernel
theorem dX11_saves_51 : decode cX11_saves 51 = .ok (.aload_n 0, 1) := by decide +kernel
theorem dX11_saves_52 : decode cX11_saves 52 = .ok (.iload_n 1, 1) := by decide +kernel
theorem dX11_saves_53 : decode cX11_saves 53 = .ok (.aload_n 0, 1) := by decide +kernel
theorem dX11_saves_54 : decode cX11_saves 54 = .ok (.iload_n 1, 1) := by decide +kernel
theorem dX11_saves_55 : decode cX11_saves 55 = .ok (.invokevirtual 285, 3) := by decide +kernel
theorem dX11_saves_58 : decode cX11_saves 58 = .ok (.invokevirtual 319, 3) := by decide +kernel
theorem dX11_saves_61 : decode cX11_saves 61 = .ok (.iload_n 2, 1) := by decide +kernel
theorem dX11_saves_62 : decode cX11_saves 62 = .ok (.isub, 1) := by decide +kernel
theorem dX11_saves_63 : decode cX11_saves 63 = .ok (.ireturn, 1) := by decide +kernel
theorem dX11_see_0 : decode cX11_see 0 = .ok (.aload_n 0, 1) := by decide +kernel
theorem dX11_see_1 : decode cX11_see 1 = .ok (.iconst 0, 1) := by decide +kernel
theorem dX11_see_2 : decode cX11_see 2 = .ok (.putfield 1, 3) := by decide +kernel
theorem dX11_see_5 : decode cX11_see 5 = .ok (.iload_n 1, 1) := by decide +kernel
theorem dX11_see_6 : decode cX11_see 6 = .ok (.iconst 0, 1) := by decide +kernel
theorem dX11_see_7 : decode cX11_see 7 = .ok (.bipush 60, 2) := by decide +kernel
theorem dX11_see_9 : decode cX11_see 9 = .ok (.invokestatic 300, 3) := by decide +kernel
theorem dX11_see_12 : decode cX11_see 12 = .ok (.ifCond .eq 27, 3) := by decide +kernel
theorem dX11_see_15 : decode cX11_see 15 = .ok (.iload_n 2, 1) := by decide +kernel
theorem dX11_see_16 : decode cX11_see 16 = .ok (.iconst 0, 1) := by decide +kernel
theorem dX11_see_17 : decode cX11_see 17 = .ok (.sipush 999, 3) := by decide +kernel
theorem dX11_see_20 : decode cX11_see 20 = .ok (.invokestatic 300, 3) := by decide +kernel
theorem dX11_see_23 : decode cX11_see 23 = .ok (.ifCond .eq 16, 3) := by decide +kernel
theorem dX11_see_26 : decode cX11_see 26 = .ok (.aload_n 0, 1) := by decide +kernel
theorem dX11_see_27 : decode cX11_see 27 = .ok (.getfield 101, 3) := by decide +kernel
theorem dX11_see_30 : decode cX11_see 30 = .ok (.sipush 382, 3) := by decide +kernel
theorem dX11_see_33 : decode cX11_see 33 = .ok (.iaload, 1) := by decide +kernel
theorem dX11_see_34 : decode cX11_see 34 = .ok (.bipush 8, 2) := by decide +kernel
theorem dX11_see_36 : decode cX11_see 36 = .ok (.if_icmp .ne 5, 3) := by decide +kernel
theorem dX11_see_39 : decode cX11_see 39 = .ok (.iconst 0, 1) := by decide +kernel
theorem dX11_see_40 : decode cX11_see 40 = .ok (.ireturn, 1) := by decide +kernel
theorem dX11_see_41 : decode cX11_see 41 = .ok (.sipush 383, 3) := by decide +kernel
theorem dX11_see_44 : decode cX11_see 44 = .ok (.iconst 3, 1) := by decide +kernel
theorem dX11_see_45 : decode cX11_see 45 = .ok (.aload_n 0, 1) := by decide +kernel
theorem dX11_see_46 : decode cX11_see 46 = .ok (.getfield 101, 3) := by decide +kernel
theorem dX11_see_49 : decode cX11_see 49 = .ok (.sipush 382, 3) := by decide +kernel
theorem dX11_see_52 : decode cX11_see 52 = .ok (.iaload, 1) := by decide +kernel
theorem dX11_see_53 : decode cX11_see 53 = .ok (.imul, 1) := by decide +kernel
theorem dX11_see_54 : decode cX11_see 54 = .ok (.iadd, 1) := by decide +kernel
theorem dX11_see_55 : decode cX11_see 55 = .ok (.istore 4, 2) := by decide +kernel
theorem dX11_see_57 : decode cX11_see 57 = .ok (.aload_n 0, 1) := by decide +kernel
theorem dX11_see_58 : decode cX11_see 58 = .ok (.getfield 101, 3) := by decide +kernel
theorem dX11_see_61 : decode cX11_see 61 = .ok (.iload 4, 2) := by decide +kernel
theorem dX11_see_63 : decode cX11_see 63 = .ok (.iload_n 1, 1) := by decide +kernel
theorem dX11_see_64 : decode cX11_see 64 = .ok (.iastore, 1) := by decide +kernel
theorem dX11_see_65 : decode cX11_see 65 = .ok (.aload_n 0, 1) := by decide +kernel
theorem dX11_see_66 : decode cX11_see 66 = .ok (.getfield 101, 3) := by decide +kernel
theorem dX11_see_69 : decode cX11_see 69 = .ok (.iload 4, 2) := by decide +kernel
theorem dX11_see_71 : decode cX11_see 71 = .ok (.iconst 1, 1) := by decide +kernel
theorem dX11_see_72 : decode cX11_see 72 = .ok (.iadd, 1) := by decide +kernel
theorem dX11_see_73 : decode cX11_see 73 = .ok (.iload_n 2, 1) := by decide +kernel
theorem dX11_see_74 : decode cX11_see 74 = .ok (.iastore, 1) := by decide +kernel
theorem dX11_see_75 : decode cX11_see 75 = .ok (.aload_n 0, 1) := by decide +kernel
theorem dX11_see_76 : decode cX11_see 76 = .ok (.getfield 101, 3) := by decide +kernel
theorem dX11_see_79 : decode cX11_see 79 = .ok (.iload 4, 2) := by decide +kernel
theorem dX11_see_81 : decode cX11_see 81 = .ok (.iconst 2, 1) := by decide +kernel
theorem dX11_see_82 : decode cX11_see 82 = .ok (.iadd, 1) := by decide +kernel
theorem dX11_see_83 : decode cX11_see 83 = .ok (.iload_n 3, 1) := by decide +kernel
theorem dX11_see_84 : decode cX11_see 84 = .ok (.ifCond .eq 7, 3) := by decide +kernel
theorem dX11_see_87 : decode cX11_see 87 = .ok (.iconst 1, 1) := by decide +kernel
theorem dX11_see_88 : decode cX11_see 88 = .ok (.goto 4, 3) := by decide +kernel
theorem dX11_see_91 : decode cX11_see 91 = .ok (.iconst 0, 1) := by decide +kernel
theorem dX11_see_92 : decode cX11_see 92 = .ok (.iastore, 1) := by decide +kernel
theorem dX11_see_93 : decode cX11_see 93 = .ok (.aload_n 0, 1) := by decide +kernel
theorem dX11_see_94 : decode cX11_see 94 = .ok (.getfield 101, 3) := by decide +kernel
theorem dX11_see_97 : decode cX11_see 97 = .ok (.sipush 382, 3) := by decide +kernel
theorem dX11_see_100 : decode cX11_see 100 = .ok (.dup2, 1) := by decide +kernel
theorem dX11_see_101 : decode cX11_see 101 = .ok (.iaload, 1) := by decide +kernel
theorem dX11_see_102 : decode cX11_see 102 = .ok (.iconst 1, 1) := by decide +kernel
theorem dX11_see_103 : decode cX11_see 103 = .ok (.iadd, 1) := by decide +kernel
theorem dX11_see_104 : decode cX11_see 104 = .ok (.iastore, 1) := by decide +kernel
theorem dX11_see_105 : decode cX11_see 105 = .ok (.iconst 1, 1) := by decide +kernel
theorem dX11_see_106 : decode cX11_see 106 = .ok (.ireturn, 1) := by decide +kernel
theorem dX11_sendsBy_0 : decode cX11_sendsBy 0 = .ok (.aload_n 0, 1) := by decide +kernel
theorem dX11_sendsBy_1 : decode cX11_sendsBy 1 = .ok (.getfield 83, 3) := by decide +kernel
theorem dX11_sendsBy_4 : decode cX11_sendsBy 4 = .ok (.bipush 78, 2) := by decide +kernel
theorem dX11_sendsBy_6 : decode cX11_sendsBy 6 = .ok (.bipush 6, 2) := by decide +kernel
theorem dX11_sendsBy_8 : decode cX11_sendsBy 8 = .ok (.iload_n 1, 1) := by decide +kernel
theorem dX11_sendsBy_9 : decode cX11_sendsBy 9 = .ok (.imul, 1) := by decide +kernel
theorem dX11_sendsBy_10 : decode cX11_sendsBy 10 = .ok (.iadd, 1) := by decide +kernel
theorem dX11_sendsBy_11 : decode cX11_sendsBy 11 = .ok (.iaload, 1) := by decide +kernel
theorem dX11_sendsBy_12 : decode cX11_sendsBy 12 = .ok (.ireturn, 1) := by decide +kernel
theorem dX11_serves_0 : decode cX11_serves 0 = .ok (.aload_n 0, 1) := by decide +kernel
theorem dX11_serves_1 : decode cX11_serves 1 = .ok (.iconst 0, 1) := by decide +kernel
theorem dX11_serves_2 : decode cX11_serves 2 = .ok (.putfield 1, 3) := by decide +kernel
theorem dX11_serves_5 : decode cX11_serves 5 = .ok (.aload_n 0, 1) := by decide +kernel
theorem dX11_serves_6 : decode cX11_serves 6 = .ok (.iload_n 1, 1) := by decide +kernel
theorem dX11_serves_7 : decode cX11_serves 7 = .ok (.invokevirtual 363, 3) := by decide +kernel
theorem dX11_serves_10 : decode cX11_serves 10 = .ok (.ifCond .eq 13, 3) := by decide +kernel
theorem dX11_serves_13 : decode cX11_serves 13 = .ok (.aload_n 0, 1) := by decide +kernel
theorem dX11_serves_14 : decode cX11_serves 14 = .ok (.iconst 0, 1) := by decide +kernel
theorem dX11_serves_15 : decode cX11_serves 15 = .ok (.iload_n 1, 1) := by decide +kernel
theorem dX11_serves_16 : decode cX11_serves 16 = .ok (.invokevirtual 404, 3) := by decide +kernel
theorem dX11_serves_19 : decode cX11_serves 19 = .ok (.iconst 1, 1) := by decide +kernel
theorem dX11_serves_20 : decode cX11_serves 20 = .ok (.if_icmp .ge 5, 3) := by decide +kernel
theorem dX11_serves_23 : decode cX11_serves 23 = .ok (.iconst (-1), 1) := by decide +kernel
theorem dX11_serves_24 : decode cX11_serves 24 = .ok (.ireturn, 1) := by decide +kernel
theorem dX11_serves_25 : decode cX11_serves 25 = .ok (.iconst 0, 1) := by decide +kernel
theorem dX11_serves_26 : decode cX11_serves 26 = .ok (.istore_n 2, 1) := by decide +kernel
theorem dX11_serves_27 : decode cX11_serves 27 = .ok (.iload_n 2, 1) := by decide +kernel
theorem dX11_serves_28 : decode cX11_serves 28 = .ok (.bipush 40, 2) := by decide +kernel
theorem dX11_serves_30 : decode cX11_serves 30 = .ok (.if_icmp .ge 16, 3) := by decide +kernel
theorem dX11_serves_33 : decode cX11_serves 33 = .ok (.aload_n 0, 1) := by decide +kernel
theorem dX11_serves_34 : decode cX11_serves 34 = .ok (.getfield 129, 3) := by decide +kernel
theorem dX11_serves_37 : decode cX11_serves 37 = .ok (.iload_n 2, 1) := by decide +kernel
theorem dX11_serves_38 : decode cX11_serves 38 = .ok (.iconst 0, 1) := by decide +kernel
theorem dX11_serves_39 : decode cX11_serves 39 = .ok (.bastore, 1) := by decide +kernel
theorem dX11_serves_40 : decode cX11_serves 40 = .ok (.iinc 2 1, 3) := by decide +kernel
theorem dX11_serves_43 : decode cX11_serves 43 = .ok (.goto (-16), 3) := by decide +kernel
theorem dX11_serves_46 : decode cX11_serves 46 = .ok (.aload_n 0, 1) := by decide +kernel
theorem dX11_serves_47 : decode cX11_serves 47 = .ok (.iconst (-1), 1) := by decide +kernel
theorem dX11_serves_48 : decode cX11_serves 48 = .ok (.putfield 395, 3) := by decide +kernel
theorem dX11_serves_51 : decode cX11_serves 51 = .ok (.aload_n 0, 1) := by decide +kernel
theorem dX11_serves_52 : decode cX11_serves 52 = .ok (.iconst 0, 1) := by decide +kernel
theorem dX11_serves_53 : decode cX11_serves 53 = .ok (.iload_n 1, 1) := by decide +kernel
theorem dX11_serves_54 : decode cX11_serves 54 = .ok (.invokevirtual 398, 3) := by decide +kernel
theorem dX11_serves_57 : decode cX11_serves 57 = .ok (.istore_n 2, 1) := by decide +kernel
theorem dX11_serves_58 : decode cX11_serves 58 = .ok (.iload_n 2, 1) := by decide +kernel
theorem dX11_serves_59 : decode cX11_serves 59 = .ok (.ifCond .ge 7, 3) := by decide +kernel
theorem dX11_serves_62 : decode cX11_serves 62 = .ok (.iconst (-1), 1) := by decide +kernel
theorem dX11_serves_63 : decode cX11_serves 63 = .ok (.goto 13, 3) := by decide +kernel
theorem dX11_serves_66 : decode cX11_serves 66 = .ok (.aload_n 0, 1) := by decide +kernel
theorem dX11_serves_67 : decode cX11_serves 67 = .ok (.getfield 101, 3) := by decide +kernel
theorem dX11_serves_70 : decode cX11_serves 70 = .ok (.iconst 0, 1) := by decide +kernel
theorem dX11_serves_71 : decode cX11_serves 71 = .ok (.iload_n 2, 1) := by decide +kernel
theorem dX11_serves_72 : decode cX11_serves 72 = .ok (.invokestatic 369, 3) := by decide +kernel
theorem dX11_serves_75 : decode cX11_serves 75 = .ok (.iaload, 1) := by decide +kernel
theorem dX11_serves_76 : decode cX11_serves 76 = .ok (.ireturn, 1) := by decide +kernel
theorem dX11_servesOf_0 : decode cX11_servesOf 0 = .ok (.aload_n 0, 1) := by decide +kernel
theorem dX11_servesOf_1 : decode cX11_servesOf 1 = .ok (.iconst (-1), 1) := by decide +kernel
theorem dX11_servesOf_2 : decode cX11_servesOf 2 = .ok (.putfield 395, 3) := by decide +kernel
theorem dX11_servesOf_5 : decode cX11_servesOf 5 = .ok (.iconst 0, 1) := by decide +kernel
theorem dX11_servesOf_6 : decode cX11_servesOf 6 = .ok (.istore 4, 2) := by decide +kernel
theorem dX11_servesOf_8 : decode cX11_servesOf 8 = .ok (.iload 4, 2) := by decide +kernel
theorem dX11_servesOf_10 : decode cX11_servesOf 10 = .ok (.iload_n 3, 1) := by decide +kernel
theorem dX11_servesOf_11 : decode cX11_servesOf 11 = .ok (.if_icmp .ge 52, 3) := by decide +kernel
theorem dX11_servesOf_14 : decode cX11_servesOf 14 = .ok (.aload_n 0, 1) := by decide +kernel
theorem dX11_servesOf_15 : decode cX11_servesOf 15 = .ok (.iload_n 1, 1) := by decide +kernel
theorem dX11_servesOf_16 : decode cX11_servesOf 16 = .ok (.iload_n 2, 1) := by decide +kernel
theorem dX11_servesOf_17 : decode cX11_servesOf 17 = .ok (.invokevirtual 398, 3) := by decide +kernel
theorem dX11_servesOf_20 : decode cX11_servesOf 20 = .ok (.istore 5, 2) := by decide +kernel
theorem dX11_servesOf_22 : decode cX11_servesOf 22 = .ok (.iload 5, 2) := by decide +kernel
theorem dX11_servesOf_24 : decode cX11_servesOf 24 = .ok (.ifCond .ge 4, 3) := by decide +kernel
theorem dX11_servesOf_27 : decode cX11_servesOf 27 = .ok (.return_, 1) := by decide +kernel
theorem dX11_servesOf_28 : decode cX11_servesOf 28 = .ok (.aload_n 0, 1) := by decide +kernel
theorem dX11_servesOf_29 : decode cX11_servesOf 29 = .ok (.getfield 129, 3) := by decide +kernel
theorem dX11_servesOf_32 : decode cX11_servesOf 32 = .ok (.iload 5, 2) := by decide +kernel
theorem dX11_servesOf_34 : decode cX11_servesOf 34 = .ok (.iconst 1, 1) := by decide +kernel
theorem dX11_servesOf_35 : decode cX11_servesOf 35 = .ok (.bastore, 1) := by decide +kernel
theorem dX11_servesOf_36 : decode cX11_servesOf 36 = .ok (.aload_n 0, 1) := by decide +kernel
theorem dX11_servesOf_37 : decode cX11_servesOf 37 = .ok (.getfield 126, 3) := by decide +kernel
theorem dX11_servesOf_40 : decode cX11_servesOf 40 = .ok (.aload_n 0, 1) := by decide +kernel
theorem dX11_servesOf_41 : decode cX11_servesOf 41 = .ok (.getfield 401, 3) := by decide +kernel
theorem dX11_servesOf_44 : decode cX11_servesOf 44 = .ok (.iload 5, 2) := by decide +kernel
theorem dX11_servesOf_46 : decode cX11_servesOf 46 = .ok (.iastore, 1) := by decide +kernel
theorem dX11_servesOf_47 : decode cX11_servesOf 47 = .ok (.aload_n 0, 1) := by decide +kernel
theorem dX11_servesOf_48 : decode cX11_servesOf 48 = .ok (.dup, 1) := by decide +kernel
theorem dX11_servesOf_49 : decode cX11_servesOf 49 = .ok (.getfield 401, 3) := by decide +kernel
theorem dX11_servesOf_52 : decode cX11_servesOf 52 = .ok (.iconst 1, 1) := by decide +kernel
theorem dX11_servesOf_53 : decode cX11_servesOf 53 = .ok (.iadd, 1) := by decide +kernel
theorem dX11_servesOf_54 : decode cX11_servesOf 54 = .ok (.putfield 401, 3) := by decide +kernel
theorem dX11_servesOf_57 : decode cX11_servesOf 57 = .ok (.iinc 4 1, 3) := by decide +kernel
theorem dX11_servesOf_60 : decode cX11_servesOf 60 = .ok (.goto (-52), 3) := by decide +kernel
theorem dX11_servesOf_63 : decode cX11_servesOf 63 = .ok (.return_, 1) := by decide +kernel
theorem dX11_settles_0 : decode cX11_settles 0 = .ok (.iconst 0, 1) := by decide +kernel
theorem dX11_settles_1 : decode cX11_settles 1 = .ok (.istore_n 1, 1) := by decide +kernel
theorem dX11_settles_2 : decode cX11_settles 2 = .ok (.iload_n 1, 1) := by decide +kernel
theorem dX11_settles_3 : decode cX11_settles 3 = .ok (.bipush 16, 2) := by decide +kernel
theorem dX11_settles_5 : decode cX11_settles 5 = .ok (.if_icmp .ge 23, 3) := by decide +kernel
theorem dX11_settles_8 : decode cX11_settles 8 = .ok (.aload_n 0, 1) := by decide +kernel
theorem dX11_settles_9 : decode cX11_settles 9 = .ok (.getfield 120, 3) := by decide +kernel
theorem dX11_settles_12 : decode cX11_settles 12 = .ok (.iload_n 1, 1) := by decide +kernel
theorem dX11_settles_13 : decode cX11_settles 13 = .ok (.iconst 0, 1) := by decide +kernel
theorem dX11_settles_14 : decode cX11_settles 14 = .ok (.iastore, 1) := by decide +kernel
theorem dX11_settles_15 : decode cX11_settles 15 = .ok (.aload_n 0, 1) := by decide +kernel
theorem dX11_settles_16 : decode cX11_settles 16 = .ok (.getfield 123, 3) := by decide +kernel
theorem dX11_settles_19 : decode cX11_settles 19 = .ok (.iload_n 1, 1) := by decide +kernel
theorem dX11_settles_20 : decode cX11_settles 20 = .ok (.iconst 0, 1) := by decide +kernel
theorem dX11_settles_21 : decode cX11_settles 21 = .ok (.iastore, 1) := by decide +kernel
theorem dX11_settles_22 : decode cX11_settles 22 = .ok (.iinc 1 1, 3) := by decide +kernel
theorem dX11_settles_25 : decode cX11_settles 25 = .ok (.goto (-23), 3) := by decide +kernel
theorem dX11_settles_28 : decode cX11_settles 28 = .ok (.iconst 1, 1) := by decide +kernel
theorem dX11_settles_29 : decode cX11_settles 29 = .ok (.istore_n 1, 1) := by decide +kernel
theorem dX11_settles_30 : decode cX11_settles 30 = .ok (.iload_n 1, 1) := by decide +kernel
theorem dX11_settles_31 : decode cX11_settles 31 = .ok (.bipush 60, 2) := by decide +kernel
theorem dX11_settles_33 : decode cX11_settles 33 = .ok (.if_icmp .gt 149, 3) := by decide +kernel
theorem dX11_settles_36 : decode cX11_settles 36 = .ok (.iconst 0, 1) := by decide +kernel
theorem dX11_settles_37 : decode cX11_settles 37 = .ok (.istore_n 2, 1) := by decide +kernel
theorem dX11_settles_38 : decode cX11_settles 38 = .ok (.iconst 0, 1) := by decide +kernel
theorem dX11_settles_39 : decode cX11_settles 39 = .ok (.istore_n 3, 1) := by decide +kernel
theorem dX11_settles_40 : decode cX11_settles 40 = .ok (.iload_n 3, 1) := by decide +kernel
theorem dX11_settles_41 : decode cX11_settles 41 = .ok (.aload_n 0, 1) := by decide +kernel
theorem dX11_settles_42 : decode cX11_settles 42 = .ok (.invokevirtual 245, 3) := by decide +kernel
theorem dX11_settles_45 : decode cX11_settles 45 = .ok (.if_icmp .ge 99, 3) := by decide +kernel
theorem dX11_settles_48 : decode cX11_settles 48 = .ok (.iconst 0, 1) := by decide +kernel
theorem dX11_settles_49 : decode cX11_settles 49 = .ok (.istore 4, 2) := by decide +kernel
theorem dX11_settles_51 : decode cX11_settles 51 = .ok (.iload 4, 2) := by decide +kernel
theorem dX11_settles_53 : decode cX11_settles 53 = .ok (.aload_n 0, 1) := by decide +kernel
theorem dX11_settles_54 : decode cX11_settles 54 = .ok (.iload_n 3, 1) := by decide +kernel
theorem dX11_settles_55 : decode cX11_settles 55 = .ok (.invokevirtual 285, 3) := by decide +kernel
theorem dX11_settles_58 : decode cX11_settles 58 = .ok (.if_icmp .ge 80, 3) := by decide +kernel
theorem dX11_settles_61 : decode cX11_settles 61 = .ok (.aload_n 0, 1) := by decide +kernel
theorem dX11_settles_62 : decode cX11_settles 62 = .ok (.iload_n 3, 1) := by decide +kernel
theorem dX11_settles_63 : decode cX11_settles 63 = .ok (.iload 4, 2) := by decide +kernel
theorem dX11_settles_65 : decode cX11_settles 65 = .ok (.invokevirtual 340, 3) := by decide +kernel
theorem dX11_settles_68 : decode cX11_settles 68 = .ok (.aload_n 0, 1) := by decide +kernel
theorem dX11_settles_69 : decode cX11_settles 69 = .ok (.iload_n 3, 1) := by decide +kernel
theorem dX11_settles_70 : decode cX11_settles 70 = .ok (.aload_n 0, 1) := by decide +kernel
theorem dX11_settles_71 : decode cX11_settles 71 = .ok (.iload_n 3, 1) := by decide +kernel
theorem dX11_settles_72 : decode cX11_settles 72 = .ok (.iload 4, 2) := by decide +kernel
theorem dX11_settles_74 : decode cX11_settles 74 = .ok (.invokevirtual 288, 3) := by decide +kernel
theorem dX11_settles_77 : decode cX11_settles 77 = .ok (.invokevirtual 343, 3) := by decide +kernel
theorem dX11_settles_80 : decode cX11_settles 80 = .ok (.aload_n 0, 1) := by decide +kernel
theorem dX11_settles_81 : decode cX11_settles 81 = .ok (.invokevirtual 310, 3) := by decide +kernel
theorem dX11_settles_84 : decode cX11_settles 84 = .ok (.istore 5, 2) := by decide +kernel
theorem dX11_settles_86 : decode cX11_settles 86 = .ok (.iload 5, 2) := by decide +kernel
theorem dX11_settles_88 : decode cX11_settles 88 = .ok (.ifCond .ge 5, 3) := by decide +kernel
theorem dX11_settles_91 : decode cX11_settles 91 = .ok (.iconst (-1), 1) := by decide +kernel
theorem dX11_settles_92 : decode cX11_settles 92 = .ok (.ireturn, 1) := by decide +kernel
theorem dX11_settles_93 : decode cX11_settles 93 = .ok (.aload_n 0, 1) := by decide +kernel
theorem dX11_settles_94 : decode cX11_settles 94 = .ok (.getfield 123, 3) := by decide +kernel
theorem dX11_settles_97 : decode cX11_settles 97 = .ok (.iconst 4, 1) := by decide +kernel
theorem dX11_settles_98 : decode cX11_settles 98 = .ok (.iload_n 3, 1) := by decide +kernel
theorem dX11_settles_99 : decode cX11_settles 99 = .ok (.imul, 1) := by decide +kernel
theorem dX11_settles_100 : decode cX11_settles 100 = .ok (.iload 4, 2) := by decide +kernel
theorem dX11_settles_102 : decode cX11_settles 102 = .ok (.iadd, 1) := by decide +kernel
theorem dX11_settles_103 : decode cX11_settles 103 = .ok (.iload 5, 2) := by decide +kernel
theorem dX11_settles_105 : decode cX11_settles 105 = .ok (.iastore, 1) := by decide +kernel
theorem dX11_settles_106 : decode cX11_settles 106 = .ok (.iload_n 2, 1) := by decide +kernel
theorem dX11_settles_107 : decode cX11_settles 107 = .ok (.ifCond .ne 19, 3) := by decide +kernel
theorem dX11_settles_110 : decode cX11_settles 110 = .ok (.iload 5, 2) := by decide +kernel
theorem dX11_settles_112 : decode cX11_settles 112 = .ok (.aload_n 0, 1) := by decide +kernel
theorem dX11_settles_113 : decode cX11_settles 113 = .ok (.getfield 120, 3) := by decide +kernel
theorem dX11_settles_116 : decode cX11_settles 116 = .ok (.iconst 4, 1) := by decide +kernel
theorem dX11_settles_117 : decode cX11_settles 117 = .ok (.iload_n 3, 1) := by decide +kernel
theorem dX11_settles_118 : decode cX11_settles 118 = .ok (.imul, 1) := by decide +kernel
theorem dX11_settles_119 : decode cX11_settles 119 = .ok (.iload 4, 2) := by decide +kernel
theorem dX11_settles_121 : decode cX11_settles 121 = .ok (.iadd, 1) := by decide +kernel
theorem dX11_settles_122 : decode cX11_settles 122 = .ok (.iaload, 1) := by decide +kernel
theorem dX11_settles_123 : decode cX11_settles 123 = .ok (.if_icmp .eq 7, 3) := by decide +kernel
theorem dX11_settles_126 : decode cX11_settles 126 = .ok (.iconst 1, 1) := by decide +kernel
theorem dX11_settles_127 : decode cX11_settles 127 = .ok (.goto 4, 3) := by decide +kernel
theorem dX11_settles_130 : decode cX11_settles 130 = .ok (.iconst 0, 1) := by decide +kernel
theorem dX11_settles_131 : decode cX11_settles 131 = .ok (.istore_n 2, 1) := by decide +kernel
theorem dX11_settles_132 : decode cX11_settles 132 = .ok (.iinc 4 1, 3) := by decide +kernel
theorem dX11_settles_135 : decode cX11_settles 135 = .ok (.goto (-84), 3) := by decide +kernel
theorem dX11_settles_138 : decode cX11_settles 138 = .ok (.iinc 3 1, 3) := by decide +kernel
theorem dX11_settles_141 : decode cX11_settles 141 = .ok (.goto (-101), 3) := by decide +kernel
theorem dX11_settles_144 : decode cX11_settles 144 = .ok (.iconst 0, 1) := by decide +kernel
theorem dX11_settles_145 : decode cX11_settles 145 = .ok (.istore_n 3, 1) := by decide +kernel
theorem dX11_settles_146 : decode cX11_settles 146 = .ok (.iload_n 3, 1) := by decide +kernel
theorem dX11_settles_147 : decode cX11_settles 147 = .ok (.bipush 16, 2) := by decide +kernel
theorem dX11_settles_149 : decode cX11_settles 149 = .ok (.if_icmp .ge 21, 3) := by decide +kernel
theorem dX11_settles_152 : decode cX11_settles 152 = .ok (.aload_n 0, 1) := by decide +kernel
theorem dX11_settles_153 : decode cX11_settles 153 = .ok (.getfield 120, 3) := by decide +kernel
theorem dX11_settles_156 : decode cX11_settles 156 = .ok (.iload_n 3, 1) := by decide +kernel
theorem dX11_settles_157 : decode cX11_settles 157 = .ok (.aload_n 0, 1) := by decide +kernel
theorem dX11_settles_158 : decode cX11_settles 158 = .ok (.getfield 123, 3) := by decide +kernel
theorem dX11_settles_161 : decode cX11_settles 161 = .ok (.iload_n 3, 1) := by decide +kernel
theorem dX11_settles_162 : decode cX11_settles 162 = .ok (.iaload, 1) := by decide +kernel
theorem dX11_settles_163 : decode cX11_settles 163 = .ok (.iastore, 1) := by decide +kernel
theorem dX11_settles_164 : decode cX11_settles 164 = .ok (.iinc 3 1, 3) := by decide +kernel
theorem dX11_settles_167 : decode cX11_settles 167 = .ok (.goto (-21), 3) := by decide +kernel
theorem dX11_settles_170 : decode cX11_settles 170 = .ok (.iload_n 2, 1) := by decide +kernel
theorem dX11_settles_171 : decode cX11_settles 171 = .ok (.ifCond .ne 5, 3) := by decide +kernel
theorem dX11_settles_174 : decode cX11_settles 174 = .ok (.iload_n 1, 1) := by decide +kernel
theorem dX11_settles_175 : decode cX11_settles 175 = .ok (.ireturn, 1) := by decide +kernel
theorem dX11_settles_176 : decode cX11_settles 176 = .ok (.iinc 1 1, 3) := by decide +kernel
theorem dX11_settles_179 : decode cX11_settles 179 = .ok (.goto (-149), 3) := by decide +kernel
theorem dX11_settles_182 : decode cX11_settles 182 = .ok (.iconst (-1), 1) := by decide +kernel
theorem dX11_settles_183 : decode cX11_settles 183 = .ok (.ireturn, 1) := by decide +kernel
theorem dX11_settlesNow_0 : decode cX11_settlesNow 0 = .ok (.aload_n 0, 1) := by decide +kernel
theorem dX11_settlesNow_1 : decode cX11_settlesNow 1 = .ok (.iconst (-1), 1) := by decide +kernel
theorem dX11_settlesNow_2 : decode cX11_settlesNow 2 = .ok (.putfield 270, 3) := by decide +kernel
theorem dX11_settlesNow_5 : decode cX11_settlesNow 5 = .ok (.aload_n 0, 1) := by decide +kernel
theorem dX11_settlesNow_6 : decode cX11_settlesNow 6 = .ok (.invokevirtual 346, 3) := by decide +kernel
theorem dX11_settlesNow_9 : decode cX11_settlesNow 9 = .ok (.ireturn, 1) := by decide +kernel
theorem dX11_standsAsAlways_0 : decode cX11_standsAsAlways 0 = .ok (.iconst 0, 1) := by decide +kernel
theorem dX11_standsAsAlways_1 : decode cX11_standsAsAlways 1 = .ok (.istore_n 2, 1) := by decide +kernel
theorem dX11_standsAsAlways_2 : decode cX11_standsAsAlways 2 = .ok (.iload_n 2, 1) := by decide +kernel
theorem dX11_standsAsAlways_3 : decode cX11_standsAsAlways 3 = .ok (.bipush 110, 2) := by decide +kernel
theorem dX11_standsAsAlways_5 : decode cX11_standsAsAlways 5 = .ok (.if_icmp .ge 18, 3) := by decide +kernel
theorem dX11_standsAsAlways_8 : decode cX11_standsAsAlways 8 = .ok (.aload_n 0, 1) := by decide +kernel
theorem dX11_standsAsAlways_9 : decode cX11_standsAsAlways 9 = .ok (.getfield 83, 3) := by decide +kernel
theorem dX11_standsAsAlways_12 : decode cX11_standsAsAlways 12 = .ok (.iload_n 1, 1) := by decide +kernel
theorem dX11_standsAsAlways_13 : decode cX11_standsAsAlways 13 = .ok (.iload_n 2, 1) := by decide +kernel
theorem dX11_standsAsAlways_14 : decode cX11_standsAsAlways 14 = .ok (.iadd, 1) := by decide +kernel
theorem dX11_standsAsAlways_15 : decode cX11_standsAsAlways 15 = .ok (.iconst 0, 1) := by decide +kernel
theorem dX11_standsAsAlways_16 : decode cX11_standsAsAlways 16 = .ok (.iastore, 1) := by decide +kernel
theorem dX11_standsAsAlways_17 : decode cX11_standsAsAlways 17 = .ok (.iinc 2 1, 3) := by decide +kernel
theorem dX11_standsAsAlways_20 : decode cX11_standsAsAlways 20 = .ok (.goto (-18), 3) := by decide +kernel
theorem dX11_standsAsAlways_23 : decode cX11_standsAsAlways 23 = .ok (.aload_n 0, 1) := by decide +kernel
theorem dX11_standsAsAlways_24 : decode cX11_standsAsAlways 24 = .ok (.getfield 83, 3) := by decide +kernel
theorem dX11_standsAsAlways_27 : decode cX11_standsAsAlways 27 = .ok (.iload_n 1, 1) := by decide +kernel
theorem dX11_standsAsAlways_28 : decode cX11_standsAsAlways 28 = .ok (.iconst 3, 1) := by decide +kernel
theorem dX11_standsAsAlways_29 : decode cX11_standsAsAlways 29 = .ok (.iadd, 1) := by decide +kernel
theorem dX11_standsAsAlways_30 : decode cX11_standsAsAlways 30 = .ok (.iconst (-1), 1) := by decide +kernel
theorem dX11_standsAsAlways_31 : decode cX11_standsAsAlways 31 = .ok (.iastore, 1) := by decide +kernel
theorem dX11_standsAsAlways_32 : decode cX11_standsAsAlways 32 = .ok (.return_, 1) := by decide +kernel
theorem dX11_star_0 : decode cX11_star 0 = .ok (.aload_n 0, 1) := by decide +kernel
theorem dX11_star_1 : decode cX11_star 1 = .ok (.iconst 0, 1) := by decide +kernel
theorem dX11_star_2 : decode cX11_star 2 = .ok (.putfield 1, 3) := by decide +kernel
theorem dX11_star_5 : decode cX11_star 5 = .ok (.aload_n 0, 1) := by decide +kernel
theorem dX11_star_6 : decode cX11_star 6 = .ok (.iload_n 1, 1) := by decide +kernel
theorem dX11_star_7 : decode cX11_star 7 = .ok (.invokevirtual 297, 3) := by decide +kernel
theorem dX11_star_10 : decode cX11_star 10 = .ok (.ifCond .eq 13, 3) := by decide +kernel
theorem dX11_star_13 : decode cX11_star 13 = .ok (.iload_n 2, 1) := by decide +kernel
theorem dX11_star_14 : decode cX11_star 14 = .ok (.iconst 0, 1) := by decide +kernel
theorem dX11_star_15 : decode cX11_star 15 = .ok (.bipush 60, 2) := by decide +kernel
theorem dX11_star_17 : decode cX11_star 17 = .ok (.invokestatic 300, 3) := by decide +kernel
theorem dX11_star_20 : decode cX11_star 20 = .ok (.ifCond .ne 5, 3) := by decide +kernel
theorem dX11_star_23 : decode cX11_star 23 = .ok (.iconst (-1), 1) := by decide +kernel
theorem dX11_star_24 : decode cX11_star 24 = .ok (.ireturn, 1) := by decide +kernel
theorem dX11_star_25 : decode cX11_star 25 = .ok (.aload_n 0, 1) := by decide +kernel
theorem dX11_star_26 : decode cX11_star 26 = .ok (.getfield 108, 3) := by decide +kernel
theorem dX11_star_29 : decode cX11_star 29 = .ok (.iconst 0, 1) := by decide +kernel
theorem dX11_star_30 : decode cX11_star 30 = .ok (.iconst 0, 1) := by decide +kernel
theorem dX11_star_31 : decode cX11_star 31 = .ok (.iastore, 1) := by decide +kernel
theorem dX11_star_32 : decode cX11_star 32 = .ok (.iconst 1, 1) := by decide +kernel
theorem dX11_star_33 : decode cX11_star 33 = .ok (.istore_n 3, 1) := by decide +kernel
theorem dX11_star_34 : decode cX11_star 34 = .ok (.iload_n 3, 1) := by decide +kernel
theorem dX11_star_35 : decode cX11_star 35 = .ok (.iload_n 2, 1) := by decide +kernel
theorem dX11_star_36 : decode cX11_star 36 = .ok (.if_icmp .gt 94, 3) := by decide +kernel
theorem dX11_star_39 : decode cX11_star 39 = .ok (.aload_n 0, 1) := by decide +kernel
theorem dX11_star_40 : decode cX11_star 40 = .ok (.getfield 108, 3) := by decide +kernel
theorem dX11_star_43 : decode cX11_star 43 = .ok (.iload_n 3, 1) := by decide +kernel
theorem dX11_star_44 : decode cX11_star 44 = .ok (.aload_n 0, 1) := by decide +kernel
theorem dX11_star_45 : decode cX11_star 45 = .ok (.iload_n 1, 1) := by decide +kernel
theorem dX11_star_46 : decode cX11_star 46 = .ok (.iload_n 3, 1) := by decide +kernel
theorem dX11_star_47 : decode cX11_star 47 = .ok (.invokevirtual 294, 3) := by decide +kernel
theorem dX11_star_50 : decode cX11_star 50 = .ok (.iastore, 1) := by decide +kernel
theorem dX11_star_51 : decode cX11_star 51 = .ok (.iconst 1, 1) := by decide +kernel
theorem dX11_star_52 : decode cX11_star 52 = .ok (.istore 4, 2) := by decide +kernel
theorem dX11_star_54 : decode cX11_star 54 = .ok (.iload 4, 2) := by decide +kernel
theorem dX11_star_56 : decode cX11_star 56 = .ok (.iload_n 3, 1) := by decide +kernel
theorem dX11_star_57 : decode cX11_star 57 = .ok (.if_icmp .ge 67, 3) := by decide +kernel
theorem dX11_star_60 : decode cX11_star 60 = .ok (.aload_n 0, 1) := by decide +kernel
theorem dX11_star_61 : decode cX11_star 61 = .ok (.getfield 108, 3) := by decide +kernel
theorem dX11_star_64 : decode cX11_star 64 = .ok (.iload_n 3, 1) := by decide +kernel
theorem dX11_star_65 : decode cX11_star 65 = .ok (.aload_n 0, 1) := by decide +kernel
theorem dX11_star_66 : decode cX11_star 66 = .ok (.getfield 108, 3) := by decide +kernel
theorem dX11_star_69 : decode cX11_star 69 = .ok (.iload 4, 2) := by decide +kernel
theorem dX11_star_71 : decode cX11_star 71 = .ok (.iaload, 1) := by decide +kernel
theorem dX11_star_72 : decode cX11_star 72 = .ok (.aload_n 0, 1) := by decide +kernel
theorem dX11_star_73 : decode cX11_star 73 = .ok (.getfield 108, 3) := by decide +kernel
theorem dX11_star_76 : decode cX11_star 76 = .ok (.iload_n 3, 1) := by decide +kernel
theorem dX11_star_77 : decode cX11_star 77 = .ok (.iload 4, 2) := by decide +kernel
theorem dX11_star_79 : decode cX11_star 79 = .ok (.isub, 1) := by decide +kernel
theorem dX11_star_80 : decode cX11_star 80 = .ok (.iaload, 1) := by decide +kernel
theorem dX11_star_81 : decode cX11_star 81 = .ok (.iadd, 1) := by decide +kernel
theorem dX11_star_82 : decode cX11_star 82 = .ok (.aload_n 0, 1) := by decide +kernel
theorem dX11_star_83 : decode cX11_star 83 = .ok (.getfield 108, 3) := by decide +kernel
theorem dX11_star_86 : decode cX11_star 86 = .ok (.iload_n 3, 1) := by decide +kernel
theorem dX11_star_87 : decode cX11_star 87 = .ok (.iaload, 1) := by decide +kernel
theorem dX11_star_88 : decode cX11_star 88 = .ok (.if_icmp .ge 23, 3) := by decide +kernel
theorem dX11_star_91 : decode cX11_star 91 = .ok (.aload_n 0, 1) := by decide +kernel
theorem dX11_star_92 : decode cX11_star 92 = .ok (.getfield 108, 3) := by decide +kernel
theorem dX11_star_95 : decode cX11_star 95 = .ok (.iload 4, 2) := by decide +kernel
theorem dX11_star_97 : decode cX11_star 97 = .ok (.iaload, 1) := by decide +kernel
theorem dX11_star_98 : decode cX11_star 98 = .ok (.aload_n 0, 1) := by decide +kernel
theorem dX11_star_99 : decode cX11_star 99 = .ok (.getfield 108, 3) := by decide +kernel
theorem dX11_star_102 : decode cX11_star 102 = .ok (.iload_n 3, 1) := by decide +kernel
theorem dX11_star_103 : decode cX11_star 103 = .ok (.iload 4, 2) := by decide +kernel
theorem dX11_star_105 : decode cX11_star 105 = .ok (.isub, 1) := by decide +kernel
theorem dX11_star_106 : decode cX11_star 106 = .ok (.iaload, 1) := by decide +kernel
theorem dX11_star_107 : decode cX11_star 107 = .ok (.iadd, 1) := by decide +kernel
theorem dX11_star_108 : decode cX11_star 108 = .ok (.goto 9, 3) := by decide +kernel
theorem dX11_star_111 : decode cX11_star 111 = .ok (.aload_n 0, 1) := by decide +kernel
theorem dX11_star_112 : decode cX11_star 112 = .ok (.getfield 108, 3) := by decide +kernel
theorem dX11_star_115 : decode cX11_star 115 = .ok (.iload_n 3, 1) := by decide +kernel
theorem dX11_star_116 : decode cX11_star 116 = .ok (.iaload, 1) := by decide +kernel
theorem dX11_star_117 : decode cX11_star 117 = .ok (.iastore, 1) := by decide +kernel
theorem dX11_star_118 : decode cX11_star 118 = .ok (.iinc 4 1, 3) := by decide +kernel
theorem dX11_star_121 : decode cX11_star 121 = .ok (.goto (-67), 3) := by decide +kernel
theorem dX11_star_124 : decode cX11_star 124 = .ok (.iinc 3 1, 3) := by decide +kernel
theorem dX11_star_127 : decode cX11_star 127 = .ok (.goto (-93), 3) := by decide +kernel
theorem dX11_star_130 : decode cX11_star 130 = .ok (.aload_n 0, 1) := by decide +kernel
theorem dX11_star_131 : decode cX11_star 131 = .ok (.getfield 108, 3) := by decide +kernel
theorem dX11_star_134 : decode cX11_star 134 = .ok (.iload_n 2, 1) := by decide +kernel
theorem dX11_star_135 : decode cX11_star 135 = .ok (.iaload, 1) := by decide +kernel
theorem dX11_star_136 : decode cX11_star 136 = .ok (.ireturn, 1) := by decide +kernel
theorem dX11_starts_0 : decode cX11_starts 0 = .ok (.iconst 0, 1) := by decide +kernel
theorem dX11_starts_1 : decode cX11_starts 1 = .ok (.istore_n 2, 1) := by decide +kernel
theorem dX11_starts_2 : decode cX11_starts 2 = .ok (.iload_n 2, 1) := by decide +kernel
theorem dX11_starts_3 : decode cX11_starts 3 = .ok (.sipush 382, 3) := by decide +kernel
theorem dX11_starts_6 : decode cX11_starts 6 = .ok (.if_icmp .ge 18, 3) := by decide +kernel
theorem dX11_starts_9 : decode cX11_starts 9 = .ok (.aload_n 0, 1) := by decide +kernel
theorem dX11_starts_10 : decode cX11_starts 10 = .ok (.getfield 101, 3) := by decide +kernel
theorem dX11_starts_13 : decode cX11_starts 13 = .ok (.iload_n 1, 1) := by decide +kernel
theorem dX11_starts_14 : decode cX11_starts 14 = .ok (.iload_n 2, 1) := by decide +kernel
theorem dX11_starts_15 : decode cX11_starts 15 = .ok (.iadd, 1) := by decide +kernel
theorem dX11_starts_16 : decode cX11_starts 16 = .ok (.iconst 0, 1) := by decide +kernel
theorem dX11_starts_17 : decode cX11_starts 17 = .ok (.iastore, 1) := by decide +kernel
theorem dX11_starts_18 : decode cX11_starts 18 = .ok (.iinc 2 1, 3) := by decide +kernel
theorem dX11_starts_21 : decode cX11_starts 21 = .ok (.goto (-19), 3) := by decide +kernel
theorem dX11_starts_24 : decode cX11_starts 24 = .ok (.iconst 0, 1) := by decide +kernel
theorem dX11_starts_25 : decode cX11_starts 25 = .ok (.istore_n 2, 1) := by decide +kernel
theorem dX11_starts_26 : decode cX11_starts 26 = .ok (.iload_n 2, 1) := by decide +kernel
theorem dX11_starts_27 : decode cX11_starts 27 = .ok (.iconst 4, 1) := by decide +kernel
theorem dX11_starts_28 : decode cX11_starts 28 = .ok (.if_icmp .ge 22, 3) := by decide +kernel
theorem dX11_starts_31 : decode cX11_starts 31 = .ok (.aload_n 0, 1) := by decide +kernel
theorem dX11_starts_32 : decode cX11_starts 32 = .ok (.getfield 101, 3) := by decide +kernel
theorem dX11_starts_35 : decode cX11_starts 35 = .ok (.iload_n 1, 1) := by decide +kernel
theorem dX11_starts_36 : decode cX11_starts 36 = .ok (.sipush 134, 3) := by decide +kernel
theorem dX11_starts_39 : decode cX11_starts 39 = .ok (.iadd, 1) := by decide +kernel
theorem dX11_starts_40 : decode cX11_starts 40 = .ok (.iload_n 2, 1) := by decide +kernel
theorem dX11_starts_41 : decode cX11_starts 41 = .ok (.iadd, 1) := by decide +kernel
theorem dX11_starts_42 : decode cX11_starts 42 = .ok (.iconst (-1), 1) := by decide +kernel
theorem dX11_starts_43 : decode cX11_starts 43 = .ok (.iastore, 1) := by decide +kernel
theorem dX11_starts_44 : decode cX11_starts 44 = .ok (.iinc 2 1, 3) := by decide +kernel
theorem dX11_starts_47 : decode cX11_starts 47 = .ok (.goto (-21), 3) := by decide +kernel
theorem dX11_starts_50 : decode cX11_starts 50 = .ok (.return_, 1) := by decide +kernel
theorem dX11_sub_0 : decode cX11_sub 0 = .ok (.aload_n 0, 1) := by decide +kernel
theorem dX11_sub_1 : decode cX11_sub 1 = .ok (.iconst 0, 1) := by decide +kernel
theorem dX11_sub_2 : decode cX11_sub 2 = .ok (.putfield 1, 3) := by decide +kernel
theorem dX11_sub_5 : decode cX11_sub 5 = .ok (.aload_n 0, 1) := by decide +kernel
theorem dX11_sub_6 : decode cX11_sub 6 = .ok (.iload_n 1, 1) := by decide +kernel
theorem dX11_sub_7 : decode cX11_sub 7 = .ok (.invokevirtual 297, 3) := by decide +kernel
theorem dX11_sub_10 : decode cX11_sub 10 = .ok (.istore_n 2, 1) := by decide +kernel
theorem dX11_sub_11 : decode cX11_sub 11 = .ok (.iconst 1, 1) := by decide +kernel
theorem dX11_sub_12 : decode cX11_sub 12 = .ok (.istore_n 3, 1) := by decide +kernel
theorem dX11_sub_13 : decode cX11_sub 13 = .ok (.iload_n 3, 1) := by decide +kernel
theorem dX11_sub_14 : decode cX11_sub 14 = .ok (.bipush 60, 2) := by decide +kernel
theorem dX11_sub_16 : decode cX11_sub 16 = .ok (.if_icmp .ge 67, 3) := by decide +kernel
theorem dX11_sub_19 : decode cX11_sub 19 = .ok (.iload_n 2, 1) := by decide +kernel
theorem dX11_sub_20 : decode cX11_sub 20 = .ok (.ifCond .eq 63, 3) := by decide +kernel
theorem dX11_sub_23 : decode cX11_sub 23 = .ok (.iconst 1, 1) := by decide +kernel
theorem dX11_sub_24 : decode cX11_sub 24 = .ok (.istore 4, 2) := by decide +kernel
theorem dX11_sub_26 : decode cX11_sub 26 = .ok (.iload_n 3, 1) := by decide +kernel
theorem dX11_sub_27 : decode cX11_sub 27 = .ok (.iload 4, 2) := by decide +kernel
theorem dX11_sub_29 : decode cX11_sub 29 = .ok (.iadd, 1) := by decide +kernel
theorem dX11_sub_30 : decode cX11_sub 30 = .ok (.bipush 60, 2) := by decide +kernel
theorem dX11_sub_32 : decode cX11_sub 32 = .ok (.if_icmp .gt 45, 3) := by decide +kernel
theorem dX11_sub_35 : decode cX11_sub 35 = .ok (.iload_n 2, 1) := by decide +kernel
theorem dX11_sub_36 : decode cX11_sub 36 = .ok (.ifCond .eq 33, 3) := by decide +kernel
theorem dX11_sub_39 : decode cX11_sub 39 = .ok (.aload_n 0, 1) := by decide +kernel
theorem dX11_sub_40 : decode cX11_sub 40 = .ok (.iload_n 1, 1) := by decide +kernel
theorem dX11_sub_41 : decode cX11_sub 41 = .ok (.iload_n 3, 1) := by decide +kernel
theorem dX11_sub_42 : decode cX11_sub 42 = .ok (.invokevirtual 294, 3) := by decide +kernel
theorem dX11_sub_45 : decode cX11_sub 45 = .ok (.aload_n 0, 1) := by decide +kernel
theorem dX11_sub_46 : decode cX11_sub 46 = .ok (.iload_n 1, 1) := by decide +kernel
theorem dX11_sub_47 : decode cX11_sub 47 = .ok (.iload 4, 2) := by decide +kernel
theorem dX11_sub_49 : decode cX11_sub 49 = .ok (.invokevirtual 294, 3) := by decide +kernel
theorem dX11_sub_52 : decode cX11_sub 52 = .ok (.iadd, 1) := by decide +kernel
theorem dX11_sub_53 : decode cX11_sub 53 = .ok (.aload_n 0, 1) := by decide +kernel
theorem dX11_sub_54 : decode cX11_sub 54 = .ok (.iload_n 1, 1) := by decide +kernel
theorem dX11_sub_55 : decode cX11_sub 55 = .ok (.iload_n 3, 1) := by decide +kernel
theorem dX11_sub_56 : decode cX11_sub 56 = .ok (.iload 4, 2) := by decide +kernel
theorem dX11_sub_58 : decode cX11_sub 58 = .ok (.iadd, 1) := by decide +kernel
theorem dX11_sub_59 : decode cX11_sub 59 = .ok (.invokevirtual 294, 3) := by decide +kernel
theorem dX11_sub_62 : decode cX11_sub 62 = .ok (.if_icmp .lt 7, 3) := by decide +kernel
theorem dX11_sub_65 : decode cX11_sub 65 = .ok (.iconst 1, 1) := by decide +kernel
theorem dX11_sub_66 : decode cX11_sub 66 = .ok (.goto 4, 3) := by decide +kernel
theorem dX11_sub_69 : decode cX11_sub 69 = .ok (.iconst 0, 1) := by decide +kernel
theorem dX11_sub_70 : decode cX11_sub 70 = .ok (.istore_n 2, 1) := by decide +kernel
theorem dX11_sub_71 : decode cX11_sub 71 = .ok (.iinc 4 1, 3) := by decide +kernel
theorem dX11_sub_74 : decode cX11_sub 74 = .ok (.goto (-48), 3) := by decide +kernel
theorem dX11_sub_77 : decode cX11_sub 77 = .ok (.iinc 3 1, 3) := by decide +kernel
theorem dX11_sub_80 : decode cX11_sub 80 = .ok (.goto (-67), 3) := by decide +kernel
theorem dX11_sub_83 : decode cX11_sub 83 = .ok (.iload_n 2, 1) := by decide +kernel
theorem dX11_sub_84 : decode cX11_sub 84 = .ok (.ireturn, 1) := by decide +kernel
theorem dX11_sumOf_0 : decode cX11_sumOf 0 = .ok (.iconst 0, 1) := by decide +kernel
theorem dX11_sumOf_1 : decode cX11_sumOf 1 = .ok (.istore_n 2, 1) := by decide +kernel
theorem dX11_sumOf_2 : decode cX11_sumOf 2 = .ok (.iconst 0, 1) := by decide +kernel
theorem dX11_sumOf_3 : decode cX11_sumOf 3 = .ok (.istore_n 3, 1) := by decide +kernel
theorem dX11_sumOf_4 : decode cX11_sumOf 4 = .ok (.iload_n 3, 1) := by decide +kernel
theorem dX11_sumOf_5 : decode cX11_sumOf 5 = .ok (.iconst 4, 1) := by decide +kernel
theorem dX11_sumOf_6 : decode cX11_sumOf 6 = .ok (.if_icmp .ge 20, 3) := by decide +kernel
theorem dX11_sumOf_9 : decode cX11_sumOf 9 = .ok (.iload_n 2, 1) := by decide +kernel
theorem dX11_sumOf_10 : decode cX11_sumOf 10 = .ok (.aload_n 0, 1) := by decide +kernel
theorem dX11_sumOf_11 : decode cX11_sumOf 11 = .ok (.getfield 101, 3) := by decide +kernel
theorem dX11_sumOf_14 : decode cX11_sumOf 14 = .ok (.iload_n 1, 1) := by decide +kernel
theorem dX11_sumOf_15 : decode cX11_sumOf 15 = .ok (.iload_n 3, 1) := by decide +kernel
theorem dX11_sumOf_16 : decode cX11_sumOf 16 = .ok (.iadd, 1) := by decide +kernel
theorem dX11_sumOf_17 : decode cX11_sumOf 17 = .ok (.iaload, 1) := by decide +kernel
theorem dX11_sumOf_18 : decode cX11_sumOf 18 = .ok (.iadd, 1) := by decide +kernel
theorem dX11_sumOf_19 : decode cX11_sumOf 19 = .ok (.istore_n 2, 1) := by decide +kernel
theorem dX11_sumOf_20 : decode cX11_sumOf 20 = .ok (.iinc 3 1, 3) := by decide +kernel
theorem dX11_sumOf_23 : decode cX11_sumOf 23 = .ok (.goto (-19), 3) := by decide +kernel
theorem dX11_sumOf_26 : decode cX11_sumOf 26 = .ok (.iload_n 2, 1) := by decide +kernel
theorem dX11_sumOf_27 : decode cX11_sumOf 27 = .ok (.ireturn, 1) := by decide +kernel
theorem dX11_sums_0 : decode cX11_sums 0 = .ok (.aload_n 0, 1) := by decide +kernel
theorem dX11_sums_1 : decode cX11_sums 1 = .ok (.iload_n 1, 1) := by decide +kernel
theorem dX11_sums_2 : decode cX11_sums 2 = .ok (.invokevirtual 258, 3) := by decide +kernel
theorem dX11_sums_5 : decode cX11_sums 5 = .ok (.aload_n 0, 1) := by decide +kernel
theorem dX11_sums_6 : decode cX11_sums 6 = .ok (.bipush 43, 2) := by decide +kernel
theorem dX11_sums_8 : decode cX11_sums 8 = .ok (.invokevirtual 171, 3) := by decide +kernel
theorem dX11_sums_11 : decode cX11_sums 11 = .ok (.ifCond .ne 12, 3) := by decide +kernel
theorem dX11_sums_14 : decode cX11_sums 14 = .ok (.aload_n 0, 1) := by decide +kernel
theorem dX11_sums_15 : decode cX11_sums 15 = .ok (.bipush 45, 2) := by decide +kernel
theorem dX11_sums_17 : decode cX11_sums 17 = .ok (.invokevirtual 171, 3) := by decide +kernel
theorem dX11_sums_20 : decode cX11_sums 20 = .ok (.ifCond .eq 42, 3) := by decide +kernel
theorem dX11_sums_23 : decode cX11_sums 23 = .ok (.aload_n 0, 1) := by decide +kernel
theorem dX11_sums_24 : decode cX11_sums 24 = .ok (.bipush 43, 2) := by decide +kernel
theorem dX11_sums_26 : decode cX11_sums 26 = .ok (.invokevirtual 171, 3) := by decide +kernel
theorem dX11_sums_29 : decode cX11_sums 29 = .ok (.istore_n 2, 1) := by decide +kernel
theorem dX11_sums_30 : decode cX11_sums 30 = .ok (.aload_n 0, 1) := by decide +kernel
theorem dX11_sums_31 : decode cX11_sums 31 = .ok (.dup, 1) := by decide +kernel
theorem dX11_sums_32 : decode cX11_sums 32 = .ok (.getfield 165, 3) := by decide +kernel
theorem dX11_sums_35 : decode cX11_sums 35 = .ok (.iconst 1, 1) := by decide +kernel
theorem dX11_sums_36 : decode cX11_sums 36 = .ok (.iadd, 1) := by decide +kernel
theorem dX11_sums_37 : decode cX11_sums 37 = .ok (.putfield 165, 3) := by decide +kernel
theorem dX11_sums_40 : decode cX11_sums 40 = .ok (.aload_n 0, 1) := by decide +kernel
theorem dX11_sums_41 : decode cX11_sums 41 = .ok (.iload_n 1, 1) := by decide +kernel
theorem dX11_sums_42 : decode cX11_sums 42 = .ok (.invokevirtual 258, 3) := by decide +kernel
theorem dX11_sums_45 : decode cX11_sums 45 = .ok (.aload_n 0, 1) := by decide +kernel
theorem dX11_sums_46 : decode cX11_sums 46 = .ok (.iload_n 2, 1) := by decide +kernel
theorem dX11_sums_47 : decode cX11_sums 47 = .ok (.ifCond .eq 7, 3) := by decide +kernel
theorem dX11_sums_50 : decode cX11_sums 50 = .ok (.iconst 4, 1) := by decide +kernel
theorem dX11_sums_51 : decode cX11_sums 51 = .ok (.goto 4, 3) := by decide +kernel
theorem dX11_sums_54 : decode cX11_sums 54 = .ok (.iconst 5, 1) := by decide +kernel
theorem dX11_sums_55 : decode cX11_sums 55 = .ok (.iconst 0, 1) := by decide +kernel
theorem dX11_sums_56 : decode cX11_sums 56 = .ok (.invokevirtual 227, 3) := by decide +kernel
theorem dX11_sums_59 : decode cX11_sums 59 = .ok (.goto (-54), 3) := by decide +kernel
theorem dX11_sums_62 : decode cX11_sums 62 = .ok (.return_, 1) := by decide +kernel
theorem dX11_takeAfter_0 : decode cX11_takeAfter 0 = .ok (.aload_n 0, 1) := by decide +kernel
theorem dX11_takeAfter_1 : decode cX11_takeAfter 1 = .ok (.iload_n 1, 1) := by decide +kernel
theorem dX11_takeAfter_2 : decode cX11_takeAfter 2 = .ok (.invokevirtual 183, 3) := by decide +kernel
theorem dX11_takeAfter_5 : decode cX11_takeAfter 5 = .ok (.aload_n 0, 1) := by decide +kernel
theorem dX11_takeAfter_6 : decode cX11_takeAfter 6 = .ok (.iload_n 2, 1) := by decide +kernel
theorem dX11_takeAfter_7 : decode cX11_takeAfter 7 = .ok (.iload_n 3, 1) := by decide +kernel
theorem dX11_takeAfter_8 : decode cX11_takeAfter 8 = .ok (.invokevirtual 186, 3) := by decide +kernel
theorem dX11_takeAfter_11 : decode cX11_takeAfter 11 = .ok (.ireturn, 1) := by decide +kernel
theorem dX11_takeNumber_0 : decode cX11_takeNumber 0 = .ok (.aload_n 0, 1) := by decide +kernel
theorem dX11_takeNumber_1 : decode cX11_takeNumber 1 = .ok (.getfield 168, 3) := by decide +kernel
theorem dX11_takeNumber_4 : decode cX11_takeNumber 4 = .ok (.ifCond .ne 24, 3) := by decide +kernel
theorem dX11_takeNumber_7 : decode cX11_takeNumber 7 = .ok (.aload_n 0, 1) := by decide +kernel
theorem dX11_takeNumber_8 : decode cX11_takeNumber 8 = .ok (.getfield 24, 3) := by decide +kernel
theorem dX11_takeNumber_11 : decode cX11_takeNumber 11 = .ok (.aload_n 0, 1) := by decide +kernel
theorem dX11_takeNumber_12 : decode cX11_takeNumber 12 = .ok (.getfield 165, 3) := by decide +kernel
theorem dX11_takeNumber_15 : decode cX11_takeNumber 15 = .ok (.iaload, 1) := by decide +kernel
theorem dX11_takeNumber_16 : decode cX11_takeNumber 16 = .ok (.iconst 2, 1) := by decide +kernel
theorem dX11_takeNumber_17 : decode cX11_takeNumber 17 = .ok (.if_icmp .eq 11, 3) := by decide +kernel
theorem dX11_takeNumber_20 : decode cX11_takeNumber 20 = .ok (.aload_n 0, 1) := by decide +kernel
theorem dX11_takeNumber_21 : decode cX11_takeNumber 21 = .ok (.iconst 1, 1) := by decide +kernel
theorem dX11_takeNumber_22 : decode cX11_takeNumber 22 = .ok (.invokevirtual 174, 3) := by decide +kernel
theorem dX11_takeNumber_25 : decode cX11_takeNumber 25 = .ok (.goto 45, 3) := by decide +kernel
theorem dX11_takeNumber_28 : decode cX11_takeNumber 28 = .ok (.aload_n 0, 1) := by decide +kernel
theorem dX11_takeNumber_29 : decode cX11_takeNumber 29 = .ok (.getfield 168, 3) := by decide +kernel
theorem dX11_takeNumber_32 : decode cX11_takeNumber 32 = .ok (.ifCond .ne 38, 3) := by decide +kernel
theorem dX11_takeNumber_35 : decode cX11_takeNumber 35 = .ok (.aload_n 0, 1) := by decide +kernel
theorem dX11_takeNumber_36 : decode cX11_takeNumber 36 = .ok (.getfield 30, 3) := by decide +kernel
theorem dX11_takeNumber_39 : decode cX11_takeNumber 39 = .ok (.aload_n 0, 1) := by decide +kernel
theorem dX11_takeNumber_40 : decode cX11_takeNumber 40 = .ok (.getfield 165, 3) := by decide +kernel
theorem dX11_takeNumber_43 : decode cX11_takeNumber 43 = .ok (.laload, 1) := by decide +kernel
theorem dX11_takeNumber_44 : decode cX11_takeNumber 44 = .ok (.iload_n 1, 1) := by decide +kernel
theorem dX11_takeNumber_45 : decode cX11_takeNumber 45 = .ok (.i2l, 1) := by decide +kernel
theorem dX11_takeNumber_46 : decode cX11_takeNumber 46 = .ok (.lcmp, 1) := by decide +kernel
theorem dX11_takeNumber_47 : decode cX11_takeNumber 47 = .ok (.ifCond .lt 18, 3) := by decide +kernel
theorem dX11_takeNumber_50 : decode cX11_takeNumber 50 = .ok (.aload_n 0, 1) := by decide +kernel
theorem dX11_takeNumber_51 : decode cX11_takeNumber 51 = .ok (.getfield 30, 3) := by decide +kernel
theorem dX11_takeNumber_54 : decode cX11_takeNumber 54 = .ok (.aload_n 0, 1) := by decide +kernel
theorem dX11_takeNumber_55 : decode cX11_takeNumber 55 = .ok (.getfield 165, 3) := by decide +kernel
theorem dX11_takeNumber_58 : decode cX11_takeNumber 58 = .ok (.laload, 1) := by decide +kernel
theorem dX11_takeNumber_59 : decode cX11_takeNumber 59 = .ok (.iload_n 2, 1) := by decide +kernel
theorem dX11_takeNumber_60 : decode cX11_takeNumber 60 = .ok (.i2l, 1) := by decide +kernel
theorem dX11_takeNumber_61 : decode cX11_takeNumber 61 = .ok (.lcmp, 1) := by decide +kernel
theorem dX11_takeNumber_62 : decode cX11_takeNumber 62 = .ok (.ifCond .le 8, 3) := by decide +kernel
theorem dX11_takeNumber_65 : decode cX11_takeNumber 65 = .ok (.aload_n 0, 1) := by decide +kernel
theorem dX11_takeNumber_66 : decode cX11_takeNumber 66 = .ok (.iconst 4, 1) := by decide +kernel
theorem dX11_takeNumber_67 : decode cX11_takeNumber 67 = .ok (.invokevirtual 174, 3) := by decide +kernel
theorem dX11_takeNumber_70 : decode cX11_takeNumber 70 = .ok (.aload_n 0, 1) := by decide +kernel
theorem dX11_takeNumber_71 : decode cX11_takeNumber 71 = .ok (.getfield 168, 3) := by decide +kernel
theorem dX11_takeNumber_74 : decode cX11_takeNumber 74 = .ok (.ifCond .le 5, 3) := by decide +kernel
theorem dX11_takeNumber_77 : decode cX11_takeNumber 77 = .ok (.iconst 0, 1) := by decide +kernel
theorem dX11_takeNumber_78 : decode cX11_takeNumber 78 = .ok (.ireturn, 1) := by decide +kernel
theorem dX11_takeNumber_79 : decode cX11_takeNumber 79 = .ok (.aload_n 0, 1) := by decide +kernel
theorem dX11_takeNumber_80 : decode cX11_takeNumber 80 = .ok (.dup, 1) := by decide +kernel
theorem dX11_takeNumber_81 : decode cX11_takeNumber 81 = .ok (.getfield 165, 3) := by decide +kernel
theorem dX11_takeNumber_84 : decode cX11_takeNumber 84 = .ok (.iconst 1, 1) := by decide +kernel
theorem dX11_takeNumber_85 : decode cX11_takeNumber 85 = .ok (.iadd, 1) := by decide +kernel
theorem dX11_takeNumber_86 : decode cX11_takeNumber 86 = .ok (.putfield 165, 3) := by decide +kernel
theorem dX11_takeNumber_89 : decode cX11_takeNumber 89 = .ok (.aload_n 0, 1) := by decide +kernel
theorem dX11_takeNumber_90 : decode cX11_takeNumber 90 = .ok (.getfield 30, 3) := by decide +kernel
theorem dX11_takeNumber_93 : decode cX11_takeNumber 93 = .ok (.aload_n 0, 1) := by decide +kernel
theorem dX11_takeNumber_94 : decode cX11_takeNumber 94 = .ok (.getfield 165, 3) := by decide +kernel
theorem dX11_takeNumber_97 : decode cX11_takeNumber 97 = .ok (.iconst 1, 1) := by decide +kernel
theorem dX11_takeNumber_98 : decode cX11_takeNumber 98 = .ok (.isub, 1) := by decide +kernel
theorem dX11_takeNumber_99 : decode cX11_takeNumber 99 = .ok (.laload, 1) := by decide +kernel
theorem dX11_takeNumber_100 : decode cX11_takeNumber 100 = .ok (.l2i, 1) := by decide +kernel
theorem dX11_takeNumber_101 : decode cX11_takeNumber 101 = .ok (.ireturn, 1) := by decide +kernel
theorem dX11_takeOne_0 : decode cX11_takeOne 0 = .ok (.aload_n 0, 1) := by decide +kernel
theorem dX11_takeOne_1 : decode cX11_takeOne 1 = .ok (.getfield 168, 3) := by decide +kernel
theorem dX11_takeOne_4 : decode cX11_takeOne 4 = .ok (.ifCond .le 7, 3) := by decide +kernel
theorem dX11_takeOne_7 : decode cX11_takeOne 7 = .ok (.iconst (-1), 1) := by decide +kernel
theorem dX11_takeOne_8 : decode cX11_takeOne 8 = .ok (.goto 9, 3) := by decide +kernel
theorem dX11_takeOne_11 : decode cX11_takeOne 11 = .ok (.aload_n 0, 1) := by decide +kernel
theorem dX11_takeOne_12 : decode cX11_takeOne 12 = .ok (.iload_n 1, 1) := by decide +kernel
theorem dX11_takeOne_13 : decode cX11_takeOne 13 = .ok (.iload_n 2, 1) := by decide +kernel
theorem dX11_takeOne_14 : decode cX11_takeOne 14 = .ok (.invokevirtual 190, 3) := by decide +kernel
theorem dX11_takeOne_17 : decode cX11_takeOne 17 = .ok (.istore_n 3, 1) := by decide +kernel
theorem dX11_takeOne_18 : decode cX11_takeOne 18 = .ok (.aload_n 0, 1) := by decide +kernel
theorem dX11_takeOne_19 : decode cX11_takeOne 19 = .ok (.getfield 168, 3) := by decide +kernel
theorem dX11_takeOne_22 : decode cX11_takeOne 22 = .ok (.ifCond .ne 12, 3) := by decide +kernel
theorem dX11_takeOne_25 : decode cX11_takeOne 25 = .ok (.iload_n 3, 1) := by decide +kernel
theorem dX11_takeOne_26 : decode cX11_takeOne 26 = .ok (.ifCond .ge 8, 3) := by decide +kernel
theorem dX11_takeOne_29 : decode cX11_takeOne 29 = .ok (.aload_n 0, 1) := by decide +kernel
theorem dX11_takeOne_30 : decode cX11_takeOne 30 = .ok (.iconst 1, 1) := by decide +kernel
theorem dX11_takeOne_31 : decode cX11_takeOne 31 = .ok (.invokevirtual 174, 3) := by decide +kernel
theorem dX11_takeOne_34 : decode cX11_takeOne 34 = .ok (.aload_n 0, 1) := by decide +kernel
theorem dX11_takeOne_35 : decode cX11_takeOne 35 = .ok (.dup, 1) := by decide +kernel
theorem dX11_takeOne_36 : decode cX11_takeOne 36 = .ok (.getfield 165, 3) := by decide +kernel
theorem dX11_takeOne_39 : decode cX11_takeOne 39 = .ok (.aload_n 0, 1) := by decide +kernel
theorem dX11_takeOne_40 : decode cX11_takeOne 40 = .ok (.getfield 168, 3) := by decide +kernel
theorem dX11_takeOne_43 : decode cX11_takeOne 43 = .ok (.ifCond .le 7, 3) := by decide +kernel
theorem dX11_takeOne_46 : decode cX11_takeOne 46 = .ok (.iconst 0, 1) := by decide +kernel
theorem dX11_takeOne_47 : decode cX11_takeOne 47 = .ok (.goto 4, 3) := by decide +kernel
theorem dX11_takeOne_50 : decode cX11_takeOne 50 = .ok (.iconst 1, 1) := by decide +kernel
theorem dX11_takeOne_51 : decode cX11_takeOne 51 = .ok (.iadd, 1) := by decide +kernel
theorem dX11_takeOne_52 : decode cX11_takeOne 52 = .ok (.putfield 165, 3) := by decide +kernel
theorem dX11_takeOne_55 : decode cX11_takeOne 55 = .ok (.aload_n 0, 1) := by decide +kernel
theorem dX11_takeOne_56 : decode cX11_takeOne 56 = .ok (.getfield 168, 3) := by decide +kernel
theorem dX11_takeOne_59 : decode cX11_takeOne 59 = .ok (.ifCond .le 7, 3) := by decide +kernel
theorem dX11_takeOne_62 : decode cX11_takeOne 62 = .ok (.iconst 0, 1) := by decide +kernel
theorem dX11_takeOne_63 : decode cX11_takeOne 63 = .ok (.goto 4, 3) := by decide +kernel
theorem dX11_takeOne_66 : decode cX11_takeOne 66 = .ok (.iload_n 3, 1) := by decide +kernel
theorem dX11_takeOne_67 : decode cX11_takeOne 67 = .ok (.ireturn, 1) := by decide +kernel
theorem dX11_takePart_0 : decode cX11_takePart 0 = .ok (.aload_n 0, 1) := by decide +kernel
theorem dX11_takePart_1 : decode cX11_takePart 1 = .ok (.getfield 168, 3) := by decide +kernel
theorem dX11_takePart_4 : decode cX11_takePart 4 = .ok (.ifCond .le 4, 3) := by decide +kernel
theorem dX11_takePart_7 : decode cX11_takePart 7 = .ok (.return_, 1) := by decide +kernel
theorem dX11_takePart_8 : decode cX11_takePart 8 = .ok (.aload_n 0, 1) := by decide +kernel
theorem dX11_takePart_9 : decode cX11_takePart 9 = .ok (.getfield 24, 3) := by decide +kernel
theorem dX11_takePart_12 : decode cX11_takePart 12 = .ok (.aload_n 0, 1) := by decide +kernel
theorem dX11_takePart_13 : decode cX11_takePart 13 = .ok (.getfield 165, 3) := by decide +kernel
theorem dX11_takePart_16 : decode cX11_takePart 16 = .ok (.iaload, 1) := by decide +kernel
theorem dX11_takePart_17 : decode cX11_takePart 17 = .ok (.iconst 2, 1) := by decide +kernel
theorem dX11_takePart_18 : decode cX11_takePart 18 = .ok (.if_icmp .ne 7, 3) := by decide +kernel
theorem dX11_takePart_21 : decode cX11_takePart 21 = .ok (.iconst 1, 1) := by decide +kernel
theorem dX11_takePart_22 : decode cX11_takePart 22 = .ok (.goto 4, 3) := by decide +kernel
theorem dX11_takePart_25 : decode cX11_takePart 25 = .ok (.iconst 0, 1) := by decide +kernel
theorem dX11_takePart_26 : decode cX11_takePart 26 = .ok (.istore_n 2, 1) := by decide +kernel
theorem dX11_takePart_27 : decode cX11_takePart 27 = .ok (.aload_n 0, 1) := by decide +kernel
theorem dX11_takePart_28 : decode cX11_takePart 28 = .ok (.bipush 19, 2) := by decide +kernel
theorem dX11_takePart_30 : decode cX11_takePart 30 = .ok (.iconst 4, 1) := by decide +kernel
theorem dX11_takePart_31 : decode cX11_takePart 31 = .ok (.invokevirtual 190, 3) := by decide +kernel
theorem dX11_takePart_34 : decode cX11_takePart 34 = .ok (.istore_n 3, 1) := by decide +kernel
theorem dX11_takePart_35 : decode cX11_takePart 35 = .ok (.iload_n 3, 1) := by decide +kernel
theorem dX11_takePart_36 : decode cX11_takePart 36 = .ok (.ifCond .ge 33, 3) := by decide +kernel
theorem dX11_takePart_39 : decode cX11_takePart 39 = .ok (.iload_n 2, 1) := by decide +kernel
theorem dX11_takePart_40 : decode cX11_takePart 40 = .ok (.ifCond .ne 29, 3) := by decide +kernel
theorem dX11_takePart_43 : decode cX11_takePart 43 = .ok (.aload_n 0, 1) := by decide +kernel
theorem dX11_takePart_44 : decode cX11_takePart 44 = .ok (.bipush 40, 2) := by decide +kernel
theorem dX11_takePart_46 : decode cX11_takePart 46 = .ok (.invokevirtual 171, 3) := by decide +kernel
theorem dX11_takePart_49 : decode cX11_takePart 49 = .ok (.ifCond .ne 20, 3) := by decide +kernel
theorem dX11_takePart_52 : decode cX11_takePart 52 = .ok (.aload_n 0, 1) := by decide +kernel
theorem dX11_takePart_53 : decode cX11_takePart 53 = .ok (.bipush 16, 2) := by decide +kernel
theorem dX11_takePart_55 : decode cX11_takePart 55 = .ok (.invokevirtual 177, 3) := by decide +kernel
theorem dX11_takePart_58 : decode cX11_takePart 58 = .ok (.ifCond .ne 11, 3) := by decide +kernel
theorem dX11_takePart_61 : decode cX11_takePart 61 = .ok (.aload_n 0, 1) := by decide +kernel
theorem dX11_takePart_62 : decode cX11_takePart 62 = .ok (.iconst 1, 1) := by decide +kernel
theorem dX11_takePart_63 : decode cX11_takePart 63 = .ok (.invokevirtual 174, 3) := by decide +kernel
theorem dX11_takePart_66 : decode cX11_takePart 66 = .ok (.goto 13, 3) := by decide +kernel
theorem dX11_takePart_69 : decode cX11_takePart 69 = .ok (.iload_n 1, 1) := by decide +kernel
theorem dX11_takePart_70 : decode cX11_takePart 70 = .ok (.iconst 5, 1) := by decide +kernel
theorem dX11_takePart_71 : decode cX11_takePart 71 = .ok (.if_icmp .ne 8, 3) := by decide +kernel
theorem dX11_takePart_74 : decode cX11_takePart 74 = .ok (.aload_n 0, 1) := by decide +kernel
theorem dX11_takePart_75 : decode cX11_takePart 75 = .ok (.iconst 5, 1) := by decide +kernel
theorem dX11_takePart_76 : decode cX11_takePart 76 = .ok (.invokevirtual 174, 3) := by decide +kernel
theorem dX11_takePart_79 : decode cX11_takePart 79 = .ok (.aload_n 0, 1) := by decide +kernel
theorem dX11_takePart_80 : decode cX11_takePart 80 = .ok (.getfield 168, 3) := by decide +kernel
theorem dX11_takePart_83 : decode cX11_takePart 83 = .ok (.ifCond .le 4, 3) := by decide +kernel
theorem dX11_takePart_86 : decode cX11_takePart 86 = .ok (.return_, 1) := by decide +kernel
theorem dX11_takePart_87 : decode cX11_takePart 87 = .ok (.aload_n 0, 1) := by decide +kernel
theorem dX11_takePart_88 : decode cX11_takePart 88 = .ok (.bipush 16, 2) := by decide +kernel
theorem dX11_takePart_90 : decode cX11_takePart 90 = .ok (.invokevirtual 180, 3) := by decide +kernel
theorem dX11_takePart_93 : decode cX11_takePart 93 = .ok (.ifCond .eq 19, 3) := by decide +kernel
theorem dX11_takePart_96 : decode cX11_takePart 96 = .ok (.aload_n 0, 1) := by decide +kernel
theorem dX11_takePart_97 : decode cX11_takePart 97 = .ok (.iload_n 1, 1) := by decide +kernel
theorem dX11_takePart_98 : decode cX11_takePart 98 = .ok (.iconst 1, 1) := by decide +kernel
theorem dX11_takePart_99 : decode cX11_takePart 99 = .ok (.iadd, 1) := by decide +kernel
theorem dX11_takePart_100 : decode cX11_takePart 100 = .ok (.invokevirtual 261, 3) := by decide +kernel
theorem dX11_takePart_103 : decode cX11_takePart 103 = .ok (.aload_n 0, 1) := by decide +kernel
theorem dX11_takePart_104 : decode cX11_takePart 104 = .ok (.iconst 3, 1) := by decide +kernel
theorem dX11_takePart_105 : decode cX11_takePart 105 = .ok (.iconst 0, 1) := by decide +kernel
theorem dX11_takePart_106 : decode cX11_takePart 106 = .ok (.invokevirtual 227, 3) := by decide +kernel
theorem dX11_takePart_109 : decode cX11_takePart 109 = .ok (.goto 69, 3) := by decide +kernel
theorem dX11_takePart_112 : decode cX11_takePart 112 = .ok (.aload_n 0, 1) := by decide +kernel
theorem dX11_takePart_113 : decode cX11_takePart 113 = .ok (.bipush 40, 2) := by decide +kernel
theorem dX11_takePart_115 : decode cX11_takePart 115 = .ok (.invokevirtual 255, 3) := by decide +kernel
theorem dX11_takePart_118 : decode cX11_takePart 118 = .ok (.ifCond .eq 19, 3) := by decide +kernel
theorem dX11_takePart_121 : decode cX11_takePart 121 = .ok (.aload_n 0, 1) := by decide +kernel
theorem dX11_takePart_122 : decode cX11_takePart 122 = .ok (.iload_n 1, 1) := by decide +kernel
theorem dX11_takePart_123 : decode cX11_takePart 123 = .ok (.iconst 1, 1) := by decide +kernel
theorem dX11_takePart_124 : decode cX11_takePart 124 = .ok (.iadd, 1) := by decide +kernel
theorem dX11_takePart_125 : decode cX11_takePart 125 = .ok (.invokevirtual 224, 3) := by decide +kernel
theorem dX11_takePart_128 : decode cX11_takePart 128 = .ok (.aload_n 0, 1) := by decide +kernel
theorem dX11_takePart_129 : decode cX11_takePart 129 = .ok (.bipush 41, 2) := by decide +kernel
theorem dX11_takePart_131 : decode cX11_takePart 131 = .ok (.invokevirtual 209, 3) := by decide +kernel
theorem dX11_takePart_134 : decode cX11_takePart 134 = .ok (.goto 44, 3) := by decide +kernel
theorem dX11_takePart_137 : decode cX11_takePart 137 = .ok (.aload_n 0, 1) := by decide +kernel
theorem dX11_takePart_138 : decode cX11_takePart 138 = .ok (.iload_n 2, 1) := by decide +kernel
theorem dX11_takePart_139 : decode cX11_takePart 139 = .ok (.ifCond .eq 7, 3) := by decide +kernel
theorem dX11_takePart_142 : decode cX11_takePart 142 = .ok (.iconst 1, 1) := by decide +kernel
theorem dX11_takePart_143 : decode cX11_takePart 143 = .ok (.goto 4, 3) := by decide +kernel
theorem dX11_takePart_146 : decode cX11_takePart 146 = .ok (.iconst 2, 1) := by decide +kernel
theorem dX11_takePart_147 : decode cX11_takePart 147 = .ok (.iload_n 2, 1) := by decide +kernel
theorem dX11_takePart_148 : decode cX11_takePart 148 = .ok (.ifCond .eq 16, 3) := by decide +kernel
theorem dX11_takePart_151 : decode cX11_takePart 151 = .ok (.aload_n 0, 1) := by decide +kernel
theorem dX11_takePart_152 : decode cX11_takePart 152 = .ok (.getfield 30, 3) := by decide +kernel
theorem dX11_takePart_155 : decode cX11_takePart 155 = .ok (.aload_n 0, 1) := by decide +kernel
theorem dX11_takePart_156 : decode cX11_takePart 156 = .ok (.getfield 165, 3) := by decide +kernel
theorem dX11_takePart_159 : decode cX11_takePart 159 = .ok (.laload, 1) := by decide +kernel
theorem dX11_takePart_160 : decode cX11_takePart 160 = .ok (.l2i, 1) := by decide +kernel
theorem dX11_takePart_161 : decode cX11_takePart 161 = .ok (.goto 4, 3) := by decide +kernel
theorem dX11_takePart_164 : decode cX11_takePart 164 = .ok (.iload_n 3, 1) := by decide +kernel
theorem dX11_takePart_165 : decode cX11_takePart 165 = .ok (.invokevirtual 227, 3) := by decide +kernel
theorem dX11_takePart_168 : decode cX11_takePart 168 = .ok (.aload_n 0, 1) := by decide +kernel
theorem dX11_takePart_169 : decode cX11_takePart 169 = .ok (.dup, 1) := by decide +kernel
theorem dX11_takePart_170 : decode cX11_takePart 170 = .ok (.getfield 165, 3) := by decide +kernel
theorem dX11_takePart_173 : decode cX11_takePart 173 = .ok (.iconst 1, 1) := by decide +kernel
theorem dX11_takePart_174 : decode cX11_takePart 174 = .ok (.iadd, 1) := by decide +kernel
theorem dX11_takePart_175 : decode cX11_takePart 175 = .ok (.putfield 165, 3) := by decide +kernel
theorem dX11_takePart_178 : decode cX11_takePart 178 = .ok (.return_, 1) := by decide +kernel
theorem dX11_takeSign_0 : decode cX11_takeSign 0 = .ok (.aload_n 0, 1) := by decide +kernel
theorem dX11_takeSign_1 : decode cX11_takeSign 1 = .ok (.iload_n 1, 1) := by decide +kernel
theorem dX11_takeSign_2 : decode cX11_takeSign 2 = .ok (.invokevirtual 171, 3) := by decide +kernel
theorem dX11_takeSign_5 : decode cX11_takeSign 5 = .ok (.ifCond .eq 16, 3) := by decide +kernel
theorem dX11_takeSign_8 : decode cX11_takeSign 8 = .ok (.aload_n 0, 1) := by decide +kernel
theorem dX11_takeSign_9 : decode cX11_takeSign 9 = .ok (.dup, 1) := by decide +kernel
theorem dX11_takeSign_10 : decode cX11_takeSign 10 = .ok (.getfield 165, 3) := by decide +kernel
theorem dX11_takeSign_13 : decode cX11_takeSign 13 = .ok (.iconst 1, 1) := by decide +kernel
theorem dX11_takeSign_14 : decode cX11_takeSign 14 = .ok (.iadd, 1) := by decide +kernel
theorem dX11_takeSign_15 : decode cX11_takeSign 15 = .ok (.putfield 165, 3) := by decide +kernel
theorem dX11_takeSign_18 : decode cX11_takeSign 18 = .ok (.goto 8, 3) := by decide +kernel
theorem dX11_takeSign_21 : decode cX11_takeSign 21 = .ok (.aload_n 0, 1) := by decide +kernel
theorem dX11_takeSign_22 : decode cX11_takeSign 22 = .ok (.iconst 1, 1) := by decide +kernel
theorem dX11_takeSign_23 : decode cX11_takeSign 23 = .ok (.invokevirtual 174, 3) := by decide +kernel
theorem dX11_takeSign_26 : decode cX11_takeSign 26 = .ok (.return_, 1) := by decide +kernel
theorem dX11_takeTold_0 : decode cX11_takeTold 0 = .ok (.aload_n 0, 1) := by decide +kernel
theorem dX11_takeTold_1 : decode cX11_takeTold 1 = .ok (.getfield 168, 3) := by decide +kernel
theorem dX11_takeTold_4 : decode cX11_takeTold 4 = .ok (.ifCond .ne 15, 3) := by decide +kernel
theorem dX11_takeTold_7 : decode cX11_takeTold 7 = .ok (.aload_n 0, 1) := by decide +kernel
theorem dX11_takeTold_8 : decode cX11_takeTold 8 = .ok (.invokevirtual 193, 3) := by decide +kernel
theorem dX11_takeTold_11 : decode cX11_takeTold 11 = .ok (.ifCond .ne 8, 3) := by decide +kernel
theorem dX11_takeTold_14 : decode cX11_takeTold 14 = .ok (.aload_n 0, 1) := by decide +kernel
theorem dX11_takeTold_15 : decode cX11_takeTold 15 = .ok (.iconst 1, 1) := by decide +kernel
theorem dX11_takeTold_16 : decode cX11_takeTold 16 = .ok (.invokevirtual 174, 3) := by decide +kernel
theorem dX11_takeTold_19 : decode cX11_takeTold 19 = .ok (.aload_n 0, 1) := by decide +kernel
theorem dX11_takeTold_20 : decode cX11_takeTold 20 = .ok (.getfield 168, 3) := by decide +kernel
theorem dX11_takeTold_23 : decode cX11_takeTold 23 = .ok (.ifCond .le 7, 3) := by decide +kernel
theorem dX11_takeTold_26 : decode cX11_takeTold 26 = .ok (.iconst (-1), 1) := by decide +kernel
theorem dX11_takeTold_27 : decode cX11_takeTold 27 = .ok (.goto 9, 3) := by decide +kernel
theorem dX11_takeTold_30 : decode cX11_takeTold 30 = .ok (.aload_n 0, 1) := by decide +kernel
theorem dX11_takeTold_31 : decode cX11_takeTold 31 = .ok (.iload_n 1, 1) := by decide +kernel
theorem dX11_takeTold_32 : decode cX11_takeTold 32 = .ok (.iload_n 2, 1) := by decide +kernel
theorem dX11_takeTold_33 : decode cX11_takeTold 33 = .ok (.invokevirtual 197, 3) := by decide +kernel
theorem dX11_takeTold_36 : decode cX11_takeTold 36 = .ok (.istore 4, 2) := by decide +kernel
theorem dX11_takeTold_38 : decode cX11_takeTold 38 = .ok (.aload_n 0, 1) := by decide +kernel
theorem dX11_takeTold_39 : decode cX11_takeTold 39 = .ok (.getfield 168, 3) := by decide +kernel
theorem dX11_takeTold_42 : decode cX11_takeTold 42 = .ok (.ifCond .ne 16, 3) := by decide +kernel
theorem dX11_takeTold_45 : decode cX11_takeTold 45 = .ok (.iload 4, 2) := by decide +kernel
theorem dX11_takeTold_47 : decode cX11_takeTold 47 = .ok (.ifCond .ge 11, 3) := by decide +kernel
theorem dX11_takeTold_50 : decode cX11_takeTold 50 = .ok (.aload_n 0, 1) := by decide +kernel
theorem dX11_takeTold_51 : decode cX11_takeTold 51 = .ok (.iconst 2, 1) := by decide +kernel
theorem dX11_takeTold_52 : decode cX11_takeTold 52 = .ok (.invokevirtual 174, 3) := by decide +kernel
theorem dX11_takeTold_55 : decode cX11_takeTold 55 = .ok (.goto 25, 3) := by decide +kernel
theorem dX11_takeTold_58 : decode cX11_takeTold 58 = .ok (.aload_n 0, 1) := by decide +kernel
theorem dX11_takeTold_59 : decode cX11_takeTold 59 = .ok (.getfield 168, 3) := by decide +kernel
theorem dX11_takeTold_62 : decode cX11_takeTold 62 = .ok (.ifCond .ne 18, 3) := by decide +kernel
theorem dX11_takeTold_65 : decode cX11_takeTold 65 = .ok (.iload_n 3, 1) := by decide +kernel
theorem dX11_takeTold_66 : decode cX11_takeTold 66 = .ok (.iload 4, 2) := by decide +kernel
theorem dX11_takeTold_68 : decode cX11_takeTold 68 = .ok (.ishr, 1) := by decide +kernel
theorem dX11_takeTold_69 : decode cX11_takeTold 69 = .ok (.iconst 1, 1) := by decide +kernel
theorem dX11_takeTold_70 : decode cX11_takeTold 70 = .ok (.iand, 1) := by decide +kernel
theorem dX11_takeTold_71 : decode cX11_takeTold 71 = .ok (.iconst 1, 1) := by decide +kernel
theorem dX11_takeTold_72 : decode cX11_takeTold 72 = .ok (.if_icmp .ne 8, 3) := by decide +kernel
theorem dX11_takeTold_75 : decode cX11_takeTold 75 = .ok (.aload_n 0, 1) := by decide +kernel
theorem dX11_takeTold_76 : decode cX11_takeTold 76 = .ok (.iconst 3, 1) := by decide +kernel
theorem dX11_takeTold_77 : decode cX11_takeTold 77 = .ok (.invokevirtual 174, 3) := by decide +kernel
theorem dX11_takeTold_80 : decode cX11_takeTold 80 = .ok (.aload_n 0, 1) := by decide +kernel
theorem dX11_takeTold_81 : decode cX11_takeTold 81 = .ok (.dup, 1) := by decide +kernel
theorem dX11_takeTold_82 : decode cX11_takeTold 82 = .ok (.getfield 165, 3) := by decide +kernel
theorem dX11_takeTold_85 : decode cX11_takeTold 85 = .ok (.aload_n 0, 1) := by decide +kernel
theorem dX11_takeTold_86 : decode cX11_takeTold 86 = .ok (.getfield 168, 3) := by decide +kernel
theorem dX11_takeTold_89 : decode cX11_takeTold 89 = .ok (.ifCond .le 7, 3) := by decide +kernel
theorem dX11_takeTold_92 : decode cX11_takeTold 92 = .ok (.iconst 0, 1) := by decide +kernel
theorem dX11_takeTold_93 : decode cX11_takeTold 93 = .ok (.goto 4, 3) := by decide +kernel
theorem dX11_takeTold_96 : decode cX11_takeTold 96 = .ok (.iconst 1, 1) := by decide +kernel
theorem dX11_takeTold_97 : decode cX11_takeTold 97 = .ok (.iadd, 1) := by decide +kernel
theorem dX11_takeTold_98 : decode cX11_takeTold 98 = .ok (.putfield 165, 3) := by decide +kernel
theorem dX11_takeTold_101 : decode cX11_takeTold 101 = .ok (.aload_n 0, 1) := by decide +kernel
theorem dX11_takeTold_102 : decode cX11_takeTold 102 = .ok (.getfield 168, 3) := by decide +kernel
theorem dX11_takeTold_105 : decode cX11_takeTold 105 = .ok (.ifCond .le 7, 3) := by decide +kernel
theorem dX11_takeTold_108 : decode cX11_takeTold 108 = .ok (.iconst 0, 1) := by decide +kernel
theorem dX11_takeTold_109 : decode cX11_takeTold 109 = .ok (.goto 5, 3) := by decide +kernel
theorem dX11_takeTold_112 : decode cX11_takeTold 112 = .ok (.iload 4, 2) := by decide +kernel
theorem dX11_takeTold_114 : decode cX11_takeTold 114 = .ok (.ireturn, 1) := by decide +kernel
theorem dX11_takeWord_0 : decode cX11_takeWord 0 = .ok (.aload_n 0, 1) := by decide +kernel
theorem dX11_takeWord_1 : decode cX11_takeWord 1 = .ok (.iload_n 1, 1) := by decide +kernel
theorem dX11_takeWord_2 : decode cX11_takeWord 2 = .ok (.invokevirtual 180, 3) := by decide +kernel
theorem dX11_takeWord_5 : decode cX11_takeWord 5 = .ok (.ifCond .ne 8, 3) := by decide +kernel
theorem dX11_takeWord_8 : decode cX11_takeWord 8 = .ok (.aload_n 0, 1) := by decide +kernel
theorem dX11_takeWord_9 : decode cX11_takeWord 9 = .ok (.iconst 1, 1) := by decide +kernel
theorem dX11_takeWord_10 : decode cX11_takeWord 10 = .ok (.invokevirtual 174, 3) := by decide +kernel
theorem dX11_takeWord_13 : decode cX11_takeWord 13 = .ok (.return_, 1) := by decide +kernel
theorem dX11_test_0 : decode cX11_test 0 = .ok (.aload_n 0, 1) := by decide +kernel
theorem dX11_test_1 : decode cX11_test 1 = .ok (.iload_n 1, 1) := by decide +kernel
theorem dX11_test_2 : decode cX11_test 2 = .ok (.invokevirtual 252, 3) := by decide +kernel
theorem dX11_test_5 : decode cX11_test 5 = .ok (.aload_n 0, 1) := by decide +kernel
theorem dX11_test_6 : decode cX11_test 6 = .ok (.bipush 60, 2) := by decide +kernel
theorem dX11_test_8 : decode cX11_test 8 = .ok (.invokevirtual 171, 3) := by decide +kernel
theorem dX11_test_11 : decode cX11_test 11 = .ok (.istore_n 2, 1) := by decide +kernel
theorem dX11_test_12 : decode cX11_test 12 = .ok (.aload_n 0, 1) := by decide +kernel
theorem dX11_test_13 : decode cX11_test 13 = .ok (.bipush 60, 2) := by decide +kernel
theorem dX11_test_15 : decode cX11_test 15 = .ok (.invokevirtual 255, 3) := by decide +kernel
theorem dX11_test_18 : decode cX11_test 18 = .ok (.ifCond .ne 12, 3) := by decide +kernel
theorem dX11_test_21 : decode cX11_test 21 = .ok (.aload_n 0, 1) := by decide +kernel
theorem dX11_test_22 : decode cX11_test 22 = .ok (.bipush 61, 2) := by decide +kernel
theorem dX11_test_24 : decode cX11_test 24 = .ok (.invokevirtual 255, 3) := by decide +kernel
theorem dX11_test_27 : decode cX11_test 27 = .ok (.ifCond .eq 24, 3) := by decide +kernel
theorem dX11_test_30 : decode cX11_test 30 = .ok (.aload_n 0, 1) := by decide +kernel
theorem dX11_test_31 : decode cX11_test 31 = .ok (.iload_n 1, 1) := by decide +kernel
theorem dX11_test_32 : decode cX11_test 32 = .ok (.invokevirtual 252, 3) := by decide +kernel
theorem dX11_test_35 : decode cX11_test 35 = .ok (.aload_n 0, 1) := by decide +kernel
theorem dX11_test_36 : decode cX11_test 36 = .ok (.iload_n 2, 1) := by decide +kernel
theorem dX11_test_37 : decode cX11_test 37 = .ok (.ifCond .eq 8, 3) := by decide +kernel
theorem dX11_test_40 : decode cX11_test 40 = .ok (.bipush 7, 2) := by decide +kernel
theorem dX11_test_42 : decode cX11_test 42 = .ok (.goto 5, 3) := by decide +kernel
theorem dX11_test_45 : decode cX11_test 45 = .ok (.bipush 8, 2) := by decide +kernel
theorem dX11_test_47 : decode cX11_test 47 = .ok (.iconst 0, 1) := by decide +kernel
theorem dX11_test_48 : decode cX11_test 48 = .ok (.invokevirtual 227, 3) := by decide +kernel
theorem dX11_test_51 : decode cX11_test 51 = .ok (.return_, 1) := by decide +kernel
theorem dX11_thrown_0 : decode cX11_thrown 0 = .ok (.aload_n 0, 1) := by decide +kernel
theorem dX11_thrown_1 : decode cX11_thrown 1 = .ok (.getfield 1, 3) := by decide +kernel
theorem dX11_thrown_4 : decode cX11_thrown 4 = .ok (.ireturn, 1) := by decide +kernel
theorem dX11_tick_0 : decode cX11_tick 0 = .ok (.aload_n 0, 1) := by decide +kernel
theorem dX11_tick_1 : decode cX11_tick 1 = .ok (.iconst 0, 1) := by decide +kernel
theorem dX11_tick_2 : decode cX11_tick 2 = .ok (.putfield 1, 3) := by decide +kernel
theorem dX11_tick_5 : decode cX11_tick 5 = .ok (.aload_n 0, 1) := by decide +kernel
theorem dX11_tick_6 : decode cX11_tick 6 = .ok (.iconst 0, 1) := by decide +kernel
theorem dX11_tick_7 : decode cX11_tick 7 = .ok (.invokevirtual 413, 3) := by decide +kernel
theorem dX11_tick_10 : decode cX11_tick 10 = .ok (.ifCond .eq 11, 3) := by decide +kernel
theorem dX11_tick_13 : decode cX11_tick 13 = .ok (.aload_n 0, 1) := by decide +kernel
theorem dX11_tick_14 : decode cX11_tick 14 = .ok (.iconst 0, 1) := by decide +kernel
theorem dX11_tick_15 : decode cX11_tick 15 = .ok (.invokevirtual 416, 3) := by decide +kernel
theorem dX11_tick_18 : decode cX11_tick 18 = .ok (.goto 4, 3) := by decide +kernel
theorem dX11_tick_21 : decode cX11_tick 21 = .ok (.iconst (-1), 1) := by decide +kernel
theorem dX11_tick_22 : decode cX11_tick 22 = .ok (.ireturn, 1) := by decide +kernel
theorem dX11_ticks_0 : decode cX11_ticks 0 = .ok (.aload_n 0, 1) := by decide +kernel
theorem dX11_ticks_1 : decode cX11_ticks 1 = .ok (.getfield 101, 3) := by decide +kernel
theorem dX11_ticks_4 : decode cX11_ticks 4 = .ok (.iload_n 1, 1) := by decide +kernel
theorem dX11_ticks_5 : decode cX11_ticks 5 = .ok (.iconst 1, 1) := by decide +kernel
theorem dX11_ticks_6 : decode cX11_ticks 6 = .ok (.iadd, 1) := by decide +kernel
theorem dX11_ticks_7 : decode cX11_ticks 7 = .ok (.iaload, 1) := by decide +kernel
theorem dX11_ticks_8 : decode cX11_ticks 8 = .ok (.istore_n 2, 1) := by decide +kernel
theorem dX11_ticks_9 : decode cX11_ticks 9 = .ok (.aload_n 0, 1) := by decide +kernel
theorem dX11_ticks_10 : decode cX11_ticks 10 = .ok (.iconst 0, 1) := by decide +kernel
theorem dX11_ticks_11 : decode cX11_ticks 11 = .ok (.putfield 401, 3) := by decide +kernel
theorem dX11_ticks_14 : decode cX11_ticks 14 = .ok (.iconst 0, 1) := by decide +kernel
theorem dX11_ticks_15 : decode cX11_ticks 15 = .ok (.istore_n 3, 1) := by decide +kernel
theorem dX11_ticks_16 : decode cX11_ticks 16 = .ok (.iload_n 3, 1) := by decide +kernel
theorem dX11_ticks_17 : decode cX11_ticks 17 = .ok (.bipush 40, 2) := by decide +kernel
theorem dX11_ticks_19 : decode cX11_ticks 19 = .ok (.if_icmp .ge 16, 3) := by decide +kernel
theorem dX11_ticks_22 : decode cX11_ticks 22 = .ok (.aload_n 0, 1) := by decide +kernel
theorem dX11_ticks_23 : decode cX11_ticks 23 = .ok (.getfield 129, 3) := by decide +kernel
theorem dX11_ticks_26 : decode cX11_ticks 26 = .ok (.iload_n 3, 1) := by decide +kernel
theorem dX11_ticks_27 : decode cX11_ticks 27 = .ok (.iconst 0, 1) := by decide +kernel
theorem dX11_ticks_28 : decode cX11_ticks 28 = .ok (.bastore, 1) := by decide +kernel
theorem dX11_ticks_29 : decode cX11_ticks 29 = .ok (.iinc 3 1, 3) := by decide +kernel
theorem dX11_ticks_32 : decode cX11_ticks 32 = .ok (.goto (-16), 3) := by decide +kernel
theorem dX11_ticks_35 : decode cX11_ticks 35 = .ok (.iconst 0, 1) := by decide +kernel
theorem dX11_ticks_36 : decode cX11_ticks 36 = .ok (.istore_n 3, 1) := by decide +kernel
theorem dX11_ticks_37 : decode cX11_ticks 37 = .ok (.iload_n 3, 1) := by decide +kernel
theorem dX11_ticks_38 : decode cX11_ticks 38 = .ok (.aload_n 0, 1) := by decide +kernel
theorem dX11_ticks_39 : decode cX11_ticks 39 = .ok (.invokevirtual 276, 3) := by decide +kernel
theorem dX11_ticks_42 : decode cX11_ticks 42 = .ok (.if_icmp .ge 69, 3) := by decide +kernel
theorem dX11_ticks_45 : decode cX11_ticks 45 = .ok (.aload_n 0, 1) := by decide +kernel
theorem dX11_ticks_46 : decode cX11_ticks 46 = .ok (.iload_n 1, 1) := by decide +kernel
theorem dX11_ticks_47 : decode cX11_ticks 47 = .ok (.iload_n 3, 1) := by decide +kernel
theorem dX11_ticks_48 : decode cX11_ticks 48 = .ok (.invokevirtual 375, 3) := by decide +kernel
theorem dX11_ticks_51 : decode cX11_ticks 51 = .ok (.ifCond .le 54, 3) := by decide +kernel
theorem dX11_ticks_54 : decode cX11_ticks 54 = .ok (.aload_n 0, 1) := by decide +kernel
theorem dX11_ticks_55 : decode cX11_ticks 55 = .ok (.iload_n 1, 1) := by decide +kernel
theorem dX11_ticks_56 : decode cX11_ticks 56 = .ok (.iload_n 3, 1) := by decide +kernel
theorem dX11_ticks_57 : decode cX11_ticks 57 = .ok (.aload_n 0, 1) := by decide +kernel
theorem dX11_ticks_58 : decode cX11_ticks 58 = .ok (.iload_n 1, 1) := by decide +kernel
theorem dX11_ticks_59 : decode cX11_ticks 59 = .ok (.iload_n 3, 1) := by decide +kernel
theorem dX11_ticks_60 : decode cX11_ticks 60 = .ok (.invokevirtual 404, 3) := by decide +kernel
theorem dX11_ticks_63 : decode cX11_ticks 63 = .ok (.invokevirtual 407, 3) := by decide +kernel
theorem dX11_ticks_66 : decode cX11_ticks 66 = .ok (.aload_n 0, 1) := by decide +kernel
theorem dX11_ticks_67 : decode cX11_ticks 67 = .ok (.getfield 101, 3) := by decide +kernel
theorem dX11_ticks_70 : decode cX11_ticks 70 = .ok (.iload_n 1, 1) := by decide +kernel
theorem dX11_ticks_71 : decode cX11_ticks 71 = .ok (.bipush 122, 2) := by decide +kernel
theorem dX11_ticks_73 : decode cX11_ticks 73 = .ok (.iadd, 1) := by decide +kernel
theorem dX11_ticks_74 : decode cX11_ticks 74 = .ok (.iload_n 3, 1) := by decide +kernel
theorem dX11_ticks_75 : decode cX11_ticks 75 = .ok (.iadd, 1) := by decide +kernel
theorem dX11_ticks_76 : decode cX11_ticks 76 = .ok (.aload_n 0, 1) := by decide +kernel
theorem dX11_ticks_77 : decode cX11_ticks 77 = .ok (.iload_n 1, 1) := by decide +kernel
theorem dX11_ticks_78 : decode cX11_ticks 78 = .ok (.iload_n 3, 1) := by decide +kernel
theorem dX11_ticks_79 : decode cX11_ticks 79 = .ok (.iconst (-1), 1) := by decide +kernel
theorem dX11_ticks_80 : decode cX11_ticks 80 = .ok (.iconst 0, 1) := by decide +kernel
theorem dX11_ticks_81 : decode cX11_ticks 81 = .ok (.invokevirtual 391, 3) := by decide +kernel
theorem dX11_ticks_84 : decode cX11_ticks 84 = .ok (.ifCond .ge 7, 3) := by decide +kernel
theorem dX11_ticks_87 : decode cX11_ticks 87 = .ok (.iconst 0, 1) := by decide +kernel
theorem dX11_ticks_88 : decode cX11_ticks 88 = .ok (.goto 16, 3) := by decide +kernel
theorem dX11_ticks_91 : decode cX11_ticks 91 = .ok (.aload_n 0, 1) := by decide +kernel
theorem dX11_ticks_92 : decode cX11_ticks 92 = .ok (.getfield 101, 3) := by decide +kernel
theorem dX11_ticks_95 : decode cX11_ticks 95 = .ok (.iload_n 1, 1) := by decide +kernel
theorem dX11_ticks_96 : decode cX11_ticks 96 = .ok (.bipush 122, 2) := by decide +kernel
theorem dX11_ticks_98 : decode cX11_ticks 98 = .ok (.iadd, 1) := by decide +kernel
theorem dX11_ticks_99 : decode cX11_ticks 99 = .ok (.iload_n 3, 1) := by decide +kernel
theorem dX11_ticks_100 : decode cX11_ticks 100 = .ok (.iadd, 1) := by decide +kernel
theorem dX11_ticks_101 : decode cX11_ticks 101 = .ok (.iaload, 1) := by decide +kernel
theorem dX11_ticks_102 : decode cX11_ticks 102 = .ok (.iconst 1, 1) := by decide +kernel
theorem dX11_ticks_103 : decode cX11_ticks 103 = .ok (.iadd, 1) := by decide +kernel
theorem dX11_ticks_104 : decode cX11_ticks 104 = .ok (.iastore, 1) := by decide +kernel
theorem dX11_ticks_105 : decode cX11_ticks 105 = .ok (.iinc 3 1, 3) := by decide +kernel
theorem dX11_ticks_108 : decode cX11_ticks 108 = .ok (.goto (-71), 3) := by decide +kernel
theorem dX11_ticks_111 : decode cX11_ticks 111 = .ok (.iconst 0, 1) := by decide +kernel
theorem dX11_ticks_112 : decode cX11_ticks 112 = .ok (.istore_n 3, 1) := by decide +kernel
theorem dX11_ticks_113 : decode cX11_ticks 113 = .ok (.iload_n 3, 1) := by decide +kernel
theorem dX11_ticks_114 : decode cX11_ticks 114 = .ok (.iconst 3, 1) := by decide +kernel
theorem dX11_ticks_115 : decode cX11_ticks 115 = .ok (.iload_n 2, 1) := by decide +kernel
theorem dX11_ticks_116 : decode cX11_ticks 116 = .ok (.imul, 1) := by decide +kernel
theorem dX11_ticks_117 : decode cX11_ticks 117 = .ok (.if_icmp .ge 25, 3) := by decide +kernel
theorem dX11_ticks_120 : decode cX11_ticks 120 = .ok (.aload_n 0, 1) := by decide +kernel
theorem dX11_ticks_121 : decode cX11_ticks 121 = .ok (.getfield 132, 3) := by decide +kernel
theorem dX11_ticks_124 : decode cX11_ticks 124 = .ok (.iload_n 3, 1) := by decide +kernel
theorem dX11_ticks_125 : decode cX11_ticks 125 = .ok (.aload_n 0, 1) := by decide +kernel
theorem dX11_ticks_126 : decode cX11_ticks 126 = .ok (.getfield 101, 3) := by decide +kernel
theorem dX11_ticks_129 : decode cX11_ticks 129 = .ok (.iload_n 1, 1) := by decide +kernel
theorem dX11_ticks_130 : decode cX11_ticks 130 = .ok (.iconst 2, 1) := by decide +kernel
theorem dX11_ticks_131 : decode cX11_ticks 131 = .ok (.iadd, 1) := by decide +kernel
theorem dX11_ticks_132 : decode cX11_ticks 132 = .ok (.iload_n 3, 1) := by decide +kernel
theorem dX11_ticks_133 : decode cX11_ticks 133 = .ok (.iadd, 1) := by decide +kernel
theorem dX11_ticks_134 : decode cX11_ticks 134 = .ok (.iaload, 1) := by decide +kernel
theorem dX11_ticks_135 : decode cX11_ticks 135 = .ok (.iastore, 1) := by decide +kernel
theorem dX11_ticks_136 : decode cX11_ticks 136 = .ok (.iinc 3 1, 3) := by decide +kernel
theorem dX11_ticks_139 : decode cX11_ticks 139 = .ok (.goto (-26), 3) := by decide +kernel
theorem dX11_ticks_142 : decode cX11_ticks 142 = .ok (.aload_n 0, 1) := by decide +kernel
theorem dX11_ticks_143 : decode cX11_ticks 143 = .ok (.getfield 101, 3) := by decide +kernel
theorem dX11_ticks_146 : decode cX11_ticks 146 = .ok (.iload_n 1, 1) := by decide +kernel
theorem dX11_ticks_147 : decode cX11_ticks 147 = .ok (.iconst 1, 1) := by decide +kernel
theorem dX11_ticks_148 : decode cX11_ticks 148 = .ok (.iadd, 1) := by decide +kernel
theorem dX11_ticks_149 : decode cX11_ticks 149 = .ok (.iconst 0, 1) := by decide +kernel
theorem dX11_ticks_150 : decode cX11_ticks 150 = .ok (.iastore, 1) := by decide +kernel
theorem dX11_ticks_151 : decode cX11_ticks 151 = .ok (.iconst 0, 1) := by decide +kernel
theorem dX11_ticks_152 : decode cX11_ticks 152 = .ok (.istore_n 3, 1) := by decide +kernel
theorem dX11_ticks_153 : decode cX11_ticks 153 = .ok (.iload_n 3, 1) := by decide +kernel
theorem dX11_ticks_154 : decode cX11_ticks 154 = .ok (.iload_n 2, 1) := by decide +kernel
theorem dX11_ticks_155 : decode cX11_ticks 155 = .ok (.if_icmp .ge 51, 3) := by decide +kernel
theorem dX11_ticks_158 : decode cX11_ticks 158 = .ok (.aload_n 0, 1) := by decide +kernel
theorem dX11_ticks_159 : decode cX11_ticks 159 = .ok (.getfield 129, 3) := by decide +kernel
theorem dX11_ticks_162 : decode cX11_ticks 162 = .ok (.iload_n 3, 1) := by decide +kernel
theorem dX11_ticks_163 : decode cX11_ticks 163 = .ok (.baload, 1) := by decide +kernel
theorem dX11_ticks_164 : decode cX11_ticks 164 = .ok (.ifCond .ne 36, 3) := by decide +kernel
theorem dX11_ticks_167 : decode cX11_ticks 167 = .ok (.aload_n 0, 1) := by decide +kernel
theorem dX11_ticks_168 : decode cX11_ticks 168 = .ok (.iload_n 1, 1) := by decide +kernel
theorem dX11_ticks_169 : decode cX11_ticks 169 = .ok (.aload_n 0, 1) := by decide +kernel
theorem dX11_ticks_170 : decode cX11_ticks 170 = .ok (.getfield 132, 3) := by decide +kernel
theorem dX11_ticks_173 : decode cX11_ticks 173 = .ok (.iconst 3, 1) := by decide +kernel
theorem dX11_ticks_174 : decode cX11_ticks 174 = .ok (.iload_n 3, 1) := by decide +kernel
theorem dX11_ticks_175 : decode cX11_ticks 175 = .ok (.imul, 1) := by decide +kernel
theorem dX11_ticks_176 : decode cX11_ticks 176 = .ok (.iaload, 1) := by decide +kernel
theorem dX11_ticks_177 : decode cX11_ticks 177 = .ok (.aload_n 0, 1) := by decide +kernel
theorem dX11_ticks_178 : decode cX11_ticks 178 = .ok (.getfield 132, 3) := by decide +kernel
theorem dX11_ticks_181 : decode cX11_ticks 181 = .ok (.iconst 3, 1) := by decide +kernel
theorem dX11_ticks_182 : decode cX11_ticks 182 = .ok (.iload_n 3, 1) := by decide +kernel
theorem dX11_ticks_183 : decode cX11_ticks 183 = .ok (.imul, 1) := by decide +kernel
theorem dX11_ticks_184 : decode cX11_ticks 184 = .ok (.iconst 1, 1) := by decide +kernel
theorem dX11_ticks_185 : decode cX11_ticks 185 = .ok (.iadd, 1) := by decide +kernel
theorem dX11_ticks_186 : decode cX11_ticks 186 = .ok (.iaload, 1) := by decide +kernel
theorem dX11_ticks_187 : decode cX11_ticks 187 = .ok (.aload_n 0, 1) := by decide +kernel
theorem dX11_ticks_188 : decode cX11_ticks 188 = .ok (.getfield 132, 3) := by decide +kernel
theorem dX11_ticks_191 : decode cX11_ticks 191 = .ok (.iconst 3, 1) := by decide +kernel
theorem dX11_ticks_192 : decode cX11_ticks 192 = .ok (.iload_n 3, 1) := by decide +kernel
theorem dX11_ticks_193 : decode cX11_ticks 193 = .ok (.imul, 1) := by decide +kernel
theorem dX11_ticks_194 : decode cX11_ticks 194 = .ok (.iconst 2, 1) := by decide +kernel
theorem dX11_ticks_195 : decode cX11_ticks 195 = .ok (.iadd, 1) := by decide +kernel
theorem dX11_ticks_196 : decode cX11_ticks 196 = .ok (.iaload, 1) := by decide +kernel
theorem dX11_ticks_197 : decode cX11_ticks 197 = .ok (.invokevirtual 381, 3) := by decide +kernel
theorem dX11_ticks_200 : decode cX11_ticks 200 = .ok (.iinc 3 1, 3) := by decide +kernel
theorem dX11_ticks_203 : decode cX11_ticks 203 = .ok (.goto (-50), 3) := by decide +kernel
theorem dX11_ticks_206 : decode cX11_ticks 206 = .ok (.iconst 0, 1) := by decide +kernel
theorem dX11_ticks_207 : decode cX11_ticks 207 = .ok (.istore_n 3, 1) := by decide +kernel
theorem dX11_ticks_208 : decode cX11_ticks 208 = .ok (.iconst 0, 1) := by decide +kernel
theorem dX11_ticks_209 : decode cX11_ticks 209 = .ok (.istore 4, 2) := by decide +kernel
theorem dX11_ticks_211 : decode cX11_ticks 211 = .ok (.iload 4, 2) := by decide +kernel
theorem dX11_ticks_213 : decode cX11_ticks 213 = .ok (.aload_n 0, 1) := by decide +kernel
theorem dX11_ticks_214 : decode cX11_ticks 214 = .ok (.getfield 401, 3) := by decide +kernel
theorem dX11_ticks_217 : decode cX11_ticks 217 = .ok (.if_icmp .ge 115, 3) := by decide +kernel
theorem dX11_ticks_220 : decode cX11_ticks 220 = .ok (.iconst 3, 1) := by decide +kernel
theorem dX11_ticks_221 : decode cX11_ticks 221 = .ok (.aload_n 0, 1) := by decide +kernel
theorem dX11_ticks_222 : decode cX11_ticks 222 = .ok (.getfield 126, 3) := by decide +kernel
theorem dX11_ticks_225 : decode cX11_ticks 225 = .ok (.iload 4, 2) := by decide +kernel
theorem dX11_ticks_227 : decode cX11_ticks 227 = .ok (.iaload, 1) := by decide +kernel
theorem dX11_ticks_228 : decode cX11_ticks 228 = .ok (.imul, 1) := by decide +kernel
theorem dX11_ticks_229 : decode cX11_ticks 229 = .ok (.istore 5, 2) := by decide +kernel
theorem dX11_ticks_231 : decode cX11_ticks 231 = .ok (.aload_n 0, 1) := by decide +kernel
theorem dX11_ticks_232 : decode cX11_ticks 232 = .ok (.getfield 132, 3) := by decide +kernel
theorem dX11_ticks_235 : decode cX11_ticks 235 = .ok (.iload 5, 2) := by decide +kernel
theorem dX11_ticks_237 : decode cX11_ticks 237 = .ok (.iconst 1, 1) := by decide +kernel
theorem dX11_ticks_238 : decode cX11_ticks 238 = .ok (.iadd, 1) := by decide +kernel
theorem dX11_ticks_239 : decode cX11_ticks 239 = .ok (.iaload, 1) := by decide +kernel
theorem dX11_ticks_240 : decode cX11_ticks 240 = .ok (.iconst 1, 1) := by decide +kernel
theorem dX11_ticks_241 : decode cX11_ticks 241 = .ok (.iadd, 1) := by decide +kernel
theorem dX11_ticks_242 : decode cX11_ticks 242 = .ok (.aload_n 0, 1) := by decide +kernel
theorem dX11_ticks_243 : decode cX11_ticks 243 = .ok (.aload_n 0, 1) := by decide +kernel
theorem dX11_ticks_244 : decode cX11_ticks 244 = .ok (.getfield 132, 3) := by decide +kernel
theorem dX11_ticks_247 : decode cX11_ticks 247 = .ok (.iload 5, 2) := by decide +kernel
theorem dX11_ticks_249 : decode cX11_ticks 249 = .ok (.iaload, 1) := by decide +kernel
theorem dX11_ticks_250 : decode cX11_ticks 250 = .ok (.invokevirtual 285, 3) := by decide +kernel
theorem dX11_ticks_253 : decode cX11_ticks 253 = .ok (.if_icmp .ge 38, 3) := by decide +kernel
theorem dX11_ticks_256 : decode cX11_ticks 256 = .ok (.aload_n 0, 1) := by decide +kernel
theorem dX11_ticks_257 : decode cX11_ticks 257 = .ok (.iload_n 1, 1) := by decide +kernel
theorem dX11_ticks_258 : decode cX11_ticks 258 = .ok (.aload_n 0, 1) := by decide +kernel
theorem dX11_ticks_259 : decode cX11_ticks 259 = .ok (.getfield 132, 3) := by decide +kernel
theorem dX11_ticks_262 : decode cX11_ticks 262 = .ok (.iload 5, 2) := by decide +kernel
theorem dX11_ticks_264 : decode cX11_ticks 264 = .ok (.iaload, 1) := by decide +kernel
theorem dX11_ticks_265 : decode cX11_ticks 265 = .ok (.aload_n 0, 1) := by decide +kernel
theorem dX11_ticks_266 : decode cX11_ticks 266 = .ok (.getfield 132, 3) := by decide +kernel
theorem dX11_ticks_269 : decode cX11_ticks 269 = .ok (.iload 5, 2) := by decide +kernel
theorem dX11_ticks_271 : decode cX11_ticks 271 = .ok (.iconst 1, 1) := by decide +kernel
theorem dX11_ticks_272 : decode cX11_ticks 272 = .ok (.iadd, 1) := by decide +kernel
theorem dX11_ticks_273 : decode cX11_ticks 273 = .ok (.iaload, 1) := by decide +kernel
theorem dX11_ticks_274 : decode cX11_ticks 274 = .ok (.iconst 1, 1) := by decide +kernel
theorem dX11_ticks_275 : decode cX11_ticks 275 = .ok (.iadd, 1) := by decide +kernel
theorem dX11_ticks_276 : decode cX11_ticks 276 = .ok (.aload_n 0, 1) := by decide +kernel
theorem dX11_ticks_277 : decode cX11_ticks 277 = .ok (.getfield 132, 3) := by decide +kernel
theorem dX11_ticks_280 : decode cX11_ticks 280 = .ok (.iload 5, 2) := by decide +kernel
theorem dX11_ticks_282 : decode cX11_ticks 282 = .ok (.iconst 2, 1) := by decide +kernel
theorem dX11_ticks_283 : decode cX11_ticks 283 = .ok (.iadd, 1) := by decide +kernel
theorem dX11_ticks_284 : decode cX11_ticks 284 = .ok (.iaload, 1) := by decide +kernel
theorem dX11_ticks_285 : decode cX11_ticks 285 = .ok (.invokevirtual 381, 3) := by decide +kernel
theorem dX11_ticks_288 : decode cX11_ticks 288 = .ok (.goto 38, 3) := by decide +kernel
theorem dX11_ticks_291 : decode cX11_ticks 291 = .ok (.aload_n 0, 1) := by decide +kernel
theorem dX11_ticks_292 : decode cX11_ticks 292 = .ok (.iload_n 1, 1) := by decide +kernel
theorem dX11_ticks_293 : decode cX11_ticks 293 = .ok (.aload_n 0, 1) := by decide +kernel
theorem dX11_ticks_294 : decode cX11_ticks 294 = .ok (.getfield 132, 3) := by decide +kernel
theorem dX11_ticks_297 : decode cX11_ticks 297 = .ok (.iload 5, 2) := by decide +kernel
theorem dX11_ticks_299 : decode cX11_ticks 299 = .ok (.iaload, 1) := by decide +kernel
theorem dX11_ticks_300 : decode cX11_ticks 300 = .ok (.aload_n 0, 1) := by decide +kernel
theorem dX11_ticks_301 : decode cX11_ticks 301 = .ok (.getfield 101, 3) := by decide +kernel
theorem dX11_ticks_304 : decode cX11_ticks 304 = .ok (.iload_n 1, 1) := by decide +kernel
theorem dX11_ticks_305 : decode cX11_ticks 305 = .ok (.iconst 0, 1) := by decide +kernel
theorem dX11_ticks_306 : decode cX11_ticks 306 = .ok (.iadd, 1) := by decide +kernel
theorem dX11_ticks_307 : decode cX11_ticks 307 = .ok (.iaload, 1) := by decide +kernel
theorem dX11_ticks_308 : decode cX11_ticks 308 = .ok (.iconst 1, 1) := by decide +kernel
theorem dX11_ticks_309 : decode cX11_ticks 309 = .ok (.iadd, 1) := by decide +kernel
theorem dX11_ticks_310 : decode cX11_ticks 310 = .ok (.aload_n 0, 1) := by decide +kernel
theorem dX11_ticks_311 : decode cX11_ticks 311 = .ok (.getfield 132, 3) := by decide +kernel
theorem dX11_ticks_314 : decode cX11_ticks 314 = .ok (.iload 5, 2) := by decide +kernel
theorem dX11_ticks_316 : decode cX11_ticks 316 = .ok (.iconst 2, 1) := by decide +kernel
theorem dX11_ticks_317 : decode cX11_ticks 317 = .ok (.iadd, 1) := by decide +kernel
theorem dX11_ticks_318 : decode cX11_ticks 318 = .ok (.iaload, 1) := by decide +kernel
theorem dX11_ticks_319 : decode cX11_ticks 319 = .ok (.isub, 1) := by decide +kernel
theorem dX11_ticks_320 : decode cX11_ticks 320 = .ok (.invokevirtual 410, 3) := by decide +kernel
theorem dX11_ticks_323 : decode cX11_ticks 323 = .ok (.iinc 3 1, 3) := by decide +kernel
theorem dX11_ticks_326 : decode cX11_ticks 326 = .ok (.iinc 4 1, 3) := by decide +kernel
theorem dX11_ticks_329 : decode cX11_ticks 329 = .ok (.goto (-118), 3) := by decide +kernel
theorem dX11_ticks_332 : decode cX11_ticks 332 = .ok (.aload_n 0, 1) := by decide +kernel
theorem dX11_ticks_333 : decode cX11_ticks 333 = .ok (.getfield 101, 3) := by decide +kernel
theorem dX11_ticks_336 : decode cX11_ticks 336 = .ok (.iload_n 1, 1) := by decide +kernel
theorem dX11_ticks_337 : decode cX11_ticks 337 = .ok (.iconst 0, 1) := by decide +kernel
theorem dX11_ticks_338 : decode cX11_ticks 338 = .ok (.iadd, 1) := by decide +kernel
theorem dX11_ticks_339 : decode cX11_ticks 339 = .ok (.dup2, 1) := by decide +kernel
theorem dX11_ticks_340 : decode cX11_ticks 340 = .ok (.iaload, 1) := by decide +kernel
theorem dX11_ticks_341 : decode cX11_ticks 341 = .ok (.iconst 1, 1) := by decide +kernel
theorem dX11_ticks_342 : decode cX11_ticks 342 = .ok (.iadd, 1) := by decide +kernel
theorem dX11_ticks_343 : decode cX11_ticks 343 = .ok (.iastore, 1) := by decide +kernel
theorem dX11_ticks_344 : decode cX11_ticks 344 = .ok (.iload_n 3, 1) := by decide +kernel
theorem dX11_ticks_345 : decode cX11_ticks 345 = .ok (.ireturn, 1) := by decide +kernel
theorem dX11_total_0 : decode cX11_total 0 = .ok (.aload_n 0, 1) := by decide +kernel
theorem dX11_total_1 : decode cX11_total 1 = .ok (.iconst 0, 1) := by decide +kernel
theorem dX11_total_2 : decode cX11_total 2 = .ok (.putfield 1, 3) := by decide +kernel
theorem dX11_total_5 : decode cX11_total 5 = .ok (.aload_n 0, 1) := by decide +kernel
theorem dX11_total_6 : decode cX11_total 6 = .ok (.iload_n 1, 1) := by decide +kernel
theorem dX11_total_7 : decode cX11_total 7 = .ok (.invokevirtual 282, 3) := by decide +kernel
theorem dX11_total_10 : decode cX11_total 10 = .ok (.ifCond .eq 23, 3) := by decide +kernel
theorem dX11_total_13 : decode cX11_total 13 = .ok (.aload_n 0, 1) := by decide +kernel
theorem dX11_total_14 : decode cX11_total 14 = .ok (.invokevirtual 349, 3) := by decide +kernel
theorem dX11_total_17 : decode cX11_total 17 = .ok (.ifCond .le 16, 3) := by decide +kernel
theorem dX11_total_20 : decode cX11_total 20 = .ok (.aload_n 0, 1) := by decide +kernel
theorem dX11_total_21 : decode cX11_total 21 = .ok (.iload_n 1, 1) := by decide +kernel
theorem dX11_total_22 : decode cX11_total 22 = .ok (.aload_n 0, 1) := by decide +kernel
theorem dX11_total_23 : decode cX11_total 23 = .ok (.iload_n 1, 1) := by decide +kernel
theorem dX11_total_24 : decode cX11_total 24 = .ok (.invokevirtual 285, 3) := by decide +kernel
theorem dX11_total_27 : decode cX11_total 27 = .ok (.invokevirtual 319, 3) := by decide +kernel
theorem dX11_total_30 : decode cX11_total 30 = .ok (.goto 4, 3) := by decide +kernel
theorem dX11_total_33 : decode cX11_total 33 = .ok (.iconst (-1), 1) := by decide +kernel
theorem dX11_total_34 : decode cX11_total 34 = .ok (.ireturn, 1) := by decide +kernel
theorem dX11_tries_0 : decode cX11_tries 0 = .ok (.aload_n 0, 1) := by decide +kernel
theorem dX11_tries_1 : decode cX11_tries 1 = .ok (.iconst 0, 1) := by decide +kernel
theorem dX11_tries_2 : decode cX11_tries 2 = .ok (.putfield 1, 3) := by decide +kernel
theorem dX11_tries_5 : decode cX11_tries 5 = .ok (.aload_n 0, 1) := by decide +kernel
theorem dX11_tries_6 : decode cX11_tries 6 = .ok (.iload_n 1, 1) := by decide +kernel
theorem dX11_tries_7 : decode cX11_tries 7 = .ok (.invokevirtual 363, 3) := by decide +kernel
theorem dX11_tries_10 : decode cX11_tries 10 = .ok (.ifCond .eq 29, 3) := by decide +kernel
theorem dX11_tries_13 : decode cX11_tries 13 = .ok (.aload_n 0, 1) := by decide +kernel
theorem dX11_tries_14 : decode cX11_tries 14 = .ok (.iload_n 2, 1) := by decide +kernel
theorem dX11_tries_15 : decode cX11_tries 15 = .ok (.invokevirtual 297, 3) := by decide +kernel
theorem dX11_tries_18 : decode cX11_tries 18 = .ok (.ifCond .eq 21, 3) := by decide +kernel
theorem dX11_tries_21 : decode cX11_tries 21 = .ok (.aload_n 0, 1) := by decide +kernel
theorem dX11_tries_22 : decode cX11_tries 22 = .ok (.iload_n 3, 1) := by decide +kernel
theorem dX11_tries_23 : decode cX11_tries 23 = .ok (.invokevirtual 282, 3) := by decide +kernel
theorem dX11_tries_26 : decode cX11_tries 26 = .ok (.ifCond .eq 13, 3) := by decide +kernel
theorem dX11_tries_29 : decode cX11_tries 29 = .ok (.aload_n 0, 1) := by decide +kernel
theorem dX11_tries_30 : decode cX11_tries 30 = .ok (.iload_n 1, 1) := by decide +kernel
theorem dX11_tries_31 : decode cX11_tries 31 = .ok (.iload_n 2, 1) := by decide +kernel
theorem dX11_tries_32 : decode cX11_tries 32 = .ok (.iload_n 3, 1) := by decide +kernel
theorem dX11_tries_33 : decode cX11_tries 33 = .ok (.invokevirtual 366, 3) := by decide +kernel
theorem dX11_tries_36 : decode cX11_tries 36 = .ok (.goto 4, 3) := by decide +kernel
theorem dX11_tries_39 : decode cX11_tries 39 = .ok (.iconst (-1), 1) := by decide +kernel
theorem dX11_tries_40 : decode cX11_tries 40 = .ok (.ireturn, 1) := by decide +kernel
theorem dX11_triesBy_0 : decode cX11_triesBy 0 = .ok (.aload_n 0, 1) := by decide +kernel
theorem dX11_triesBy_1 : decode cX11_triesBy 1 = .ok (.iload_n 1, 1) := by decide +kernel
theorem dX11_triesBy_2 : decode cX11_triesBy 2 = .ok (.putfield 270, 3) := by decide +kernel
theorem dX11_triesBy_5 : decode cX11_triesBy 5 = .ok (.aload_n 0, 1) := by decide +kernel
theorem dX11_triesBy_6 : decode cX11_triesBy 6 = .ok (.iload_n 2, 1) := by decide +kernel
theorem dX11_triesBy_7 : decode cX11_triesBy 7 = .ok (.putfield 279, 3) := by decide +kernel
theorem dX11_triesBy_10 : decode cX11_triesBy 10 = .ok (.aload_n 0, 1) := by decide +kernel
theorem dX11_triesBy_11 : decode cX11_triesBy 11 = .ok (.invokevirtual 346, 3) := by decide +kernel
theorem dX11_triesBy_14 : decode cX11_triesBy 14 = .ok (.ifCond .le 16, 3) := by decide +kernel
theorem dX11_triesBy_17 : decode cX11_triesBy 17 = .ok (.aload_n 0, 1) := by decide +kernel
theorem dX11_triesBy_18 : decode cX11_triesBy 18 = .ok (.iload_n 3, 1) := by decide +kernel
theorem dX11_triesBy_19 : decode cX11_triesBy 19 = .ok (.aload_n 0, 1) := by decide +kernel
theorem dX11_triesBy_20 : decode cX11_triesBy 20 = .ok (.iload_n 3, 1) := by decide +kernel
theorem dX11_triesBy_21 : decode cX11_triesBy 21 = .ok (.invokevirtual 285, 3) := by decide +kernel
theorem dX11_triesBy_24 : decode cX11_triesBy 24 = .ok (.invokevirtual 319, 3) := by decide +kernel
theorem dX11_triesBy_27 : decode cX11_triesBy 27 = .ok (.goto 4, 3) := by decide +kernel
theorem dX11_triesBy_30 : decode cX11_triesBy 30 = .ok (.iconst (-1), 1) := by decide +kernel
theorem dX11_triesBy_31 : decode cX11_triesBy 31 = .ok (.istore 4, 2) := by decide +kernel
theorem dX11_triesBy_33 : decode cX11_triesBy 33 = .ok (.aload_n 0, 1) := by decide +kernel
theorem dX11_triesBy_34 : decode cX11_triesBy 34 = .ok (.iconst (-1), 1) := by decide +kernel
theorem dX11_triesBy_35 : decode cX11_triesBy 35 = .ok (.putfield 270, 3) := by decide +kernel
theorem dX11_triesBy_38 : decode cX11_triesBy 38 = .ok (.iload 4, 2) := by decide +kernel
theorem dX11_triesBy_40 : decode cX11_triesBy 40 = .ok (.ireturn, 1) := by decide +kernel
theorem dX11_tune_0 : decode cX11_tune 0 = .ok (.aload_n 0, 1) := by decide +kernel
theorem dX11_tune_1 : decode cX11_tune 1 = .ok (.iconst 0, 1) := by decide +kernel
theorem dX11_tune_2 : decode cX11_tune 2 = .ok (.putfield 1, 3) := by decide +kernel
theorem dX11_tune_5 : decode cX11_tune 5 = .ok (.iconst (-1), 1) := by decide +kernel
theorem dX11_tune_6 : decode cX11_tune 6 = .ok (.istore_n 3, 1) := by decide +kernel
theorem dX11_tune_7 : decode cX11_tune 7 = .ok (.iconst (-1), 1) := by decide +kernel
theorem dX11_tune_8 : decode cX11_tune 8 = .ok (.istore 4, 2) := by decide +kernel
theorem dX11_tune_10 : decode cX11_tune 10 = .ok (.iconst 0, 1) := by decide +kernel
theorem dX11_tune_11 : decode cX11_tune 11 = .ok (.istore 5, 2) := by decide +kernel
theorem dX11_tune_13 : decode cX11_tune 13 = .ok (.iload 5, 2) := by decide +kernel
theorem dX11_tune_15 : decode cX11_tune 15 = .ok (.aload_n 0, 1) := by decide +kernel
theorem dX11_tune_16 : decode cX11_tune 16 = .ok (.invokevirtual 273, 3) := by decide +kernel
theorem dX11_tune_19 : decode cX11_tune 19 = .ok (.if_icmp .ge 85, 3) := by decide +kernel
theorem dX11_tune_22 : decode cX11_tune 22 = .ok (.aload_n 0, 1) := by decide +kernel
theorem dX11_tune_23 : decode cX11_tune 23 = .ok (.iload_n 1, 1) := by decide +kernel
theorem dX11_tune_24 : decode cX11_tune 24 = .ok (.invokevirtual 363, 3) := by decide +kernel
theorem dX11_tune_27 : decode cX11_tune 27 = .ok (.ifCond .eq 77, 3) := by decide +kernel
theorem dX11_tune_30 : decode cX11_tune 30 = .ok (.aload_n 0, 1) := by decide +kernel
theorem dX11_tune_31 : decode cX11_tune 31 = .ok (.iload_n 2, 1) := by decide +kernel
theorem dX11_tune_32 : decode cX11_tune 32 = .ok (.invokevirtual 282, 3) := by decide +kernel
theorem dX11_tune_35 : decode cX11_tune 35 = .ok (.ifCond .eq 69, 3) := by decide +kernel
theorem dX11_tune_38 : decode cX11_tune 38 = .ok (.aload_n 0, 1) := by decide +kernel
theorem dX11_tune_39 : decode cX11_tune 39 = .ok (.iload_n 1, 1) := by decide +kernel
theorem dX11_tune_40 : decode cX11_tune 40 = .ok (.iload 5, 2) := by decide +kernel
theorem dX11_tune_42 : decode cX11_tune 42 = .ok (.iload_n 2, 1) := by decide +kernel
theorem dX11_tune_43 : decode cX11_tune 43 = .ok (.invokevirtual 366, 3) := by decide +kernel
theorem dX11_tune_46 : decode cX11_tune 46 = .ok (.istore 6, 2) := by decide +kernel
theorem dX11_tune_48 : decode cX11_tune 48 = .ok (.iload 6, 2) := by decide +kernel
theorem dX11_tune_50 : decode cX11_tune 50 = .ok (.ifCond .lt 19, 3) := by decide +kernel
theorem dX11_tune_53 : decode cX11_tune 53 = .ok (.iload 4, 2) := by decide +kernel
theorem dX11_tune_55 : decode cX11_tune 55 = .ok (.ifCond .lt 10, 3) := by decide +kernel
theorem dX11_tune_58 : decode cX11_tune 58 = .ok (.iload 6, 2) := by decide +kernel
theorem dX11_tune_60 : decode cX11_tune 60 = .ok (.iload 4, 2) := by decide +kernel
theorem dX11_tune_62 : decode cX11_tune 62 = .ok (.if_icmp .ge 7, 3) := by decide +kernel
theorem dX11_tune_65 : decode cX11_tune 65 = .ok (.iconst 1, 1) := by decide +kernel
theorem dX11_tune_66 : decode cX11_tune 66 = .ok (.goto 4, 3) := by decide +kernel
theorem dX11_tune_69 : decode cX11_tune 69 = .ok (.iconst 0, 1) := by decide +kernel
theorem dX11_tune_70 : decode cX11_tune 70 = .ok (.istore 7, 2) := by decide +kernel
theorem dX11_tune_72 : decode cX11_tune 72 = .ok (.iload 7, 2) := by decide +kernel
theorem dX11_tune_74 : decode cX11_tune 74 = .ok (.ifCond .eq 8, 3) := by decide +kernel
theorem dX11_tune_77 : decode cX11_tune 77 = .ok (.iload 5, 2) := by decide +kernel
theorem dX11_tune_79 : decode cX11_tune 79 = .ok (.goto 4, 3) := by decide +kernel
theorem dX11_tune_82 : decode cX11_tune 82 = .ok (.iload_n 3, 1) := by decide +kernel
theorem dX11_tune_83 : decode cX11_tune 83 = .ok (.istore_n 3, 1) := by decide +kernel
theorem dX11_tune_84 : decode cX11_tune 84 = .ok (.iload 7, 2) := by decide +kernel
theorem dX11_tune_86 : decode cX11_tune 86 = .ok (.ifCond .eq 8, 3) := by decide +kernel
theorem dX11_tune_89 : decode cX11_tune 89 = .ok (.iload 6, 2) := by decide +kernel
theorem dX11_tune_91 : decode cX11_tune 91 = .ok (.goto 5, 3) := by decide +kernel
theorem dX11_tune_94 : decode cX11_tune 94 = .ok (.iload 4, 2) := by decide +kernel
theorem dX11_tune_96 : decode cX11_tune 96 = .ok (.istore 4, 2) := by decide +kernel
theorem dX11_tune_98 : decode cX11_tune 98 = .ok (.iinc 5 1, 3) := by decide +kernel
theorem dX11_tune_101 : decode cX11_tune 101 = .ok (.goto (-88), 3) := by decide +kernel
theorem dX11_tune_104 : decode cX11_tune 104 = .ok (.iload_n 3, 1) := by decide +kernel
theorem dX11_tune_105 : decode cX11_tune 105 = .ok (.ireturn, 1) := by decide +kernel
theorem dX11_unfold_0 : decode cX11_unfold 0 = .ok (.aload_n 0, 1) := by decide +kernel
theorem dX11_unfold_1 : decode cX11_unfold 1 = .ok (.aload_n 0, 1) := by decide +kernel
theorem dX11_unfold_2 : decode cX11_unfold 2 = .ok (.iload_n 1, 1) := by decide +kernel
theorem dX11_unfold_3 : decode cX11_unfold 3 = .ok (.invokevirtual 297, 3) := by decide +kernel
theorem dX11_unfold_6 : decode cX11_unfold 6 = .ok (.ifCond .eq 25, 3) := by decide +kernel
theorem dX11_unfold_9 : decode cX11_unfold 9 = .ok (.aload_n 0, 1) := by decide +kernel
theorem dX11_unfold_10 : decode cX11_unfold 10 = .ok (.iload_n 2, 1) := by decide +kernel
theorem dX11_unfold_11 : decode cX11_unfold 11 = .ok (.invokevirtual 297, 3) := by decide +kernel
theorem dX11_unfold_14 : decode cX11_unfold 14 = .ok (.ifCond .eq 17, 3) := by decide +kernel
theorem dX11_unfold_17 : decode cX11_unfold 17 = .ok (.iload_n 3, 1) := by decide +kernel
theorem dX11_unfold_18 : decode cX11_unfold 18 = .ok (.iconst 0, 1) := by decide +kernel
theorem dX11_unfold_19 : decode cX11_unfold 19 = .ok (.bipush 60, 2) := by decide +kernel
theorem dX11_unfold_21 : decode cX11_unfold 21 = .ok (.invokestatic 300, 3) := by decide +kernel
theorem dX11_unfold_24 : decode cX11_unfold 24 = .ok (.ifCond .eq 7, 3) := by decide +kernel
theorem dX11_unfold_27 : decode cX11_unfold 27 = .ok (.iconst 0, 1) := by decide +kernel
theorem dX11_unfold_28 : decode cX11_unfold 28 = .ok (.goto 4, 3) := by decide +kernel
theorem dX11_unfold_31 : decode cX11_unfold 31 = .ok (.iconst 1, 1) := by decide +kernel
theorem dX11_unfold_32 : decode cX11_unfold 32 = .ok (.putfield 1, 3) := by decide +kernel
theorem dX11_unfold_35 : decode cX11_unfold 35 = .ok (.aload_n 0, 1) := by decide +kernel
theorem dX11_unfold_36 : decode cX11_unfold 36 = .ok (.getfield 1, 3) := by decide +kernel
theorem dX11_unfold_39 : decode cX11_unfold 39 = .ok (.ifCond .le 5, 3) := by decide +kernel
theorem dX11_unfold_42 : decode cX11_unfold 42 = .ok (.iconst 0, 1) := by decide +kernel
theorem dX11_unfold_43 : decode cX11_unfold 43 = .ok (.ireturn, 1) := by decide +kernel
theorem dX11_unfold_44 : decode cX11_unfold 44 = .ok (.aload_n 0, 1) := by decide +kernel
theorem dX11_unfold_45 : decode cX11_unfold 45 = .ok (.iload_n 1, 1) := by decide +kernel
theorem dX11_unfold_46 : decode cX11_unfold 46 = .ok (.iload_n 3, 1) := by decide +kernel
theorem dX11_unfold_47 : decode cX11_unfold 47 = .ok (.invokevirtual 294, 3) := by decide +kernel
theorem dX11_unfold_50 : decode cX11_unfold 50 = .ok (.aload_n 0, 1) := by decide +kernel
theorem dX11_unfold_51 : decode cX11_unfold 51 = .ok (.iload_n 2, 1) := by decide +kernel
theorem dX11_unfold_52 : decode cX11_unfold 52 = .ok (.iconst 0, 1) := by decide +kernel
theorem dX11_unfold_53 : decode cX11_unfold 53 = .ok (.invokevirtual 294, 3) := by decide +kernel
theorem dX11_unfold_56 : decode cX11_unfold 56 = .ok (.isub, 1) := by decide +kernel
theorem dX11_unfold_57 : decode cX11_unfold 57 = .ok (.istore 4, 2) := by decide +kernel
theorem dX11_unfold_59 : decode cX11_unfold 59 = .ok (.iconst 1, 1) := by decide +kernel
theorem dX11_unfold_60 : decode cX11_unfold 60 = .ok (.istore 5, 2) := by decide +kernel
theorem dX11_unfold_62 : decode cX11_unfold 62 = .ok (.iload 5, 2) := by decide +kernel
theorem dX11_unfold_64 : decode cX11_unfold 64 = .ok (.bipush 60, 2) := by decide +kernel
theorem dX11_unfold_66 : decode cX11_unfold 66 = .ok (.if_icmp .gt 44, 3) := by decide +kernel
theorem dX11_unfold_69 : decode cX11_unfold 69 = .ok (.aload_n 0, 1) := by decide +kernel
theorem dX11_unfold_70 : decode cX11_unfold 70 = .ok (.iload_n 1, 1) := by decide +kernel
theorem dX11_unfold_71 : decode cX11_unfold 71 = .ok (.iload_n 3, 1) := by decide +kernel
theorem dX11_unfold_72 : decode cX11_unfold 72 = .ok (.iload 5, 2) := by decide +kernel
theorem dX11_unfold_74 : decode cX11_unfold 74 = .ok (.iadd, 1) := by decide +kernel
theorem dX11_unfold_75 : decode cX11_unfold 75 = .ok (.invokevirtual 294, 3) := by decide +kernel
theorem dX11_unfold_78 : decode cX11_unfold 78 = .ok (.aload_n 0, 1) := by decide +kernel
theorem dX11_unfold_79 : decode cX11_unfold 79 = .ok (.iload_n 2, 1) := by decide +kernel
theorem dX11_unfold_80 : decode cX11_unfold 80 = .ok (.iload 5, 2) := by decide +kernel
theorem dX11_unfold_82 : decode cX11_unfold 82 = .ok (.invokevirtual 294, 3) := by decide +kernel
theorem dX11_unfold_85 : decode cX11_unfold 85 = .ok (.isub, 1) := by decide +kernel
theorem dX11_unfold_86 : decode cX11_unfold 86 = .ok (.istore 6, 2) := by decide +kernel
theorem dX11_unfold_88 : decode cX11_unfold 88 = .ok (.iload 6, 2) := by decide +kernel
theorem dX11_unfold_90 : decode cX11_unfold 90 = .ok (.iload 4, 2) := by decide +kernel
theorem dX11_unfold_92 : decode cX11_unfold 92 = .ok (.if_icmp .le 8, 3) := by decide +kernel
theorem dX11_unfold_95 : decode cX11_unfold 95 = .ok (.iload 6, 2) := by decide +kernel
theorem dX11_unfold_97 : decode cX11_unfold 97 = .ok (.goto 5, 3) := by decide +kernel
theorem dX11_unfold_100 : decode cX11_unfold 100 = .ok (.iload 4, 2) := by decide +kernel
theorem dX11_unfold_102 : decode cX11_unfold 102 = .ok (.istore 4, 2) := by decide +kernel
theorem dX11_unfold_104 : decode cX11_unfold 104 = .ok (.iinc 5 1, 3) := by decide +kernel
theorem dX11_unfold_107 : decode cX11_unfold 107 = .ok (.goto (-45), 3) := by decide +kernel
theorem dX11_unfold_110 : decode cX11_unfold 110 = .ok (.iload 4, 2) := by decide +kernel
theorem dX11_unfold_112 : decode cX11_unfold 112 = .ok (.ireturn, 1) := by decide +kernel
theorem dX11_unitAt_0 : decode cX11_unitAt 0 = .ok (.iload_n 0, 1) := by decide +kernel
theorem dX11_unitAt_1 : decode cX11_unitAt 1 = .ok (.iconst 2, 1) := by decide +kernel
theorem dX11_unitAt_2 : decode cX11_unitAt 2 = .ok (.iadd, 1) := by decide +kernel
theorem dX11_unitAt_3 : decode cX11_unitAt 3 = .ok (.iconst 3, 1) := by decide +kernel
theorem dX11_unitAt_4 : decode cX11_unitAt 4 = .ok (.iload_n 1, 1) := by decide +kernel
theorem dX11_unitAt_5 : decode cX11_unitAt 5 = .ok (.imul, 1) := by decide +kernel
theorem dX11_unitAt_6 : decode cX11_unitAt 6 = .ok (.iadd, 1) := by decide +kernel
theorem dX11_unitAt_7 : decode cX11_unitAt 7 = .ok (.ireturn, 1) := by decide +kernel
theorem dX11_unitOf_0 : decode cX11_unitOf 0 = .ok (.iconst (-1), 1) := by decide +kernel
theorem dX11_unitOf_1 : decode cX11_unitOf 1 = .ok (.istore 5, 2) := by decide +kernel
theorem dX11_unitOf_3 : decode cX11_unitOf 3 = .ok (.iconst 0, 1) := by decide +kernel
theorem dX11_unitOf_4 : decode cX11_unitOf 4 = .ok (.istore 6, 2) := by decide +kernel
theorem dX11_unitOf_6 : decode cX11_unitOf 6 = .ok (.iload 6, 2) := by decide +kernel
theorem dX11_unitOf_8 : decode cX11_unitOf 8 = .ok (.aload_n 0, 1) := by decide +kernel
theorem dX11_unitOf_9 : decode cX11_unitOf 9 = .ok (.getfield 101, 3) := by decide +kernel
theorem dX11_unitOf_12 : decode cX11_unitOf 12 = .ok (.iload_n 1, 1) := by decide +kernel
theorem dX11_unitOf_13 : decode cX11_unitOf 13 = .ok (.iconst 1, 1) := by decide +kernel
theorem dX11_unitOf_14 : decode cX11_unitOf 14 = .ok (.iadd, 1) := by decide +kernel
theorem dX11_unitOf_15 : decode cX11_unitOf 15 = .ok (.iaload, 1) := by decide +kernel
theorem dX11_unitOf_16 : decode cX11_unitOf 16 = .ok (.if_icmp .ge 80, 3) := by decide +kernel
theorem dX11_unitOf_19 : decode cX11_unitOf 19 = .ok (.aload_n 0, 1) := by decide +kernel
theorem dX11_unitOf_20 : decode cX11_unitOf 20 = .ok (.iload_n 1, 1) := by decide +kernel
theorem dX11_unitOf_21 : decode cX11_unitOf 21 = .ok (.iload 6, 2) := by decide +kernel
theorem dX11_unitOf_23 : decode cX11_unitOf 23 = .ok (.invokevirtual 372, 3) := by decide +kernel
theorem dX11_unitOf_26 : decode cX11_unitOf 26 = .ok (.iload_n 2, 1) := by decide +kernel
theorem dX11_unitOf_27 : decode cX11_unitOf 27 = .ok (.if_icmp .ne 36, 3) := by decide +kernel
theorem dX11_unitOf_30 : decode cX11_unitOf 30 = .ok (.aload_n 0, 1) := by decide +kernel
theorem dX11_unitOf_31 : decode cX11_unitOf 31 = .ok (.getfield 129, 3) := by decide +kernel
theorem dX11_unitOf_34 : decode cX11_unitOf 34 = .ok (.iload 6, 2) := by decide +kernel
theorem dX11_unitOf_36 : decode cX11_unitOf 36 = .ok (.baload, 1) := by decide +kernel
theorem dX11_unitOf_37 : decode cX11_unitOf 37 = .ok (.ifCond .ne 26, 3) := by decide +kernel
theorem dX11_unitOf_40 : decode cX11_unitOf 40 = .ok (.iload_n 3, 1) := by decide +kernel
theorem dX11_unitOf_41 : decode cX11_unitOf 41 = .ok (.ifCond .lt 18, 3) := by decide +kernel
theorem dX11_unitOf_44 : decode cX11_unitOf 44 = .ok (.aload_n 0, 1) := by decide +kernel
theorem dX11_unitOf_45 : decode cX11_unitOf 45 = .ok (.getfield 101, 3) := by decide +kernel
theorem dX11_unitOf_48 : decode cX11_unitOf 48 = .ok (.iload_n 1, 1) := by decide +kernel
theorem dX11_unitOf_49 : decode cX11_unitOf 49 = .ok (.iload 6, 2) := by decide +kernel
theorem dX11_unitOf_51 : decode cX11_unitOf 51 = .ok (.invokestatic 369, 3) := by decide +kernel
theorem dX11_unitOf_54 : decode cX11_unitOf 54 = .ok (.iaload, 1) := by decide +kernel
theorem dX11_unitOf_55 : decode cX11_unitOf 55 = .ok (.iload_n 3, 1) := by decide +kernel
theorem dX11_unitOf_56 : decode cX11_unitOf 56 = .ok (.if_icmp .ne 7, 3) := by decide +kernel
theorem dX11_unitOf_59 : decode cX11_unitOf 59 = .ok (.iconst 1, 1) := by decide +kernel
theorem dX11_unitOf_60 : decode cX11_unitOf 60 = .ok (.goto 4, 3) := by decide +kernel
theorem dX11_unitOf_63 : decode cX11_unitOf 63 = .ok (.iconst 0, 1) := by decide +kernel
theorem dX11_unitOf_64 : decode cX11_unitOf 64 = .ok (.istore 7, 2) := by decide +kernel
theorem dX11_unitOf_66 : decode cX11_unitOf 66 = .ok (.iload 7, 2) := by decide +kernel
theorem dX11_unitOf_68 : decode cX11_unitOf 68 = .ok (.ifCond .eq 18, 3) := by decide +kernel
theorem dX11_unitOf_71 : decode cX11_unitOf 71 = .ok (.iload 4, 2) := by decide +kernel
theorem dX11_unitOf_73 : decode cX11_unitOf 73 = .ok (.ifCond .ne 8, 3) := by decide +kernel
theorem dX11_unitOf_76 : decode cX11_unitOf 76 = .ok (.iload 5, 2) := by decide +kernel
theorem dX11_unitOf_78 : decode cX11_unitOf 78 = .ok (.ifCond .ge 8, 3) := by decide +kernel
theorem dX11_unitOf_81 : decode cX11_unitOf 81 = .ok (.iload 6, 2) := by decide +kernel
theorem dX11_unitOf_83 : decode cX11_unitOf 83 = .ok (.goto 5, 3) := by decide +kernel
theorem dX11_unitOf_86 : decode cX11_unitOf 86 = .ok (.iload 5, 2) := by decide +kernel
theorem dX11_unitOf_88 : decode cX11_unitOf 88 = .ok (.istore 5, 2) := by decide +kernel
theorem dX11_unitOf_90 : decode cX11_unitOf 90 = .ok (.iinc 6 1, 3) := by decide +kernel
theorem dX11_unitOf_93 : decode cX11_unitOf 93 = .ok (.goto (-87), 3) := by decide +kernel
theorem dX11_unitOf_96 : decode cX11_unitOf 96 = .ok (.iload 5, 2) := by decide +kernel
theorem dX11_unitOf_98 : decode cX11_unitOf 98 = .ok (.ireturn, 1) := by decide +kernel
theorem dX11_unitsAt_0 : decode cX11_unitsAt 0 = .ok (.iconst 0, 1) := by decide +kernel
theorem dX11_unitsAt_1 : decode cX11_unitsAt 1 = .ok (.istore_n 3, 1) := by decide +kernel
theorem dX11_unitsAt_2 : decode cX11_unitsAt 2 = .ok (.iconst 0, 1) := by decide +kernel
theorem dX11_unitsAt_3 : decode cX11_unitsAt 3 = .ok (.istore 4, 2) := by decide +kernel
theorem dX11_unitsAt_5 : decode cX11_unitsAt 5 = .ok (.iload 4, 2) := by decide +kernel
theorem dX11_unitsAt_7 : decode cX11_unitsAt 7 = .ok (.aload_n 0, 1) := by decide +kernel
theorem dX11_unitsAt_8 : decode cX11_unitsAt 8 = .ok (.getfield 101, 3) := by decide +kernel
theorem dX11_unitsAt_11 : decode cX11_unitsAt 11 = .ok (.iload_n 1, 1) := by decide +kernel
theorem dX11_unitsAt_12 : decode cX11_unitsAt 12 = .ok (.iconst 1, 1) := by decide +kernel
theorem dX11_unitsAt_13 : decode cX11_unitsAt 13 = .ok (.iadd, 1) := by decide +kernel
theorem dX11_unitsAt_14 : decode cX11_unitsAt 14 = .ok (.iaload, 1) := by decide +kernel
theorem dX11_unitsAt_15 : decode cX11_unitsAt 15 = .ok (.if_icmp .ge 28, 3) := by decide +kernel
theorem dX11_unitsAt_18 : decode cX11_unitsAt 18 = .ok (.iload_n 3, 1) := by decide +kernel
theorem dX11_unitsAt_19 : decode cX11_unitsAt 19 = .ok (.aload_n 0, 1) := by decide +kernel
theorem dX11_unitsAt_20 : decode cX11_unitsAt 20 = .ok (.iload_n 1, 1) := by decide +kernel
theorem dX11_unitsAt_21 : decode cX11_unitsAt 21 = .ok (.iload 4, 2) := by decide +kernel
theorem dX11_unitsAt_23 : decode cX11_unitsAt 23 = .ok (.invokevirtual 372, 3) := by decide +kernel
theorem dX11_unitsAt_26 : decode cX11_unitsAt 26 = .ok (.iload_n 2, 1) := by decide +kernel
theorem dX11_unitsAt_27 : decode cX11_unitsAt 27 = .ok (.if_icmp .ne 7, 3) := by decide +kernel
theorem dX11_unitsAt_30 : decode cX11_unitsAt 30 = .ok (.iconst 1, 1) := by decide +kernel
theorem dX11_unitsAt_31 : decode cX11_unitsAt 31 = .ok (.goto 4, 3) := by decide +kernel
theorem dX11_unitsAt_34 : decode cX11_unitsAt 34 = .ok (.iconst 0, 1) := by decide +kernel
theorem dX11_unitsAt_35 : decode cX11_unitsAt 35 = .ok (.iadd, 1) := by decide +kernel
theorem dX11_unitsAt_36 : decode cX11_unitsAt 36 = .ok (.istore_n 3, 1) := by decide +kernel
theorem dX11_unitsAt_37 : decode cX11_unitsAt 37 = .ok (.iinc 4 1, 3) := by decide +kernel
theorem dX11_unitsAt_40 : decode cX11_unitsAt 40 = .ok (.goto (-35), 3) := by decide +kernel
theorem dX11_unitsAt_43 : decode cX11_unitsAt 43 = .ok (.iload_n 3, 1) := by decide +kernel
theorem dX11_unitsAt_44 : decode cX11_unitsAt 44 = .ok (.ireturn, 1) := by decide +kernel
theorem dX11_unitsOf_0 : decode cX11_unitsOf 0 = .ok (.iconst 0, 1) := by decide +kernel
theorem dX11_unitsOf_1 : decode cX11_unitsOf 1 = .ok (.istore_n 3, 1) := by decide +kernel
theorem dX11_unitsOf_2 : decode cX11_unitsOf 2 = .ok (.iconst 0, 1) := by decide +kernel
theorem dX11_unitsOf_3 : decode cX11_unitsOf 3 = .ok (.istore 4, 2) := by decide +kernel
theorem dX11_unitsOf_5 : decode cX11_unitsOf 5 = .ok (.iload 4, 2) := by decide +kernel
theorem dX11_unitsOf_7 : decode cX11_unitsOf 7 = .ok (.aload_n 0, 1) := by decide +kernel
theorem dX11_unitsOf_8 : decode cX11_unitsOf 8 = .ok (.getfield 101, 3) := by decide +kernel
theorem dX11_unitsOf_11 : decode cX11_unitsOf 11 = .ok (.iload_n 1, 1) := by decide +kernel
theorem dX11_unitsOf_12 : decode cX11_unitsOf 12 = .ok (.iconst 1, 1) := by decide +kernel
theorem dX11_unitsOf_13 : decode cX11_unitsOf 13 = .ok (.iadd, 1) := by decide +kernel
theorem dX11_unitsOf_14 : decode cX11_unitsOf 14 = .ok (.iaload, 1) := by decide +kernel
theorem dX11_unitsOf_15 : decode cX11_unitsOf 15 = .ok (.if_icmp .ge 32, 3) := by decide +kernel
theorem dX11_unitsOf_18 : decode cX11_unitsOf 18 = .ok (.iload_n 3, 1) := by decide +kernel
theorem dX11_unitsOf_19 : decode cX11_unitsOf 19 = .ok (.aload_n 0, 1) := by decide +kernel
theorem dX11_unitsOf_20 : decode cX11_unitsOf 20 = .ok (.getfield 101, 3) := by decide +kernel
theorem dX11_unitsOf_23 : decode cX11_unitsOf 23 = .ok (.iload_n 1, 1) := by decide +kernel
theorem dX11_unitsOf_24 : decode cX11_unitsOf 24 = .ok (.iload 4, 2) := by decide +kernel
theorem dX11_unitsOf_26 : decode cX11_unitsOf 26 = .ok (.invokestatic 369, 3) := by decide +kernel
theorem dX11_unitsOf_29 : decode cX11_unitsOf 29 = .ok (.iaload, 1) := by decide +kernel
theorem dX11_unitsOf_30 : decode cX11_unitsOf 30 = .ok (.iload_n 2, 1) := by decide +kernel
theorem dX11_unitsOf_31 : decode cX11_unitsOf 31 = .ok (.if_icmp .ne 7, 3) := by decide +kernel
theorem dX11_unitsOf_34 : decode cX11_unitsOf 34 = .ok (.iconst 1, 1) := by decide +kernel
theorem dX11_unitsOf_35 : decode cX11_unitsOf 35 = .ok (.goto 4, 3) := by decide +kernel
theorem dX11_unitsOf_38 : decode cX11_unitsOf 38 = .ok (.iconst 0, 1) := by decide +kernel
theorem dX11_unitsOf_39 : decode cX11_unitsOf 39 = .ok (.iadd, 1) := by decide +kernel
theorem dX11_unitsOf_40 : decode cX11_unitsOf 40 = .ok (.istore_n 3, 1) := by decide +kernel
theorem dX11_unitsOf_41 : decode cX11_unitsOf 41 = .ok (.iinc 4 1, 3) := by decide +kernel
theorem dX11_unitsOf_44 : decode cX11_unitsOf 44 = .ok (.goto (-39), 3) := by decide +kernel
theorem dX11_unitsOf_47 : decode cX11_unitsOf 47 = .ok (.iload_n 3, 1) := by decide +kernel
theorem dX11_unitsOf_48 : decode cX11_unitsOf 48 = .ok (.ireturn, 1) := by decide +kernel
theorem dX11_value_0 : decode cX11_value 0 = .ok (.aload_n 0, 1) := by decide +kernel
theorem dX11_value_1 : decode cX11_value 1 = .ok (.iconst 0, 1) := by decide +kernel
theorem dX11_value_2 : decode cX11_value 2 = .ok (.putfield 1, 3) := by decide +kernel
theorem dX11_value_5 : decode cX11_value 5 = .ok (.aload_n 0, 1) := by decide +kernel
theorem dX11_value_6 : decode cX11_value 6 = .ok (.iload_n 1, 1) := by decide +kernel
theorem dX11_value_7 : decode cX11_value 7 = .ok (.invokevirtual 297, 3) := by decide +kernel
theorem dX11_value_10 : decode cX11_value 10 = .ok (.ifCond .eq 22, 3) := by decide +kernel
theorem dX11_value_13 : decode cX11_value 13 = .ok (.iload_n 2, 1) := by decide +kernel
theorem dX11_value_14 : decode cX11_value 14 = .ok (.iconst 0, 1) := by decide +kernel
theorem dX11_value_15 : decode cX11_value 15 = .ok (.bipush 120, 2) := by decide +kernel
theorem dX11_value_17 : decode cX11_value 17 = .ok (.invokestatic 300, 3) := by decide +kernel
theorem dX11_value_20 : decode cX11_value 20 = .ok (.ifCond .eq 12, 3) := by decide +kernel
theorem dX11_value_23 : decode cX11_value 23 = .ok (.aload_n 0, 1) := by decide +kernel
theorem dX11_value_24 : decode cX11_value 24 = .ok (.iload_n 1, 1) := by decide +kernel
theorem dX11_value_25 : decode cX11_value 25 = .ok (.iload_n 2, 1) := by decide +kernel
theorem dX11_value_26 : decode cX11_value 26 = .ok (.invokevirtual 294, 3) := by decide +kernel
theorem dX11_value_29 : decode cX11_value 29 = .ok (.goto 4, 3) := by decide +kernel
theorem dX11_value_32 : decode cX11_value 32 = .ok (.iconst (-1), 1) := by decide +kernel
theorem dX11_value_33 : decode cX11_value 33 = .ok (.ireturn, 1) := by decide +kernel
theorem dX11_valueOf_0 : decode cX11_valueOf 0 = .ok (.iconst 4, 1) := by decide +kernel
theorem dX11_valueOf_1 : decode cX11_valueOf 1 = .ok (.bipush 11, 2) := by decide +kernel
theorem dX11_valueOf_3 : decode cX11_valueOf 3 = .ok (.iload_n 1, 1) := by decide +kernel
theorem dX11_valueOf_4 : decode cX11_valueOf 4 = .ok (.imul, 1) := by decide +kernel
theorem dX11_valueOf_5 : decode cX11_valueOf 5 = .ok (.iadd, 1) := by decide +kernel
theorem dX11_valueOf_6 : decode cX11_valueOf 6 = .ok (.istore_n 3, 1) := by decide +kernel
theorem dX11_valueOf_7 : decode cX11_valueOf 7 = .ok (.aload_n 0, 1) := by decide +kernel
theorem dX11_valueOf_8 : decode cX11_valueOf 8 = .ok (.getfield 83, 3) := by decide +kernel
theorem dX11_valueOf_11 : decode cX11_valueOf 11 = .ok (.iload_n 3, 1) := by decide +kernel
theorem dX11_valueOf_12 : decode cX11_valueOf 12 = .ok (.iaload, 1) := by decide +kernel
theorem dX11_valueOf_13 : decode cX11_valueOf 13 = .ok (.istore 4, 2) := by decide +kernel
theorem dX11_valueOf_15 : decode cX11_valueOf 15 = .ok (.iload_n 2, 1) := by decide +kernel
theorem dX11_valueOf_16 : decode cX11_valueOf 16 = .ok (.iload 4, 2) := by decide +kernel
theorem dX11_valueOf_18 : decode cX11_valueOf 18 = .ok (.if_icmp .ge 14, 3) := by decide +kernel
theorem dX11_valueOf_21 : decode cX11_valueOf 21 = .ok (.aload_n 0, 1) := by decide +kernel
theorem dX11_valueOf_22 : decode cX11_valueOf 22 = .ok (.getfield 83, 3) := by decide +kernel
theorem dX11_valueOf_25 : decode cX11_valueOf 25 = .ok (.iload_n 3, 1) := by decide +kernel
theorem dX11_valueOf_26 : decode cX11_valueOf 26 = .ok (.iconst 3, 1) := by decide +kernel
theorem dX11_valueOf_27 : decode cX11_valueOf 27 = .ok (.iadd, 1) := by decide +kernel
theorem dX11_valueOf_28 : decode cX11_valueOf 28 = .ok (.iload_n 2, 1) := by decide +kernel
theorem dX11_valueOf_29 : decode cX11_valueOf 29 = .ok (.iadd, 1) := by decide +kernel
theorem dX11_valueOf_30 : decode cX11_valueOf 30 = .ok (.iaload, 1) := by decide +kernel
theorem dX11_valueOf_31 : decode cX11_valueOf 31 = .ok (.ireturn, 1) := by decide +kernel
theorem dX11_valueOf_32 : decode cX11_valueOf 32 = .ok (.iload_n 2, 1) := by decide +kernel
theorem dX11_valueOf_33 : decode cX11_valueOf 33 = .ok (.iload 4, 2) := by decide +kernel
theorem dX11_valueOf_35 : decode cX11_valueOf 35 = .ok (.isub, 1) := by decide +kernel
theorem dX11_valueOf_36 : decode cX11_valueOf 36 = .ok (.aload_n 0, 1) := by decide +kernel
theorem dX11_valueOf_37 : decode cX11_valueOf 37 = .ok (.getfield 83, 3) := by decide +kernel
theorem dX11_valueOf_40 : decode cX11_valueOf 40 = .ok (.iload_n 3, 1) := by decide +kernel
theorem dX11_valueOf_41 : decode cX11_valueOf 41 = .ok (.iconst 1, 1) := by decide +kernel
theorem dX11_valueOf_42 : decode cX11_valueOf 42 = .ok (.iadd, 1) := by decide +kernel
theorem dX11_valueOf_43 : decode cX11_valueOf 43 = .ok (.iaload, 1) := by decide +kernel
theorem dX11_valueOf_44 : decode cX11_valueOf 44 = .ok (.idiv, 1) := by decide +kernel
theorem dX11_valueOf_45 : decode cX11_valueOf 45 = .ok (.iconst 1, 1) := by decide +kernel
theorem dX11_valueOf_46 : decode cX11_valueOf 46 = .ok (.iadd, 1) := by decide +kernel
theorem dX11_valueOf_47 : decode cX11_valueOf 47 = .ok (.istore 5, 2) := by decide +kernel
theorem dX11_valueOf_49 : decode cX11_valueOf 49 = .ok (.aload_n 0, 1) := by decide +kernel
theorem dX11_valueOf_50 : decode cX11_valueOf 50 = .ok (.getfield 83, 3) := by decide +kernel
theorem dX11_valueOf_53 : decode cX11_valueOf 53 = .ok (.iload_n 3, 1) := by decide +kernel
theorem dX11_valueOf_54 : decode cX11_valueOf 54 = .ok (.iconst 3, 1) := by decide +kernel
theorem dX11_valueOf_55 : decode cX11_valueOf 55 = .ok (.iadd, 1) := by decide +kernel
theorem dX11_valueOf_56 : decode cX11_valueOf 56 = .ok (.iload_n 2, 1) := by decide +kernel
theorem dX11_valueOf_57 : decode cX11_valueOf 57 = .ok (.iadd, 1) := by decide +kernel
theorem dX11_valueOf_58 : decode cX11_valueOf 58 = .ok (.iload 5, 2) := by decide +kernel
theorem dX11_valueOf_60 : decode cX11_valueOf 60 = .ok (.aload_n 0, 1) := by decide +kernel
theorem dX11_valueOf_61 : decode cX11_valueOf 61 = .ok (.getfield 83, 3) := by decide +kernel
theorem dX11_valueOf_64 : decode cX11_valueOf 64 = .ok (.iload_n 3, 1) := by decide +kernel
theorem dX11_valueOf_65 : decode cX11_valueOf 65 = .ok (.iconst 1, 1) := by decide +kernel
theorem dX11_valueOf_66 : decode cX11_valueOf 66 = .ok (.iadd, 1) := by decide +kernel
theorem dX11_valueOf_67 : decode cX11_valueOf 67 = .ok (.iaload, 1) := by decide +kernel
theorem dX11_valueOf_68 : decode cX11_valueOf 68 = .ok (.imul, 1) := by decide +kernel
theorem dX11_valueOf_69 : decode cX11_valueOf 69 = .ok (.isub, 1) := by decide +kernel
theorem dX11_valueOf_70 : decode cX11_valueOf 70 = .ok (.iaload, 1) := by decide +kernel
theorem dX11_valueOf_71 : decode cX11_valueOf 71 = .ok (.iload 5, 2) := by decide +kernel
theorem dX11_valueOf_73 : decode cX11_valueOf 73 = .ok (.aload_n 0, 1) := by decide +kernel
theorem dX11_valueOf_74 : decode cX11_valueOf 74 = .ok (.getfield 83, 3) := by decide +kernel
theorem dX11_valueOf_77 : decode cX11_valueOf 77 = .ok (.iload_n 3, 1) := by decide +kernel
theorem dX11_valueOf_78 : decode cX11_valueOf 78 = .ok (.iconst 2, 1) := by decide +kernel
theorem dX11_valueOf_79 : decode cX11_valueOf 79 = .ok (.iadd, 1) := by decide +kernel
theorem dX11_valueOf_80 : decode cX11_valueOf 80 = .ok (.iaload, 1) := by decide +kernel
theorem dX11_valueOf_81 : decode cX11_valueOf 81 = .ok (.imul, 1) := by decide +kernel
theorem dX11_valueOf_82 : decode cX11_valueOf 82 = .ok (.iadd, 1) := by decide +kernel
theorem dX11_valueOf_83 : decode cX11_valueOf 83 = .ok (.ireturn, 1) := by decide +kernel
theorem dX11_way_0 : decode cX11_way 0 = .ok (.aload_n 0, 1) := by decide +kernel
theorem dX11_way_1 : decode cX11_way 1 = .ok (.iconst 0, 1) := by decide +kernel
theorem dX11_way_2 : decode cX11_way 2 = .ok (.putfield 1, 3) := by decide +kernel
theorem dX11_way_5 : decode cX11_way 5 = .ok (.aload_n 0, 1) := by decide +kernel
theorem dX11_way_6 : decode cX11_way 6 = .ok (.iload_n 1, 1) := by decide +kernel
theorem dX11_way_7 : decode cX11_way 7 = .ok (.iload_n 2, 1) := by decide +kernel
theorem dX11_way_8 : decode cX11_way 8 = .ok (.invokevirtual 352, 3) := by decide +kernel
theorem dX11_way_11 : decode cX11_way 11 = .ok (.ifCond .eq 12, 3) := by decide +kernel
theorem dX11_way_14 : decode cX11_way 14 = .ok (.aload_n 0, 1) := by decide +kernel
theorem dX11_way_15 : decode cX11_way 15 = .ok (.iload_n 1, 1) := by decide +kernel
theorem dX11_way_16 : decode cX11_way 16 = .ok (.iload_n 2, 1) := by decide +kernel
theorem dX11_way_17 : decode cX11_way 17 = .ok (.invokevirtual 288, 3) := by decide +kernel
theorem dX11_way_20 : decode cX11_way 20 = .ok (.goto 4, 3) := by decide +kernel
theorem dX11_way_23 : decode cX11_way 23 = .ok (.iconst (-1), 1) := by decide +kernel
theorem dX11_way_24 : decode cX11_way 24 = .ok (.ireturn, 1) := by decide +kernel
theorem dX11_who_0 : decode cX11_who 0 = .ok (.aload_n 0, 1) := by decide +kernel
theorem dX11_who_1 : decode cX11_who 1 = .ok (.iconst 0, 1) := by decide +kernel
theorem dX11_who_2 : decode cX11_who 2 = .ok (.putfield 1, 3) := by decide +kernel
theorem dX11_who_5 : decode cX11_who 5 = .ok (.aload_n 0, 1) := by decide +kernel
theorem dX11_who_6 : decode cX11_who 6 = .ok (.invokevirtual 428, 3) := by decide +kernel
theorem dX11_who_9 : decode cX11_who 9 = .ok (.ireturn, 1) := by decide +kernel
theorem dX11_whoNow_0 : decode cX11_whoNow 0 = .ok (.iconst 0, 1) := by decide +kernel
theorem dX11_whoNow_1 : decode cX11_whoNow 1 = .ok (.istore_n 1, 1) := by decide +kernel
theorem dX11_whoNow_2 : decode cX11_whoNow 2 = .ok (.iconst 0, 1) := by decide +kernel
theorem dX11_whoNow_3 : decode cX11_whoNow 3 = .ok (.istore_n 2, 1) := by decide +kernel
theorem dX11_whoNow_4 : decode cX11_whoNow 4 = .ok (.iload_n 2, 1) := by decide +kernel
theorem dX11_whoNow_5 : decode cX11_whoNow 5 = .ok (.aload_n 0, 1) := by decide +kernel
theorem dX11_whoNow_6 : decode cX11_whoNow 6 = .ok (.invokevirtual 273, 3) := by decide +kernel
theorem dX11_whoNow_9 : decode cX11_whoNow 9 = .ok (.if_icmp .ge 117, 3) := by decide +kernel
theorem dX11_whoNow_12 : decode cX11_whoNow 12 = .ok (.iconst 1, 1) := by decide +kernel
theorem dX11_whoNow_13 : decode cX11_whoNow 13 = .ok (.istore_n 3, 1) := by decide +kernel
theorem dX11_whoNow_14 : decode cX11_whoNow 14 = .ok (.iconst 0, 1) := by decide +kernel
theorem dX11_whoNow_15 : decode cX11_whoNow 15 = .ok (.istore 4, 2) := by decide +kernel
theorem dX11_whoNow_17 : decode cX11_whoNow 17 = .ok (.iload 4, 2) := by decide +kernel
theorem dX11_whoNow_19 : decode cX11_whoNow 19 = .ok (.aload_n 0, 1) := by decide +kernel
theorem dX11_whoNow_20 : decode cX11_whoNow 20 = .ok (.getfield 101, 3) := by decide +kernel
theorem dX11_whoNow_23 : decode cX11_whoNow 23 = .ok (.sipush 382, 3) := by decide +kernel
theorem dX11_whoNow_26 : decode cX11_whoNow 26 = .ok (.iaload, 1) := by decide +kernel
theorem dX11_whoNow_27 : decode cX11_whoNow 27 = .ok (.if_icmp .ge 79, 3) := by decide +kernel
theorem dX11_whoNow_30 : decode cX11_whoNow 30 = .ok (.sipush 383, 3) := by decide +kernel
theorem dX11_whoNow_33 : decode cX11_whoNow 33 = .ok (.iconst 3, 1) := by decide +kernel
theorem dX11_whoNow_34 : decode cX11_whoNow 34 = .ok (.iload 4, 2) := by decide +kernel
theorem dX11_whoNow_36 : decode cX11_whoNow 36 = .ok (.imul, 1) := by decide +kernel
theorem dX11_whoNow_37 : decode cX11_whoNow 37 = .ok (.iadd, 1) := by decide +kernel
theorem dX11_whoNow_38 : decode cX11_whoNow 38 = .ok (.istore 5, 2) := by decide +kernel
theorem dX11_whoNow_40 : decode cX11_whoNow 40 = .ok (.iload_n 3, 1) := by decide +kernel
theorem dX11_whoNow_41 : decode cX11_whoNow 41 = .ok (.ifCond .eq 57, 3) := by decide +kernel
theorem dX11_whoNow_44 : decode cX11_whoNow 44 = .ok (.aload_n 0, 1) := by decide +kernel
theorem dX11_whoNow_45 : decode cX11_whoNow 45 = .ok (.iload_n 2, 1) := by decide +kernel
theorem dX11_whoNow_46 : decode cX11_whoNow 46 = .ok (.aload_n 0, 1) := by decide +kernel
theorem dX11_whoNow_47 : decode cX11_whoNow 47 = .ok (.getfield 101, 3) := by decide +kernel
theorem dX11_whoNow_50 : decode cX11_whoNow 50 = .ok (.iload 5, 2) := by decide +kernel
theorem dX11_whoNow_52 : decode cX11_whoNow 52 = .ok (.iaload, 1) := by decide +kernel
theorem dX11_whoNow_53 : decode cX11_whoNow 53 = .ok (.invokevirtual 294, 3) := by decide +kernel
theorem dX11_whoNow_56 : decode cX11_whoNow 56 = .ok (.aload_n 0, 1) := by decide +kernel
theorem dX11_whoNow_57 : decode cX11_whoNow 57 = .ok (.getfield 101, 3) := by decide +kernel
theorem dX11_whoNow_60 : decode cX11_whoNow 60 = .ok (.iload 5, 2) := by decide +kernel
theorem dX11_whoNow_62 : decode cX11_whoNow 62 = .ok (.iconst 1, 1) := by decide +kernel
theorem dX11_whoNow_63 : decode cX11_whoNow 63 = .ok (.iadd, 1) := by decide +kernel
theorem dX11_whoNow_64 : decode cX11_whoNow 64 = .ok (.iaload, 1) := by decide +kernel
theorem dX11_whoNow_65 : decode cX11_whoNow 65 = .ok (.if_icmp .lt 7, 3) := by decide +kernel
theorem dX11_whoNow_68 : decode cX11_whoNow 68 = .ok (.iconst 1, 1) := by decide +kernel
theorem dX11_whoNow_69 : decode cX11_whoNow 69 = .ok (.goto 4, 3) := by decide +kernel
theorem dX11_whoNow_72 : decode cX11_whoNow 72 = .ok (.iconst 0, 1) := by decide +kernel
theorem dX11_whoNow_73 : decode cX11_whoNow 73 = .ok (.aload_n 0, 1) := by decide +kernel
theorem dX11_whoNow_74 : decode cX11_whoNow 74 = .ok (.getfield 101, 3) := by decide +kernel
theorem dX11_whoNow_77 : decode cX11_whoNow 77 = .ok (.iload 5, 2) := by decide +kernel
theorem dX11_whoNow_79 : decode cX11_whoNow 79 = .ok (.iconst 2, 1) := by decide +kernel
theorem dX11_whoNow_80 : decode cX11_whoNow 80 = .ok (.iadd, 1) := by decide +kernel
theorem dX11_whoNow_81 : decode cX11_whoNow 81 = .ok (.iaload, 1) := by decide +kernel
theorem dX11_whoNow_82 : decode cX11_whoNow 82 = .ok (.iconst 1, 1) := by decide +kernel
theorem dX11_whoNow_83 : decode cX11_whoNow 83 = .ok (.if_icmp .ne 7, 3) := by decide +kernel
theorem dX11_whoNow_86 : decode cX11_whoNow 86 = .ok (.iconst 1, 1) := by decide +kernel
theorem dX11_whoNow_87 : decode cX11_whoNow 87 = .ok (.goto 4, 3) := by decide +kernel
theorem dX11_whoNow_90 : decode cX11_whoNow 90 = .ok (.iconst 0, 1) := by decide +kernel
theorem dX11_whoNow_91 : decode cX11_whoNow 91 = .ok (.if_icmp .ne 7, 3) := by decide +kernel
theorem dX11_whoNow_94 : decode cX11_whoNow 94 = .ok (.iconst 1, 1) := by decide +kernel
theorem dX11_whoNow_95 : decode cX11_whoNow 95 = .ok (.goto 4, 3) := by decide +kernel
theorem dX11_whoNow_98 : decode cX11_whoNow 98 = .ok (.iconst 0, 1) := by decide +kernel
theorem dX11_whoNow_99 : decode cX11_whoNow 99 = .ok (.istore_n 3, 1) := by decide +kernel
theorem dX11_whoNow_100 : decode cX11_whoNow 100 = .ok (.iinc 4 1, 3) := by decide +kernel
theorem dX11_whoNow_103 : decode cX11_whoNow 103 = .ok (.goto (-86), 3) := by decide +kernel
theorem dX11_whoNow_106 : decode cX11_whoNow 106 = .ok (.iload_n 1, 1) := by decide +kernel
theorem dX11_whoNow_107 : decode cX11_whoNow 107 = .ok (.iload_n 3, 1) := by decide +kernel
theorem dX11_whoNow_108 : decode cX11_whoNow 108 = .ok (.ifCond .eq 9, 3) := by decide +kernel
theorem dX11_whoNow_111 : decode cX11_whoNow 111 = .ok (.iconst 1, 1) := by decide +kernel
theorem dX11_whoNow_112 : decode cX11_whoNow 112 = .ok (.iload_n 2, 1) := by decide +kernel
theorem dX11_whoNow_113 : decode cX11_whoNow 113 = .ok (.ishl, 1) := by decide +kernel
theorem dX11_whoNow_114 : decode cX11_whoNow 114 = .ok (.goto 4, 3) := by decide +kernel
theorem dX11_whoNow_117 : decode cX11_whoNow 117 = .ok (.iconst 0, 1) := by decide +kernel
theorem dX11_whoNow_118 : decode cX11_whoNow 118 = .ok (.ior, 1) := by decide +kernel
theorem dX11_whoNow_119 : decode cX11_whoNow 119 = .ok (.istore_n 1, 1) := by decide +kernel
theorem dX11_whoNow_120 : decode cX11_whoNow 120 = .ok (.iinc 2 1, 3) := by decide +kernel
theorem dX11_whoNow_123 : decode cX11_whoNow 123 = .ok (.goto (-119), 3) := by decide +kernel
theorem dX11_whoNow_126 : decode cX11_whoNow 126 = .ok (.iload_n 1, 1) := by decide +kernel
theorem dX11_whoNow_127 : decode cX11_whoNow 127 = .ok (.ireturn, 1) := by decide +kernel
theorem dX11_whole_0 : decode cX11_whole 0 = .ok (.aload_n 0, 1) := by decide +kernel
theorem dX11_whole_1 : decode cX11_whole 1 = .ok (.iload_n 1, 1) := by decide +kernel
theorem dX11_whole_2 : decode cX11_whole 2 = .ok (.invokevirtual 249, 3) := by decide +kernel
theorem dX11_whole_5 : decode cX11_whole 5 = .ok (.aload_n 0, 1) := by decide +kernel
theorem dX11_whole_6 : decode cX11_whole 6 = .ok (.bipush 17, 2) := by decide +kernel
theorem dX11_whole_8 : decode cX11_whole 8 = .ok (.invokevirtual 177, 3) := by decide +kernel
theorem dX11_whole_11 : decode cX11_whole 11 = .ok (.ifCond .ne 12, 3) := by decide +kernel
theorem dX11_whole_14 : decode cX11_whole 14 = .ok (.aload_n 0, 1) := by decide +kernel
theorem dX11_whole_15 : decode cX11_whole 15 = .ok (.bipush 18, 2) := by decide +kernel
theorem dX11_whole_17 : decode cX11_whole 17 = .ok (.invokevirtual 177, 3) := by decide +kernel
theorem dX11_whole_20 : decode cX11_whole 20 = .ok (.ifCond .eq 44, 3) := by decide +kernel
theorem dX11_whole_23 : decode cX11_whole 23 = .ok (.aload_n 0, 1) := by decide +kernel
theorem dX11_whole_24 : decode cX11_whole 24 = .ok (.bipush 17, 2) := by decide +kernel
theorem dX11_whole_26 : decode cX11_whole 26 = .ok (.invokevirtual 177, 3) := by decide +kernel
theorem dX11_whole_29 : decode cX11_whole 29 = .ok (.istore_n 2, 1) := by decide +kernel
theorem dX11_whole_30 : decode cX11_whole 30 = .ok (.aload_n 0, 1) := by decide +kernel
theorem dX11_whole_31 : decode cX11_whole 31 = .ok (.dup, 1) := by decide +kernel
theorem dX11_whole_32 : decode cX11_whole 32 = .ok (.getfield 165, 3) := by decide +kernel
theorem dX11_whole_35 : decode cX11_whole 35 = .ok (.iconst 1, 1) := by decide +kernel
theorem dX11_whole_36 : decode cX11_whole 36 = .ok (.iadd, 1) := by decide +kernel
theorem dX11_whole_37 : decode cX11_whole 37 = .ok (.putfield 165, 3) := by decide +kernel
theorem dX11_whole_40 : decode cX11_whole 40 = .ok (.aload_n 0, 1) := by decide +kernel
theorem dX11_whole_41 : decode cX11_whole 41 = .ok (.iload_n 1, 1) := by decide +kernel
theorem dX11_whole_42 : decode cX11_whole 42 = .ok (.invokevirtual 249, 3) := by decide +kernel
theorem dX11_whole_45 : decode cX11_whole 45 = .ok (.aload_n 0, 1) := by decide +kernel
theorem dX11_whole_46 : decode cX11_whole 46 = .ok (.iload_n 2, 1) := by decide +kernel
theorem dX11_whole_47 : decode cX11_whole 47 = .ok (.ifCond .eq 8, 3) := by decide +kernel
theorem dX11_whole_50 : decode cX11_whole 50 = .ok (.bipush 9, 2) := by decide +kernel
theorem dX11_whole_52 : decode cX11_whole 52 = .ok (.goto 5, 3) := by decide +kernel
theorem dX11_whole_55 : decode cX11_whole 55 = .ok (.bipush 10, 2) := by decide +kernel
theorem dX11_whole_57 : decode cX11_whole 57 = .ok (.iconst 0, 1) := by decide +kernel
theorem dX11_whole_58 : decode cX11_whole 58 = .ok (.invokevirtual 227, 3) := by decide +kernel
theorem dX11_whole_61 : decode cX11_whole 61 = .ok (.goto (-56), 3) := by decide +kernel
theorem dX11_whole_64 : decode cX11_whole 64 = .ok (.return_, 1) := by decide +kernel
theorem dX11_within_0 : decode cX11_within 0 = .ok (.iload_n 0, 1) := by decide +kernel
theorem dX11_within_1 : decode cX11_within 1 = .ok (.iload_n 1, 1) := by decide +kernel
theorem dX11_within_2 : decode cX11_within 2 = .ok (.if_icmp .lt 12, 3) := by decide +kernel
theorem dX11_within_5 : decode cX11_within 5 = .ok (.iload_n 0, 1) := by decide +kernel
theorem dX11_within_6 : decode cX11_within 6 = .ok (.iload_n 2, 1) := by decide +kernel
theorem dX11_within_7 : decode cX11_within 7 = .ok (.if_icmp .gt 7, 3) := by decide +kernel
theorem dX11_within_10 : decode cX11_within 10 = .ok (.iconst 1, 1) := by decide +kernel
theorem dX11_within_11 : decode cX11_within 11 = .ok (.goto 4, 3) := by decide +kernel
theorem dX11_within_14 : decode cX11_within 14 = .ok (.iconst 0, 1) := by decide +kernel
theorem dX11_within_15 : decode cX11_within 15 = .ok (.ireturn, 1) := by decide +kernel
theorem dX11_wordHere_0 : decode cX11_wordHere 0 = .ok (.iconst (-1), 1) := by decide +kernel
theorem dX11_wordHere_1 : decode cX11_wordHere 1 = .ok (.istore_n 3, 1) := by decide +kernel
theorem dX11_wordHere_2 : decode cX11_wordHere 2 = .ok (.iconst 0, 1) := by decide +kernel
theorem dX11_wordHere_3 : decode cX11_wordHere 3 = .ok (.istore 4, 2) := by decide +kernel
theorem dX11_wordHere_5 : decode cX11_wordHere 5 = .ok (.iload 4, 2) := by decide +kernel
theorem dX11_wordHere_7 : decode cX11_wordHere 7 = .ok (.iload_n 2, 1) := by decide +kernel
theorem dX11_wordHere_8 : decode cX11_wordHere 8 = .ok (.if_icmp .ge 27, 3) := by decide +kernel
theorem dX11_wordHere_11 : decode cX11_wordHere 11 = .ok (.aload_n 0, 1) := by decide +kernel
theorem dX11_wordHere_12 : decode cX11_wordHere 12 = .ok (.iload_n 1, 1) := by decide +kernel
theorem dX11_wordHere_13 : decode cX11_wordHere 13 = .ok (.iload 4, 2) := by decide +kernel
theorem dX11_wordHere_15 : decode cX11_wordHere 15 = .ok (.iadd, 1) := by decide +kernel
theorem dX11_wordHere_16 : decode cX11_wordHere 16 = .ok (.invokevirtual 177, 3) := by decide +kernel
theorem dX11_wordHere_19 : decode cX11_wordHere 19 = .ok (.ifCond .eq 8, 3) := by decide +kernel
theorem dX11_wordHere_22 : decode cX11_wordHere 22 = .ok (.iload 4, 2) := by decide +kernel
theorem dX11_wordHere_24 : decode cX11_wordHere 24 = .ok (.goto 4, 3) := by decide +kernel
theorem dX11_wordHere_27 : decode cX11_wordHere 27 = .ok (.iload_n 3, 1) := by decide +kernel
theorem dX11_wordHere_28 : decode cX11_wordHere 28 = .ok (.istore_n 3, 1) := by decide +kernel
theorem dX11_wordHere_29 : decode cX11_wordHere 29 = .ok (.iinc 4 1, 3) := by decide +kernel
theorem dX11_wordHere_32 : decode cX11_wordHere 32 = .ok (.goto (-27), 3) := by decide +kernel
theorem dX11_wordHere_35 : decode cX11_wordHere 35 = .ok (.iload_n 3, 1) := by decide +kernel
theorem dX11_wordHere_36 : decode cX11_wordHere 36 = .ok (.ireturn, 1) := by decide +kernel
theorem dX11_worked_0 : decode cX11_worked 0 = .ok (.iload_n 0, 1) := by decide +kernel
theorem dX11_worked_1 : decode cX11_worked 1 = .ok (.tableswitch 87 4 9 #[39, 43, 47, 51, 62, 73], 39) := by decide +kernel
theorem dX11_worked_40 : decode cX11_worked 40 = .ok (.iload_n 1, 1) := by decide +kernel
theorem dX11_worked_41 : decode cX11_worked 41 = .ok (.iload_n 2, 1) := by decide +kernel
theorem dX11_worked_42 : decode cX11_worked 42 = .ok (.iadd, 1) := by decide +kernel
theorem dX11_worked_43 : decode cX11_worked 43 = .ok (.ireturn, 1) := by decide +kernel
theorem dX11_worked_44 : decode cX11_worked 44 = .ok (.iload_n 1, 1) := by decide +kernel
theorem dX11_worked_45 : decode cX11_worked 45 = .ok (.iload_n 2, 1) := by decide +kernel
theorem dX11_worked_46 : decode cX11_worked 46 = .ok (.isub, 1) := by decide +kernel
theorem dX11_worked_47 : decode cX11_worked 47 = .ok (.ireturn, 1) := by decide +kernel
theorem dX11_worked_48 : decode cX11_worked 48 = .ok (.iload_n 1, 1) := by decide +kernel
theorem dX11_worked_49 : decode cX11_worked 49 = .ok (.iload_n 2, 1) := by decide +kernel
theorem dX11_worked_50 : decode cX11_worked 50 = .ok (.imul, 1) := by decide +kernel
theorem dX11_worked_51 : decode cX11_worked 51 = .ok (.ireturn, 1) := by decide +kernel
theorem dX11_worked_52 : decode cX11_worked 52 = .ok (.iload_n 1, 1) := by decide +kernel
theorem dX11_worked_53 : decode cX11_worked 53 = .ok (.iload_n 2, 1) := by decide +kernel
theorem dX11_worked_54 : decode cX11_worked 54 = .ok (.if_icmp .ge 7, 3) := by decide +kernel
theorem dX11_worked_57 : decode cX11_worked 57 = .ok (.iconst 1, 1) := by decide +kernel
theorem dX11_worked_58 : decode cX11_worked 58 = .ok (.goto 4, 3) := by decide +kernel
theorem dX11_worked_61 : decode cX11_worked 61 = .ok (.iconst 0, 1) := by decide +kernel
theorem dX11_worked_62 : decode cX11_worked 62 = .ok (.ireturn, 1) := by decide +kernel
theorem dX11_worked_63 : decode cX11_worked 63 = .ok (.iload_n 1, 1) := by decide +kernel
theorem dX11_worked_64 : decode cX11_worked 64 = .ok (.iload_n 2, 1) := by decide +kernel
theorem dX11_worked_65 : decode cX11_worked 65 = .ok (.if_icmp .ne 7, 3) := by decide +kernel
theorem dX11_worked_68 : decode cX11_worked 68 = .ok (.iconst 1, 1) := by decide +kernel
theorem dX11_worked_69 : decode cX11_worked 69 = .ok (.goto 4, 3) := by decide +kernel
theorem dX11_worked_72 : decode cX11_worked 72 = .ok (.iconst 0, 1) := by decide +kernel
theorem dX11_worked_73 : decode cX11_worked 73 = .ok (.ireturn, 1) := by decide +kernel
theorem dX11_worked_74 : decode cX11_worked 74 = .ok (.iload_n 1, 1) := by decide +kernel
theorem dX11_worked_75 : decode cX11_worked 75 = .ok (.ifCond .eq 11, 3) := by decide +kernel
theorem dX11_worked_78 : decode cX11_worked 78 = .ok (.iload_n 2, 1) := by decide +kernel
theorem dX11_worked_79 : decode cX11_worked 79 = .ok (.ifCond .eq 7, 3) := by decide +kernel
theorem dX11_worked_82 : decode cX11_worked 82 = .ok (.iconst 1, 1) := by decide +kernel
theorem dX11_worked_83 : decode cX11_worked 83 = .ok (.goto 4, 3) := by decide +kernel
theorem dX11_worked_86 : decode cX11_worked 86 = .ok (.iconst 0, 1) := by decide +kernel
theorem dX11_worked_87 : decode cX11_worked 87 = .ok (.ireturn, 1) := by decide +kernel
theorem dX11_worked_88 : decode cX11_worked 88 = .ok (.iload_n 1, 1) := by decide +kernel
theorem dX11_worked_89 : decode cX11_worked 89 = .ok (.ifCond .ne 7, 3) := by decide +kernel
theorem dX11_worked_92 : decode cX11_worked 92 = .ok (.iload_n 2, 1) := by decide +kernel
theorem dX11_worked_93 : decode cX11_worked 93 = .ok (.ifCond .eq 7, 3) := by decide +kernel
theorem dX11_worked_96 : decode cX11_worked 96 = .ok (.iconst 1, 1) := by decide +kernel
theorem dX11_worked_97 : decode cX11_worked 97 = .ok (.goto 4, 3) := by decide +kernel
theorem dX11_worked_100 : decode cX11_worked 100 = .ok (.iconst 0, 1) := by decide +kernel
theorem dX11_worked_101 : decode cX11_worked 101 = .ok (.ireturn, 1) := by decide +kernel
theorem dX11_worst_0 : decode cX11_worst 0 = .ok (.aload_n 0, 1) := by decide +kernel
theorem dX11_worst_1 : decode cX11_worst 1 = .ok (.iconst 0, 1) := by decide +kernel
theorem dX11_worst_2 : decode cX11_worst 2 = .ok (.putfield 1, 3) := by decide +kernel
theorem dX11_worst_5 : decode cX11_worst 5 = .ok (.iconst (-1), 1) := by decide +kernel
theorem dX11_worst_6 : decode cX11_worst 6 = .ok (.istore_n 1, 1) := by decide +kernel
theorem dX11_worst_7 : decode cX11_worst 7 = .ok (.iconst (-1), 1) := by decide +kernel
theorem dX11_worst_8 : decode cX11_worst 8 = .ok (.istore_n 2, 1) := by decide +kernel
theorem dX11_worst_9 : decode cX11_worst 9 = .ok (.iconst 0, 1) := by decide +kernel
theorem dX11_worst_10 : decode cX11_worst 10 = .ok (.istore_n 3, 1) := by decide +kernel
theorem dX11_worst_11 : decode cX11_worst 11 = .ok (.iload_n 3, 1) := by decide +kernel
theorem dX11_worst_12 : decode cX11_worst 12 = .ok (.aload_n 0, 1) := by decide +kernel
theorem dX11_worst_13 : decode cX11_worst 13 = .ok (.invokevirtual 245, 3) := by decide +kernel
theorem dX11_worst_16 : decode cX11_worst 16 = .ok (.if_icmp .ge 53, 3) := by decide +kernel
theorem dX11_worst_19 : decode cX11_worst 19 = .ok (.aload_n 0, 1) := by decide +kernel
theorem dX11_worst_20 : decode cX11_worst 20 = .ok (.invokevirtual 349, 3) := by decide +kernel
theorem dX11_worst_23 : decode cX11_worst 23 = .ok (.ifCond .le 46, 3) := by decide +kernel
theorem dX11_worst_26 : decode cX11_worst 26 = .ok (.aload_n 0, 1) := by decide +kernel
theorem dX11_worst_27 : decode cX11_worst 27 = .ok (.iload_n 3, 1) := by decide +kernel
theorem dX11_worst_28 : decode cX11_worst 28 = .ok (.aload_n 0, 1) := by decide +kernel
theorem dX11_worst_29 : decode cX11_worst 29 = .ok (.iload_n 3, 1) := by decide +kernel
theorem dX11_worst_30 : decode cX11_worst 30 = .ok (.invokevirtual 285, 3) := by decide +kernel
theorem dX11_worst_33 : decode cX11_worst 33 = .ok (.invokevirtual 319, 3) := by decide +kernel
theorem dX11_worst_36 : decode cX11_worst 36 = .ok (.istore 4, 2) := by decide +kernel
theorem dX11_worst_38 : decode cX11_worst 38 = .ok (.iload 4, 2) := by decide +kernel
theorem dX11_worst_40 : decode cX11_worst 40 = .ok (.iload_n 2, 1) := by decide +kernel
theorem dX11_worst_41 : decode cX11_worst 41 = .ok (.if_icmp .le 7, 3) := by decide +kernel
theorem dX11_worst_44 : decode cX11_worst 44 = .ok (.iload_n 3, 1) := by decide +kernel
theorem dX11_worst_45 : decode cX11_worst 45 = .ok (.goto 4, 3) := by decide +kernel
theorem dX11_worst_48 : decode cX11_worst 48 = .ok (.iload_n 1, 1) := by decide +kernel
theorem dX11_worst_49 : decode cX11_worst 49 = .ok (.istore_n 1, 1) := by decide +kernel
theorem dX11_worst_50 : decode cX11_worst 50 = .ok (.iload 4, 2) := by decide +kernel
theorem dX11_worst_52 : decode cX11_worst 52 = .ok (.iload_n 2, 1) := by decide +kernel
theorem dX11_worst_53 : decode cX11_worst 53 = .ok (.if_icmp .le 8, 3) := by decide +kernel
theorem dX11_worst_56 : decode cX11_worst 56 = .ok (.iload 4, 2) := by decide +kernel
theorem dX11_worst_58 : decode cX11_worst 58 = .ok (.goto 4, 3) := by decide +kernel
theorem dX11_worst_61 : decode cX11_worst 61 = .ok (.iload_n 2, 1) := by decide +kernel
theorem dX11_worst_62 : decode cX11_worst 62 = .ok (.istore_n 2, 1) := by decide +kernel
theorem dX11_worst_63 : decode cX11_worst 63 = .ok (.iinc 3 1, 3) := by decide +kernel
theorem dX11_worst_66 : decode cX11_worst 66 = .ok (.goto (-55), 3) := by decide +kernel
theorem dX11_worst_69 : decode cX11_worst 69 = .ok (.iload_n 1, 1) := by decide +kernel
theorem dX11_worst_70 : decode cX11_worst 70 = .ok (.ireturn, 1) := by decide +kernel
theorem dX11_worthAt_0 : decode cX11_worthAt 0 = .ok (.iconst 0, 1) := by decide +kernel
theorem dX11_worthAt_1 : decode cX11_worthAt 1 = .ok (.istore_n 2, 1) := by decide +kernel
theorem dX11_worthAt_2 : decode cX11_worthAt 2 = .ok (.iload_n 1, 1) := by decide +kernel
theorem dX11_worthAt_3 : decode cX11_worthAt 3 = .ok (.istore_n 3, 1) := by decide +kernel
theorem dX11_worthAt_4 : decode cX11_worthAt 4 = .ok (.aload_n 0, 1) := by decide +kernel
theorem dX11_worthAt_5 : decode cX11_worthAt 5 = .ok (.getfield 86, 3) := by decide +kernel
theorem dX11_worthAt_8 : decode cX11_worthAt 8 = .ok (.iload_n 3, 1) := by decide +kernel
theorem dX11_worthAt_9 : decode cX11_worthAt 9 = .ok (.iaload, 1) := by decide +kernel
theorem dX11_worthAt_10 : decode cX11_worthAt 10 = .ok (.bipush 16, 2) := by decide +kernel
theorem dX11_worthAt_12 : decode cX11_worthAt 12 = .ok (.irem, 1) := by decide +kernel
theorem dX11_worthAt_13 : decode cX11_worthAt 13 = .ok (.ifCond .eq 139, 3) := by decide +kernel
theorem dX11_worthAt_16 : decode cX11_worthAt 16 = .ok (.aload_n 0, 1) := by decide +kernel
theorem dX11_worthAt_17 : decode cX11_worthAt 17 = .ok (.getfield 86, 3) := by decide +kernel
theorem dX11_worthAt_20 : decode cX11_worthAt 20 = .ok (.iload_n 3, 1) := by decide +kernel
theorem dX11_worthAt_21 : decode cX11_worthAt 21 = .ok (.iaload, 1) := by decide +kernel
theorem dX11_worthAt_22 : decode cX11_worthAt 22 = .ok (.bipush 16, 2) := by decide +kernel
theorem dX11_worthAt_24 : decode cX11_worthAt 24 = .ok (.irem, 1) := by decide +kernel
theorem dX11_worthAt_25 : decode cX11_worthAt 25 = .ok (.istore 4, 2) := by decide +kernel
theorem dX11_worthAt_27 : decode cX11_worthAt 27 = .ok (.iload 4, 2) := by decide +kernel
theorem dX11_worthAt_29 : decode cX11_worthAt 29 = .ok (.iconst 1, 1) := by decide +kernel
theorem dX11_worthAt_30 : decode cX11_worthAt 30 = .ok (.if_icmp .eq 9, 3) := by decide +kernel
theorem dX11_worthAt_33 : decode cX11_worthAt 33 = .ok (.iload 4, 2) := by decide +kernel
theorem dX11_worthAt_35 : decode cX11_worthAt 35 = .ok (.iconst 2, 1) := by decide +kernel
theorem dX11_worthAt_36 : decode cX11_worthAt 36 = .ok (.if_icmp .ne 47, 3) := by decide +kernel
theorem dX11_worthAt_39 : decode cX11_worthAt 39 = .ok (.aload_n 0, 1) := by decide +kernel
theorem dX11_worthAt_40 : decode cX11_worthAt 40 = .ok (.getfield 98, 3) := by decide +kernel
theorem dX11_worthAt_43 : decode cX11_worthAt 43 = .ok (.iload_n 2, 1) := by decide +kernel
theorem dX11_worthAt_44 : decode cX11_worthAt 44 = .ok (.iload 4, 2) := by decide +kernel
theorem dX11_worthAt_46 : decode cX11_worthAt 46 = .ok (.iconst 1, 1) := by decide +kernel
theorem dX11_worthAt_47 : decode cX11_worthAt 47 = .ok (.if_icmp .ne 15, 3) := by decide +kernel
theorem dX11_worthAt_50 : decode cX11_worthAt 50 = .ok (.aload_n 0, 1) := by decide +kernel
theorem dX11_worthAt_51 : decode cX11_worthAt 51 = .ok (.getfield 86, 3) := by decide +kernel
theorem dX11_worthAt_54 : decode cX11_worthAt 54 = .ok (.iload_n 3, 1) := by decide +kernel
theorem dX11_worthAt_55 : decode cX11_worthAt 55 = .ok (.iaload, 1) := by decide +kernel
theorem dX11_worthAt_56 : decode cX11_worthAt 56 = .ok (.bipush 16, 2) := by decide +kernel
theorem dX11_worthAt_58 : decode cX11_worthAt 58 = .ok (.idiv, 1) := by decide +kernel
theorem dX11_worthAt_59 : decode cX11_worthAt 59 = .ok (.goto 17, 3) := by decide +kernel
theorem dX11_worthAt_62 : decode cX11_worthAt 62 = .ok (.aload_n 0, 1) := by decide +kernel
theorem dX11_worthAt_63 : decode cX11_worthAt 63 = .ok (.getfield 95, 3) := by decide +kernel
theorem dX11_worthAt_66 : decode cX11_worthAt 66 = .ok (.aload_n 0, 1) := by decide +kernel
theorem dX11_worthAt_67 : decode cX11_worthAt 67 = .ok (.getfield 86, 3) := by decide +kernel
theorem dX11_worthAt_70 : decode cX11_worthAt 70 = .ok (.iload_n 3, 1) := by decide +kernel
theorem dX11_worthAt_71 : decode cX11_worthAt 71 = .ok (.iaload, 1) := by decide +kernel
theorem dX11_worthAt_72 : decode cX11_worthAt 72 = .ok (.bipush 16, 2) := by decide +kernel
theorem dX11_worthAt_74 : decode cX11_worthAt 74 = .ok (.idiv, 1) := by decide +kernel
theorem dX11_worthAt_75 : decode cX11_worthAt 75 = .ok (.iaload, 1) := by decide +kernel
theorem dX11_worthAt_76 : decode cX11_worthAt 76 = .ok (.iastore, 1) := by decide +kernel
theorem dX11_worthAt_77 : decode cX11_worthAt 77 = .ok (.iinc 2 1, 3) := by decide +kernel
theorem dX11_worthAt_80 : decode cX11_worthAt 80 = .ok (.goto 66, 3) := by decide +kernel
theorem dX11_worthAt_83 : decode cX11_worthAt 83 = .ok (.iload 4, 2) := by decide +kernel
theorem dX11_worthAt_85 : decode cX11_worthAt 85 = .ok (.iconst 3, 1) := by decide +kernel
theorem dX11_worthAt_86 : decode cX11_worthAt 86 = .ok (.if_icmp .ne 30, 3) := by decide +kernel
theorem dX11_worthAt_89 : decode cX11_worthAt 89 = .ok (.aload_n 0, 1) := by decide +kernel
theorem dX11_worthAt_90 : decode cX11_worthAt 90 = .ok (.getfield 98, 3) := by decide +kernel
theorem dX11_worthAt_93 : decode cX11_worthAt 93 = .ok (.iload_n 2, 1) := by decide +kernel
theorem dX11_worthAt_94 : decode cX11_worthAt 94 = .ok (.iconst 1, 1) := by decide +kernel
theorem dX11_worthAt_95 : decode cX11_worthAt 95 = .ok (.isub, 1) := by decide +kernel
theorem dX11_worthAt_96 : decode cX11_worthAt 96 = .ok (.aload_n 0, 1) := by decide +kernel
theorem dX11_worthAt_97 : decode cX11_worthAt 97 = .ok (.getfield 98, 3) := by decide +kernel
theorem dX11_worthAt_100 : decode cX11_worthAt 100 = .ok (.iload_n 2, 1) := by decide +kernel
theorem dX11_worthAt_101 : decode cX11_worthAt 101 = .ok (.iconst 1, 1) := by decide +kernel
theorem dX11_worthAt_102 : decode cX11_worthAt 102 = .ok (.isub, 1) := by decide +kernel
theorem dX11_worthAt_103 : decode cX11_worthAt 103 = .ok (.iaload, 1) := by decide +kernel
theorem dX11_worthAt_104 : decode cX11_worthAt 104 = .ok (.ifCond .ne 7, 3) := by decide +kernel
theorem dX11_worthAt_107 : decode cX11_worthAt 107 = .ok (.iconst 1, 1) := by decide +kernel
theorem dX11_worthAt_108 : decode cX11_worthAt 108 = .ok (.goto 4, 3) := by decide +kernel
theorem dX11_worthAt_111 : decode cX11_worthAt 111 = .ok (.iconst 0, 1) := by decide +kernel
theorem dX11_worthAt_112 : decode cX11_worthAt 112 = .ok (.iastore, 1) := by decide +kernel
theorem dX11_worthAt_113 : decode cX11_worthAt 113 = .ok (.goto 33, 3) := by decide +kernel
theorem dX11_worthAt_116 : decode cX11_worthAt 116 = .ok (.iinc 2 (-1), 3) := by decide +kernel
theorem dX11_worthAt_119 : decode cX11_worthAt 119 = .ok (.aload_n 0, 1) := by decide +kernel
theorem dX11_worthAt_120 : decode cX11_worthAt 120 = .ok (.getfield 98, 3) := by decide +kernel
theorem dX11_worthAt_123 : decode cX11_worthAt 123 = .ok (.iload_n 2, 1) := by decide +kernel
theorem dX11_worthAt_124 : decode cX11_worthAt 124 = .ok (.iconst 1, 1) := by decide +kernel
theorem dX11_worthAt_125 : decode cX11_worthAt 125 = .ok (.isub, 1) := by decide +kernel
theorem dX11_worthAt_126 : decode cX11_worthAt 126 = .ok (.iload 4, 2) := by decide +kernel
theorem dX11_worthAt_128 : decode cX11_worthAt 128 = .ok (.aload_n 0, 1) := by decide +kernel
theorem dX11_worthAt_129 : decode cX11_worthAt 129 = .ok (.getfield 98, 3) := by decide +kernel
theorem dX11_worthAt_132 : decode cX11_worthAt 132 = .ok (.iload_n 2, 1) := by decide +kernel
theorem dX11_worthAt_133 : decode cX11_worthAt 133 = .ok (.iconst 1, 1) := by decide +kernel
theorem dX11_worthAt_134 : decode cX11_worthAt 134 = .ok (.isub, 1) := by decide +kernel
theorem dX11_worthAt_135 : decode cX11_worthAt 135 = .ok (.iaload, 1) := by decide +kernel
theorem dX11_worthAt_136 : decode cX11_worthAt 136 = .ok (.aload_n 0, 1) := by decide +kernel
theorem dX11_worthAt_137 : decode cX11_worthAt 137 = .ok (.getfield 98, 3) := by decide +kernel
theorem dX11_worthAt_140 : decode cX11_worthAt 140 = .ok (.iload_n 2, 1) := by decide +kernel
theorem dX11_worthAt_141 : decode cX11_worthAt 141 = .ok (.iaload, 1) := by decide +kernel
theorem dX11_worthAt_142 : decode cX11_worthAt 142 = .ok (.invokestatic 264, 3) := by decide +kernel
theorem dX11_worthAt_145 : decode cX11_worthAt 145 = .ok (.iastore, 1) := by decide +kernel
theorem dX11_worthAt_146 : decode cX11_worthAt 146 = .ok (.iinc 3 1, 3) := by decide +kernel
theorem dX11_worthAt_149 : decode cX11_worthAt 149 = .ok (.goto (-145), 3) := by decide +kernel
theorem dX11_worthAt_152 : decode cX11_worthAt 152 = .ok (.aload_n 0, 1) := by decide +kernel
theorem dX11_worthAt_153 : decode cX11_worthAt 153 = .ok (.getfield 98, 3) := by decide +kernel
theorem dX11_worthAt_156 : decode cX11_worthAt 156 = .ok (.iconst 0, 1) := by decide +kernel
theorem dX11_worthAt_157 : decode cX11_worthAt 157 = .ok (.iaload, 1) := by decide +kernel
theorem dX11_worthAt_158 : decode cX11_worthAt 158 = .ok (.ireturn, 1) := by decide +kernel
theorem dX11_wrong_0 : decode cX11_wrong 0 = .ok (.aload_n 0, 1) := by decide +kernel
theorem dX11_wrong_1 : decode cX11_wrong 1 = .ok (.getfield 168, 3) := by decide +kernel
theorem dX11_wrong_4 : decode cX11_wrong 4 = .ok (.ifCond .ne 21, 3) := by decide +kernel
theorem dX11_wrong_7 : decode cX11_wrong 7 = .ok (.aload_n 0, 1) := by decide +kernel
theorem dX11_wrong_8 : decode cX11_wrong 8 = .ok (.iload_n 1, 1) := by decide +kernel
theorem dX11_wrong_9 : decode cX11_wrong 9 = .ok (.bipush 16, 2) := by decide +kernel
theorem dX11_wrong_11 : decode cX11_wrong 11 = .ok (.aload_n 0, 1) := by decide +kernel
theorem dX11_wrong_12 : decode cX11_wrong 12 = .ok (.getfield 27, 3) := by decide +kernel
theorem dX11_wrong_15 : decode cX11_wrong 15 = .ok (.aload_n 0, 1) := by decide +kernel
theorem dX11_wrong_16 : decode cX11_wrong 16 = .ok (.getfield 165, 3) := by decide +kernel
theorem dX11_wrong_19 : decode cX11_wrong 19 = .ok (.iaload, 1) := by decide +kernel
theorem dX11_wrong_20 : decode cX11_wrong 20 = .ok (.imul, 1) := by decide +kernel
theorem dX11_wrong_21 : decode cX11_wrong 21 = .ok (.iadd, 1) := by decide +kernel
theorem dX11_wrong_22 : decode cX11_wrong 22 = .ok (.putfield 168, 3) := by decide +kernel
theorem dX11_wrong_25 : decode cX11_wrong 25 = .ok (.return_, 1) := by decide +kernel
theorem dX1_add_0 : decode cX1_add 0 = .ok (.aload_n 0, 1) := by decide +kernel
theorem dX1_add_1 : decode cX1_add 1 = .ok (.getfield 18, 3) := by decide +kernel
theorem dX1_add_4 : decode cX1_add 4 = .ok (.aload_n 0, 1) := by decide +kernel
theorem dX1_add_5 : decode cX1_add 5 = .ok (.getfield 9, 3) := by decide +kernel
theorem dX1_add_8 : decode cX1_add 8 = .ok (.arraylength, 1) := by decide +kernel
theorem dX1_add_9 : decode cX1_add 9 = .ok (.if_icmp .ge 23, 3) := by decide +kernel
theorem dX1_add_12 : decode cX1_add 12 = .ok (.aload_n 0, 1) := by decide +kernel
theorem dX1_add_13 : decode cX1_add 13 = .ok (.getfield 9, 3) := by decide +kernel
theorem dX1_add_16 : decode cX1_add 16 = .ok (.aload_n 0, 1) := by decide +kernel
theorem dX1_add_17 : decode cX1_add 17 = .ok (.getfield 18, 3) := by decide +kernel
theorem dX1_add_20 : decode cX1_add 20 = .ok (.iload_n 1, 1) := by decide +kernel
theorem dX1_add_21 : decode cX1_add 21 = .ok (.iastore, 1) := by decide +kernel
theorem dX1_add_22 : decode cX1_add 22 = .ok (.aload_n 0, 1) := by decide +kernel
theorem dX1_add_23 : decode cX1_add 23 = .ok (.dup, 1) := by decide +kernel
theorem dX1_add_24 : decode cX1_add 24 = .ok (.getfield 18, 3) := by decide +kernel
theorem dX1_add_27 : decode cX1_add 27 = .ok (.iconst 1, 1) := by decide +kernel
theorem dX1_add_28 : decode cX1_add 28 = .ok (.iadd, 1) := by decide +kernel
theorem dX1_add_29 : decode cX1_add 29 = .ok (.putfield 18, 3) := by decide +kernel
theorem dX1_add_32 : decode cX1_add 32 = .ok (.return_, 1) := by decide +kernel
theorem dX1_fact_0 : decode cX1_fact 0 = .ok (.iload_n 0, 1) := by decide +kernel
theorem dX1_fact_1 : decode cX1_fact 1 = .ok (.tableswitch 33 147 149 #[27, 29, 31], 27) := by decide +kernel
theorem dX1_fact_28 : decode cX1_fact 28 = .ok (.iload_n 1, 1) := by decide +kernel
theorem dX1_fact_29 : decode cX1_fact 29 = .ok (.ireturn, 1) := by decide +kernel
theorem dX1_fact_30 : decode cX1_fact 30 = .ok (.iload_n 2, 1) := by decide +kernel
theorem dX1_fact_31 : decode cX1_fact 31 = .ok (.ireturn, 1) := by decide +kernel
theorem dX1_fact_32 : decode cX1_fact 32 = .ok (.iload_n 3, 1) := by decide +kernel
theorem dX1_fact_33 : decode cX1_fact 33 = .ok (.ireturn, 1) := by decide +kernel
theorem dX1_fact_34 : decode cX1_fact 34 = .ok (.iload 4, 2) := by decide +kernel
theorem dX1_fact_36 : decode cX1_fact 36 = .ok (.ireturn, 1) := by decide +kernel
theorem dX1_init_0 : decode cX1_init 0 = .ok (.aload_n 0, 1) := by decide +kernel
theorem dX1_init_1 : decode cX1_init 1 = .ok (.invokespecial 3, 3) := by decide +kernel
theorem dX1_init_4 : decode cX1_init 4 = .ok (.aload_n 0, 1) := by decide +kernel
theorem dX1_init_5 : decode cX1_init 5 = .ok (.sipush 1000, 3) := by decide +kernel
theorem dX1_init_8 : decode cX1_init 8 = .ok (.newarray .int, 2) := by decide +kernel
theorem dX1_init_10 : decode cX1_init 10 = .ok (.putfield 9, 3) := by decide +kernel
theorem dX1_init_13 : decode cX1_init 13 = .ok (.aload_n 0, 1) := by decide +kernel
theorem dX1_init_14 : decode cX1_init 14 = .ok (.bipush 21, 2) := by decide +kernel
theorem dX1_init_16 : decode cX1_init 16 = .ok (.newarray .int, 2) := by decide +kernel
theorem dX1_init_18 : decode cX1_init 18 = .ok (.putfield 15, 3) := by decide +kernel
theorem dX1_init_21 : decode cX1_init 21 = .ok (.return_, 1) := by decide +kernel
theorem dX1_joined_0 : decode cX1_joined 0 = .ok (.iload_n 0, 1) := by decide +kernel
theorem dX1_joined_1 : decode cX1_joined 1 = .ok (.lookupswitch 117 #[(43, 109), (45, 113), (60, 87), (61, 98), (145, 59), (146, 73)], 59) := by decide +kernel
theorem dX1_joined_60 : decode cX1_joined 60 = .ok (.iload_n 1, 1) := by decide +kernel
theorem dX1_joined_61 : decode cX1_joined 61 = .ok (.ifCond .eq 11, 3) := by decide +kernel
theorem dX1_joined_64 : decode cX1_joined 64 = .ok (.iload_n 2, 1) := by decide +kernel
theorem dX1_joined_65 : decode cX1_joined 65 = .ok (.ifCond .eq 7, 3) := by decide +kernel
theorem dX1_joined_68 : decode cX1_joined 68 = .ok (.iconst 1, 1) := by decide +kernel
theorem dX1_joined_69 : decode cX1_joined 69 = .ok (.goto 4, 3) := by decide +kernel
theorem dX1_joined_72 : decode cX1_joined 72 = .ok (.iconst 0, 1) := by decide +kernel
theorem dX1_joined_73 : decode cX1_joined 73 = .ok (.ireturn, 1) := by decide +kernel
theorem dX1_joined_74 : decode cX1_joined 74 = .ok (.iload_n 1, 1) := by decide +kernel
theorem dX1_joined_75 : decode cX1_joined 75 = .ok (.ifCond .ne 7, 3) := by decide +kernel
theorem dX1_joined_78 : decode cX1_joined 78 = .ok (.iload_n 2, 1) := by decide +kernel
theorem dX1_joined_79 : decode cX1_joined 79 = .ok (.ifCond .eq 7, 3) := by decide +kernel
theorem dX1_joined_82 : decode cX1_joined 82 = .ok (.iconst 1, 1) := by decide +kernel
theorem dX1_joined_83 : decode cX1_joined 83 = .ok (.goto 4, 3) := by decide +kernel
theorem dX1_joined_86 : decode cX1_joined 86 = .ok (.iconst 0, 1) := by decide +kernel
theorem dX1_joined_87 : decode cX1_joined 87 = .ok (.ireturn, 1) := by decide +kernel
theorem dX1_joined_88 : decode cX1_joined 88 = .ok (.iload_n 1, 1) := by decide +kernel
theorem dX1_joined_89 : decode cX1_joined 89 = .ok (.iload_n 2, 1) := by decide +kernel
theorem dX1_joined_90 : decode cX1_joined 90 = .ok (.if_icmp .ge 7, 3) := by decide +kernel
theorem dX1_joined_93 : decode cX1_joined 93 = .ok (.iconst 1, 1) := by decide +kernel
theorem dX1_joined_94 : decode cX1_joined 94 = .ok (.goto 4, 3) := by decide +kernel
theorem dX1_joined_97 : decode cX1_joined 97 = .ok (.iconst 0, 1) := by decide +kernel
theorem dX1_joined_98 : decode cX1_joined 98 = .ok (.ireturn, 1) := by decide +kernel
theorem dX1_joined_99 : decode cX1_joined 99 = .ok (.iload_n 1, 1) := by decide +kernel
theorem dX1_joined_100 : decode cX1_joined 100 = .ok (.iload_n 2, 1) := by decide +kernel
theorem dX1_joined_101 : decode cX1_joined 101 = .ok (.if_icmp .ne 7, 3) := by decide +kernel
theorem dX1_joined_104 : decode cX1_joined 104 = .ok (.iconst 1, 1) := by decide +kernel
theorem dX1_joined_105 : decode cX1_joined 105 = .ok (.goto 4, 3) := by decide +kernel
theorem dX1_joined_108 : decode cX1_joined 108 = .ok (.iconst 0, 1) := by decide +kernel
theorem dX1_joined_109 : decode cX1_joined 109 = .ok (.ireturn, 1) := by decide +kernel
theorem dX1_joined_110 : decode cX1_joined 110 = .ok (.iload_n 1, 1) := by decide +kernel
theorem dX1_joined_111 : decode cX1_joined 111 = .ok (.iload_n 2, 1) := by decide +kernel
theorem dX1_joined_112 : decode cX1_joined 112 = .ok (.iadd, 1) := by decide +kernel
theorem dX1_joined_113 : decode cX1_joined 113 = .ok (.ireturn, 1) := by decide +kernel
theorem dX1_joined_114 : decode cX1_joined 114 = .ok (.iload_n 1, 1) := by decide +kernel
theorem dX1_joined_115 : decode cX1_joined 115 = .ok (.iload_n 2, 1) := by decide +kernel
theorem dX1_joined_116 : decode cX1_joined 116 = .ok (.isub, 1) := by decide +kernel
theorem dX1_joined_117 : decode cX1_joined 117 = .ok (.ireturn, 1) := by decide +kernel
theorem dX1_joined_118 : decode cX1_joined 118 = .ok (.iload_n 1, 1) := by decide +kernel
theorem dX1_joined_119 : decode cX1_joined 119 = .ok (.iload_n 2, 1) := by decide +kernel
theorem dX1_joined_120 : decode cX1_joined 120 = .ok (.imul, 1) := by decide +kernel
theorem dX1_joined_121 : decode cX1_joined 121 = .ok (.ireturn, 1) := by decide +kernel
theorem dX1_reset_0 : decode cX1_reset 0 = .ok (.aload_n 0, 1) := by decide +kernel
theorem dX1_reset_1 : decode cX1_reset 1 = .ok (.iconst 0, 1) := by decide +kernel
theorem dX1_reset_2 : decode cX1_reset 2 = .ok (.putfield 18, 3) := by decide +kernel
theorem dX1_reset_5 : decode cX1_reset 5 = .ok (.return_, 1) := by decide +kernel
theorem dX1_strengthOf_0 : decode cX1_strengthOf 0 = .ok (.iload_n 0, 1) := by decide +kernel
theorem dX1_strengthOf_1 : decode cX1_strengthOf 1 = .ok (.lookupswitch 75 #[(42, 73), (43, 71), (45, 71), (60, 69), (61, 69), (145, 67), (146, 67)], 67) := by decide +kernel
theorem dX1_strengthOf_68 : decode cX1_strengthOf 68 = .ok (.iconst 0, 1) := by decide +kernel
theorem dX1_strengthOf_69 : decode cX1_strengthOf 69 = .ok (.ireturn, 1) := by decide +kernel
theorem dX1_strengthOf_70 : decode cX1_strengthOf 70 = .ok (.iconst 1, 1) := by decide +kernel
theorem dX1_strengthOf_71 : decode cX1_strengthOf 71 = .ok (.ireturn, 1) := by decide +kernel
theorem dX1_strengthOf_72 : decode cX1_strengthOf 72 = .ok (.iconst 2, 1) := by decide +kernel
theorem dX1_strengthOf_73 : decode cX1_strengthOf 73 = .ok (.ireturn, 1) := by decide +kernel
theorem dX1_strengthOf_74 : decode cX1_strengthOf 74 = .ok (.iconst 3, 1) := by decide +kernel
theorem dX1_strengthOf_75 : decode cX1_strengthOf 75 = .ok (.ireturn, 1) := by decide +kernel
theorem dX1_strengthOf_76 : decode cX1_strengthOf 76 = .ok (.iconst (-1), 1) := by decide +kernel
theorem dX1_strengthOf_77 : decode cX1_strengthOf 77 = .ok (.ireturn, 1) := by decide +kernel
theorem dX1_worth_0 : decode cX1_worth 0 = .ok (.iconst 0, 1) := by decide +kernel
theorem dX1_worth_1 : decode cX1_worth 1 = .ok (.istore 5, 2) := by decide +kernel
theorem dX1_worth_3 : decode cX1_worth 3 = .ok (.iconst 0, 1) := by decide +kernel
theorem dX1_worth_4 : decode cX1_worth 4 = .ok (.istore 6, 2) := by decide +kernel
theorem dX1_worth_6 : decode cX1_worth 6 = .ok (.iload 6, 2) := by decide +kernel
theorem dX1_worth_8 : decode cX1_worth 8 = .ok (.aload_n 0, 1) := by decide +kernel
theorem dX1_worth_9 : decode cX1_worth 9 = .ok (.getfield 18, 3) := by decide +kernel
theorem dX1_worth_12 : decode cX1_worth 12 = .ok (.if_icmp .ge 155, 3) := by decide +kernel
theorem dX1_worth_15 : decode cX1_worth 15 = .ok (.aload_n 0, 1) := by decide +kernel
theorem dX1_worth_16 : decode cX1_worth 16 = .ok (.getfield 9, 3) := by decide +kernel
theorem dX1_worth_19 : decode cX1_worth 19 = .ok (.iload 6, 2) := by decide +kernel
theorem dX1_worth_21 : decode cX1_worth 21 = .ok (.iaload, 1) := by decide +kernel
theorem dX1_worth_22 : decode cX1_worth 22 = .ok (.istore 7, 2) := by decide +kernel
theorem dX1_worth_24 : decode cX1_worth 24 = .ok (.iload 7, 2) := by decide +kernel
theorem dX1_worth_26 : decode cX1_worth 26 = .ok (.sipush (-144), 3) := by decide +kernel
theorem dX1_worth_29 : decode cX1_worth 29 = .ok (.if_icmp .ne 38, 3) := by decide +kernel
theorem dX1_worth_32 : decode cX1_worth 32 = .ok (.iload 5, 2) := by decide +kernel
theorem dX1_worth_34 : decode cX1_worth 34 = .ok (.iconst 1, 1) := by decide +kernel
theorem dX1_worth_35 : decode cX1_worth 35 = .ok (.if_icmp .lt 126, 3) := by decide +kernel
theorem dX1_worth_38 : decode cX1_worth 38 = .ok (.aload_n 0, 1) := by decide +kernel
theorem dX1_worth_39 : decode cX1_worth 39 = .ok (.getfield 15, 3) := by decide +kernel
theorem dX1_worth_42 : decode cX1_worth 42 = .ok (.iload 5, 2) := by decide +kernel
theorem dX1_worth_44 : decode cX1_worth 44 = .ok (.iconst 1, 1) := by decide +kernel
theorem dX1_worth_45 : decode cX1_worth 45 = .ok (.isub, 1) := by decide +kernel
theorem dX1_worth_46 : decode cX1_worth 46 = .ok (.aload_n 0, 1) := by decide +kernel
theorem dX1_worth_47 : decode cX1_worth 47 = .ok (.getfield 15, 3) := by decide +kernel
theorem dX1_worth_50 : decode cX1_worth 50 = .ok (.iload 5, 2) := by decide +kernel
theorem dX1_worth_52 : decode cX1_worth 52 = .ok (.iconst 1, 1) := by decide +kernel
theorem dX1_worth_53 : decode cX1_worth 53 = .ok (.isub, 1) := by decide +kernel
theorem dX1_worth_54 : decode cX1_worth 54 = .ok (.iaload, 1) := by decide +kernel
theorem dX1_worth_55 : decode cX1_worth 55 = .ok (.ifCond .ne 7, 3) := by decide +kernel
theorem dX1_worth_58 : decode cX1_worth 58 = .ok (.iconst 1, 1) := by decide +kernel
theorem dX1_worth_59 : decode cX1_worth 59 = .ok (.goto 4, 3) := by decide +kernel
theorem dX1_worth_62 : decode cX1_worth 62 = .ok (.iconst 0, 1) := by decide +kernel
theorem dX1_worth_63 : decode cX1_worth 63 = .ok (.iastore, 1) := by decide +kernel
theorem dX1_worth_64 : decode cX1_worth 64 = .ok (.goto 97, 3) := by decide +kernel
theorem dX1_worth_67 : decode cX1_worth 67 = .ok (.iload 7, 2) := by decide +kernel
theorem dX1_worth_69 : decode cX1_worth 69 = .ok (.ineg, 1) := by decide +kernel
theorem dX1_worth_70 : decode cX1_worth 70 = .ok (.invokestatic 24, 3) := by decide +kernel
theorem dX1_worth_73 : decode cX1_worth 73 = .ok (.iconst (-1), 1) := by decide +kernel
theorem dX1_worth_74 : decode cX1_worth 74 = .ok (.if_icmp .eq 46, 3) := by decide +kernel
theorem dX1_worth_77 : decode cX1_worth 77 = .ok (.iload 5, 2) := by decide +kernel
theorem dX1_worth_79 : decode cX1_worth 79 = .ok (.iconst 2, 1) := by decide +kernel
theorem dX1_worth_80 : decode cX1_worth 80 = .ok (.if_icmp .lt 81, 3) := by decide +kernel
theorem dX1_worth_83 : decode cX1_worth 83 = .ok (.iinc 5 (-1), 3) := by decide +kernel
theorem dX1_worth_86 : decode cX1_worth 86 = .ok (.aload_n 0, 1) := by decide +kernel
theorem dX1_worth_87 : decode cX1_worth 87 = .ok (.getfield 15, 3) := by decide +kernel
theorem dX1_worth_90 : decode cX1_worth 90 = .ok (.iload 5, 2) := by decide +kernel
theorem dX1_worth_92 : decode cX1_worth 92 = .ok (.iconst 1, 1) := by decide +kernel
theorem dX1_worth_93 : decode cX1_worth 93 = .ok (.isub, 1) := by decide +kernel
theorem dX1_worth_94 : decode cX1_worth 94 = .ok (.iload 7, 2) := by decide +kernel
theorem dX1_worth_96 : decode cX1_worth 96 = .ok (.ineg, 1) := by decide +kernel
theorem dX1_worth_97 : decode cX1_worth 97 = .ok (.aload_n 0, 1) := by decide +kernel
theorem dX1_worth_98 : decode cX1_worth 98 = .ok (.getfield 15, 3) := by decide +kernel
theorem dX1_worth_101 : decode cX1_worth 101 = .ok (.iload 5, 2) := by decide +kernel
theorem dX1_worth_103 : decode cX1_worth 103 = .ok (.iconst 1, 1) := by decide +kernel
theorem dX1_worth_104 : decode cX1_worth 104 = .ok (.isub, 1) := by decide +kernel
theorem dX1_worth_105 : decode cX1_worth 105 = .ok (.iaload, 1) := by decide +kernel
theorem dX1_worth_106 : decode cX1_worth 106 = .ok (.aload_n 0, 1) := by decide +kernel
theorem dX1_worth_107 : decode cX1_worth 107 = .ok (.getfield 15, 3) := by decide +kernel
theorem dX1_worth_110 : decode cX1_worth 110 = .ok (.iload 5, 2) := by decide +kernel
theorem dX1_worth_112 : decode cX1_worth 112 = .ok (.iaload, 1) := by decide +kernel
theorem dX1_worth_113 : decode cX1_worth 113 = .ok (.invokestatic 28, 3) := by decide +kernel
theorem dX1_worth_116 : decode cX1_worth 116 = .ok (.iastore, 1) := by decide +kernel
theorem dX1_worth_117 : decode cX1_worth 117 = .ok (.goto 44, 3) := by decide +kernel
theorem dX1_worth_120 : decode cX1_worth 120 = .ok (.iload 5, 2) := by decide +kernel
theorem dX1_worth_122 : decode cX1_worth 122 = .ok (.aload_n 0, 1) := by decide +kernel
theorem dX1_worth_123 : decode cX1_worth 123 = .ok (.getfield 15, 3) := by decide +kernel
theorem dX1_worth_126 : decode cX1_worth 126 = .ok (.arraylength, 1) := by decide +kernel
theorem dX1_worth_127 : decode cX1_worth 127 = .ok (.if_icmp .ge 34, 3) := by decide +kernel
theorem dX1_worth_130 : decode cX1_worth 130 = .ok (.aload_n 0, 1) := by decide +kernel
theorem dX1_worth_131 : decode cX1_worth 131 = .ok (.getfield 15, 3) := by decide +kernel
theorem dX1_worth_134 : decode cX1_worth 134 = .ok (.iload 5, 2) := by decide +kernel
theorem dX1_worth_136 : decode cX1_worth 136 = .ok (.iload 7, 2) := by decide +kernel
theorem dX1_worth_138 : decode cX1_worth 138 = .ok (.ifCond .lt 8, 3) := by decide +kernel
theorem dX1_worth_141 : decode cX1_worth 141 = .ok (.iload 7, 2) := by decide +kernel
theorem dX1_worth_143 : decode cX1_worth 143 = .ok (.goto 14, 3) := by decide +kernel
theorem dX1_worth_146 : decode cX1_worth 146 = .ok (.iload 7, 2) := by decide +kernel
theorem dX1_worth_148 : decode cX1_worth 148 = .ok (.ineg, 1) := by decide +kernel
theorem dX1_worth_149 : decode cX1_worth 149 = .ok (.iload_n 1, 1) := by decide +kernel
theorem dX1_worth_150 : decode cX1_worth 150 = .ok (.iload_n 2, 1) := by decide +kernel
theorem dX1_worth_151 : decode cX1_worth 151 = .ok (.iload_n 3, 1) := by decide +kernel
theorem dX1_worth_152 : decode cX1_worth 152 = .ok (.iload 4, 2) := by decide +kernel
theorem dX1_worth_154 : decode cX1_worth 154 = .ok (.invokestatic 32, 3) := by decide +kernel
theorem dX1_worth_157 : decode cX1_worth 157 = .ok (.iastore, 1) := by decide +kernel
theorem dX1_worth_158 : decode cX1_worth 158 = .ok (.iinc 5 1, 3) := by decide +kernel
theorem dX1_worth_161 : decode cX1_worth 161 = .ok (.iinc 6 1, 3) := by decide +kernel
theorem dX1_worth_164 : decode cX1_worth 164 = .ok (.goto (-158), 3) := by decide +kernel
theorem dX1_worth_167 : decode cX1_worth 167 = .ok (.iload 5, 2) := by decide +kernel
theorem dX1_worth_169 : decode cX1_worth 169 = .ok (.iconst 1, 1) := by decide +kernel
theorem dX1_worth_170 : decode cX1_worth 170 = .ok (.if_icmp .ne 12, 3) := by decide +kernel
theorem dX1_worth_173 : decode cX1_worth 173 = .ok (.aload_n 0, 1) := by decide +kernel
theorem dX1_worth_174 : decode cX1_worth 174 = .ok (.getfield 15, 3) := by decide +kernel
theorem dX1_worth_177 : decode cX1_worth 177 = .ok (.iconst 0, 1) := by decide +kernel
theorem dX1_worth_178 : decode cX1_worth 178 = .ok (.iaload, 1) := by decide +kernel
theorem dX1_worth_179 : decode cX1_worth 179 = .ok (.goto 4, 3) := by decide +kernel
theorem dX1_worth_182 : decode cX1_worth 182 = .ok (.iconst 0, 1) := by decide +kernel
theorem dX1_worth_183 : decode cX1_worth 183 = .ok (.ireturn, 1) := by decide +kernel
theorem dX2_init_0 : decode cX2_init 0 = .ok (.aload_n 0, 1) := by decide +kernel
theorem dX2_init_1 : decode cX2_init 1 = .ok (.invokespecial 3, 3) := by decide +kernel
theorem dX2_init_4 : decode cX2_init 4 = .ok (.aload_n 0, 1) := by decide +kernel
theorem dX2_init_5 : decode cX2_init 5 = .ok (.aload_n 1, 1) := by decide +kernel
theorem dX2_init_6 : decode cX2_init 6 = .ok (.putfield 9, 3) := by decide +kernel
theorem dX2_init_9 : decode cX2_init 9 = .ok (.return_, 1) := by decide +kernel
theorem dX2_readPairs_0 : decode cX2_readPairs 0 = .ok (.iload_n 2, 1) := by decide +kernel
theorem dX2_readPairs_1 : decode cX2_readPairs 1 = .ok (.iconst 3, 1) := by decide +kernel
theorem dX2_readPairs_2 : decode cX2_readPairs 2 = .ok (.if_icmp .le 10, 3) := by decide +kernel
theorem dX2_readPairs_5 : decode cX2_readPairs 5 = .ok (.aload_n 0, 1) := by decide +kernel
theorem dX2_readPairs_6 : decode cX2_readPairs 6 = .ok (.aload_n 1, 1) := by decide +kernel
theorem dX2_readPairs_7 : decode cX2_readPairs 7 = .ok (.iload_n 3, 1) := by decide +kernel
theorem dX2_readPairs_8 : decode cX2_readPairs 8 = .ok (.invokevirtual 17, 3) := by decide +kernel
theorem dX2_readPairs_11 : decode cX2_readPairs 11 = .ok (.ireturn, 1) := by decide +kernel
theorem dX2_readPairs_12 : decode cX2_readPairs 12 = .ok (.aload_n 0, 1) := by decide +kernel
theorem dX2_readPairs_13 : decode cX2_readPairs 13 = .ok (.aload_n 1, 1) := by decide +kernel
theorem dX2_readPairs_14 : decode cX2_readPairs 14 = .ok (.iload_n 2, 1) := by decide +kernel
theorem dX2_readPairs_15 : decode cX2_readPairs 15 = .ok (.iconst 1, 1) := by decide +kernel
theorem dX2_readPairs_16 : decode cX2_readPairs 16 = .ok (.iadd, 1) := by decide +kernel
theorem dX2_readPairs_17 : decode cX2_readPairs 17 = .ok (.iload_n 3, 1) := by decide +kernel
theorem dX2_readPairs_18 : decode cX2_readPairs 18 = .ok (.invokevirtual 21, 3) := by decide +kernel
theorem dX2_readPairs_21 : decode cX2_readPairs 21 = .ok (.ifCond .ne 5, 3) := by decide +kernel
theorem dX2_readPairs_24 : decode cX2_readPairs 24 = .ok (.iconst 0, 1) := by decide +kernel
theorem dX2_readPairs_25 : decode cX2_readPairs 25 = .ok (.ireturn, 1) := by decide +kernel
theorem dX2_readPairs_26 : decode cX2_readPairs 26 = .ok (.iload_n 2, 1) := by decide +kernel
theorem dX2_readPairs_27 : decode cX2_readPairs 27 = .ok (.iconst 1, 1) := by decide +kernel
theorem dX2_readPairs_28 : decode cX2_readPairs 28 = .ok (.if_icmp .ne 7, 3) := by decide +kernel
theorem dX2_readPairs_31 : decode cX2_readPairs 31 = .ok (.iconst 1, 1) := by decide +kernel
theorem dX2_readPairs_32 : decode cX2_readPairs 32 = .ok (.goto 6, 3) := by decide +kernel
theorem dX2_readPairs_35 : decode cX2_readPairs 35 = .ok (.sipush 1000, 3) := by decide +kernel
theorem dX2_readPairs_38 : decode cX2_readPairs 38 = .ok (.istore 4, 2) := by decide +kernel
theorem dX2_readPairs_40 : decode cX2_readPairs 40 = .ok (.iconst 0, 1) := by decide +kernel
theorem dX2_readPairs_41 : decode cX2_readPairs 41 = .ok (.istore 5, 2) := by decide +kernel
theorem dX2_readPairs_43 : decode cX2_readPairs 43 = .ok (.iload 5, 2) := by decide +kernel
theorem dX2_readPairs_45 : decode cX2_readPairs 45 = .ok (.iload 4, 2) := by decide +kernel
theorem dX2_readPairs_47 : decode cX2_readPairs 47 = .ok (.if_icmp .ge 60, 3) := by decide +kernel
theorem dX2_readPairs_50 : decode cX2_readPairs 50 = .ok (.aload_n 0, 1) := by decide +kernel
theorem dX2_readPairs_51 : decode cX2_readPairs 51 = .ok (.getfield 9, 3) := by decide +kernel
theorem dX2_readPairs_54 : decode cX2_readPairs 54 = .ok (.getfield 25, 3) := by decide +kernel
theorem dX2_readPairs_57 : decode cX2_readPairs 57 = .ok (.invokestatic 31, 3) := by decide +kernel
theorem dX2_readPairs_60 : decode cX2_readPairs 60 = .ok (.iload_n 2, 1) := by decide +kernel
theorem dX2_readPairs_61 : decode cX2_readPairs 61 = .ok (.if_icmp .ne 46, 3) := by decide +kernel
theorem dX2_readPairs_64 : decode cX2_readPairs 64 = .ok (.aload_n 0, 1) := by decide +kernel
theorem dX2_readPairs_65 : decode cX2_readPairs 65 = .ok (.getfield 9, 3) := by decide +kernel
theorem dX2_readPairs_68 : decode cX2_readPairs 68 = .ok (.getfield 25, 3) := by decide +kernel
theorem dX2_readPairs_71 : decode cX2_readPairs 71 = .ok (.istore 6, 2) := by decide +kernel
theorem dX2_readPairs_73 : decode cX2_readPairs 73 = .ok (.aload_n 0, 1) := by decide +kernel
theorem dX2_readPairs_74 : decode cX2_readPairs 74 = .ok (.getfield 9, 3) := by decide +kernel
theorem dX2_readPairs_77 : decode cX2_readPairs 77 = .ok (.invokevirtual 35, 3) := by decide +kernel
theorem dX2_readPairs_80 : decode cX2_readPairs 80 = .ok (.aload_n 0, 1) := by decide +kernel
theorem dX2_readPairs_81 : decode cX2_readPairs 81 = .ok (.aload_n 1, 1) := by decide +kernel
theorem dX2_readPairs_82 : decode cX2_readPairs 82 = .ok (.iload_n 2, 1) := by decide +kernel
theorem dX2_readPairs_83 : decode cX2_readPairs 83 = .ok (.iconst 1, 1) := by decide +kernel
theorem dX2_readPairs_84 : decode cX2_readPairs 84 = .ok (.iadd, 1) := by decide +kernel
theorem dX2_readPairs_85 : decode cX2_readPairs 85 = .ok (.iload_n 3, 1) := by decide +kernel
theorem dX2_readPairs_86 : decode cX2_readPairs 86 = .ok (.invokevirtual 21, 3) := by decide +kernel
theorem dX2_readPairs_89 : decode cX2_readPairs 89 = .ok (.ifCond .ne 5, 3) := by decide +kernel
theorem dX2_readPairs_92 : decode cX2_readPairs 92 = .ok (.iconst 0, 1) := by decide +kernel
theorem dX2_readPairs_93 : decode cX2_readPairs 93 = .ok (.ireturn, 1) := by decide +kernel
theorem dX2_readPairs_94 : decode cX2_readPairs 94 = .ok (.aload_n 1, 1) := by decide +kernel
theorem dX2_readPairs_95 : decode cX2_readPairs 95 = .ok (.iload 6, 2) := by decide +kernel
theorem dX2_readPairs_97 : decode cX2_readPairs 97 = .ok (.ineg, 1) := by decide +kernel
theorem dX2_readPairs_98 : decode cX2_readPairs 98 = .ok (.invokevirtual 38, 3) := by decide +kernel
theorem dX2_readPairs_101 : decode cX2_readPairs 101 = .ok (.iinc 5 1, 3) := by decide +kernel
theorem dX2_readPairs_104 : decode cX2_readPairs 104 = .ok (.goto (-61), 3) := by decide +kernel
theorem dX2_readPairs_107 : decode cX2_readPairs 107 = .ok (.iconst 1, 1) := by decide +kernel
theorem dX2_readPairs_108 : decode cX2_readPairs 108 = .ok (.ireturn, 1) := by decide +kernel
theorem dX2_readPart_0 : decode cX2_readPart 0 = .ok (.aload_n 0, 1) := by decide +kernel
theorem dX2_readPart_1 : decode cX2_readPart 1 = .ok (.getfield 9, 3) := by decide +kernel
theorem dX2_readPart_4 : decode cX2_readPart 4 = .ok (.getfield 25, 3) := by decide +kernel
theorem dX2_readPart_7 : decode cX2_readPart 7 = .ok (.istore_n 3, 1) := by decide +kernel
theorem dX2_readPart_8 : decode cX2_readPart 8 = .ok (.iload_n 3, 1) := by decide +kernel
theorem dX2_readPart_9 : decode cX2_readPart 9 = .ok (.iconst 2, 1) := by decide +kernel
theorem dX2_readPart_10 : decode cX2_readPart 10 = .ok (.if_icmp .eq 13, 3) := by decide +kernel
theorem dX2_readPart_13 : decode cX2_readPart 13 = .ok (.aload_n 0, 1) := by decide +kernel
theorem dX2_readPart_14 : decode cX2_readPart 14 = .ok (.getfield 9, 3) := by decide +kernel
theorem dX2_readPart_17 : decode cX2_readPart 17 = .ok (.invokevirtual 42, 3) := by decide +kernel
theorem dX2_readPart_20 : decode cX2_readPart 20 = .ok (.ifCond .eq 7, 3) := by decide +kernel
theorem dX2_readPart_23 : decode cX2_readPart 23 = .ok (.iconst 1, 1) := by decide +kernel
theorem dX2_readPart_24 : decode cX2_readPart 24 = .ok (.goto 4, 3) := by decide +kernel
theorem dX2_readPart_27 : decode cX2_readPart 27 = .ok (.iconst 0, 1) := by decide +kernel
theorem dX2_readPart_28 : decode cX2_readPart 28 = .ok (.istore 4, 2) := by decide +kernel
theorem dX2_readPart_30 : decode cX2_readPart 30 = .ok (.iload 4, 2) := by decide +kernel
theorem dX2_readPart_32 : decode cX2_readPart 32 = .ok (.ifCond .ne 25, 3) := by decide +kernel
theorem dX2_readPart_35 : decode cX2_readPart 35 = .ok (.iload_n 3, 1) := by decide +kernel
theorem dX2_readPart_36 : decode cX2_readPart 36 = .ok (.sipush 144, 3) := by decide +kernel
theorem dX2_readPart_39 : decode cX2_readPart 39 = .ok (.if_icmp .eq 18, 3) := by decide +kernel
theorem dX2_readPart_42 : decode cX2_readPart 42 = .ok (.iload_n 3, 1) := by decide +kernel
theorem dX2_readPart_43 : decode cX2_readPart 43 = .ok (.bipush 40, 2) := by decide +kernel
theorem dX2_readPart_45 : decode cX2_readPart 45 = .ok (.if_icmp .eq 12, 3) := by decide +kernel
theorem dX2_readPart_48 : decode cX2_readPart 48 = .ok (.aload_n 0, 1) := by decide +kernel
theorem dX2_readPart_49 : decode cX2_readPart 49 = .ok (.getfield 9, 3) := by decide +kernel
theorem dX2_readPart_52 : decode cX2_readPart 52 = .ok (.iconst 1, 1) := by decide +kernel
theorem dX2_readPart_53 : decode cX2_readPart 53 = .ok (.invokevirtual 46, 3) := by decide +kernel
theorem dX2_readPart_56 : decode cX2_readPart 56 = .ok (.ireturn, 1) := by decide +kernel
theorem dX2_readPart_57 : decode cX2_readPart 57 = .ok (.iload_n 2, 1) := by decide +kernel
theorem dX2_readPart_58 : decode cX2_readPart 58 = .ok (.iconst 5, 1) := by decide +kernel
theorem dX2_readPart_59 : decode cX2_readPart 59 = .ok (.if_icmp .lt 12, 3) := by decide +kernel
theorem dX2_readPart_62 : decode cX2_readPart 62 = .ok (.aload_n 0, 1) := by decide +kernel
theorem dX2_readPart_63 : decode cX2_readPart 63 = .ok (.getfield 9, 3) := by decide +kernel
theorem dX2_readPart_66 : decode cX2_readPart 66 = .ok (.iconst 5, 1) := by decide +kernel
theorem dX2_readPart_67 : decode cX2_readPart 67 = .ok (.invokevirtual 46, 3) := by decide +kernel
theorem dX2_readPart_70 : decode cX2_readPart 70 = .ok (.ireturn, 1) := by decide +kernel
theorem dX2_readPart_71 : decode cX2_readPart 71 = .ok (.iload_n 3, 1) := by decide +kernel
theorem dX2_readPart_72 : decode cX2_readPart 72 = .ok (.iconst 2, 1) := by decide +kernel
theorem dX2_readPart_73 : decode cX2_readPart 73 = .ok (.if_icmp .ne 13, 3) := by decide +kernel
theorem dX2_readPart_76 : decode cX2_readPart 76 = .ok (.aload_n 0, 1) := by decide +kernel
theorem dX2_readPart_77 : decode cX2_readPart 77 = .ok (.getfield 9, 3) := by decide +kernel
theorem dX2_readPart_80 : decode cX2_readPart 80 = .ok (.getfield 50, 3) := by decide +kernel
theorem dX2_readPart_83 : decode cX2_readPart 83 = .ok (.goto 5, 3) := by decide +kernel
theorem dX2_readPart_86 : decode cX2_readPart 86 = .ok (.iload_n 3, 1) := by decide +kernel
theorem dX2_readPart_87 : decode cX2_readPart 87 = .ok (.ineg, 1) := by decide +kernel
theorem dX2_readPart_88 : decode cX2_readPart 88 = .ok (.istore 5, 2) := by decide +kernel
theorem dX2_readPart_90 : decode cX2_readPart 90 = .ok (.aload_n 0, 1) := by decide +kernel
theorem dX2_readPart_91 : decode cX2_readPart 91 = .ok (.getfield 9, 3) := by decide +kernel
theorem dX2_readPart_94 : decode cX2_readPart 94 = .ok (.invokevirtual 35, 3) := by decide +kernel
theorem dX2_readPart_97 : decode cX2_readPart 97 = .ok (.iload 4, 2) := by decide +kernel
theorem dX2_readPart_99 : decode cX2_readPart 99 = .ok (.ifCond .eq 11, 3) := by decide +kernel
theorem dX2_readPart_102 : decode cX2_readPart 102 = .ok (.aload_n 1, 1) := by decide +kernel
theorem dX2_readPart_103 : decode cX2_readPart 103 = .ok (.iload 5, 2) := by decide +kernel
theorem dX2_readPart_105 : decode cX2_readPart 105 = .ok (.invokevirtual 38, 3) := by decide +kernel
theorem dX2_readPart_108 : decode cX2_readPart 108 = .ok (.iconst 1, 1) := by decide +kernel
theorem dX2_readPart_109 : decode cX2_readPart 109 = .ok (.ireturn, 1) := by decide +kernel
theorem dX2_readPart_110 : decode cX2_readPart 110 = .ok (.iload_n 3, 1) := by decide +kernel
theorem dX2_readPart_111 : decode cX2_readPart 111 = .ok (.bipush 40, 2) := by decide +kernel
theorem dX2_readPart_113 : decode cX2_readPart 113 = .ok (.if_icmp .ne 47, 3) := by decide +kernel
theorem dX2_readPart_116 : decode cX2_readPart 116 = .ok (.aload_n 0, 1) := by decide +kernel
theorem dX2_readPart_117 : decode cX2_readPart 117 = .ok (.aload_n 1, 1) := by decide +kernel
theorem dX2_readPart_118 : decode cX2_readPart 118 = .ok (.iconst 0, 1) := by decide +kernel
theorem dX2_readPart_119 : decode cX2_readPart 119 = .ok (.iload_n 2, 1) := by decide +kernel
theorem dX2_readPart_120 : decode cX2_readPart 120 = .ok (.iconst 1, 1) := by decide +kernel
theorem dX2_readPart_121 : decode cX2_readPart 121 = .ok (.iadd, 1) := by decide +kernel
theorem dX2_readPart_122 : decode cX2_readPart 122 = .ok (.invokevirtual 21, 3) := by decide +kernel
theorem dX2_readPart_125 : decode cX2_readPart 125 = .ok (.ifCond .ne 5, 3) := by decide +kernel
theorem dX2_readPart_128 : decode cX2_readPart 128 = .ok (.iconst 0, 1) := by decide +kernel
theorem dX2_readPart_129 : decode cX2_readPart 129 = .ok (.ireturn, 1) := by decide +kernel
theorem dX2_readPart_130 : decode cX2_readPart 130 = .ok (.aload_n 0, 1) := by decide +kernel
theorem dX2_readPart_131 : decode cX2_readPart 131 = .ok (.getfield 9, 3) := by decide +kernel
theorem dX2_readPart_134 : decode cX2_readPart 134 = .ok (.getfield 25, 3) := by decide +kernel
theorem dX2_readPart_137 : decode cX2_readPart 137 = .ok (.bipush 41, 2) := by decide +kernel
theorem dX2_readPart_139 : decode cX2_readPart 139 = .ok (.if_icmp .eq 12, 3) := by decide +kernel
theorem dX2_readPart_142 : decode cX2_readPart 142 = .ok (.aload_n 0, 1) := by decide +kernel
theorem dX2_readPart_143 : decode cX2_readPart 143 = .ok (.getfield 9, 3) := by decide +kernel
theorem dX2_readPart_146 : decode cX2_readPart 146 = .ok (.iconst 1, 1) := by decide +kernel
theorem dX2_readPart_147 : decode cX2_readPart 147 = .ok (.invokevirtual 46, 3) := by decide +kernel
theorem dX2_readPart_150 : decode cX2_readPart 150 = .ok (.ireturn, 1) := by decide +kernel
theorem dX2_readPart_151 : decode cX2_readPart 151 = .ok (.aload_n 0, 1) := by decide +kernel
theorem dX2_readPart_152 : decode cX2_readPart 152 = .ok (.getfield 9, 3) := by decide +kernel
theorem dX2_readPart_155 : decode cX2_readPart 155 = .ok (.invokevirtual 35, 3) := by decide +kernel
theorem dX2_readPart_158 : decode cX2_readPart 158 = .ok (.iconst 1, 1) := by decide +kernel
theorem dX2_readPart_159 : decode cX2_readPart 159 = .ok (.ireturn, 1) := by decide +kernel
theorem dX2_readPart_160 : decode cX2_readPart 160 = .ok (.aload_n 0, 1) := by decide +kernel
theorem dX2_readPart_161 : decode cX2_readPart 161 = .ok (.aload_n 1, 1) := by decide +kernel
theorem dX2_readPart_162 : decode cX2_readPart 162 = .ok (.iload_n 2, 1) := by decide +kernel
theorem dX2_readPart_163 : decode cX2_readPart 163 = .ok (.iconst 1, 1) := by decide +kernel
theorem dX2_readPart_164 : decode cX2_readPart 164 = .ok (.iadd, 1) := by decide +kernel
theorem dX2_readPart_165 : decode cX2_readPart 165 = .ok (.invokevirtual 17, 3) := by decide +kernel
theorem dX2_readPart_168 : decode cX2_readPart 168 = .ok (.ifCond .ne 5, 3) := by decide +kernel
theorem dX2_readPart_171 : decode cX2_readPart 171 = .ok (.iconst 0, 1) := by decide +kernel
