theorem dX2_readPart_172 : decode cX2_readPart 172 = .ok (.ireturn, 1) := by decide +kernel
theorem dX2_readPart_173 : decode cX2_readPart 173 = .ok (.aload_n 1, 1) := by decide +kernel
theorem dX2_readPart_174 : decode cX2_readPart 174 = .ok (.sipush (-144), 3) := by decide +kernel
theorem dX2_readPart_177 : decode cX2_readPart 177 = .ok (.invokevirtual 38, 3) := by decide +kernel
theorem dX2_readPart_180 : decode cX2_readPart 180 = .ok (.iconst 1, 1) := by decide +kernel
theorem dX2_readPart_181 : decode cX2_readPart 181 = .ok (.ireturn, 1) := by decide +kernel
theorem dX3_find_0 : decode cX3_find 0 = .ok (.iconst 0, 1) := by decide +kernel
theorem dX3_find_1 : decode cX3_find 1 = .ok (.istore 4, 2) := by decide +kernel
theorem dX3_find_3 : decode cX3_find 3 = .ok (.iload 4, 2) := by decide +kernel
theorem dX3_find_5 : decode cX3_find 5 = .ok (.iload_n 1, 1) := by decide +kernel
theorem dX3_find_6 : decode cX3_find 6 = .ok (.if_icmp .ge 28, 3) := by decide +kernel
theorem dX3_find_9 : decode cX3_find 9 = .ok (.iload 4, 2) := by decide +kernel
theorem dX3_find_11 : decode cX3_find 11 = .ok (.aload_n 0, 1) := by decide +kernel
theorem dX3_find_12 : decode cX3_find 12 = .ok (.arraylength, 1) := by decide +kernel
theorem dX3_find_13 : decode cX3_find 13 = .ok (.if_icmp .ge 21, 3) := by decide +kernel
theorem dX3_find_16 : decode cX3_find 16 = .ok (.aload_n 0, 1) := by decide +kernel
theorem dX3_find_17 : decode cX3_find 17 = .ok (.iload 4, 2) := by decide +kernel
theorem dX3_find_19 : decode cX3_find 19 = .ok (.laload, 1) := by decide +kernel
theorem dX3_find_20 : decode cX3_find 20 = .ok (.lload_n 2, 1) := by decide +kernel
theorem dX3_find_21 : decode cX3_find 21 = .ok (.lcmp, 1) := by decide +kernel
theorem dX3_find_22 : decode cX3_find 22 = .ok (.ifCond .ne 6, 3) := by decide +kernel
theorem dX3_find_25 : decode cX3_find 25 = .ok (.iload 4, 2) := by decide +kernel
theorem dX3_find_27 : decode cX3_find 27 = .ok (.ireturn, 1) := by decide +kernel
theorem dX3_find_28 : decode cX3_find 28 = .ok (.iinc 4 1, 3) := by decide +kernel
theorem dX3_find_31 : decode cX3_find 31 = .ok (.goto (-28), 3) := by decide +kernel
theorem dX3_find_34 : decode cX3_find 34 = .ok (.iconst (-1), 1) := by decide +kernel
theorem dX3_find_35 : decode cX3_find 35 = .ok (.ireturn, 1) := by decide +kernel
theorem dX3_hopAt_0 : decode cX3_hopAt 0 = .ok (.iconst 0, 1) := by decide +kernel
theorem dX3_hopAt_1 : decode cX3_hopAt 1 = .ok (.istore_n 3, 1) := by decide +kernel
theorem dX3_hopAt_2 : decode cX3_hopAt 2 = .ok (.iload_n 3, 1) := by decide +kernel
theorem dX3_hopAt_3 : decode cX3_hopAt 3 = .ok (.aload_n 0, 1) := by decide +kernel
theorem dX3_hopAt_4 : decode cX3_hopAt 4 = .ok (.getfield 37, 3) := by decide +kernel
theorem dX3_hopAt_7 : decode cX3_hopAt 7 = .ok (.iload_n 1, 1) := by decide +kernel
theorem dX3_hopAt_8 : decode cX3_hopAt 8 = .ok (.iaload, 1) := by decide +kernel
theorem dX3_hopAt_9 : decode cX3_hopAt 9 = .ok (.if_icmp .ge 23, 3) := by decide +kernel
theorem dX3_hopAt_12 : decode cX3_hopAt 12 = .ok (.aload_n 0, 1) := by decide +kernel
theorem dX3_hopAt_13 : decode cX3_hopAt 13 = .ok (.getfield 42, 3) := by decide +kernel
theorem dX3_hopAt_16 : decode cX3_hopAt 16 = .ok (.iload_n 1, 1) := by decide +kernel
theorem dX3_hopAt_17 : decode cX3_hopAt 17 = .ok (.aaload, 1) := by decide +kernel
theorem dX3_hopAt_18 : decode cX3_hopAt 18 = .ok (.iload_n 3, 1) := by decide +kernel
theorem dX3_hopAt_19 : decode cX3_hopAt 19 = .ok (.iaload, 1) := by decide +kernel
theorem dX3_hopAt_20 : decode cX3_hopAt 20 = .ok (.iload_n 2, 1) := by decide +kernel
theorem dX3_hopAt_21 : decode cX3_hopAt 21 = .ok (.if_icmp .ne 5, 3) := by decide +kernel
theorem dX3_hopAt_24 : decode cX3_hopAt 24 = .ok (.iload_n 3, 1) := by decide +kernel
theorem dX3_hopAt_25 : decode cX3_hopAt 25 = .ok (.ireturn, 1) := by decide +kernel
theorem dX3_hopAt_26 : decode cX3_hopAt 26 = .ok (.iinc 3 1, 3) := by decide +kernel
theorem dX3_hopAt_29 : decode cX3_hopAt 29 = .ok (.goto (-27), 3) := by decide +kernel
theorem dX3_hopAt_32 : decode cX3_hopAt 32 = .ok (.iconst (-1), 1) := by decide +kernel
theorem dX3_hopAt_33 : decode cX3_hopAt 33 = .ok (.ireturn, 1) := by decide +kernel
theorem dX3_init_0 : decode cX3_init 0 = .ok (.aload_n 0, 1) := by decide +kernel
theorem dX3_init_1 : decode cX3_init 1 = .ok (.invokespecial 3, 3) := by decide +kernel
theorem dX3_init_4 : decode cX3_init 4 = .ok (.aload_n 0, 1) := by decide +kernel
theorem dX3_init_5 : decode cX3_init 5 = .ok (.bipush 6, 2) := by decide +kernel
theorem dX3_init_7 : decode cX3_init 7 = .ok (.anewarray 9, 3) := by decide +kernel
theorem dX3_init_10 : decode cX3_init 10 = .ok (.putfield 11, 3) := by decide +kernel
theorem dX3_init_13 : decode cX3_init 13 = .ok (.aload_n 0, 1) := by decide +kernel
theorem dX3_init_14 : decode cX3_init 14 = .ok (.bipush 6, 2) := by decide +kernel
theorem dX3_init_16 : decode cX3_init 16 = .ok (.newarray .long, 2) := by decide +kernel
theorem dX3_init_18 : decode cX3_init 18 = .ok (.putfield 17, 3) := by decide +kernel
theorem dX3_init_21 : decode cX3_init 21 = .ok (.aload_n 0, 1) := by decide +kernel
theorem dX3_init_22 : decode cX3_init 22 = .ok (.iconst 4, 1) := by decide +kernel
theorem dX3_init_23 : decode cX3_init 23 = .ok (.newarray .long, 2) := by decide +kernel
theorem dX3_init_25 : decode cX3_init 25 = .ok (.putfield 21, 3) := by decide +kernel
theorem dX3_init_28 : decode cX3_init 28 = .ok (.aload_n 0, 1) := by decide +kernel
theorem dX3_init_29 : decode cX3_init 29 = .ok (.iconst 4, 1) := by decide +kernel
theorem dX3_init_30 : decode cX3_init 30 = .ok (.newarray .long, 2) := by decide +kernel
theorem dX3_init_32 : decode cX3_init 32 = .ok (.putfield 24, 3) := by decide +kernel
theorem dX3_init_35 : decode cX3_init 35 = .ok (.aload_n 0, 1) := by decide +kernel
theorem dX3_init_36 : decode cX3_init 36 = .ok (.iconst 4, 1) := by decide +kernel
theorem dX3_init_37 : decode cX3_init 37 = .ok (.newarray .int, 2) := by decide +kernel
theorem dX3_init_39 : decode cX3_init 39 = .ok (.putfield 27, 3) := by decide +kernel
theorem dX3_init_42 : decode cX3_init 42 = .ok (.aload_n 0, 1) := by decide +kernel
theorem dX3_init_43 : decode cX3_init 43 = .ok (.iconst 4, 1) := by decide +kernel
theorem dX3_init_44 : decode cX3_init 44 = .ok (.newarray .int, 2) := by decide +kernel
theorem dX3_init_46 : decode cX3_init 46 = .ok (.putfield 31, 3) := by decide +kernel
theorem dX3_init_49 : decode cX3_init 49 = .ok (.aload_n 0, 1) := by decide +kernel
theorem dX3_init_50 : decode cX3_init 50 = .ok (.iconst 4, 1) := by decide +kernel
theorem dX3_init_51 : decode cX3_init 51 = .ok (.newarray .int, 2) := by decide +kernel
theorem dX3_init_53 : decode cX3_init 53 = .ok (.putfield 34, 3) := by decide +kernel
theorem dX3_init_56 : decode cX3_init 56 = .ok (.aload_n 0, 1) := by decide +kernel
theorem dX3_init_57 : decode cX3_init 57 = .ok (.iconst 4, 1) := by decide +kernel
theorem dX3_init_58 : decode cX3_init 58 = .ok (.newarray .int, 2) := by decide +kernel
theorem dX3_init_60 : decode cX3_init 60 = .ok (.putfield 37, 3) := by decide +kernel
theorem dX3_init_63 : decode cX3_init 63 = .ok (.aload_n 0, 1) := by decide +kernel
theorem dX3_init_64 : decode cX3_init 64 = .ok (.iconst 4, 1) := by decide +kernel
theorem dX3_init_65 : decode cX3_init 65 = .ok (.iconst 4, 1) := by decide +kernel
theorem dX3_init_66 : decode cX3_init 66 = .ok (.multianewarray 40 2, 4) := by decide +kernel
theorem dX3_init_70 : decode cX3_init 70 = .ok (.putfield 42, 3) := by decide +kernel
theorem dX3_init_73 : decode cX3_init 73 = .ok (.aload_n 0, 1) := by decide +kernel
theorem dX3_init_74 : decode cX3_init 74 = .ok (.iconst 4, 1) := by decide +kernel
theorem dX3_init_75 : decode cX3_init 75 = .ok (.newarray .int, 2) := by decide +kernel
theorem dX3_init_77 : decode cX3_init 77 = .ok (.putfield 45, 3) := by decide +kernel
theorem dX3_init_80 : decode cX3_init 80 = .ok (.aload_n 0, 1) := by decide +kernel
theorem dX3_init_81 : decode cX3_init 81 = .ok (.new 48, 3) := by decide +kernel
theorem dX3_init_84 : decode cX3_init 84 = .ok (.dup, 1) := by decide +kernel
theorem dX3_init_85 : decode cX3_init 85 = .ok (.invokespecial 50, 3) := by decide +kernel
theorem dX3_init_88 : decode cX3_init 88 = .ok (.putfield 51, 3) := by decide +kernel
theorem dX3_init_91 : decode cX3_init 91 = .ok (.iconst 0, 1) := by decide +kernel
theorem dX3_init_92 : decode cX3_init 92 = .ok (.istore_n 1, 1) := by decide +kernel
theorem dX3_init_93 : decode cX3_init 93 = .ok (.iload_n 1, 1) := by decide +kernel
theorem dX3_init_94 : decode cX3_init 94 = .ok (.bipush 6, 2) := by decide +kernel
theorem dX3_init_96 : decode cX3_init 96 = .ok (.if_icmp .ge 22, 3) := by decide +kernel
theorem dX3_init_99 : decode cX3_init 99 = .ok (.aload_n 0, 1) := by decide +kernel
theorem dX3_init_100 : decode cX3_init 100 = .ok (.getfield 11, 3) := by decide +kernel
theorem dX3_init_103 : decode cX3_init 103 = .ok (.iload_n 1, 1) := by decide +kernel
theorem dX3_init_104 : decode cX3_init 104 = .ok (.new 9, 3) := by decide +kernel
theorem dX3_init_107 : decode cX3_init 107 = .ok (.dup, 1) := by decide +kernel
theorem dX3_init_108 : decode cX3_init 108 = .ok (.invokespecial 55, 3) := by decide +kernel
theorem dX3_init_111 : decode cX3_init 111 = .ok (.aastore, 1) := by decide +kernel
theorem dX3_init_112 : decode cX3_init 112 = .ok (.iinc 1 1, 3) := by decide +kernel
theorem dX3_init_115 : decode cX3_init 115 = .ok (.goto (-22), 3) := by decide +kernel
theorem dX3_init_118 : decode cX3_init 118 = .ok (.return_, 1) := by decide +kernel
theorem dX3_knows_0 : decode cX3_knows 0 = .ok (.aload_n 0, 1) := by decide +kernel
theorem dX3_knows_1 : decode cX3_knows 1 = .ok (.getfield 17, 3) := by decide +kernel
theorem dX3_knows_4 : decode cX3_knows 4 = .ok (.aload_n 0, 1) := by decide +kernel
theorem dX3_knows_5 : decode cX3_knows 5 = .ok (.getfield 56, 3) := by decide +kernel
theorem dX3_knows_8 : decode cX3_knows 8 = .ok (.lload_n 1, 1) := by decide +kernel
theorem dX3_knows_9 : decode cX3_knows 9 = .ok (.invokestatic 73, 3) := by decide +kernel
theorem dX3_knows_12 : decode cX3_knows 12 = .ok (.iconst (-1), 1) := by decide +kernel
theorem dX3_knows_13 : decode cX3_knows 13 = .ok (.if_icmp .ne 35, 3) := by decide +kernel
theorem dX3_knows_16 : decode cX3_knows 16 = .ok (.aload_n 0, 1) := by decide +kernel
theorem dX3_knows_17 : decode cX3_knows 17 = .ok (.getfield 21, 3) := by decide +kernel
theorem dX3_knows_20 : decode cX3_knows 20 = .ok (.aload_n 0, 1) := by decide +kernel
theorem dX3_knows_21 : decode cX3_knows 21 = .ok (.getfield 60, 3) := by decide +kernel
theorem dX3_knows_24 : decode cX3_knows 24 = .ok (.lload_n 1, 1) := by decide +kernel
theorem dX3_knows_25 : decode cX3_knows 25 = .ok (.invokestatic 73, 3) := by decide +kernel
theorem dX3_knows_28 : decode cX3_knows 28 = .ok (.iconst (-1), 1) := by decide +kernel
theorem dX3_knows_29 : decode cX3_knows 29 = .ok (.if_icmp .ne 19, 3) := by decide +kernel
theorem dX3_knows_32 : decode cX3_knows 32 = .ok (.aload_n 0, 1) := by decide +kernel
theorem dX3_knows_33 : decode cX3_knows 33 = .ok (.getfield 24, 3) := by decide +kernel
theorem dX3_knows_36 : decode cX3_knows 36 = .ok (.aload_n 0, 1) := by decide +kernel
theorem dX3_knows_37 : decode cX3_knows 37 = .ok (.getfield 63, 3) := by decide +kernel
theorem dX3_knows_40 : decode cX3_knows 40 = .ok (.lload_n 1, 1) := by decide +kernel
theorem dX3_knows_41 : decode cX3_knows 41 = .ok (.invokestatic 73, 3) := by decide +kernel
theorem dX3_knows_44 : decode cX3_knows 44 = .ok (.iconst (-1), 1) := by decide +kernel
theorem dX3_knows_45 : decode cX3_knows 45 = .ok (.if_icmp .eq 7, 3) := by decide +kernel
theorem dX3_knows_48 : decode cX3_knows 48 = .ok (.iconst 1, 1) := by decide +kernel
theorem dX3_knows_49 : decode cX3_knows 49 = .ok (.goto 4, 3) := by decide +kernel
theorem dX3_knows_52 : decode cX3_knows 52 = .ok (.iconst 0, 1) := by decide +kernel
theorem dX3_knows_53 : decode cX3_knows 53 = .ok (.ireturn, 1) := by decide +kernel
theorem dX3_reset_0 : decode cX3_reset 0 = .ok (.aload_n 0, 1) := by decide +kernel
theorem dX3_reset_1 : decode cX3_reset 1 = .ok (.iconst 0, 1) := by decide +kernel
theorem dX3_reset_2 : decode cX3_reset 2 = .ok (.putfield 56, 3) := by decide +kernel
theorem dX3_reset_5 : decode cX3_reset 5 = .ok (.aload_n 0, 1) := by decide +kernel
theorem dX3_reset_6 : decode cX3_reset 6 = .ok (.iconst 0, 1) := by decide +kernel
theorem dX3_reset_7 : decode cX3_reset 7 = .ok (.putfield 60, 3) := by decide +kernel
theorem dX3_reset_10 : decode cX3_reset 10 = .ok (.aload_n 0, 1) := by decide +kernel
theorem dX3_reset_11 : decode cX3_reset 11 = .ok (.iconst 0, 1) := by decide +kernel
theorem dX3_reset_12 : decode cX3_reset 12 = .ok (.putfield 63, 3) := by decide +kernel
theorem dX3_reset_15 : decode cX3_reset 15 = .ok (.aload_n 0, 1) := by decide +kernel
theorem dX3_reset_16 : decode cX3_reset 16 = .ok (.iconst 0, 1) := by decide +kernel
theorem dX3_reset_17 : decode cX3_reset 17 = .ok (.putfield 66, 3) := by decide +kernel
theorem dX3_reset_20 : decode cX3_reset 20 = .ok (.aload_n 0, 1) := by decide +kernel
theorem dX3_reset_21 : decode cX3_reset 21 = .ok (.getfield 51, 3) := by decide +kernel
theorem dX3_reset_24 : decode cX3_reset 24 = .ok (.invokevirtual 70, 3) := by decide +kernel
theorem dX3_reset_27 : decode cX3_reset 27 = .ok (.iconst 0, 1) := by decide +kernel
theorem dX3_reset_28 : decode cX3_reset 28 = .ok (.istore_n 1, 1) := by decide +kernel
theorem dX3_reset_29 : decode cX3_reset 29 = .ok (.iload_n 1, 1) := by decide +kernel
theorem dX3_reset_30 : decode cX3_reset 30 = .ok (.iconst 4, 1) := by decide +kernel
theorem dX3_reset_31 : decode cX3_reset 31 = .ok (.if_icmp .ge 16, 3) := by decide +kernel
theorem dX3_reset_34 : decode cX3_reset 34 = .ok (.aload_n 0, 1) := by decide +kernel
theorem dX3_reset_35 : decode cX3_reset 35 = .ok (.getfield 45, 3) := by decide +kernel
theorem dX3_reset_38 : decode cX3_reset 38 = .ok (.iload_n 1, 1) := by decide +kernel
theorem dX3_reset_39 : decode cX3_reset 39 = .ok (.iconst 0, 1) := by decide +kernel
theorem dX3_reset_40 : decode cX3_reset 40 = .ok (.iastore, 1) := by decide +kernel
theorem dX3_reset_41 : decode cX3_reset 41 = .ok (.iinc 1 1, 3) := by decide +kernel
theorem dX3_reset_44 : decode cX3_reset 44 = .ok (.goto (-15), 3) := by decide +kernel
theorem dX3_reset_47 : decode cX3_reset 47 = .ok (.return_, 1) := by decide +kernel
theorem dX4_init_0 : decode cX4_init 0 = .ok (.aload_n 0, 1) := by decide +kernel
theorem dX4_init_1 : decode cX4_init 1 = .ok (.invokespecial 3, 3) := by decide +kernel
theorem dX4_init_4 : decode cX4_init 4 = .ok (.aload_n 0, 1) := by decide +kernel
theorem dX4_init_5 : decode cX4_init 5 = .ok (.aload_n 1, 1) := by decide +kernel
theorem dX4_init_6 : decode cX4_init 6 = .ok (.putfield 9, 3) := by decide +kernel
theorem dX4_init_9 : decode cX4_init 9 = .ok (.aload_n 0, 1) := by decide +kernel
theorem dX4_init_10 : decode cX4_init 10 = .ok (.aload_n 2, 1) := by decide +kernel
theorem dX4_init_11 : decode cX4_init 11 = .ok (.putfield 15, 3) := by decide +kernel
theorem dX4_init_14 : decode cX4_init 14 = .ok (.aload_n 0, 1) := by decide +kernel
theorem dX4_init_15 : decode cX4_init 15 = .ok (.new 19, 3) := by decide +kernel
theorem dX4_init_18 : decode cX4_init 18 = .ok (.dup, 1) := by decide +kernel
theorem dX4_init_19 : decode cX4_init 19 = .ok (.aload_n 1, 1) := by decide +kernel
theorem dX4_init_20 : decode cX4_init 20 = .ok (.invokespecial 21, 3) := by decide +kernel
theorem dX4_init_23 : decode cX4_init 23 = .ok (.putfield 24, 3) := by decide +kernel
theorem dX4_init_26 : decode cX4_init 26 = .ok (.return_, 1) := by decide +kernel
theorem dX4_read_0 : decode cX4_read 0 = .ok (.aload_n 0, 1) := by decide +kernel
theorem dX4_read_1 : decode cX4_read 1 = .ok (.aload_n 1, 1) := by decide +kernel
theorem dX4_read_2 : decode cX4_read 2 = .ok (.putfield 15, 3) := by decide +kernel
theorem dX4_read_5 : decode cX4_read 5 = .ok (.aload_n 0, 1) := by decide +kernel
theorem dX4_read_6 : decode cX4_read 6 = .ok (.getfield 15, 3) := by decide +kernel
theorem dX4_read_9 : decode cX4_read 9 = .ok (.invokevirtual 28, 3) := by decide +kernel
theorem dX4_read_12 : decode cX4_read 12 = .ok (.aload_n 0, 1) := by decide +kernel
theorem dX4_read_13 : decode cX4_read 13 = .ok (.getfield 9, 3) := by decide +kernel
theorem dX4_read_16 : decode cX4_read 16 = .ok (.invokevirtual 33, 3) := by decide +kernel
theorem dX4_read_19 : decode cX4_read 19 = .ok (.iconst 0, 1) := by decide +kernel
theorem dX4_read_20 : decode cX4_read 20 = .ok (.istore_n 2, 1) := by decide +kernel
theorem dX4_read_21 : decode cX4_read 21 = .ok (.iload_n 2, 1) := by decide +kernel
theorem dX4_read_22 : decode cX4_read 22 = .ok (.sipush 1000, 3) := by decide +kernel
theorem dX4_read_25 : decode cX4_read 25 = .ok (.if_icmp .ge 126, 3) := by decide +kernel
theorem dX4_read_28 : decode cX4_read 28 = .ok (.aload_n 0, 1) := by decide +kernel
theorem dX4_read_29 : decode cX4_read 29 = .ok (.getfield 9, 3) := by decide +kernel
theorem dX4_read_32 : decode cX4_read 32 = .ok (.getfield 38, 3) := by decide +kernel
theorem dX4_read_35 : decode cX4_read 35 = .ok (.ifCond .ne 116, 3) := by decide +kernel
theorem dX4_read_38 : decode cX4_read 38 = .ok (.aload_n 0, 1) := by decide +kernel
theorem dX4_read_39 : decode cX4_read 39 = .ok (.getfield 9, 3) := by decide +kernel
theorem dX4_read_42 : decode cX4_read 42 = .ok (.getfield 42, 3) := by decide +kernel
theorem dX4_read_45 : decode cX4_read 45 = .ok (.ifCond .eq 106, 3) := by decide +kernel
theorem dX4_read_48 : decode cX4_read 48 = .ok (.aload_n 0, 1) := by decide +kernel
theorem dX4_read_49 : decode cX4_read 49 = .ok (.getfield 9, 3) := by decide +kernel
theorem dX4_read_52 : decode cX4_read 52 = .ok (.getfield 42, 3) := by decide +kernel
theorem dX4_read_55 : decode cX4_read 55 = .ok (.tableswitch 81 128 137 #[53, 81, 81, 81, 60, 81, 67, 81, 81, 74], 53) := by decide +kernel
theorem dX4_read_108 : decode cX4_read 108 = .ok (.aload_n 0, 1) := by decide +kernel
theorem dX4_read_109 : decode cX4_read 109 = .ok (.invokevirtual 45, 3) := by decide +kernel
theorem dX4_read_112 : decode cX4_read 112 = .ok (.goto 33, 3) := by decide +kernel
theorem dX4_read_115 : decode cX4_read 115 = .ok (.aload_n 0, 1) := by decide +kernel
theorem dX4_read_116 : decode cX4_read 116 = .ok (.invokevirtual 48, 3) := by decide +kernel
theorem dX4_read_119 : decode cX4_read 119 = .ok (.goto 26, 3) := by decide +kernel
theorem dX4_read_122 : decode cX4_read 122 = .ok (.aload_n 0, 1) := by decide +kernel
theorem dX4_read_123 : decode cX4_read 123 = .ok (.invokevirtual 51, 3) := by decide +kernel
theorem dX4_read_126 : decode cX4_read 126 = .ok (.goto 19, 3) := by decide +kernel
theorem dX4_read_129 : decode cX4_read 129 = .ok (.aload_n 0, 1) := by decide +kernel
theorem dX4_read_130 : decode cX4_read 130 = .ok (.invokevirtual 54, 3) := by decide +kernel
theorem dX4_read_133 : decode cX4_read 133 = .ok (.goto 12, 3) := by decide +kernel
theorem dX4_read_136 : decode cX4_read 136 = .ok (.aload_n 0, 1) := by decide +kernel
theorem dX4_read_137 : decode cX4_read 137 = .ok (.getfield 9, 3) := by decide +kernel
theorem dX4_read_140 : decode cX4_read 140 = .ok (.iconst 1, 1) := by decide +kernel
theorem dX4_read_141 : decode cX4_read 141 = .ok (.invokevirtual 57, 3) := by decide +kernel
theorem dX4_read_144 : decode cX4_read 144 = .ok (.pop, 1) := by decide +kernel
theorem dX4_read_145 : decode cX4_read 145 = .ok (.iinc 2 1, 3) := by decide +kernel
theorem dX4_read_148 : decode cX4_read 148 = .ok (.goto (-127), 3) := by decide +kernel
theorem dX4_read_151 : decode cX4_read 151 = .ok (.aload_n 0, 1) := by decide +kernel
theorem dX4_read_152 : decode cX4_read 152 = .ok (.getfield 9, 3) := by decide +kernel
theorem dX4_read_155 : decode cX4_read 155 = .ok (.getfield 38, 3) := by decide +kernel
theorem dX4_read_158 : decode cX4_read 158 = .ok (.ireturn, 1) := by decide +kernel
theorem dX4_readAdds_0 : decode cX4_readAdds 0 = .ok (.aload_n 1, 1) := by decide +kernel
theorem dX4_readAdds_1 : decode cX4_readAdds 1 = .ok (.getfield 111, 3) := by decide +kernel
theorem dX4_readAdds_4 : decode cX4_readAdds 4 = .ok (.aload_n 1, 1) := by decide +kernel
theorem dX4_readAdds_5 : decode cX4_readAdds 5 = .ok (.getfield 117, 3) := by decide +kernel
theorem dX4_readAdds_8 : decode cX4_readAdds 8 = .ok (.iconst 1, 1) := by decide +kernel
theorem dX4_readAdds_9 : decode cX4_readAdds 9 = .ok (.isub, 1) := by decide +kernel
theorem dX4_readAdds_10 : decode cX4_readAdds 10 = .ok (.iaload, 1) := by decide +kernel
theorem dX4_readAdds_11 : decode cX4_readAdds 11 = .ok (.aload_n 1, 1) := by decide +kernel
theorem dX4_readAdds_12 : decode cX4_readAdds 12 = .ok (.getfield 111, 3) := by decide +kernel
theorem dX4_readAdds_15 : decode cX4_readAdds 15 = .ok (.aload_n 1, 1) := by decide +kernel
theorem dX4_readAdds_16 : decode cX4_readAdds 16 = .ok (.getfield 117, 3) := by decide +kernel
theorem dX4_readAdds_19 : decode cX4_readAdds 19 = .ok (.aload_n 1, 1) := by decide +kernel
theorem dX4_readAdds_20 : decode cX4_readAdds 20 = .ok (.getfield 120, 3) := by decide +kernel
theorem dX4_readAdds_23 : decode cX4_readAdds 23 = .ok (.isub, 1) := by decide +kernel
theorem dX4_readAdds_24 : decode cX4_readAdds 24 = .ok (.iaload, 1) := by decide +kernel
theorem dX4_readAdds_25 : decode cX4_readAdds 25 = .ok (.isub, 1) := by decide +kernel
theorem dX4_readAdds_26 : decode cX4_readAdds 26 = .ok (.istore_n 2, 1) := by decide +kernel
theorem dX4_readAdds_27 : decode cX4_readAdds 27 = .ok (.aload_n 0, 1) := by decide +kernel
theorem dX4_readAdds_28 : decode cX4_readAdds 28 = .ok (.getfield 9, 3) := by decide +kernel
theorem dX4_readAdds_31 : decode cX4_readAdds 31 = .ok (.iload_n 2, 1) := by decide +kernel
theorem dX4_readAdds_32 : decode cX4_readAdds 32 = .ok (.bipush 99, 2) := by decide +kernel
theorem dX4_readAdds_34 : decode cX4_readAdds 34 = .ok (.invokevirtual 104, 3) := by decide +kernel
theorem dX4_readAdds_37 : decode cX4_readAdds 37 = .ok (.ifCond .ne 5, 3) := by decide +kernel
theorem dX4_readAdds_40 : decode cX4_readAdds 40 = .ok (.iconst 0, 1) := by decide +kernel
theorem dX4_readAdds_41 : decode cX4_readAdds 41 = .ok (.ireturn, 1) := by decide +kernel
theorem dX4_readAdds_42 : decode cX4_readAdds 42 = .ok (.aload_n 1, 1) := by decide +kernel
theorem dX4_readAdds_43 : decode cX4_readAdds 43 = .ok (.aload_n 0, 1) := by decide +kernel
theorem dX4_readAdds_44 : decode cX4_readAdds 44 = .ok (.getfield 9, 3) := by decide +kernel
theorem dX4_readAdds_47 : decode cX4_readAdds 47 = .ok (.getfield 108, 3) := by decide +kernel
theorem dX4_readAdds_50 : decode cX4_readAdds 50 = .ok (.putfield 123, 3) := by decide +kernel
theorem dX4_readAdds_53 : decode cX4_readAdds 53 = .ok (.aload_n 0, 1) := by decide +kernel
theorem dX4_readAdds_54 : decode cX4_readAdds 54 = .ok (.getfield 9, 3) := by decide +kernel
theorem dX4_readAdds_57 : decode cX4_readAdds 57 = .ok (.invokevirtual 73, 3) := by decide +kernel
theorem dX4_readAdds_60 : decode cX4_readAdds 60 = .ok (.iconst 1, 1) := by decide +kernel
theorem dX4_readAdds_61 : decode cX4_readAdds 61 = .ok (.ireturn, 1) := by decide +kernel
theorem dX4_readAgain_0 : decode cX4_readAgain 0 = .ok (.aload_n 0, 1) := by decide +kernel
theorem dX4_readAgain_1 : decode cX4_readAgain 1 = .ok (.getfield 9, 3) := by decide +kernel
theorem dX4_readAgain_4 : decode cX4_readAgain 4 = .ok (.iconst 1, 1) := by decide +kernel
theorem dX4_readAgain_5 : decode cX4_readAgain 5 = .ok (.aload_n 1, 1) := by decide +kernel
theorem dX4_readAgain_6 : decode cX4_readAgain 6 = .ok (.getfield 117, 3) := by decide +kernel
theorem dX4_readAgain_9 : decode cX4_readAgain 9 = .ok (.invokevirtual 104, 3) := by decide +kernel
theorem dX4_readAgain_12 : decode cX4_readAgain 12 = .ok (.ifCond .ne 5, 3) := by decide +kernel
theorem dX4_readAgain_15 : decode cX4_readAgain 15 = .ok (.iconst 0, 1) := by decide +kernel
theorem dX4_readAgain_16 : decode cX4_readAgain 16 = .ok (.ireturn, 1) := by decide +kernel
theorem dX4_readAgain_17 : decode cX4_readAgain 17 = .ok (.aload_n 1, 1) := by decide +kernel
theorem dX4_readAgain_18 : decode cX4_readAgain 18 = .ok (.aload_n 0, 1) := by decide +kernel
theorem dX4_readAgain_19 : decode cX4_readAgain 19 = .ok (.getfield 9, 3) := by decide +kernel
theorem dX4_readAgain_22 : decode cX4_readAgain 22 = .ok (.getfield 108, 3) := by decide +kernel
theorem dX4_readAgain_25 : decode cX4_readAgain 25 = .ok (.putfield 120, 3) := by decide +kernel
theorem dX4_readAgain_28 : decode cX4_readAgain 28 = .ok (.aload_n 0, 1) := by decide +kernel
theorem dX4_readAgain_29 : decode cX4_readAgain 29 = .ok (.getfield 9, 3) := by decide +kernel
theorem dX4_readAgain_32 : decode cX4_readAgain 32 = .ok (.invokevirtual 73, 3) := by decide +kernel
theorem dX4_readAgain_35 : decode cX4_readAgain 35 = .ok (.iconst 1, 1) := by decide +kernel
theorem dX4_readAgain_36 : decode cX4_readAgain 36 = .ok (.ireturn, 1) := by decide +kernel
theorem dX4_readCurve_0 : decode cX4_readCurve 0 = .ok (.aload_n 0, 1) := by decide +kernel
theorem dX4_readCurve_1 : decode cX4_readCurve 1 = .ok (.getfield 15, 3) := by decide +kernel
theorem dX4_readCurve_4 : decode cX4_readCurve 4 = .ok (.getfield 76, 3) := by decide +kernel
theorem dX4_readCurve_7 : decode cX4_readCurve 7 = .ok (.istore_n 1, 1) := by decide +kernel
theorem dX4_readCurve_8 : decode cX4_readCurve 8 = .ok (.iload_n 1, 1) := by decide +kernel
theorem dX4_readCurve_9 : decode cX4_readCurve 9 = .ok (.bipush 6, 2) := by decide +kernel
theorem dX4_readCurve_11 : decode cX4_readCurve 11 = .ok (.if_icmp .lt 13, 3) := by decide +kernel
theorem dX4_readCurve_14 : decode cX4_readCurve 14 = .ok (.aload_n 0, 1) := by decide +kernel
theorem dX4_readCurve_15 : decode cX4_readCurve 15 = .ok (.getfield 9, 3) := by decide +kernel
theorem dX4_readCurve_18 : decode cX4_readCurve 18 = .ok (.iconst 5, 1) := by decide +kernel
theorem dX4_readCurve_19 : decode cX4_readCurve 19 = .ok (.invokevirtual 57, 3) := by decide +kernel
theorem dX4_readCurve_22 : decode cX4_readCurve 22 = .ok (.pop, 1) := by decide +kernel
theorem dX4_readCurve_23 : decode cX4_readCurve 23 = .ok (.return_, 1) := by decide +kernel
theorem dX4_readCurve_24 : decode cX4_readCurve 24 = .ok (.aload_n 0, 1) := by decide +kernel
theorem dX4_readCurve_25 : decode cX4_readCurve 25 = .ok (.getfield 15, 3) := by decide +kernel
theorem dX4_readCurve_28 : decode cX4_readCurve 28 = .ok (.getfield 79, 3) := by decide +kernel
theorem dX4_readCurve_31 : decode cX4_readCurve 31 = .ok (.iload_n 1, 1) := by decide +kernel
theorem dX4_readCurve_32 : decode cX4_readCurve 32 = .ok (.aaload, 1) := by decide +kernel
theorem dX4_readCurve_33 : decode cX4_readCurve 33 = .ok (.astore_n 2, 1) := by decide +kernel
theorem dX4_readCurve_34 : decode cX4_readCurve 34 = .ok (.aload_n 0, 1) := by decide +kernel
theorem dX4_readCurve_35 : decode cX4_readCurve 35 = .ok (.getfield 9, 3) := by decide +kernel
theorem dX4_readCurve_38 : decode cX4_readCurve 38 = .ok (.invokevirtual 73, 3) := by decide +kernel
theorem dX4_readCurve_41 : decode cX4_readCurve 41 = .ok (.aload_n 0, 1) := by decide +kernel
theorem dX4_readCurve_42 : decode cX4_readCurve 42 = .ok (.aload_n 0, 1) := by decide +kernel
theorem dX4_readCurve_43 : decode cX4_readCurve 43 = .ok (.getfield 15, 3) := by decide +kernel
theorem dX4_readCurve_46 : decode cX4_readCurve 46 = .ok (.getfield 83, 3) := by decide +kernel
theorem dX4_readCurve_49 : decode cX4_readCurve 49 = .ok (.iload_n 1, 1) := by decide +kernel
theorem dX4_readCurve_50 : decode cX4_readCurve 50 = .ok (.invokevirtual 87, 3) := by decide +kernel
theorem dX4_readCurve_53 : decode cX4_readCurve 53 = .ok (.ifCond .eq 82, 3) := by decide +kernel
theorem dX4_readCurve_56 : decode cX4_readCurve 56 = .ok (.aload_n 0, 1) := by decide +kernel
theorem dX4_readCurve_57 : decode cX4_readCurve 57 = .ok (.getfield 9, 3) := by decide +kernel
theorem dX4_readCurve_60 : decode cX4_readCurve 60 = .ok (.sipush 129, 3) := by decide +kernel
theorem dX4_readCurve_63 : decode cX4_readCurve 63 = .ok (.invokevirtual 91, 3) := by decide +kernel
theorem dX4_readCurve_66 : decode cX4_readCurve 66 = .ok (.ifCond .eq 69, 3) := by decide +kernel
theorem dX4_readCurve_69 : decode cX4_readCurve 69 = .ok (.aload_n 0, 1) := by decide +kernel
theorem dX4_readCurve_70 : decode cX4_readCurve 70 = .ok (.aload_n 2, 1) := by decide +kernel
theorem dX4_readCurve_71 : decode cX4_readCurve 71 = .ok (.invokevirtual 94, 3) := by decide +kernel
theorem dX4_readCurve_74 : decode cX4_readCurve 74 = .ok (.ifCond .eq 61, 3) := by decide +kernel
theorem dX4_readCurve_77 : decode cX4_readCurve 77 = .ok (.aload_n 0, 1) := by decide +kernel
theorem dX4_readCurve_78 : decode cX4_readCurve 78 = .ok (.getfield 9, 3) := by decide +kernel
theorem dX4_readCurve_81 : decode cX4_readCurve 81 = .ok (.sipush 130, 3) := by decide +kernel
theorem dX4_readCurve_84 : decode cX4_readCurve 84 = .ok (.invokevirtual 91, 3) := by decide +kernel
theorem dX4_readCurve_87 : decode cX4_readCurve 87 = .ok (.ifCond .eq 48, 3) := by decide +kernel
theorem dX4_readCurve_90 : decode cX4_readCurve 90 = .ok (.aload_n 0, 1) := by decide +kernel
theorem dX4_readCurve_91 : decode cX4_readCurve 91 = .ok (.aload_n 2, 1) := by decide +kernel
theorem dX4_readCurve_92 : decode cX4_readCurve 92 = .ok (.invokevirtual 98, 3) := by decide +kernel
theorem dX4_readCurve_95 : decode cX4_readCurve 95 = .ok (.ifCond .eq 40, 3) := by decide +kernel
theorem dX4_readCurve_98 : decode cX4_readCurve 98 = .ok (.aload_n 0, 1) := by decide +kernel
theorem dX4_readCurve_99 : decode cX4_readCurve 99 = .ok (.getfield 9, 3) := by decide +kernel
theorem dX4_readCurve_102 : decode cX4_readCurve 102 = .ok (.sipush 131, 3) := by decide +kernel
theorem dX4_readCurve_105 : decode cX4_readCurve 105 = .ok (.invokevirtual 91, 3) := by decide +kernel
theorem dX4_readCurve_108 : decode cX4_readCurve 108 = .ok (.ifCond .eq 27, 3) := by decide +kernel
theorem dX4_readCurve_111 : decode cX4_readCurve 111 = .ok (.aload_n 0, 1) := by decide +kernel
theorem dX4_readCurve_112 : decode cX4_readCurve 112 = .ok (.aload_n 2, 1) := by decide +kernel
theorem dX4_readCurve_113 : decode cX4_readCurve 113 = .ok (.invokevirtual 101, 3) := by decide +kernel
theorem dX4_readCurve_116 : decode cX4_readCurve 116 = .ok (.ifCond .eq 19, 3) := by decide +kernel
theorem dX4_readCurve_119 : decode cX4_readCurve 119 = .ok (.aload_n 0, 1) := by decide +kernel
theorem dX4_readCurve_120 : decode cX4_readCurve 120 = .ok (.getfield 9, 3) := by decide +kernel
theorem dX4_readCurve_123 : decode cX4_readCurve 123 = .ok (.bipush 59, 2) := by decide +kernel
theorem dX4_readCurve_125 : decode cX4_readCurve 125 = .ok (.invokevirtual 91, 3) := by decide +kernel
theorem dX4_readCurve_128 : decode cX4_readCurve 128 = .ok (.ifCond .eq 7, 3) := by decide +kernel
theorem dX4_readCurve_131 : decode cX4_readCurve 131 = .ok (.iconst 1, 1) := by decide +kernel
theorem dX4_readCurve_132 : decode cX4_readCurve 132 = .ok (.goto 4, 3) := by decide +kernel
theorem dX4_readCurve_135 : decode cX4_readCurve 135 = .ok (.iconst 0, 1) := by decide +kernel
theorem dX4_readCurve_136 : decode cX4_readCurve 136 = .ok (.istore_n 3, 1) := by decide +kernel
theorem dX4_readCurve_137 : decode cX4_readCurve 137 = .ok (.iload_n 3, 1) := by decide +kernel
theorem dX4_readCurve_138 : decode cX4_readCurve 138 = .ok (.ifCond .eq 16, 3) := by decide +kernel
theorem dX4_readCurve_141 : decode cX4_readCurve 141 = .ok (.aload_n 0, 1) := by decide +kernel
theorem dX4_readCurve_142 : decode cX4_readCurve 142 = .ok (.getfield 15, 3) := by decide +kernel
theorem dX4_readCurve_145 : decode cX4_readCurve 145 = .ok (.dup, 1) := by decide +kernel
theorem dX4_readCurve_146 : decode cX4_readCurve 146 = .ok (.getfield 76, 3) := by decide +kernel
theorem dX4_readCurve_149 : decode cX4_readCurve 149 = .ok (.iconst 1, 1) := by decide +kernel
theorem dX4_readCurve_150 : decode cX4_readCurve 150 = .ok (.iadd, 1) := by decide +kernel
theorem dX4_readCurve_151 : decode cX4_readCurve 151 = .ok (.putfield 76, 3) := by decide +kernel
theorem dX4_readCurve_154 : decode cX4_readCurve 154 = .ok (.return_, 1) := by decide +kernel
theorem dX4_readCurveName_0 : decode cX4_readCurveName 0 = .ok (.aload_n 0, 1) := by decide +kernel
theorem dX4_readCurveName_1 : decode cX4_readCurveName 1 = .ok (.getfield 9, 3) := by decide +kernel
theorem dX4_readCurveName_4 : decode cX4_readCurveName 4 = .ok (.invokevirtual 61, 3) := by decide +kernel
theorem dX4_readCurveName_7 : decode cX4_readCurveName 7 = .ok (.ifCond .ne 12, 3) := by decide +kernel
theorem dX4_readCurveName_10 : decode cX4_readCurveName 10 = .ok (.aload_n 0, 1) := by decide +kernel
theorem dX4_readCurveName_11 : decode cX4_readCurveName 11 = .ok (.getfield 9, 3) := by decide +kernel
theorem dX4_readCurveName_14 : decode cX4_readCurveName 14 = .ok (.iconst 1, 1) := by decide +kernel
theorem dX4_readCurveName_15 : decode cX4_readCurveName 15 = .ok (.invokevirtual 57, 3) := by decide +kernel
theorem dX4_readCurveName_18 : decode cX4_readCurveName 18 = .ok (.ireturn, 1) := by decide +kernel
theorem dX4_readCurveName_19 : decode cX4_readCurveName 19 = .ok (.aload_n 1, 1) := by decide +kernel
theorem dX4_readCurveName_20 : decode cX4_readCurveName 20 = .ok (.iload_n 2, 1) := by decide +kernel
theorem dX4_readCurveName_21 : decode cX4_readCurveName 21 = .ok (.aload_n 0, 1) := by decide +kernel
theorem dX4_readCurveName_22 : decode cX4_readCurveName 22 = .ok (.getfield 15, 3) := by decide +kernel
theorem dX4_readCurveName_25 : decode cX4_readCurveName 25 = .ok (.getfield 83, 3) := by decide +kernel
theorem dX4_readCurveName_28 : decode cX4_readCurveName 28 = .ok (.aload_n 0, 1) := by decide +kernel
theorem dX4_readCurveName_29 : decode cX4_readCurveName 29 = .ok (.getfield 15, 3) := by decide +kernel
theorem dX4_readCurveName_32 : decode cX4_readCurveName 32 = .ok (.getfield 76, 3) := by decide +kernel
theorem dX4_readCurveName_35 : decode cX4_readCurveName 35 = .ok (.aload_n 0, 1) := by decide +kernel
theorem dX4_readCurveName_36 : decode cX4_readCurveName 36 = .ok (.getfield 9, 3) := by decide +kernel
theorem dX4_readCurveName_39 : decode cX4_readCurveName 39 = .ok (.getfield 65, 3) := by decide +kernel
theorem dX4_readCurveName_42 : decode cX4_readCurveName 42 = .ok (.invokestatic 145, 3) := by decide +kernel
theorem dX4_readCurveName_45 : decode cX4_readCurveName 45 = .ok (.iastore, 1) := by decide +kernel
theorem dX4_readCurveName_46 : decode cX4_readCurveName 46 = .ok (.aload_n 1, 1) := by decide +kernel
theorem dX4_readCurveName_47 : decode cX4_readCurveName 47 = .ok (.iload_n 2, 1) := by decide +kernel
theorem dX4_readCurveName_48 : decode cX4_readCurveName 48 = .ok (.iaload, 1) := by decide +kernel
theorem dX4_readCurveName_49 : decode cX4_readCurveName 49 = .ok (.iconst (-1), 1) := by decide +kernel
theorem dX4_readCurveName_50 : decode cX4_readCurveName 50 = .ok (.if_icmp .ne 12, 3) := by decide +kernel
theorem dX4_readCurveName_53 : decode cX4_readCurveName 53 = .ok (.aload_n 0, 1) := by decide +kernel
theorem dX4_readCurveName_54 : decode cX4_readCurveName 54 = .ok (.getfield 9, 3) := by decide +kernel
theorem dX4_readCurveName_57 : decode cX4_readCurveName 57 = .ok (.iconst 2, 1) := by decide +kernel
theorem dX4_readCurveName_58 : decode cX4_readCurveName 58 = .ok (.invokevirtual 57, 3) := by decide +kernel
theorem dX4_readCurveName_61 : decode cX4_readCurveName 61 = .ok (.ireturn, 1) := by decide +kernel
theorem dX4_readCurveName_62 : decode cX4_readCurveName 62 = .ok (.aload_n 0, 1) := by decide +kernel
theorem dX4_readCurveName_63 : decode cX4_readCurveName 63 = .ok (.getfield 9, 3) := by decide +kernel
theorem dX4_readCurveName_66 : decode cX4_readCurveName 66 = .ok (.invokevirtual 73, 3) := by decide +kernel
theorem dX4_readCurveName_69 : decode cX4_readCurveName 69 = .ok (.iconst 1, 1) := by decide +kernel
theorem dX4_readCurveName_70 : decode cX4_readCurveName 70 = .ok (.ireturn, 1) := by decide +kernel
theorem dX4_readDiscipline_0 : decode cX4_readDiscipline 0 = .ok (.aload_n 0, 1) := by decide +kernel
theorem dX4_readDiscipline_1 : decode cX4_readDiscipline 1 = .ok (.getfield 9, 3) := by decide +kernel
theorem dX4_readDiscipline_4 : decode cX4_readDiscipline 4 = .ok (.getfield 42, 3) := by decide +kernel
theorem dX4_readDiscipline_7 : decode cX4_readDiscipline 7 = .ok (.sipush 140, 3) := by decide +kernel
theorem dX4_readDiscipline_10 : decode cX4_readDiscipline 10 = .ok (.if_icmp .lt 16, 3) := by decide +kernel
theorem dX4_readDiscipline_13 : decode cX4_readDiscipline 13 = .ok (.aload_n 0, 1) := by decide +kernel
theorem dX4_readDiscipline_14 : decode cX4_readDiscipline 14 = .ok (.getfield 9, 3) := by decide +kernel
theorem dX4_readDiscipline_17 : decode cX4_readDiscipline 17 = .ok (.getfield 42, 3) := by decide +kernel
theorem dX4_readDiscipline_20 : decode cX4_readDiscipline 20 = .ok (.sipush 143, 3) := by decide +kernel
theorem dX4_readDiscipline_23 : decode cX4_readDiscipline 23 = .ok (.if_icmp .le 12, 3) := by decide +kernel
theorem dX4_readDiscipline_26 : decode cX4_readDiscipline 26 = .ok (.aload_n 0, 1) := by decide +kernel
theorem dX4_readDiscipline_27 : decode cX4_readDiscipline 27 = .ok (.getfield 9, 3) := by decide +kernel
theorem dX4_readDiscipline_30 : decode cX4_readDiscipline 30 = .ok (.iconst 1, 1) := by decide +kernel
theorem dX4_readDiscipline_31 : decode cX4_readDiscipline 31 = .ok (.invokevirtual 57, 3) := by decide +kernel
theorem dX4_readDiscipline_34 : decode cX4_readDiscipline 34 = .ok (.ireturn, 1) := by decide +kernel
theorem dX4_readDiscipline_35 : decode cX4_readDiscipline 35 = .ok (.aload_n 0, 1) := by decide +kernel
theorem dX4_readDiscipline_36 : decode cX4_readDiscipline 36 = .ok (.getfield 15, 3) := by decide +kernel
theorem dX4_readDiscipline_39 : decode cX4_readDiscipline 39 = .ok (.getfield 142, 3) := by decide +kernel
theorem dX4_readDiscipline_42 : decode cX4_readDiscipline 42 = .ok (.iload_n 1, 1) := by decide +kernel
theorem dX4_readDiscipline_43 : decode cX4_readDiscipline 43 = .ok (.aload_n 0, 1) := by decide +kernel
theorem dX4_readDiscipline_44 : decode cX4_readDiscipline 44 = .ok (.getfield 9, 3) := by decide +kernel
theorem dX4_readDiscipline_47 : decode cX4_readDiscipline 47 = .ok (.getfield 42, 3) := by decide +kernel
theorem dX4_readDiscipline_50 : decode cX4_readDiscipline 50 = .ok (.sipush 140, 3) := by decide +kernel
theorem dX4_readDiscipline_53 : decode cX4_readDiscipline 53 = .ok (.isub, 1) := by decide +kernel
theorem dX4_readDiscipline_54 : decode cX4_readDiscipline 54 = .ok (.iastore, 1) := by decide +kernel
theorem dX4_readDiscipline_55 : decode cX4_readDiscipline 55 = .ok (.aload_n 0, 1) := by decide +kernel
theorem dX4_readDiscipline_56 : decode cX4_readDiscipline 56 = .ok (.getfield 9, 3) := by decide +kernel
theorem dX4_readDiscipline_59 : decode cX4_readDiscipline 59 = .ok (.invokevirtual 73, 3) := by decide +kernel
theorem dX4_readDiscipline_62 : decode cX4_readDiscipline 62 = .ok (.iconst 1, 1) := by decide +kernel
theorem dX4_readDiscipline_63 : decode cX4_readDiscipline 63 = .ok (.ireturn, 1) := by decide +kernel
theorem dX4_readFlow_0 : decode cX4_readFlow 0 = .ok (.aload_n 0, 1) := by decide +kernel
theorem dX4_readFlow_1 : decode cX4_readFlow 1 = .ok (.getfield 15, 3) := by decide +kernel
theorem dX4_readFlow_4 : decode cX4_readFlow 4 = .ok (.getfield 149, 3) := by decide +kernel
theorem dX4_readFlow_7 : decode cX4_readFlow 7 = .ok (.istore_n 1, 1) := by decide +kernel
theorem dX4_readFlow_8 : decode cX4_readFlow 8 = .ok (.iload_n 1, 1) := by decide +kernel
theorem dX4_readFlow_9 : decode cX4_readFlow 9 = .ok (.iconst 4, 1) := by decide +kernel
theorem dX4_readFlow_10 : decode cX4_readFlow 10 = .ok (.if_icmp .lt 13, 3) := by decide +kernel
theorem dX4_readFlow_13 : decode cX4_readFlow 13 = .ok (.aload_n 0, 1) := by decide +kernel
theorem dX4_readFlow_14 : decode cX4_readFlow 14 = .ok (.getfield 9, 3) := by decide +kernel
theorem dX4_readFlow_17 : decode cX4_readFlow 17 = .ok (.iconst 5, 1) := by decide +kernel
theorem dX4_readFlow_18 : decode cX4_readFlow 18 = .ok (.invokevirtual 57, 3) := by decide +kernel
theorem dX4_readFlow_21 : decode cX4_readFlow 21 = .ok (.pop, 1) := by decide +kernel
theorem dX4_readFlow_22 : decode cX4_readFlow 22 = .ok (.return_, 1) := by decide +kernel
theorem dX4_readFlow_23 : decode cX4_readFlow 23 = .ok (.aload_n 0, 1) := by decide +kernel
theorem dX4_readFlow_24 : decode cX4_readFlow 24 = .ok (.getfield 9, 3) := by decide +kernel
theorem dX4_readFlow_27 : decode cX4_readFlow 27 = .ok (.invokevirtual 73, 3) := by decide +kernel
theorem dX4_readFlow_30 : decode cX4_readFlow 30 = .ok (.aload_n 0, 1) := by decide +kernel
theorem dX4_readFlow_31 : decode cX4_readFlow 31 = .ok (.aload_n 0, 1) := by decide +kernel
theorem dX4_readFlow_32 : decode cX4_readFlow 32 = .ok (.getfield 15, 3) := by decide +kernel
theorem dX4_readFlow_35 : decode cX4_readFlow 35 = .ok (.getfield 152, 3) := by decide +kernel
theorem dX4_readFlow_38 : decode cX4_readFlow 38 = .ok (.iload_n 1, 1) := by decide +kernel
theorem dX4_readFlow_39 : decode cX4_readFlow 39 = .ok (.invokevirtual 87, 3) := by decide +kernel
theorem dX4_readFlow_42 : decode cX4_readFlow 42 = .ok (.ifCond .eq 68, 3) := by decide +kernel
theorem dX4_readFlow_45 : decode cX4_readFlow 45 = .ok (.aload_n 0, 1) := by decide +kernel
theorem dX4_readFlow_46 : decode cX4_readFlow 46 = .ok (.getfield 9, 3) := by decide +kernel
theorem dX4_readFlow_49 : decode cX4_readFlow 49 = .ok (.sipush 135, 3) := by decide +kernel
theorem dX4_readFlow_52 : decode cX4_readFlow 52 = .ok (.invokevirtual 91, 3) := by decide +kernel
theorem dX4_readFlow_55 : decode cX4_readFlow 55 = .ok (.ifCond .eq 55, 3) := by decide +kernel
theorem dX4_readFlow_58 : decode cX4_readFlow 58 = .ok (.aload_n 0, 1) := by decide +kernel
theorem dX4_readFlow_59 : decode cX4_readFlow 59 = .ok (.aload_n 0, 1) := by decide +kernel
theorem dX4_readFlow_60 : decode cX4_readFlow 60 = .ok (.getfield 15, 3) := by decide +kernel
theorem dX4_readFlow_63 : decode cX4_readFlow 63 = .ok (.getfield 155, 3) := by decide +kernel
theorem dX4_readFlow_66 : decode cX4_readFlow 66 = .ok (.iload_n 1, 1) := by decide +kernel
theorem dX4_readFlow_67 : decode cX4_readFlow 67 = .ok (.invokevirtual 138, 3) := by decide +kernel
theorem dX4_readFlow_70 : decode cX4_readFlow 70 = .ok (.ifCond .eq 40, 3) := by decide +kernel
theorem dX4_readFlow_73 : decode cX4_readFlow 73 = .ok (.aload_n 0, 1) := by decide +kernel
theorem dX4_readFlow_74 : decode cX4_readFlow 74 = .ok (.getfield 9, 3) := by decide +kernel
theorem dX4_readFlow_77 : decode cX4_readFlow 77 = .ok (.sipush 136, 3) := by decide +kernel
theorem dX4_readFlow_80 : decode cX4_readFlow 80 = .ok (.invokevirtual 91, 3) := by decide +kernel
theorem dX4_readFlow_83 : decode cX4_readFlow 83 = .ok (.ifCond .eq 27, 3) := by decide +kernel
theorem dX4_readFlow_86 : decode cX4_readFlow 86 = .ok (.aload_n 0, 1) := by decide +kernel
theorem dX4_readFlow_87 : decode cX4_readFlow 87 = .ok (.iload_n 1, 1) := by decide +kernel
theorem dX4_readFlow_88 : decode cX4_readFlow 88 = .ok (.invokevirtual 158, 3) := by decide +kernel
theorem dX4_readFlow_91 : decode cX4_readFlow 91 = .ok (.ifCond .eq 19, 3) := by decide +kernel
theorem dX4_readFlow_94 : decode cX4_readFlow 94 = .ok (.aload_n 0, 1) := by decide +kernel
theorem dX4_readFlow_95 : decode cX4_readFlow 95 = .ok (.getfield 9, 3) := by decide +kernel
theorem dX4_readFlow_98 : decode cX4_readFlow 98 = .ok (.bipush 59, 2) := by decide +kernel
theorem dX4_readFlow_100 : decode cX4_readFlow 100 = .ok (.invokevirtual 91, 3) := by decide +kernel
theorem dX4_readFlow_103 : decode cX4_readFlow 103 = .ok (.ifCond .eq 7, 3) := by decide +kernel
theorem dX4_readFlow_106 : decode cX4_readFlow 106 = .ok (.iconst 1, 1) := by decide +kernel
theorem dX4_readFlow_107 : decode cX4_readFlow 107 = .ok (.goto 4, 3) := by decide +kernel
theorem dX4_readFlow_110 : decode cX4_readFlow 110 = .ok (.iconst 0, 1) := by decide +kernel
theorem dX4_readFlow_111 : decode cX4_readFlow 111 = .ok (.istore_n 2, 1) := by decide +kernel
theorem dX4_readFlow_112 : decode cX4_readFlow 112 = .ok (.iload_n 2, 1) := by decide +kernel
theorem dX4_readFlow_113 : decode cX4_readFlow 113 = .ok (.ifCond .eq 16, 3) := by decide +kernel
theorem dX4_readFlow_116 : decode cX4_readFlow 116 = .ok (.aload_n 0, 1) := by decide +kernel
theorem dX4_readFlow_117 : decode cX4_readFlow 117 = .ok (.getfield 15, 3) := by decide +kernel
theorem dX4_readFlow_120 : decode cX4_readFlow 120 = .ok (.dup, 1) := by decide +kernel
theorem dX4_readFlow_121 : decode cX4_readFlow 121 = .ok (.getfield 149, 3) := by decide +kernel
theorem dX4_readFlow_124 : decode cX4_readFlow 124 = .ok (.iconst 1, 1) := by decide +kernel
theorem dX4_readFlow_125 : decode cX4_readFlow 125 = .ok (.iadd, 1) := by decide +kernel
theorem dX4_readFlow_126 : decode cX4_readFlow 126 = .ok (.putfield 149, 3) := by decide +kernel
theorem dX4_readFlow_129 : decode cX4_readFlow 129 = .ok (.return_, 1) := by decide +kernel
theorem dX4_readHop_0 : decode cX4_readHop 0 = .ok (.aload_n 0, 1) := by decide +kernel
theorem dX4_readHop_1 : decode cX4_readHop 1 = .ok (.getfield 9, 3) := by decide +kernel
theorem dX4_readHop_4 : decode cX4_readHop 4 = .ok (.invokevirtual 61, 3) := by decide +kernel
theorem dX4_readHop_7 : decode cX4_readHop 7 = .ok (.ifCond .ne 12, 3) := by decide +kernel
theorem dX4_readHop_10 : decode cX4_readHop 10 = .ok (.aload_n 0, 1) := by decide +kernel
theorem dX4_readHop_11 : decode cX4_readHop 11 = .ok (.getfield 9, 3) := by decide +kernel
theorem dX4_readHop_14 : decode cX4_readHop 14 = .ok (.iconst 1, 1) := by decide +kernel
theorem dX4_readHop_15 : decode cX4_readHop 15 = .ok (.invokevirtual 57, 3) := by decide +kernel
theorem dX4_readHop_18 : decode cX4_readHop 18 = .ok (.ireturn, 1) := by decide +kernel
theorem dX4_readHop_19 : decode cX4_readHop 19 = .ok (.aload_n 0, 1) := by decide +kernel
theorem dX4_readHop_20 : decode cX4_readHop 20 = .ok (.getfield 15, 3) := by decide +kernel
theorem dX4_readHop_23 : decode cX4_readHop 23 = .ok (.getfield 129, 3) := by decide +kernel
theorem dX4_readHop_26 : decode cX4_readHop 26 = .ok (.aload_n 0, 1) := by decide +kernel
theorem dX4_readHop_27 : decode cX4_readHop 27 = .ok (.getfield 15, 3) := by decide +kernel
theorem dX4_readHop_30 : decode cX4_readHop 30 = .ok (.getfield 126, 3) := by decide +kernel
theorem dX4_readHop_33 : decode cX4_readHop 33 = .ok (.aload_n 0, 1) := by decide +kernel
theorem dX4_readHop_34 : decode cX4_readHop 34 = .ok (.getfield 9, 3) := by decide +kernel
theorem dX4_readHop_37 : decode cX4_readHop 37 = .ok (.getfield 65, 3) := by decide +kernel
theorem dX4_readHop_40 : decode cX4_readHop 40 = .ok (.invokestatic 145, 3) := by decide +kernel
theorem dX4_readHop_43 : decode cX4_readHop 43 = .ok (.istore_n 2, 1) := by decide +kernel
theorem dX4_readHop_44 : decode cX4_readHop 44 = .ok (.iload_n 2, 1) := by decide +kernel
theorem dX4_readHop_45 : decode cX4_readHop 45 = .ok (.iconst (-1), 1) := by decide +kernel
theorem dX4_readHop_46 : decode cX4_readHop 46 = .ok (.if_icmp .ne 12, 3) := by decide +kernel
theorem dX4_readHop_49 : decode cX4_readHop 49 = .ok (.aload_n 0, 1) := by decide +kernel
theorem dX4_readHop_50 : decode cX4_readHop 50 = .ok (.getfield 9, 3) := by decide +kernel
theorem dX4_readHop_53 : decode cX4_readHop 53 = .ok (.iconst 2, 1) := by decide +kernel
theorem dX4_readHop_54 : decode cX4_readHop 54 = .ok (.invokevirtual 57, 3) := by decide +kernel
theorem dX4_readHop_57 : decode cX4_readHop 57 = .ok (.ireturn, 1) := by decide +kernel
theorem dX4_readHop_58 : decode cX4_readHop 58 = .ok (.aload_n 0, 1) := by decide +kernel
theorem dX4_readHop_59 : decode cX4_readHop 59 = .ok (.getfield 15, 3) := by decide +kernel
theorem dX4_readHop_62 : decode cX4_readHop 62 = .ok (.iload_n 1, 1) := by decide +kernel
theorem dX4_readHop_63 : decode cX4_readHop 63 = .ok (.iload_n 2, 1) := by decide +kernel
theorem dX4_readHop_64 : decode cX4_readHop 64 = .ok (.invokevirtual 167, 3) := by decide +kernel
theorem dX4_readHop_67 : decode cX4_readHop 67 = .ok (.iconst (-1), 1) := by decide +kernel
theorem dX4_readHop_68 : decode cX4_readHop 68 = .ok (.if_icmp .ne 16, 3) := by decide +kernel
theorem dX4_readHop_71 : decode cX4_readHop 71 = .ok (.aload_n 0, 1) := by decide +kernel
theorem dX4_readHop_72 : decode cX4_readHop 72 = .ok (.getfield 15, 3) := by decide +kernel
theorem dX4_readHop_75 : decode cX4_readHop 75 = .ok (.getfield 161, 3) := by decide +kernel
theorem dX4_readHop_78 : decode cX4_readHop 78 = .ok (.iload_n 1, 1) := by decide +kernel
theorem dX4_readHop_79 : decode cX4_readHop 79 = .ok (.iaload, 1) := by decide +kernel
theorem dX4_readHop_80 : decode cX4_readHop 80 = .ok (.iconst 4, 1) := by decide +kernel
theorem dX4_readHop_81 : decode cX4_readHop 81 = .ok (.if_icmp .lt 12, 3) := by decide +kernel
theorem dX4_readHop_84 : decode cX4_readHop 84 = .ok (.aload_n 0, 1) := by decide +kernel
theorem dX4_readHop_85 : decode cX4_readHop 85 = .ok (.getfield 9, 3) := by decide +kernel
theorem dX4_readHop_88 : decode cX4_readHop 88 = .ok (.iconst 3, 1) := by decide +kernel
theorem dX4_readHop_89 : decode cX4_readHop 89 = .ok (.invokevirtual 57, 3) := by decide +kernel
theorem dX4_readHop_92 : decode cX4_readHop 92 = .ok (.ireturn, 1) := by decide +kernel
theorem dX4_readHop_93 : decode cX4_readHop 93 = .ok (.aload_n 0, 1) := by decide +kernel
theorem dX4_readHop_94 : decode cX4_readHop 94 = .ok (.getfield 15, 3) := by decide +kernel
theorem dX4_readHop_97 : decode cX4_readHop 97 = .ok (.getfield 171, 3) := by decide +kernel
theorem dX4_readHop_100 : decode cX4_readHop 100 = .ok (.iload_n 1, 1) := by decide +kernel
theorem dX4_readHop_101 : decode cX4_readHop 101 = .ok (.aaload, 1) := by decide +kernel
theorem dX4_readHop_102 : decode cX4_readHop 102 = .ok (.aload_n 0, 1) := by decide +kernel
theorem dX4_readHop_103 : decode cX4_readHop 103 = .ok (.getfield 15, 3) := by decide +kernel
theorem dX4_readHop_106 : decode cX4_readHop 106 = .ok (.getfield 161, 3) := by decide +kernel
theorem dX4_readHop_109 : decode cX4_readHop 109 = .ok (.iload_n 1, 1) := by decide +kernel
theorem dX4_readHop_110 : decode cX4_readHop 110 = .ok (.iaload, 1) := by decide +kernel
theorem dX4_readHop_111 : decode cX4_readHop 111 = .ok (.iload_n 2, 1) := by decide +kernel
theorem dX4_readHop_112 : decode cX4_readHop 112 = .ok (.iastore, 1) := by decide +kernel
theorem dX4_readHop_113 : decode cX4_readHop 113 = .ok (.aload_n 0, 1) := by decide +kernel
theorem dX4_readHop_114 : decode cX4_readHop 114 = .ok (.getfield 15, 3) := by decide +kernel
theorem dX4_readHop_117 : decode cX4_readHop 117 = .ok (.getfield 161, 3) := by decide +kernel
theorem dX4_readHop_120 : decode cX4_readHop 120 = .ok (.iload_n 1, 1) := by decide +kernel
theorem dX4_readHop_121 : decode cX4_readHop 121 = .ok (.dup2, 1) := by decide +kernel
theorem dX4_readHop_122 : decode cX4_readHop 122 = .ok (.iaload, 1) := by decide +kernel
theorem dX4_readHop_123 : decode cX4_readHop 123 = .ok (.iconst 1, 1) := by decide +kernel
theorem dX4_readHop_124 : decode cX4_readHop 124 = .ok (.iadd, 1) := by decide +kernel
theorem dX4_readHop_125 : decode cX4_readHop 125 = .ok (.iastore, 1) := by decide +kernel
theorem dX4_readHop_126 : decode cX4_readHop 126 = .ok (.aload_n 0, 1) := by decide +kernel
theorem dX4_readHop_127 : decode cX4_readHop 127 = .ok (.getfield 15, 3) := by decide +kernel
theorem dX4_readHop_130 : decode cX4_readHop 130 = .ok (.getfield 175, 3) := by decide +kernel
theorem dX4_readHop_133 : decode cX4_readHop 133 = .ok (.iload_n 2, 1) := by decide +kernel
theorem dX4_readHop_134 : decode cX4_readHop 134 = .ok (.dup2, 1) := by decide +kernel
theorem dX4_readHop_135 : decode cX4_readHop 135 = .ok (.iaload, 1) := by decide +kernel
theorem dX4_readHop_136 : decode cX4_readHop 136 = .ok (.iconst 1, 1) := by decide +kernel
theorem dX4_readHop_137 : decode cX4_readHop 137 = .ok (.iload_n 1, 1) := by decide +kernel
theorem dX4_readHop_138 : decode cX4_readHop 138 = .ok (.ishl, 1) := by decide +kernel
theorem dX4_readHop_139 : decode cX4_readHop 139 = .ok (.ior, 1) := by decide +kernel
theorem dX4_readHop_140 : decode cX4_readHop 140 = .ok (.iastore, 1) := by decide +kernel
theorem dX4_readHop_141 : decode cX4_readHop 141 = .ok (.aload_n 0, 1) := by decide +kernel
theorem dX4_readHop_142 : decode cX4_readHop 142 = .ok (.getfield 9, 3) := by decide +kernel
theorem dX4_readHop_145 : decode cX4_readHop 145 = .ok (.invokevirtual 73, 3) := by decide +kernel
theorem dX4_readHop_148 : decode cX4_readHop 148 = .ok (.iconst 1, 1) := by decide +kernel
theorem dX4_readHop_149 : decode cX4_readHop 149 = .ok (.ireturn, 1) := by decide +kernel
theorem dX4_readLoses_0 : decode cX4_readLoses 0 = .ok (.aload_n 0, 1) := by decide +kernel
theorem dX4_readLoses_1 : decode cX4_readLoses 1 = .ok (.getfield 15, 3) := by decide +kernel
theorem dX4_readLoses_4 : decode cX4_readLoses 4 = .ok (.getfield 178, 3) := by decide +kernel
theorem dX4_readLoses_7 : decode cX4_readLoses 7 = .ok (.ifCond .eq 13, 3) := by decide +kernel
theorem dX4_readLoses_10 : decode cX4_readLoses 10 = .ok (.aload_n 0, 1) := by decide +kernel
theorem dX4_readLoses_11 : decode cX4_readLoses 11 = .ok (.getfield 9, 3) := by decide +kernel
theorem dX4_readLoses_14 : decode cX4_readLoses 14 = .ok (.iconst 3, 1) := by decide +kernel
theorem dX4_readLoses_15 : decode cX4_readLoses 15 = .ok (.invokevirtual 57, 3) := by decide +kernel
theorem dX4_readLoses_18 : decode cX4_readLoses 18 = .ok (.pop, 1) := by decide +kernel
theorem dX4_readLoses_19 : decode cX4_readLoses 19 = .ok (.return_, 1) := by decide +kernel
theorem dX4_readLoses_20 : decode cX4_readLoses 20 = .ok (.aload_n 0, 1) := by decide +kernel
theorem dX4_readLoses_21 : decode cX4_readLoses 21 = .ok (.getfield 15, 3) := by decide +kernel
theorem dX4_readLoses_24 : decode cX4_readLoses 24 = .ok (.iconst 1, 1) := by decide +kernel
theorem dX4_readLoses_25 : decode cX4_readLoses 25 = .ok (.putfield 178, 3) := by decide +kernel
theorem dX4_readLoses_28 : decode cX4_readLoses 28 = .ok (.aload_n 0, 1) := by decide +kernel
theorem dX4_readLoses_29 : decode cX4_readLoses 29 = .ok (.getfield 9, 3) := by decide +kernel
theorem dX4_readLoses_32 : decode cX4_readLoses 32 = .ok (.invokevirtual 73, 3) := by decide +kernel
theorem dX4_readLoses_35 : decode cX4_readLoses 35 = .ok (.aload_n 0, 1) := by decide +kernel
theorem dX4_readLoses_36 : decode cX4_readLoses 36 = .ok (.getfield 24, 3) := by decide +kernel
theorem dX4_readLoses_39 : decode cX4_readLoses 39 = .ok (.aload_n 0, 1) := by decide +kernel
theorem dX4_readLoses_40 : decode cX4_readLoses 40 = .ok (.getfield 15, 3) := by decide +kernel
theorem dX4_readLoses_43 : decode cX4_readLoses 43 = .ok (.getfield 182, 3) := by decide +kernel
theorem dX4_readLoses_46 : decode cX4_readLoses 46 = .ok (.iconst 0, 1) := by decide +kernel
theorem dX4_readLoses_47 : decode cX4_readLoses 47 = .ok (.iconst 0, 1) := by decide +kernel
theorem dX4_readLoses_48 : decode cX4_readLoses 48 = .ok (.invokevirtual 188, 3) := by decide +kernel
theorem dX4_readLoses_51 : decode cX4_readLoses 51 = .ok (.ifCond .eq 13, 3) := by decide +kernel
theorem dX4_readLoses_54 : decode cX4_readLoses 54 = .ok (.aload_n 0, 1) := by decide +kernel
theorem dX4_readLoses_55 : decode cX4_readLoses 55 = .ok (.getfield 9, 3) := by decide +kernel
theorem dX4_readLoses_58 : decode cX4_readLoses 58 = .ok (.bipush 59, 2) := by decide +kernel
theorem dX4_readLoses_60 : decode cX4_readLoses 60 = .ok (.invokevirtual 91, 3) := by decide +kernel
theorem dX4_readLoses_63 : decode cX4_readLoses 63 = .ok (.pop, 1) := by decide +kernel
theorem dX4_readLoses_64 : decode cX4_readLoses 64 = .ok (.return_, 1) := by decide +kernel
theorem dX4_readNewName_0 : decode cX4_readNewName 0 = .ok (.aload_n 0, 1) := by decide +kernel
theorem dX4_readNewName_1 : decode cX4_readNewName 1 = .ok (.getfield 9, 3) := by decide +kernel
theorem dX4_readNewName_4 : decode cX4_readNewName 4 = .ok (.invokevirtual 61, 3) := by decide +kernel
theorem dX4_readNewName_7 : decode cX4_readNewName 7 = .ok (.ifCond .ne 12, 3) := by decide +kernel
theorem dX4_readNewName_10 : decode cX4_readNewName 10 = .ok (.aload_n 0, 1) := by decide +kernel
theorem dX4_readNewName_11 : decode cX4_readNewName 11 = .ok (.getfield 9, 3) := by decide +kernel
theorem dX4_readNewName_14 : decode cX4_readNewName 14 = .ok (.iconst 1, 1) := by decide +kernel
theorem dX4_readNewName_15 : decode cX4_readNewName 15 = .ok (.invokevirtual 57, 3) := by decide +kernel
theorem dX4_readNewName_18 : decode cX4_readNewName 18 = .ok (.ireturn, 1) := by decide +kernel
theorem dX4_readNewName_19 : decode cX4_readNewName 19 = .ok (.aload_n 0, 1) := by decide +kernel
theorem dX4_readNewName_20 : decode cX4_readNewName 20 = .ok (.getfield 15, 3) := by decide +kernel
theorem dX4_readNewName_23 : decode cX4_readNewName 23 = .ok (.aload_n 0, 1) := by decide +kernel
theorem dX4_readNewName_24 : decode cX4_readNewName 24 = .ok (.getfield 9, 3) := by decide +kernel
theorem dX4_readNewName_27 : decode cX4_readNewName 27 = .ok (.getfield 65, 3) := by decide +kernel
theorem dX4_readNewName_30 : decode cX4_readNewName 30 = .ok (.invokevirtual 69, 3) := by decide +kernel
theorem dX4_readNewName_33 : decode cX4_readNewName 33 = .ok (.ifCond .eq 12, 3) := by decide +kernel
theorem dX4_readNewName_36 : decode cX4_readNewName 36 = .ok (.aload_n 0, 1) := by decide +kernel
theorem dX4_readNewName_37 : decode cX4_readNewName 37 = .ok (.getfield 9, 3) := by decide +kernel
theorem dX4_readNewName_40 : decode cX4_readNewName 40 = .ok (.iconst 3, 1) := by decide +kernel
theorem dX4_readNewName_41 : decode cX4_readNewName 41 = .ok (.invokevirtual 57, 3) := by decide +kernel
theorem dX4_readNewName_44 : decode cX4_readNewName 44 = .ok (.ireturn, 1) := by decide +kernel
theorem dX4_readNewName_45 : decode cX4_readNewName 45 = .ok (.aload_n 1, 1) := by decide +kernel
theorem dX4_readNewName_46 : decode cX4_readNewName 46 = .ok (.iload_n 2, 1) := by decide +kernel
theorem dX4_readNewName_47 : decode cX4_readNewName 47 = .ok (.aload_n 0, 1) := by decide +kernel
theorem dX4_readNewName_48 : decode cX4_readNewName 48 = .ok (.getfield 9, 3) := by decide +kernel
theorem dX4_readNewName_51 : decode cX4_readNewName 51 = .ok (.getfield 65, 3) := by decide +kernel
theorem dX4_readNewName_54 : decode cX4_readNewName 54 = .ok (.lastore, 1) := by decide +kernel
theorem dX4_readNewName_55 : decode cX4_readNewName 55 = .ok (.aload_n 0, 1) := by decide +kernel
theorem dX4_readNewName_56 : decode cX4_readNewName 56 = .ok (.getfield 9, 3) := by decide +kernel
theorem dX4_readNewName_59 : decode cX4_readNewName 59 = .ok (.invokevirtual 73, 3) := by decide +kernel
theorem dX4_readNewName_62 : decode cX4_readNewName 62 = .ok (.iconst 1, 1) := by decide +kernel
theorem dX4_readNewName_63 : decode cX4_readNewName 63 = .ok (.ireturn, 1) := by decide +kernel
theorem dX4_readNode_0 : decode cX4_readNode 0 = .ok (.aload_n 0, 1) := by decide +kernel
theorem dX4_readNode_1 : decode cX4_readNode 1 = .ok (.getfield 15, 3) := by decide +kernel
theorem dX4_readNode_4 : decode cX4_readNode 4 = .ok (.getfield 126, 3) := by decide +kernel
theorem dX4_readNode_7 : decode cX4_readNode 7 = .ok (.istore_n 1, 1) := by decide +kernel
theorem dX4_readNode_8 : decode cX4_readNode 8 = .ok (.iload_n 1, 1) := by decide +kernel
theorem dX4_readNode_9 : decode cX4_readNode 9 = .ok (.iconst 4, 1) := by decide +kernel
theorem dX4_readNode_10 : decode cX4_readNode 10 = .ok (.if_icmp .lt 13, 3) := by decide +kernel
theorem dX4_readNode_13 : decode cX4_readNode 13 = .ok (.aload_n 0, 1) := by decide +kernel
theorem dX4_readNode_14 : decode cX4_readNode 14 = .ok (.getfield 9, 3) := by decide +kernel
theorem dX4_readNode_17 : decode cX4_readNode 17 = .ok (.iconst 5, 1) := by decide +kernel
theorem dX4_readNode_18 : decode cX4_readNode 18 = .ok (.invokevirtual 57, 3) := by decide +kernel
theorem dX4_readNode_21 : decode cX4_readNode 21 = .ok (.pop, 1) := by decide +kernel
theorem dX4_readNode_22 : decode cX4_readNode 22 = .ok (.return_, 1) := by decide +kernel
theorem dX4_readNode_23 : decode cX4_readNode 23 = .ok (.aload_n 0, 1) := by decide +kernel
theorem dX4_readNode_24 : decode cX4_readNode 24 = .ok (.getfield 9, 3) := by decide +kernel
theorem dX4_readNode_27 : decode cX4_readNode 27 = .ok (.invokevirtual 73, 3) := by decide +kernel
theorem dX4_readNode_30 : decode cX4_readNode 30 = .ok (.aload_n 0, 1) := by decide +kernel
theorem dX4_readNode_31 : decode cX4_readNode 31 = .ok (.aload_n 0, 1) := by decide +kernel
theorem dX4_readNode_32 : decode cX4_readNode 32 = .ok (.getfield 15, 3) := by decide +kernel
theorem dX4_readNode_35 : decode cX4_readNode 35 = .ok (.getfield 129, 3) := by decide +kernel
theorem dX4_readNode_38 : decode cX4_readNode 38 = .ok (.iload_n 1, 1) := by decide +kernel
theorem dX4_readNode_39 : decode cX4_readNode 39 = .ok (.invokevirtual 87, 3) := by decide +kernel
theorem dX4_readNode_42 : decode cX4_readNode 42 = .ok (.ifCond .eq 55, 3) := by decide +kernel
theorem dX4_readNode_45 : decode cX4_readNode 45 = .ok (.aload_n 0, 1) := by decide +kernel
theorem dX4_readNode_46 : decode cX4_readNode 46 = .ok (.iload_n 1, 1) := by decide +kernel
theorem dX4_readNode_47 : decode cX4_readNode 47 = .ok (.invokevirtual 132, 3) := by decide +kernel
theorem dX4_readNode_50 : decode cX4_readNode 50 = .ok (.ifCond .eq 47, 3) := by decide +kernel
theorem dX4_readNode_53 : decode cX4_readNode 53 = .ok (.aload_n 0, 1) := by decide +kernel
theorem dX4_readNode_54 : decode cX4_readNode 54 = .ok (.getfield 9, 3) := by decide +kernel
theorem dX4_readNode_57 : decode cX4_readNode 57 = .ok (.sipush 133, 3) := by decide +kernel
theorem dX4_readNode_60 : decode cX4_readNode 60 = .ok (.invokevirtual 91, 3) := by decide +kernel
theorem dX4_readNode_63 : decode cX4_readNode 63 = .ok (.ifCond .eq 34, 3) := by decide +kernel
theorem dX4_readNode_66 : decode cX4_readNode 66 = .ok (.aload_n 0, 1) := by decide +kernel
theorem dX4_readNode_67 : decode cX4_readNode 67 = .ok (.aload_n 0, 1) := by decide +kernel
theorem dX4_readNode_68 : decode cX4_readNode 68 = .ok (.getfield 15, 3) := by decide +kernel
theorem dX4_readNode_71 : decode cX4_readNode 71 = .ok (.getfield 135, 3) := by decide +kernel
theorem dX4_readNode_74 : decode cX4_readNode 74 = .ok (.iload_n 1, 1) := by decide +kernel
theorem dX4_readNode_75 : decode cX4_readNode 75 = .ok (.invokevirtual 138, 3) := by decide +kernel
theorem dX4_readNode_78 : decode cX4_readNode 78 = .ok (.ifCond .eq 19, 3) := by decide +kernel
theorem dX4_readNode_81 : decode cX4_readNode 81 = .ok (.aload_n 0, 1) := by decide +kernel
theorem dX4_readNode_82 : decode cX4_readNode 82 = .ok (.getfield 9, 3) := by decide +kernel
theorem dX4_readNode_85 : decode cX4_readNode 85 = .ok (.bipush 59, 2) := by decide +kernel
theorem dX4_readNode_87 : decode cX4_readNode 87 = .ok (.invokevirtual 91, 3) := by decide +kernel
theorem dX4_readNode_90 : decode cX4_readNode 90 = .ok (.ifCond .eq 7, 3) := by decide +kernel
theorem dX4_readNode_93 : decode cX4_readNode 93 = .ok (.iconst 1, 1) := by decide +kernel
theorem dX4_readNode_94 : decode cX4_readNode 94 = .ok (.goto 4, 3) := by decide +kernel
theorem dX4_readNode_97 : decode cX4_readNode 97 = .ok (.iconst 0, 1) := by decide +kernel
theorem dX4_readNode_98 : decode cX4_readNode 98 = .ok (.istore_n 2, 1) := by decide +kernel
theorem dX4_readNode_99 : decode cX4_readNode 99 = .ok (.iload_n 2, 1) := by decide +kernel
theorem dX4_readNode_100 : decode cX4_readNode 100 = .ok (.ifCond .eq 16, 3) := by decide +kernel
theorem dX4_readNode_103 : decode cX4_readNode 103 = .ok (.aload_n 0, 1) := by decide +kernel
theorem dX4_readNode_104 : decode cX4_readNode 104 = .ok (.getfield 15, 3) := by decide +kernel
theorem dX4_readNode_107 : decode cX4_readNode 107 = .ok (.dup, 1) := by decide +kernel
theorem dX4_readNode_108 : decode cX4_readNode 108 = .ok (.getfield 126, 3) := by decide +kernel
theorem dX4_readNode_111 : decode cX4_readNode 111 = .ok (.iconst 1, 1) := by decide +kernel
theorem dX4_readNode_112 : decode cX4_readNode 112 = .ok (.iadd, 1) := by decide +kernel
theorem dX4_readNode_113 : decode cX4_readNode 113 = .ok (.putfield 126, 3) := by decide +kernel
theorem dX4_readNode_116 : decode cX4_readNode 116 = .ok (.return_, 1) := by decide +kernel
theorem dX4_readValues_0 : decode cX4_readValues 0 = .ok (.iconst 0, 1) := by decide +kernel
theorem dX4_readValues_1 : decode cX4_readValues 1 = .ok (.istore_n 2, 1) := by decide +kernel
theorem dX4_readValues_2 : decode cX4_readValues 2 = .ok (.iconst 0, 1) := by decide +kernel
theorem dX4_readValues_3 : decode cX4_readValues 3 = .ok (.istore_n 3, 1) := by decide +kernel
theorem dX4_readValues_4 : decode cX4_readValues 4 = .ok (.iload_n 3, 1) := by decide +kernel
theorem dX4_readValues_5 : decode cX4_readValues 5 = .ok (.bipush 8, 2) := by decide +kernel
theorem dX4_readValues_7 : decode cX4_readValues 7 = .ok (.if_icmp .gt 83, 3) := by decide +kernel
theorem dX4_readValues_10 : decode cX4_readValues 10 = .ok (.iload_n 3, 1) := by decide +kernel
theorem dX4_readValues_11 : decode cX4_readValues 11 = .ok (.ifCond .eq 14, 3) := by decide +kernel
theorem dX4_readValues_14 : decode cX4_readValues 14 = .ok (.aload_n 0, 1) := by decide +kernel
theorem dX4_readValues_15 : decode cX4_readValues 15 = .ok (.getfield 9, 3) := by decide +kernel
theorem dX4_readValues_18 : decode cX4_readValues 18 = .ok (.getfield 42, 3) := by decide +kernel
theorem dX4_readValues_21 : decode cX4_readValues 21 = .ok (.iconst 2, 1) := by decide +kernel
theorem dX4_readValues_22 : decode cX4_readValues 22 = .ok (.if_icmp .ne 68, 3) := by decide +kernel
theorem dX4_readValues_25 : decode cX4_readValues 25 = .ok (.aload_n 0, 1) := by decide +kernel
theorem dX4_readValues_26 : decode cX4_readValues 26 = .ok (.getfield 9, 3) := by decide +kernel
theorem dX4_readValues_29 : decode cX4_readValues 29 = .ok (.iload_n 2, 1) := by decide +kernel
theorem dX4_readValues_30 : decode cX4_readValues 30 = .ok (.bipush 99, 2) := by decide +kernel
theorem dX4_readValues_32 : decode cX4_readValues 32 = .ok (.invokevirtual 104, 3) := by decide +kernel
theorem dX4_readValues_35 : decode cX4_readValues 35 = .ok (.ifCond .ne 5, 3) := by decide +kernel
theorem dX4_readValues_38 : decode cX4_readValues 38 = .ok (.iconst 0, 1) := by decide +kernel
theorem dX4_readValues_39 : decode cX4_readValues 39 = .ok (.ireturn, 1) := by decide +kernel
theorem dX4_readValues_40 : decode cX4_readValues 40 = .ok (.iload_n 3, 1) := by decide +kernel
theorem dX4_readValues_41 : decode cX4_readValues 41 = .ok (.bipush 8, 2) := by decide +kernel
theorem dX4_readValues_43 : decode cX4_readValues 43 = .ok (.if_icmp .lt 12, 3) := by decide +kernel
theorem dX4_readValues_46 : decode cX4_readValues 46 = .ok (.aload_n 0, 1) := by decide +kernel
theorem dX4_readValues_47 : decode cX4_readValues 47 = .ok (.getfield 9, 3) := by decide +kernel
theorem dX4_readValues_50 : decode cX4_readValues 50 = .ok (.iconst 5, 1) := by decide +kernel
theorem dX4_readValues_51 : decode cX4_readValues 51 = .ok (.invokevirtual 57, 3) := by decide +kernel
theorem dX4_readValues_54 : decode cX4_readValues 54 = .ok (.ireturn, 1) := by decide +kernel
theorem dX4_readValues_55 : decode cX4_readValues 55 = .ok (.aload_n 0, 1) := by decide +kernel
theorem dX4_readValues_56 : decode cX4_readValues 56 = .ok (.getfield 9, 3) := by decide +kernel
theorem dX4_readValues_59 : decode cX4_readValues 59 = .ok (.getfield 108, 3) := by decide +kernel
theorem dX4_readValues_62 : decode cX4_readValues 62 = .ok (.istore_n 2, 1) := by decide +kernel
theorem dX4_readValues_63 : decode cX4_readValues 63 = .ok (.aload_n 1, 1) := by decide +kernel
theorem dX4_readValues_64 : decode cX4_readValues 64 = .ok (.getfield 111, 3) := by decide +kernel
theorem dX4_readValues_67 : decode cX4_readValues 67 = .ok (.iload_n 3, 1) := by decide +kernel
theorem dX4_readValues_68 : decode cX4_readValues 68 = .ok (.iload_n 2, 1) := by decide +kernel
theorem dX4_readValues_69 : decode cX4_readValues 69 = .ok (.iastore, 1) := by decide +kernel
theorem dX4_readValues_70 : decode cX4_readValues 70 = .ok (.aload_n 1, 1) := by decide +kernel
theorem dX4_readValues_71 : decode cX4_readValues 71 = .ok (.iload_n 3, 1) := by decide +kernel
theorem dX4_readValues_72 : decode cX4_readValues 72 = .ok (.iconst 1, 1) := by decide +kernel
theorem dX4_readValues_73 : decode cX4_readValues 73 = .ok (.iadd, 1) := by decide +kernel
theorem dX4_readValues_74 : decode cX4_readValues 74 = .ok (.putfield 117, 3) := by decide +kernel
theorem dX4_readValues_77 : decode cX4_readValues 77 = .ok (.aload_n 0, 1) := by decide +kernel
theorem dX4_readValues_78 : decode cX4_readValues 78 = .ok (.getfield 9, 3) := by decide +kernel
theorem dX4_readValues_81 : decode cX4_readValues 81 = .ok (.invokevirtual 73, 3) := by decide +kernel
theorem dX4_readValues_84 : decode cX4_readValues 84 = .ok (.iinc 3 1, 3) := by decide +kernel
theorem dX4_readValues_87 : decode cX4_readValues 87 = .ok (.goto (-83), 3) := by decide +kernel
theorem dX4_readValues_90 : decode cX4_readValues 90 = .ok (.iconst 1, 1) := by decide +kernel
theorem dX4_readValues_91 : decode cX4_readValues 91 = .ok (.ireturn, 1) := by decide +kernel
theorem dX4_readWay_0 : decode cX4_readWay 0 = .ok (.aload_n 0, 1) := by decide +kernel
theorem dX4_readWay_1 : decode cX4_readWay 1 = .ok (.getfield 15, 3) := by decide +kernel
theorem dX4_readWay_4 : decode cX4_readWay 4 = .ok (.getfield 161, 3) := by decide +kernel
theorem dX4_readWay_7 : decode cX4_readWay 7 = .ok (.iload_n 1, 1) := by decide +kernel
theorem dX4_readWay_8 : decode cX4_readWay 8 = .ok (.iconst 0, 1) := by decide +kernel
theorem dX4_readWay_9 : decode cX4_readWay 9 = .ok (.iastore, 1) := by decide +kernel
theorem dX4_readWay_10 : decode cX4_readWay 10 = .ok (.iconst 0, 1) := by decide +kernel
theorem dX4_readWay_11 : decode cX4_readWay 11 = .ok (.istore_n 2, 1) := by decide +kernel
theorem dX4_readWay_12 : decode cX4_readWay 12 = .ok (.iload_n 2, 1) := by decide +kernel
theorem dX4_readWay_13 : decode cX4_readWay 13 = .ok (.iconst 4, 1) := by decide +kernel
theorem dX4_readWay_14 : decode cX4_readWay 14 = .ok (.if_icmp .gt 33, 3) := by decide +kernel
theorem dX4_readWay_17 : decode cX4_readWay 17 = .ok (.iload_n 2, 1) := by decide +kernel
theorem dX4_readWay_18 : decode cX4_readWay 18 = .ok (.ifCond .eq 13, 3) := by decide +kernel
theorem dX4_readWay_21 : decode cX4_readWay 21 = .ok (.aload_n 0, 1) := by decide +kernel
theorem dX4_readWay_22 : decode cX4_readWay 22 = .ok (.getfield 9, 3) := by decide +kernel
theorem dX4_readWay_25 : decode cX4_readWay 25 = .ok (.invokevirtual 61, 3) := by decide +kernel
theorem dX4_readWay_28 : decode cX4_readWay 28 = .ok (.ifCond .eq 19, 3) := by decide +kernel
theorem dX4_readWay_31 : decode cX4_readWay 31 = .ok (.aload_n 0, 1) := by decide +kernel
theorem dX4_readWay_32 : decode cX4_readWay 32 = .ok (.iload_n 1, 1) := by decide +kernel
theorem dX4_readWay_33 : decode cX4_readWay 33 = .ok (.invokevirtual 164, 3) := by decide +kernel
theorem dX4_readWay_36 : decode cX4_readWay 36 = .ok (.ifCond .ne 5, 3) := by decide +kernel
theorem dX4_readWay_39 : decode cX4_readWay 39 = .ok (.iconst 0, 1) := by decide +kernel
theorem dX4_readWay_40 : decode cX4_readWay 40 = .ok (.ireturn, 1) := by decide +kernel
theorem dX4_readWay_41 : decode cX4_readWay 41 = .ok (.iinc 2 1, 3) := by decide +kernel
theorem dX4_readWay_44 : decode cX4_readWay 44 = .ok (.goto (-32), 3) := by decide +kernel
theorem dX4_readWay_47 : decode cX4_readWay 47 = .ok (.iconst 1, 1) := by decide +kernel
theorem dX4_readWay_48 : decode cX4_readWay 48 = .ok (.ireturn, 1) := by decide +kernel
theorem dX5_init_0 : decode cX5_init 0 = .ok (.aload_n 0, 1) := by decide +kernel
theorem dX5_init_1 : decode cX5_init 1 = .ok (.invokespecial 3, 3) := by decide +kernel
theorem dX5_init_4 : decode cX5_init 4 = .ok (.aload_n 0, 1) := by decide +kernel
theorem dX5_init_5 : decode cX5_init 5 = .ok (.bipush 40, 2) := by decide +kernel
theorem dX5_init_7 : decode cX5_init 7 = .ok (.newarray .int, 2) := by decide +kernel
theorem dX5_init_9 : decode cX5_init 9 = .ok (.putfield 9, 3) := by decide +kernel
theorem dX5_init_12 : decode cX5_init 12 = .ok (.aload_n 0, 1) := by decide +kernel
theorem dX5_init_13 : decode cX5_init 13 = .ok (.bipush 40, 2) := by decide +kernel
theorem dX5_init_15 : decode cX5_init 15 = .ok (.newarray .int, 2) := by decide +kernel
theorem dX5_init_17 : decode cX5_init 17 = .ok (.putfield 15, 3) := by decide +kernel
theorem dX5_init_20 : decode cX5_init 20 = .ok (.return_, 1) := by decide +kernel
theorem dX5_read_0 : decode cX5_read 0 = .ok (.aload_n 0, 1) := by decide +kernel
theorem dX5_read_1 : decode cX5_read 1 = .ok (.iconst 0, 1) := by decide +kernel
theorem dX5_read_2 : decode cX5_read 2 = .ok (.putfield 18, 3) := by decide +kernel
theorem dX5_read_5 : decode cX5_read 5 = .ok (.aload_n 1, 1) := by decide +kernel
theorem dX5_read_6 : decode cX5_read 6 = .ok (.invokevirtual 22, 3) := by decide +kernel
theorem dX5_read_9 : decode cX5_read 9 = .ok (.iconst 0, 1) := by decide +kernel
theorem dX5_read_10 : decode cX5_read 10 = .ok (.istore_n 3, 1) := by decide +kernel
theorem dX5_read_11 : decode cX5_read 11 = .ok (.iload_n 3, 1) := by decide +kernel
theorem dX5_read_12 : decode cX5_read 12 = .ok (.bipush 40, 2) := by decide +kernel
theorem dX5_read_14 : decode cX5_read 14 = .ok (.if_icmp .gt 30, 3) := by decide +kernel
theorem dX5_read_17 : decode cX5_read 17 = .ok (.aload_n 1, 1) := by decide +kernel
theorem dX5_read_18 : decode cX5_read 18 = .ok (.getfield 27, 3) := by decide +kernel
theorem dX5_read_21 : decode cX5_read 21 = .ok (.ifCond .eq 23, 3) := by decide +kernel
theorem dX5_read_24 : decode cX5_read 24 = .ok (.aload_n 0, 1) := by decide +kernel
theorem dX5_read_25 : decode cX5_read 25 = .ok (.aload_n 1, 1) := by decide +kernel
theorem dX5_read_26 : decode cX5_read 26 = .ok (.aload_n 2, 1) := by decide +kernel
theorem dX5_read_27 : decode cX5_read 27 = .ok (.invokevirtual 30, 3) := by decide +kernel
theorem dX5_read_30 : decode cX5_read 30 = .ok (.ifCond .ne 8, 3) := by decide +kernel
theorem dX5_read_33 : decode cX5_read 33 = .ok (.aload_n 1, 1) := by decide +kernel
theorem dX5_read_34 : decode cX5_read 34 = .ok (.getfield 34, 3) := by decide +kernel
theorem dX5_read_37 : decode cX5_read 37 = .ok (.ireturn, 1) := by decide +kernel
theorem dX5_read_38 : decode cX5_read 38 = .ok (.iinc 3 1, 3) := by decide +kernel
theorem dX5_read_41 : decode cX5_read 41 = .ok (.goto (-30), 3) := by decide +kernel
theorem dX5_read_44 : decode cX5_read 44 = .ok (.iconst 0, 1) := by decide +kernel
theorem dX5_read_45 : decode cX5_read 45 = .ok (.ireturn, 1) := by decide +kernel
theorem dX5_readLine_0 : decode cX5_readLine 0 = .ok (.aload_n 1, 1) := by decide +kernel
theorem dX5_readLine_1 : decode cX5_readLine 1 = .ok (.getfield 27, 3) := by decide +kernel
theorem dX5_readLine_4 : decode cX5_readLine 4 = .ok (.istore_n 3, 1) := by decide +kernel
theorem dX5_readLine_5 : decode cX5_readLine 5 = .ok (.iload_n 3, 1) := by decide +kernel
theorem dX5_readLine_6 : decode cX5_readLine 6 = .ok (.sipush 138, 3) := by decide +kernel
theorem dX5_readLine_9 : decode cX5_readLine 9 = .ok (.if_icmp .eq 16, 3) := by decide +kernel
theorem dX5_readLine_12 : decode cX5_readLine 12 = .ok (.iload_n 3, 1) := by decide +kernel
theorem dX5_readLine_13 : decode cX5_readLine 13 = .ok (.sipush 139, 3) := by decide +kernel
theorem dX5_readLine_16 : decode cX5_readLine 16 = .ok (.if_icmp .eq 9, 3) := by decide +kernel
theorem dX5_readLine_19 : decode cX5_readLine 19 = .ok (.aload_n 1, 1) := by decide +kernel
theorem dX5_readLine_20 : decode cX5_readLine 20 = .ok (.iconst 1, 1) := by decide +kernel
theorem dX5_readLine_21 : decode cX5_readLine 21 = .ok (.invokevirtual 37, 3) := by decide +kernel
theorem dX5_readLine_24 : decode cX5_readLine 24 = .ok (.ireturn, 1) := by decide +kernel
theorem dX5_readLine_25 : decode cX5_readLine 25 = .ok (.aload_n 0, 1) := by decide +kernel
theorem dX5_readLine_26 : decode cX5_readLine 26 = .ok (.getfield 18, 3) := by decide +kernel
theorem dX5_readLine_29 : decode cX5_readLine 29 = .ok (.bipush 40, 2) := by decide +kernel
theorem dX5_readLine_31 : decode cX5_readLine 31 = .ok (.if_icmp .lt 9, 3) := by decide +kernel
theorem dX5_readLine_34 : decode cX5_readLine 34 = .ok (.aload_n 1, 1) := by decide +kernel
theorem dX5_readLine_35 : decode cX5_readLine 35 = .ok (.iconst 5, 1) := by decide +kernel
theorem dX5_readLine_36 : decode cX5_readLine 36 = .ok (.invokevirtual 37, 3) := by decide +kernel
theorem dX5_readLine_39 : decode cX5_readLine 39 = .ok (.ireturn, 1) := by decide +kernel
theorem dX5_readLine_40 : decode cX5_readLine 40 = .ok (.aload_n 1, 1) := by decide +kernel
theorem dX5_readLine_41 : decode cX5_readLine 41 = .ok (.invokevirtual 41, 3) := by decide +kernel
theorem dX5_readLine_44 : decode cX5_readLine 44 = .ok (.aload_n 0, 1) := by decide +kernel
theorem dX5_readLine_45 : decode cX5_readLine 45 = .ok (.getfield 9, 3) := by decide +kernel
theorem dX5_readLine_48 : decode cX5_readLine 48 = .ok (.aload_n 0, 1) := by decide +kernel
theorem dX5_readLine_49 : decode cX5_readLine 49 = .ok (.getfield 18, 3) := by decide +kernel
theorem dX5_readLine_52 : decode cX5_readLine 52 = .ok (.iconst (-1), 1) := by decide +kernel
theorem dX5_readLine_53 : decode cX5_readLine 53 = .ok (.iastore, 1) := by decide +kernel
theorem dX5_readLine_54 : decode cX5_readLine 54 = .ok (.iload_n 3, 1) := by decide +kernel
theorem dX5_readLine_55 : decode cX5_readLine 55 = .ok (.sipush 139, 3) := by decide +kernel
theorem dX5_readLine_58 : decode cX5_readLine 58 = .ok (.if_icmp .ne 14, 3) := by decide +kernel
theorem dX5_readLine_61 : decode cX5_readLine 61 = .ok (.aload_n 0, 1) := by decide +kernel
theorem dX5_readLine_62 : decode cX5_readLine 62 = .ok (.aload_n 1, 1) := by decide +kernel
theorem dX5_readLine_63 : decode cX5_readLine 63 = .ok (.aload_n 2, 1) := by decide +kernel
theorem dX5_readLine_64 : decode cX5_readLine 64 = .ok (.invokevirtual 44, 3) := by decide +kernel
theorem dX5_readLine_67 : decode cX5_readLine 67 = .ok (.ifCond .ne 5, 3) := by decide +kernel
theorem dX5_readLine_70 : decode cX5_readLine 70 = .ok (.iconst 0, 1) := by decide +kernel
theorem dX5_readLine_71 : decode cX5_readLine 71 = .ok (.ireturn, 1) := by decide +kernel
theorem dX5_readLine_72 : decode cX5_readLine 72 = .ok (.aload_n 1, 1) := by decide +kernel
theorem dX5_readLine_73 : decode cX5_readLine 73 = .ok (.bipush 59, 2) := by decide +kernel
theorem dX5_readLine_75 : decode cX5_readLine 75 = .ok (.invokevirtual 47, 3) := by decide +kernel
theorem dX5_readLine_78 : decode cX5_readLine 78 = .ok (.ifCond .ne 5, 3) := by decide +kernel
theorem dX5_readLine_81 : decode cX5_readLine 81 = .ok (.iconst 0, 1) := by decide +kernel
theorem dX5_readLine_82 : decode cX5_readLine 82 = .ok (.ireturn, 1) := by decide +kernel
theorem dX5_readLine_83 : decode cX5_readLine 83 = .ok (.aload_n 0, 1) := by decide +kernel
theorem dX5_readLine_84 : decode cX5_readLine 84 = .ok (.dup, 1) := by decide +kernel
theorem dX5_readLine_85 : decode cX5_readLine 85 = .ok (.getfield 18, 3) := by decide +kernel
theorem dX5_readLine_88 : decode cX5_readLine 88 = .ok (.iconst 1, 1) := by decide +kernel
theorem dX5_readLine_89 : decode cX5_readLine 89 = .ok (.iadd, 1) := by decide +kernel
theorem dX5_readLine_90 : decode cX5_readLine 90 = .ok (.putfield 18, 3) := by decide +kernel
theorem dX5_readLine_93 : decode cX5_readLine 93 = .ok (.iconst 1, 1) := by decide +kernel
theorem dX5_readLine_94 : decode cX5_readLine 94 = .ok (.ireturn, 1) := by decide +kernel
theorem dX5_readPut_0 : decode cX5_readPut 0 = .ok (.aload_n 1, 1) := by decide +kernel
theorem dX5_readPut_1 : decode cX5_readPut 1 = .ok (.invokevirtual 50, 3) := by decide +kernel
theorem dX5_readPut_4 : decode cX5_readPut 4 = .ok (.ifCond .ne 9, 3) := by decide +kernel
theorem dX5_readPut_7 : decode cX5_readPut 7 = .ok (.aload_n 1, 1) := by decide +kernel
theorem dX5_readPut_8 : decode cX5_readPut 8 = .ok (.iconst 1, 1) := by decide +kernel
theorem dX5_readPut_9 : decode cX5_readPut 9 = .ok (.invokevirtual 37, 3) := by decide +kernel
theorem dX5_readPut_12 : decode cX5_readPut 12 = .ok (.ireturn, 1) := by decide +kernel
theorem dX5_readPut_13 : decode cX5_readPut 13 = .ok (.aload_n 0, 1) := by decide +kernel
theorem dX5_readPut_14 : decode cX5_readPut 14 = .ok (.getfield 9, 3) := by decide +kernel
theorem dX5_readPut_17 : decode cX5_readPut 17 = .ok (.aload_n 0, 1) := by decide +kernel
theorem dX5_readPut_18 : decode cX5_readPut 18 = .ok (.getfield 18, 3) := by decide +kernel
theorem dX5_readPut_21 : decode cX5_readPut 21 = .ok (.aload_n 2, 1) := by decide +kernel
theorem dX5_readPut_22 : decode cX5_readPut 22 = .ok (.getfield 54, 3) := by decide +kernel
theorem dX5_readPut_25 : decode cX5_readPut 25 = .ok (.aload_n 2, 1) := by decide +kernel
theorem dX5_readPut_26 : decode cX5_readPut 26 = .ok (.getfield 60, 3) := by decide +kernel
theorem dX5_readPut_29 : decode cX5_readPut 29 = .ok (.aload_n 1, 1) := by decide +kernel
theorem dX5_readPut_30 : decode cX5_readPut 30 = .ok (.getfield 63, 3) := by decide +kernel
theorem dX5_readPut_33 : decode cX5_readPut 33 = .ok (.invokestatic 67, 3) := by decide +kernel
theorem dX5_readPut_36 : decode cX5_readPut 36 = .ok (.iastore, 1) := by decide +kernel
theorem dX5_readPut_37 : decode cX5_readPut 37 = .ok (.aload_n 0, 1) := by decide +kernel
theorem dX5_readPut_38 : decode cX5_readPut 38 = .ok (.getfield 9, 3) := by decide +kernel
theorem dX5_readPut_41 : decode cX5_readPut 41 = .ok (.aload_n 0, 1) := by decide +kernel
theorem dX5_readPut_42 : decode cX5_readPut 42 = .ok (.getfield 18, 3) := by decide +kernel
theorem dX5_readPut_45 : decode cX5_readPut 45 = .ok (.iaload, 1) := by decide +kernel
theorem dX5_readPut_46 : decode cX5_readPut 46 = .ok (.iconst (-1), 1) := by decide +kernel
theorem dX5_readPut_47 : decode cX5_readPut 47 = .ok (.if_icmp .ne 9, 3) := by decide +kernel
theorem dX5_readPut_50 : decode cX5_readPut 50 = .ok (.aload_n 1, 1) := by decide +kernel
theorem dX5_readPut_51 : decode cX5_readPut 51 = .ok (.iconst 2, 1) := by decide +kernel
theorem dX5_readPut_52 : decode cX5_readPut 52 = .ok (.invokevirtual 37, 3) := by decide +kernel
theorem dX5_readPut_55 : decode cX5_readPut 55 = .ok (.ireturn, 1) := by decide +kernel
theorem dX5_readPut_56 : decode cX5_readPut 56 = .ok (.aload_n 1, 1) := by decide +kernel
theorem dX5_readPut_57 : decode cX5_readPut 57 = .ok (.invokevirtual 41, 3) := by decide +kernel
theorem dX5_readPut_60 : decode cX5_readPut 60 = .ok (.aload_n 1, 1) := by decide +kernel
theorem dX5_readPut_61 : decode cX5_readPut 61 = .ok (.iconst 1, 1) := by decide +kernel
theorem dX5_readPut_62 : decode cX5_readPut 62 = .ok (.bipush 9, 2) := by decide +kernel
theorem dX5_readPut_64 : decode cX5_readPut 64 = .ok (.invokevirtual 71, 3) := by decide +kernel
theorem dX5_readPut_67 : decode cX5_readPut 67 = .ok (.ifCond .ne 5, 3) := by decide +kernel
theorem dX5_readPut_70 : decode cX5_readPut 70 = .ok (.iconst 0, 1) := by decide +kernel
theorem dX5_readPut_71 : decode cX5_readPut 71 = .ok (.ireturn, 1) := by decide +kernel
theorem dX5_readPut_72 : decode cX5_readPut 72 = .ok (.aload_n 0, 1) := by decide +kernel
theorem dX5_readPut_73 : decode cX5_readPut 73 = .ok (.getfield 15, 3) := by decide +kernel
theorem dX5_readPut_76 : decode cX5_readPut 76 = .ok (.aload_n 0, 1) := by decide +kernel
theorem dX5_readPut_77 : decode cX5_readPut 77 = .ok (.getfield 18, 3) := by decide +kernel
theorem dX5_readPut_80 : decode cX5_readPut 80 = .ok (.aload_n 1, 1) := by decide +kernel
theorem dX5_readPut_81 : decode cX5_readPut 81 = .ok (.getfield 75, 3) := by decide +kernel
theorem dX5_readPut_84 : decode cX5_readPut 84 = .ok (.iastore, 1) := by decide +kernel
theorem dX5_readPut_85 : decode cX5_readPut 85 = .ok (.aload_n 1, 1) := by decide +kernel
theorem dX5_readPut_86 : decode cX5_readPut 86 = .ok (.invokevirtual 41, 3) := by decide +kernel
theorem dX5_readPut_89 : decode cX5_readPut 89 = .ok (.iconst 1, 1) := by decide +kernel
theorem dX5_readPut_90 : decode cX5_readPut 90 = .ok (.ireturn, 1) := by decide +kernel
theorem dX6_arrivingAt_0 : decode cX6_arrivingAt 0 = .ok (.aload_n 0, 1) := by decide +kernel
theorem dX6_arrivingAt_1 : decode cX6_arrivingAt 1 = .ok (.getfield 19, 3) := by decide +kernel
theorem dX6_arrivingAt_4 : decode cX6_arrivingAt 4 = .ok (.iload_n 2, 1) := by decide +kernel
theorem dX6_arrivingAt_5 : decode cX6_arrivingAt 5 = .ok (.iconst 4, 1) := by decide +kernel
theorem dX6_arrivingAt_6 : decode cX6_arrivingAt 6 = .ok (.imul, 1) := by decide +kernel
theorem dX6_arrivingAt_7 : decode cX6_arrivingAt 7 = .ok (.iload_n 1, 1) := by decide +kernel
theorem dX6_arrivingAt_8 : decode cX6_arrivingAt 8 = .ok (.iadd, 1) := by decide +kernel
theorem dX6_arrivingAt_9 : decode cX6_arrivingAt 9 = .ok (.aaload, 1) := by decide +kernel
theorem dX6_arrivingAt_10 : decode cX6_arrivingAt 10 = .ok (.iload_n 3, 1) := by decide +kernel
theorem dX6_arrivingAt_11 : decode cX6_arrivingAt 11 = .ok (.iaload, 1) := by decide +kernel
theorem dX6_arrivingAt_12 : decode cX6_arrivingAt 12 = .ok (.ireturn, 1) := by decide +kernel
theorem dX6_clear_0 : decode cX6_clear 0 = .ok (.iconst 0, 1) := by decide +kernel
theorem dX6_clear_1 : decode cX6_clear 1 = .ok (.istore_n 1, 1) := by decide +kernel
theorem dX6_clear_2 : decode cX6_clear 2 = .ok (.iload_n 1, 1) := by decide +kernel
theorem dX6_clear_3 : decode cX6_clear 3 = .ok (.iconst 4, 1) := by decide +kernel
theorem dX6_clear_4 : decode cX6_clear 4 = .ok (.if_icmp .ge 31, 3) := by decide +kernel
theorem dX6_clear_7 : decode cX6_clear 7 = .ok (.iconst 0, 1) := by decide +kernel
theorem dX6_clear_8 : decode cX6_clear 8 = .ok (.istore_n 2, 1) := by decide +kernel
theorem dX6_clear_9 : decode cX6_clear 9 = .ok (.iload_n 2, 1) := by decide +kernel
theorem dX6_clear_10 : decode cX6_clear 10 = .ok (.iconst 4, 1) := by decide +kernel
theorem dX6_clear_11 : decode cX6_clear 11 = .ok (.if_icmp .ge 18, 3) := by decide +kernel
theorem dX6_clear_14 : decode cX6_clear 14 = .ok (.aload_n 0, 1) := by decide +kernel
theorem dX6_clear_15 : decode cX6_clear 15 = .ok (.getfield 11, 3) := by decide +kernel
theorem dX6_clear_18 : decode cX6_clear 18 = .ok (.iload_n 1, 1) := by decide +kernel
theorem dX6_clear_19 : decode cX6_clear 19 = .ok (.aaload, 1) := by decide +kernel
theorem dX6_clear_20 : decode cX6_clear 20 = .ok (.iload_n 2, 1) := by decide +kernel
theorem dX6_clear_21 : decode cX6_clear 21 = .ok (.iconst 0, 1) := by decide +kernel
theorem dX6_clear_22 : decode cX6_clear 22 = .ok (.iastore, 1) := by decide +kernel
theorem dX6_clear_23 : decode cX6_clear 23 = .ok (.iinc 2 1, 3) := by decide +kernel
theorem dX6_clear_26 : decode cX6_clear 26 = .ok (.goto (-17), 3) := by decide +kernel
theorem dX6_clear_29 : decode cX6_clear 29 = .ok (.iinc 1 1, 3) := by decide +kernel
theorem dX6_clear_32 : decode cX6_clear 32 = .ok (.goto (-30), 3) := by decide +kernel
theorem dX6_clear_35 : decode cX6_clear 35 = .ok (.iconst 0, 1) := by decide +kernel
theorem dX6_clear_36 : decode cX6_clear 36 = .ok (.istore_n 1, 1) := by decide +kernel
theorem dX6_clear_37 : decode cX6_clear 37 = .ok (.iload_n 1, 1) := by decide +kernel
theorem dX6_clear_38 : decode cX6_clear 38 = .ok (.aload_n 0, 1) := by decide +kernel
theorem dX6_clear_39 : decode cX6_clear 39 = .ok (.getfield 19, 3) := by decide +kernel
theorem dX6_clear_42 : decode cX6_clear 42 = .ok (.arraylength, 1) := by decide +kernel
theorem dX6_clear_43 : decode cX6_clear 43 = .ok (.if_icmp .ge 32, 3) := by decide +kernel
theorem dX6_clear_46 : decode cX6_clear 46 = .ok (.iconst 0, 1) := by decide +kernel
theorem dX6_clear_47 : decode cX6_clear 47 = .ok (.istore_n 2, 1) := by decide +kernel
theorem dX6_clear_48 : decode cX6_clear 48 = .ok (.iload_n 2, 1) := by decide +kernel
theorem dX6_clear_49 : decode cX6_clear 49 = .ok (.bipush 120, 2) := by decide +kernel
theorem dX6_clear_51 : decode cX6_clear 51 = .ok (.if_icmp .gt 18, 3) := by decide +kernel
theorem dX6_clear_54 : decode cX6_clear 54 = .ok (.aload_n 0, 1) := by decide +kernel
theorem dX6_clear_55 : decode cX6_clear 55 = .ok (.getfield 19, 3) := by decide +kernel
theorem dX6_clear_58 : decode cX6_clear 58 = .ok (.iload_n 1, 1) := by decide +kernel
theorem dX6_clear_59 : decode cX6_clear 59 = .ok (.aaload, 1) := by decide +kernel
theorem dX6_clear_60 : decode cX6_clear 60 = .ok (.iload_n 2, 1) := by decide +kernel
theorem dX6_clear_61 : decode cX6_clear 61 = .ok (.iconst 0, 1) := by decide +kernel
theorem dX6_clear_62 : decode cX6_clear 62 = .ok (.iastore, 1) := by decide +kernel
theorem dX6_clear_63 : decode cX6_clear 63 = .ok (.iinc 2 1, 3) := by decide +kernel
theorem dX6_clear_66 : decode cX6_clear 66 = .ok (.goto (-18), 3) := by decide +kernel
theorem dX6_clear_69 : decode cX6_clear 69 = .ok (.iinc 1 1, 3) := by decide +kernel
theorem dX6_clear_72 : decode cX6_clear 72 = .ok (.goto (-35), 3) := by decide +kernel
theorem dX6_clear_75 : decode cX6_clear 75 = .ok (.return_, 1) := by decide +kernel
theorem dX6_comingOf_0 : decode cX6_comingOf 0 = .ok (.iconst 0, 1) := by decide +kernel
theorem dX6_comingOf_1 : decode cX6_comingOf 1 = .ok (.istore 5, 2) := by decide +kernel
theorem dX6_comingOf_3 : decode cX6_comingOf 3 = .ok (.iconst 0, 1) := by decide +kernel
theorem dX6_comingOf_4 : decode cX6_comingOf 4 = .ok (.istore 6, 2) := by decide +kernel
theorem dX6_comingOf_6 : decode cX6_comingOf 6 = .ok (.iload 6, 2) := by decide +kernel
theorem dX6_comingOf_8 : decode cX6_comingOf 8 = .ok (.iload_n 1, 1) := by decide +kernel
theorem dX6_comingOf_9 : decode cX6_comingOf 9 = .ok (.if_icmp .ge 34, 3) := by decide +kernel
theorem dX6_comingOf_12 : decode cX6_comingOf 12 = .ok (.iload 6, 2) := by decide +kernel
theorem dX6_comingOf_14 : decode cX6_comingOf 14 = .ok (.iload_n 2, 1) := by decide +kernel
theorem dX6_comingOf_15 : decode cX6_comingOf 15 = .ok (.if_icmp .eq 22, 3) := by decide +kernel
theorem dX6_comingOf_18 : decode cX6_comingOf 18 = .ok (.iload 5, 2) := by decide +kernel
theorem dX6_comingOf_20 : decode cX6_comingOf 20 = .ok (.aload_n 0, 1) := by decide +kernel
theorem dX6_comingOf_21 : decode cX6_comingOf 21 = .ok (.getfield 19, 3) := by decide +kernel
theorem dX6_comingOf_24 : decode cX6_comingOf 24 = .ok (.iload_n 3, 1) := by decide +kernel
theorem dX6_comingOf_25 : decode cX6_comingOf 25 = .ok (.iconst 4, 1) := by decide +kernel
theorem dX6_comingOf_26 : decode cX6_comingOf 26 = .ok (.imul, 1) := by decide +kernel
theorem dX6_comingOf_27 : decode cX6_comingOf 27 = .ok (.iload 6, 2) := by decide +kernel
theorem dX6_comingOf_29 : decode cX6_comingOf 29 = .ok (.iadd, 1) := by decide +kernel
theorem dX6_comingOf_30 : decode cX6_comingOf 30 = .ok (.aaload, 1) := by decide +kernel
theorem dX6_comingOf_31 : decode cX6_comingOf 31 = .ok (.iload 4, 2) := by decide +kernel
theorem dX6_comingOf_33 : decode cX6_comingOf 33 = .ok (.iaload, 1) := by decide +kernel
theorem dX6_comingOf_34 : decode cX6_comingOf 34 = .ok (.iadd, 1) := by decide +kernel
theorem dX6_comingOf_35 : decode cX6_comingOf 35 = .ok (.istore 5, 2) := by decide +kernel
theorem dX6_comingOf_37 : decode cX6_comingOf 37 = .ok (.iinc 6 1, 3) := by decide +kernel
theorem dX6_comingOf_40 : decode cX6_comingOf 40 = .ok (.goto (-34), 3) := by decide +kernel
theorem dX6_comingOf_43 : decode cX6_comingOf 43 = .ok (.iload 5, 2) := by decide +kernel
theorem dX6_comingOf_45 : decode cX6_comingOf 45 = .ok (.ireturn, 1) := by decide +kernel
theorem dX6_delayAt_0 : decode cX6_delayAt 0 = .ok (.aload_n 0, 1) := by decide +kernel
theorem dX6_delayAt_1 : decode cX6_delayAt 1 = .ok (.getfield 32, 3) := by decide +kernel
theorem dX6_delayAt_4 : decode cX6_delayAt 4 = .ok (.getfield 95, 3) := by decide +kernel
theorem dX6_delayAt_7 : decode cX6_delayAt 7 = .ok (.iload_n 2, 1) := by decide +kernel
theorem dX6_delayAt_8 : decode cX6_delayAt 8 = .ok (.iaload, 1) := by decide +kernel
theorem dX6_delayAt_9 : decode cX6_delayAt 9 = .ok (.iconst 2, 1) := by decide +kernel
theorem dX6_delayAt_10 : decode cX6_delayAt 10 = .ok (.if_icmp .ne 26, 3) := by decide +kernel
theorem dX6_delayAt_13 : decode cX6_delayAt 13 = .ok (.aload_n 0, 1) := by decide +kernel
theorem dX6_delayAt_14 : decode cX6_delayAt 14 = .ok (.iload_n 2, 1) := by decide +kernel
theorem dX6_delayAt_15 : decode cX6_delayAt 15 = .ok (.aload_n 0, 1) := by decide +kernel
theorem dX6_delayAt_16 : decode cX6_delayAt 16 = .ok (.getfield 25, 3) := by decide +kernel
theorem dX6_delayAt_19 : decode cX6_delayAt 19 = .ok (.invokevirtual 98, 3) := by decide +kernel
theorem dX6_delayAt_22 : decode cX6_delayAt 22 = .ok (.aload_n 0, 1) := by decide +kernel
theorem dX6_delayAt_23 : decode cX6_delayAt 23 = .ok (.getfield 25, 3) := by decide +kernel
theorem dX6_delayAt_26 : decode cX6_delayAt 26 = .ok (.aload_n 0, 1) := by decide +kernel
theorem dX6_delayAt_27 : decode cX6_delayAt 27 = .ok (.getfield 22, 3) := by decide +kernel
theorem dX6_delayAt_30 : decode cX6_delayAt 30 = .ok (.iload_n 2, 1) := by decide +kernel
theorem dX6_delayAt_31 : decode cX6_delayAt 31 = .ok (.aaload, 1) := by decide +kernel
theorem dX6_delayAt_32 : decode cX6_delayAt 32 = .ok (.invokestatic 102, 3) := by decide +kernel
theorem dX6_delayAt_35 : decode cX6_delayAt 35 = .ok (.ireturn, 1) := by decide +kernel
theorem dX6_delayAt_36 : decode cX6_delayAt 36 = .ok (.aload_n 0, 1) := by decide +kernel
theorem dX6_delayAt_37 : decode cX6_delayAt 37 = .ok (.iload_n 1, 1) := by decide +kernel
theorem dX6_delayAt_38 : decode cX6_delayAt 38 = .ok (.iload_n 2, 1) := by decide +kernel
theorem dX6_delayAt_39 : decode cX6_delayAt 39 = .ok (.aload_n 0, 1) := by decide +kernel
theorem dX6_delayAt_40 : decode cX6_delayAt 40 = .ok (.getfield 29, 3) := by decide +kernel
theorem dX6_delayAt_43 : decode cX6_delayAt 43 = .ok (.invokevirtual 106, 3) := by decide +kernel
theorem dX6_delayAt_46 : decode cX6_delayAt 46 = .ok (.aload_n 0, 1) := by decide +kernel
theorem dX6_delayAt_47 : decode cX6_delayAt 47 = .ok (.getfield 19, 3) := by decide +kernel
theorem dX6_delayAt_50 : decode cX6_delayAt 50 = .ok (.iload_n 2, 1) := by decide +kernel
theorem dX6_delayAt_51 : decode cX6_delayAt 51 = .ok (.iconst 4, 1) := by decide +kernel
theorem dX6_delayAt_52 : decode cX6_delayAt 52 = .ok (.imul, 1) := by decide +kernel
theorem dX6_delayAt_53 : decode cX6_delayAt 53 = .ok (.iload_n 1, 1) := by decide +kernel
theorem dX6_delayAt_54 : decode cX6_delayAt 54 = .ok (.iadd, 1) := by decide +kernel
theorem dX6_delayAt_55 : decode cX6_delayAt 55 = .ok (.aaload, 1) := by decide +kernel
theorem dX6_delayAt_56 : decode cX6_delayAt 56 = .ok (.aload_n 0, 1) := by decide +kernel
theorem dX6_delayAt_57 : decode cX6_delayAt 57 = .ok (.getfield 29, 3) := by decide +kernel
theorem dX6_delayAt_60 : decode cX6_delayAt 60 = .ok (.invokestatic 102, 3) := by decide +kernel
theorem dX6_delayAt_63 : decode cX6_delayAt 63 = .ok (.ireturn, 1) := by decide +kernel
theorem dX6_fillArriving_0 : decode cX6_fillArriving 0 = .ok (.iconst 0, 1) := by decide +kernel
theorem dX6_fillArriving_1 : decode cX6_fillArriving 1 = .ok (.istore_n 1, 1) := by decide +kernel
theorem dX6_fillArriving_2 : decode cX6_fillArriving 2 = .ok (.iload_n 1, 1) := by decide +kernel
theorem dX6_fillArriving_3 : decode cX6_fillArriving 3 = .ok (.aload_n 0, 1) := by decide +kernel
theorem dX6_fillArriving_4 : decode cX6_fillArriving 4 = .ok (.getfield 32, 3) := by decide +kernel
theorem dX6_fillArriving_7 : decode cX6_fillArriving 7 = .ok (.getfield 79, 3) := by decide +kernel
theorem dX6_fillArriving_10 : decode cX6_fillArriving 10 = .ok (.if_icmp .ge 88, 3) := by decide +kernel
theorem dX6_fillArriving_13 : decode cX6_fillArriving 13 = .ok (.iconst 0, 1) := by decide +kernel
theorem dX6_fillArriving_14 : decode cX6_fillArriving 14 = .ok (.istore_n 2, 1) := by decide +kernel
theorem dX6_fillArriving_15 : decode cX6_fillArriving 15 = .ok (.iconst 0, 1) := by decide +kernel
theorem dX6_fillArriving_16 : decode cX6_fillArriving 16 = .ok (.istore_n 3, 1) := by decide +kernel
theorem dX6_fillArriving_17 : decode cX6_fillArriving 17 = .ok (.iload_n 3, 1) := by decide +kernel
theorem dX6_fillArriving_18 : decode cX6_fillArriving 18 = .ok (.aload_n 0, 1) := by decide +kernel
theorem dX6_fillArriving_19 : decode cX6_fillArriving 19 = .ok (.getfield 32, 3) := by decide +kernel
theorem dX6_fillArriving_22 : decode cX6_fillArriving 22 = .ok (.getfield 82, 3) := by decide +kernel
theorem dX6_fillArriving_25 : decode cX6_fillArriving 25 = .ok (.iload_n 1, 1) := by decide +kernel
theorem dX6_fillArriving_26 : decode cX6_fillArriving 26 = .ok (.iaload, 1) := by decide +kernel
theorem dX6_fillArriving_27 : decode cX6_fillArriving 27 = .ok (.if_icmp .ge 65, 3) := by decide +kernel
theorem dX6_fillArriving_30 : decode cX6_fillArriving 30 = .ok (.aload_n 0, 1) := by decide +kernel
theorem dX6_fillArriving_31 : decode cX6_fillArriving 31 = .ok (.getfield 32, 3) := by decide +kernel
theorem dX6_fillArriving_34 : decode cX6_fillArriving 34 = .ok (.getfield 85, 3) := by decide +kernel
theorem dX6_fillArriving_37 : decode cX6_fillArriving 37 = .ok (.iload_n 1, 1) := by decide +kernel
theorem dX6_fillArriving_38 : decode cX6_fillArriving 38 = .ok (.aaload, 1) := by decide +kernel
theorem dX6_fillArriving_39 : decode cX6_fillArriving 39 = .ok (.iload_n 3, 1) := by decide +kernel
theorem dX6_fillArriving_40 : decode cX6_fillArriving 40 = .ok (.iaload, 1) := by decide +kernel
theorem dX6_fillArriving_41 : decode cX6_fillArriving 41 = .ok (.iconst 4, 1) := by decide +kernel
theorem dX6_fillArriving_42 : decode cX6_fillArriving 42 = .ok (.imul, 1) := by decide +kernel
theorem dX6_fillArriving_43 : decode cX6_fillArriving 43 = .ok (.iload_n 1, 1) := by decide +kernel
theorem dX6_fillArriving_44 : decode cX6_fillArriving 44 = .ok (.iadd, 1) := by decide +kernel
theorem dX6_fillArriving_45 : decode cX6_fillArriving 45 = .ok (.istore 4, 2) := by decide +kernel
theorem dX6_fillArriving_47 : decode cX6_fillArriving 47 = .ok (.aload_n 0, 1) := by decide +kernel
theorem dX6_fillArriving_48 : decode cX6_fillArriving 48 = .ok (.getfield 32, 3) := by decide +kernel
theorem dX6_fillArriving_51 : decode cX6_fillArriving 51 = .ok (.getfield 56, 3) := by decide +kernel
theorem dX6_fillArriving_54 : decode cX6_fillArriving 54 = .ok (.aload_n 0, 1) := by decide +kernel
theorem dX6_fillArriving_55 : decode cX6_fillArriving 55 = .ok (.getfield 32, 3) := by decide +kernel
theorem dX6_fillArriving_58 : decode cX6_fillArriving 58 = .ok (.getfield 88, 3) := by decide +kernel
theorem dX6_fillArriving_61 : decode cX6_fillArriving 61 = .ok (.iload_n 1, 1) := by decide +kernel
theorem dX6_fillArriving_62 : decode cX6_fillArriving 62 = .ok (.iaload, 1) := by decide +kernel
theorem dX6_fillArriving_63 : decode cX6_fillArriving 63 = .ok (.aaload, 1) := by decide +kernel
theorem dX6_fillArriving_64 : decode cX6_fillArriving 64 = .ok (.aload_n 0, 1) := by decide +kernel
theorem dX6_fillArriving_65 : decode cX6_fillArriving 65 = .ok (.getfield 19, 3) := by decide +kernel
theorem dX6_fillArriving_68 : decode cX6_fillArriving 68 = .ok (.iload 4, 2) := by decide +kernel
theorem dX6_fillArriving_70 : decode cX6_fillArriving 70 = .ok (.aaload, 1) := by decide +kernel
theorem dX6_fillArriving_71 : decode cX6_fillArriving 71 = .ok (.iload_n 2, 1) := by decide +kernel
theorem dX6_fillArriving_72 : decode cX6_fillArriving 72 = .ok (.invokevirtual 63, 3) := by decide +kernel
theorem dX6_fillArriving_75 : decode cX6_fillArriving 75 = .ok (.iload_n 2, 1) := by decide +kernel
theorem dX6_fillArriving_76 : decode cX6_fillArriving 76 = .ok (.aload_n 0, 1) := by decide +kernel
theorem dX6_fillArriving_77 : decode cX6_fillArriving 77 = .ok (.getfield 11, 3) := by decide +kernel
theorem dX6_fillArriving_80 : decode cX6_fillArriving 80 = .ok (.iload_n 1, 1) := by decide +kernel
theorem dX6_fillArriving_81 : decode cX6_fillArriving 81 = .ok (.aaload, 1) := by decide +kernel
theorem dX6_fillArriving_82 : decode cX6_fillArriving 82 = .ok (.iload_n 3, 1) := by decide +kernel
theorem dX6_fillArriving_83 : decode cX6_fillArriving 83 = .ok (.iaload, 1) := by decide +kernel
theorem dX6_fillArriving_84 : decode cX6_fillArriving 84 = .ok (.iadd, 1) := by decide +kernel
theorem dX6_fillArriving_85 : decode cX6_fillArriving 85 = .ok (.istore_n 2, 1) := by decide +kernel
theorem dX6_fillArriving_86 : decode cX6_fillArriving 86 = .ok (.iinc 3 1, 3) := by decide +kernel
theorem dX6_fillArriving_89 : decode cX6_fillArriving 89 = .ok (.goto (-72), 3) := by decide +kernel
theorem dX6_fillArriving_92 : decode cX6_fillArriving 92 = .ok (.iinc 1 1, 3) := by decide +kernel
theorem dX6_fillArriving_95 : decode cX6_fillArriving 95 = .ok (.goto (-93), 3) := by decide +kernel
theorem dX6_fillArriving_98 : decode cX6_fillArriving 98 = .ok (.return_, 1) := by decide +kernel
theorem dX6_fillComing_0 : decode cX6_fillComing 0 = .ok (.iconst 0, 1) := by decide +kernel
theorem dX6_fillComing_1 : decode cX6_fillComing 1 = .ok (.istore_n 3, 1) := by decide +kernel
theorem dX6_fillComing_2 : decode cX6_fillComing 2 = .ok (.iload_n 3, 1) := by decide +kernel
theorem dX6_fillComing_3 : decode cX6_fillComing 3 = .ok (.bipush 120, 2) := by decide +kernel
theorem dX6_fillComing_5 : decode cX6_fillComing 5 = .ok (.if_icmp .gt 26, 3) := by decide +kernel
theorem dX6_fillComing_8 : decode cX6_fillComing 8 = .ok (.aload_n 2, 1) := by decide +kernel
theorem dX6_fillComing_9 : decode cX6_fillComing 9 = .ok (.iload_n 3, 1) := by decide +kernel
theorem dX6_fillComing_10 : decode cX6_fillComing 10 = .ok (.aload_n 0, 1) := by decide +kernel
theorem dX6_fillComing_11 : decode cX6_fillComing 11 = .ok (.aload_n 0, 1) := by decide +kernel
theorem dX6_fillComing_12 : decode cX6_fillComing 12 = .ok (.getfield 32, 3) := by decide +kernel
theorem dX6_fillComing_15 : decode cX6_fillComing 15 = .ok (.getfield 79, 3) := by decide +kernel
theorem dX6_fillComing_18 : decode cX6_fillComing 18 = .ok (.iconst (-1), 1) := by decide +kernel
theorem dX6_fillComing_19 : decode cX6_fillComing 19 = .ok (.iload_n 1, 1) := by decide +kernel
theorem dX6_fillComing_20 : decode cX6_fillComing 20 = .ok (.iload_n 3, 1) := by decide +kernel
theorem dX6_fillComing_21 : decode cX6_fillComing 21 = .ok (.invokevirtual 110, 3) := by decide +kernel
theorem dX6_fillComing_24 : decode cX6_fillComing 24 = .ok (.iastore, 1) := by decide +kernel
theorem dX6_fillComing_25 : decode cX6_fillComing 25 = .ok (.iinc 3 1, 3) := by decide +kernel
theorem dX6_fillComing_28 : decode cX6_fillComing 28 = .ok (.goto (-26), 3) := by decide +kernel
theorem dX6_fillComing_31 : decode cX6_fillComing 31 = .ok (.return_, 1) := by decide +kernel
theorem dX6_fillLeft_0 : decode cX6_fillLeft 0 = .ok (.aload_n 0, 1) := by decide +kernel
theorem dX6_fillLeft_1 : decode cX6_fillLeft 1 = .ok (.getfield 32, 3) := by decide +kernel
theorem dX6_fillLeft_4 : decode cX6_fillLeft 4 = .ok (.getfield 95, 3) := by decide +kernel
theorem dX6_fillLeft_7 : decode cX6_fillLeft 7 = .ok (.iload_n 2, 1) := by decide +kernel
theorem dX6_fillLeft_8 : decode cX6_fillLeft 8 = .ok (.iaload, 1) := by decide +kernel
theorem dX6_fillLeft_9 : decode cX6_fillLeft 9 = .ok (.istore 4, 2) := by decide +kernel
theorem dX6_fillLeft_11 : decode cX6_fillLeft 11 = .ok (.iload 4, 2) := by decide +kernel
theorem dX6_fillLeft_13 : decode cX6_fillLeft 13 = .ok (.iconst 3, 1) := by decide +kernel
theorem dX6_fillLeft_14 : decode cX6_fillLeft 14 = .ok (.if_icmp .ne 22, 3) := by decide +kernel
theorem dX6_fillLeft_17 : decode cX6_fillLeft 17 = .ok (.iconst 1, 1) := by decide +kernel
theorem dX6_fillLeft_18 : decode cX6_fillLeft 18 = .ok (.aload_n 0, 1) := by decide +kernel
theorem dX6_fillLeft_19 : decode cX6_fillLeft 19 = .ok (.getfield 32, 3) := by decide +kernel
theorem dX6_fillLeft_22 : decode cX6_fillLeft 22 = .ok (.getfield 114, 3) := by decide +kernel
theorem dX6_fillLeft_25 : decode cX6_fillLeft 25 = .ok (.iload_n 2, 1) := by decide +kernel
theorem dX6_fillLeft_26 : decode cX6_fillLeft 26 = .ok (.iaload, 1) := by decide +kernel
theorem dX6_fillLeft_27 : decode cX6_fillLeft 27 = .ok (.invokestatic 117, 3) := by decide +kernel
theorem dX6_fillLeft_30 : decode cX6_fillLeft 30 = .ok (.invokestatic 123, 3) := by decide +kernel
theorem dX6_fillLeft_33 : decode cX6_fillLeft 33 = .ok (.goto 4, 3) := by decide +kernel
theorem dX6_fillLeft_36 : decode cX6_fillLeft 36 = .ok (.iconst 1, 1) := by decide +kernel
theorem dX6_fillLeft_37 : decode cX6_fillLeft 37 = .ok (.istore 5, 2) := by decide +kernel
theorem dX6_fillLeft_39 : decode cX6_fillLeft 39 = .ok (.iload 4, 2) := by decide +kernel
theorem dX6_fillLeft_41 : decode cX6_fillLeft 41 = .ok (.iconst 1, 1) := by decide +kernel
theorem dX6_fillLeft_42 : decode cX6_fillLeft 42 = .ok (.if_icmp .ne 7, 3) := by decide +kernel
theorem dX6_fillLeft_45 : decode cX6_fillLeft 45 = .ok (.iload_n 1, 1) := by decide +kernel
theorem dX6_fillLeft_46 : decode cX6_fillLeft 46 = .ok (.goto 10, 3) := by decide +kernel
theorem dX6_fillLeft_49 : decode cX6_fillLeft 49 = .ok (.aload_n 0, 1) := by decide +kernel
theorem dX6_fillLeft_50 : decode cX6_fillLeft 50 = .ok (.getfield 32, 3) := by decide +kernel
theorem dX6_fillLeft_53 : decode cX6_fillLeft 53 = .ok (.getfield 79, 3) := by decide +kernel
theorem dX6_fillLeft_56 : decode cX6_fillLeft 56 = .ok (.istore 6, 2) := by decide +kernel
theorem dX6_fillLeft_58 : decode cX6_fillLeft 58 = .ok (.iconst 0, 1) := by decide +kernel
theorem dX6_fillLeft_59 : decode cX6_fillLeft 59 = .ok (.istore 7, 2) := by decide +kernel
theorem dX6_fillLeft_61 : decode cX6_fillLeft 61 = .ok (.iconst 0, 1) := by decide +kernel
theorem dX6_fillLeft_62 : decode cX6_fillLeft 62 = .ok (.istore 8, 2) := by decide +kernel
theorem dX6_fillLeft_64 : decode cX6_fillLeft 64 = .ok (.iload 8, 2) := by decide +kernel
theorem dX6_fillLeft_66 : decode cX6_fillLeft 66 = .ok (.bipush 120, 2) := by decide +kernel
theorem dX6_fillLeft_68 : decode cX6_fillLeft 68 = .ok (.if_icmp .gt 73, 3) := by decide +kernel
theorem dX6_fillLeft_71 : decode cX6_fillLeft 71 = .ok (.iload 4, 2) := by decide +kernel
theorem dX6_fillLeft_73 : decode cX6_fillLeft 73 = .ok (.iconst 2, 1) := by decide +kernel
theorem dX6_fillLeft_74 : decode cX6_fillLeft 74 = .ok (.if_icmp .eq 9, 3) := by decide +kernel
theorem dX6_fillLeft_77 : decode cX6_fillLeft 77 = .ok (.iload 4, 2) := by decide +kernel
theorem dX6_fillLeft_79 : decode cX6_fillLeft 79 = .ok (.iconst 3, 1) := by decide +kernel
theorem dX6_fillLeft_80 : decode cX6_fillLeft 80 = .ok (.if_icmp .ne 22, 3) := by decide +kernel
theorem dX6_fillLeft_83 : decode cX6_fillLeft 83 = .ok (.aload_n 3, 1) := by decide +kernel
theorem dX6_fillLeft_84 : decode cX6_fillLeft 84 = .ok (.iload 8, 2) := by decide +kernel
theorem dX6_fillLeft_86 : decode cX6_fillLeft 86 = .ok (.aload_n 0, 1) := by decide +kernel
theorem dX6_fillLeft_87 : decode cX6_fillLeft 87 = .ok (.getfield 22, 3) := by decide +kernel
theorem dX6_fillLeft_90 : decode cX6_fillLeft 90 = .ok (.iload_n 2, 1) := by decide +kernel
theorem dX6_fillLeft_91 : decode cX6_fillLeft 91 = .ok (.aaload, 1) := by decide +kernel
theorem dX6_fillLeft_92 : decode cX6_fillLeft 92 = .ok (.iload 8, 2) := by decide +kernel
theorem dX6_fillLeft_94 : decode cX6_fillLeft 94 = .ok (.iaload, 1) := by decide +kernel
theorem dX6_fillLeft_95 : decode cX6_fillLeft 95 = .ok (.iload 5, 2) := by decide +kernel
theorem dX6_fillLeft_97 : decode cX6_fillLeft 97 = .ok (.idiv, 1) := by decide +kernel
theorem dX6_fillLeft_98 : decode cX6_fillLeft 98 = .ok (.iastore, 1) := by decide +kernel
theorem dX6_fillLeft_99 : decode cX6_fillLeft 99 = .ok (.goto 36, 3) := by decide +kernel
theorem dX6_fillLeft_102 : decode cX6_fillLeft 102 = .ok (.iload 7, 2) := by decide +kernel
theorem dX6_fillLeft_104 : decode cX6_fillLeft 104 = .ok (.aload_n 0, 1) := by decide +kernel
theorem dX6_fillLeft_105 : decode cX6_fillLeft 105 = .ok (.getfield 22, 3) := by decide +kernel
theorem dX6_fillLeft_108 : decode cX6_fillLeft 108 = .ok (.iload_n 2, 1) := by decide +kernel
theorem dX6_fillLeft_109 : decode cX6_fillLeft 109 = .ok (.aaload, 1) := by decide +kernel
theorem dX6_fillLeft_110 : decode cX6_fillLeft 110 = .ok (.iload 8, 2) := by decide +kernel
theorem dX6_fillLeft_112 : decode cX6_fillLeft 112 = .ok (.iaload, 1) := by decide +kernel
theorem dX6_fillLeft_113 : decode cX6_fillLeft 113 = .ok (.aload_n 0, 1) := by decide +kernel
theorem dX6_fillLeft_114 : decode cX6_fillLeft 114 = .ok (.iload 6, 2) := by decide +kernel
theorem dX6_fillLeft_116 : decode cX6_fillLeft 116 = .ok (.iload_n 1, 1) := by decide +kernel
theorem dX6_fillLeft_117 : decode cX6_fillLeft 117 = .ok (.iload_n 2, 1) := by decide +kernel
theorem dX6_fillLeft_118 : decode cX6_fillLeft 118 = .ok (.iload 8, 2) := by decide +kernel
theorem dX6_fillLeft_120 : decode cX6_fillLeft 120 = .ok (.invokevirtual 110, 3) := by decide +kernel
theorem dX6_fillLeft_123 : decode cX6_fillLeft 123 = .ok (.isub, 1) := by decide +kernel
theorem dX6_fillLeft_124 : decode cX6_fillLeft 124 = .ok (.invokestatic 123, 3) := by decide +kernel
theorem dX6_fillLeft_127 : decode cX6_fillLeft 127 = .ok (.istore 7, 2) := by decide +kernel
theorem dX6_fillLeft_129 : decode cX6_fillLeft 129 = .ok (.aload_n 3, 1) := by decide +kernel
theorem dX6_fillLeft_130 : decode cX6_fillLeft 130 = .ok (.iload 8, 2) := by decide +kernel
theorem dX6_fillLeft_132 : decode cX6_fillLeft 132 = .ok (.iload 7, 2) := by decide +kernel
theorem dX6_fillLeft_134 : decode cX6_fillLeft 134 = .ok (.iastore, 1) := by decide +kernel
theorem dX6_fillLeft_135 : decode cX6_fillLeft 135 = .ok (.iinc 8 1, 3) := by decide +kernel
theorem dX6_fillLeft_138 : decode cX6_fillLeft 138 = .ok (.goto (-74), 3) := by decide +kernel
theorem dX6_fillLeft_141 : decode cX6_fillLeft 141 = .ok (.return_, 1) := by decide +kernel
theorem dX6_forget_0 : decode cX6_forget 0 = .ok (.aload_n 0, 1) := by decide +kernel
theorem dX6_forget_1 : decode cX6_forget 1 = .ok (.iconst 0, 1) := by decide +kernel
theorem dX6_forget_2 : decode cX6_forget 2 = .ok (.putfield 36, 3) := by decide +kernel
theorem dX6_forget_5 : decode cX6_forget 5 = .ok (.return_, 1) := by decide +kernel
theorem dX6_init_0 : decode cX6_init 0 = .ok (.aload_n 0, 1) := by decide +kernel
theorem dX6_init_1 : decode cX6_init 1 = .ok (.invokespecial 3, 3) := by decide +kernel
theorem dX6_init_4 : decode cX6_init 4 = .ok (.aload_n 0, 1) := by decide +kernel
theorem dX6_init_5 : decode cX6_init 5 = .ok (.iconst 4, 1) := by decide +kernel
theorem dX6_init_6 : decode cX6_init 6 = .ok (.iconst 4, 1) := by decide +kernel
theorem dX6_init_7 : decode cX6_init 7 = .ok (.multianewarray 9 2, 4) := by decide +kernel
theorem dX6_init_11 : decode cX6_init 11 = .ok (.putfield 11, 3) := by decide +kernel
theorem dX6_init_14 : decode cX6_init 14 = .ok (.aload_n 0, 1) := by decide +kernel
theorem dX6_init_15 : decode cX6_init 15 = .ok (.iconst 4, 1) := by decide +kernel
theorem dX6_init_16 : decode cX6_init 16 = .ok (.iconst 4, 1) := by decide +kernel
theorem dX6_init_17 : decode cX6_init 17 = .ok (.multianewarray 9 2, 4) := by decide +kernel
theorem dX6_init_21 : decode cX6_init 21 = .ok (.putfield 16, 3) := by decide +kernel
theorem dX6_init_24 : decode cX6_init 24 = .ok (.aload_n 0, 1) := by decide +kernel
theorem dX6_init_25 : decode cX6_init 25 = .ok (.bipush 16, 2) := by decide +kernel
theorem dX6_init_27 : decode cX6_init 27 = .ok (.bipush 121, 2) := by decide +kernel
theorem dX6_init_29 : decode cX6_init 29 = .ok (.multianewarray 9 2, 4) := by decide +kernel
theorem dX6_init_33 : decode cX6_init 33 = .ok (.putfield 19, 3) := by decide +kernel
theorem dX6_init_36 : decode cX6_init 36 = .ok (.aload_n 0, 1) := by decide +kernel
theorem dX6_init_37 : decode cX6_init 37 = .ok (.iconst 4, 1) := by decide +kernel
theorem dX6_init_38 : decode cX6_init 38 = .ok (.bipush 121, 2) := by decide +kernel
theorem dX6_init_40 : decode cX6_init 40 = .ok (.multianewarray 9 2, 4) := by decide +kernel
theorem dX6_init_44 : decode cX6_init 44 = .ok (.putfield 22, 3) := by decide +kernel
theorem dX6_init_47 : decode cX6_init 47 = .ok (.aload_n 0, 1) := by decide +kernel
theorem dX6_init_48 : decode cX6_init 48 = .ok (.bipush 121, 2) := by decide +kernel
theorem dX6_init_50 : decode cX6_init 50 = .ok (.newarray .int, 2) := by decide +kernel
theorem dX6_init_52 : decode cX6_init 52 = .ok (.putfield 25, 3) := by decide +kernel
theorem dX6_init_55 : decode cX6_init 55 = .ok (.aload_n 0, 1) := by decide +kernel
theorem dX6_init_56 : decode cX6_init 56 = .ok (.bipush 121, 2) := by decide +kernel
theorem dX6_init_58 : decode cX6_init 58 = .ok (.newarray .int, 2) := by decide +kernel
theorem dX6_init_60 : decode cX6_init 60 = .ok (.putfield 29, 3) := by decide +kernel
theorem dX6_init_63 : decode cX6_init 63 = .ok (.aload_n 0, 1) := by decide +kernel
theorem dX6_init_64 : decode cX6_init 64 = .ok (.aload_n 1, 1) := by decide +kernel
theorem dX6_init_65 : decode cX6_init 65 = .ok (.putfield 32, 3) := by decide +kernel
theorem dX6_init_68 : decode cX6_init 68 = .ok (.return_, 1) := by decide +kernel
theorem dX6_roundsAsTold_0 : decode cX6_roundsAsTold 0 = .ok (.aload_n 0, 1) := by decide +kernel
theorem dX6_roundsAsTold_1 : decode cX6_roundsAsTold 1 = .ok (.getfield 36, 3) := by decide +kernel
theorem dX6_roundsAsTold_4 : decode cX6_roundsAsTold 4 = .ok (.ifCond .ne 15, 3) := by decide +kernel
theorem dX6_roundsAsTold_7 : decode cX6_roundsAsTold 7 = .ok (.aload_n 0, 1) := by decide +kernel
theorem dX6_roundsAsTold_8 : decode cX6_roundsAsTold 8 = .ok (.aload_n 1, 1) := by decide +kernel
theorem dX6_roundsAsTold_9 : decode cX6_roundsAsTold 9 = .ok (.iconst (-1), 1) := by decide +kernel
theorem dX6_roundsAsTold_10 : decode cX6_roundsAsTold 10 = .ok (.iconst (-1), 1) := by decide +kernel
theorem dX6_roundsAsTold_11 : decode cX6_roundsAsTold 11 = .ok (.invokevirtual 40, 3) := by decide +kernel
theorem dX6_roundsAsTold_14 : decode cX6_roundsAsTold 14 = .ok (.aload_n 0, 1) := by decide +kernel
theorem dX6_roundsAsTold_15 : decode cX6_roundsAsTold 15 = .ok (.iconst 1, 1) := by decide +kernel
theorem dX6_roundsAsTold_16 : decode cX6_roundsAsTold 16 = .ok (.putfield 36, 3) := by decide +kernel
theorem dX6_roundsAsTold_19 : decode cX6_roundsAsTold 19 = .ok (.aload_n 0, 1) := by decide +kernel
theorem dX6_roundsAsTold_20 : decode cX6_roundsAsTold 20 = .ok (.getfield 44, 3) := by decide +kernel
theorem dX6_roundsAsTold_23 : decode cX6_roundsAsTold 23 = .ok (.ireturn, 1) := by decide +kernel
theorem dX6_settle_0 : decode cX6_settle 0 = .ok (.aload_n 0, 1) := by decide +kernel
theorem dX6_settle_1 : decode cX6_settle 1 = .ok (.aload_n 1, 1) := by decide +kernel
theorem dX6_settle_2 : decode cX6_settle 2 = .ok (.putfield 32, 3) := by decide +kernel
theorem dX6_settle_5 : decode cX6_settle 5 = .ok (.aload_n 0, 1) := by decide +kernel
theorem dX6_settle_6 : decode cX6_settle 6 = .ok (.iconst 0, 1) := by decide +kernel
theorem dX6_settle_7 : decode cX6_settle 7 = .ok (.putfield 36, 3) := by decide +kernel
theorem dX6_settle_10 : decode cX6_settle 10 = .ok (.aload_n 0, 1) := by decide +kernel
theorem dX6_settle_11 : decode cX6_settle 11 = .ok (.iconst (-1), 1) := by decide +kernel
theorem dX6_settle_12 : decode cX6_settle 12 = .ok (.putfield 44, 3) := by decide +kernel
theorem dX6_settle_15 : decode cX6_settle 15 = .ok (.aload_n 0, 1) := by decide +kernel
theorem dX6_settle_16 : decode cX6_settle 16 = .ok (.invokevirtual 48, 3) := by decide +kernel
theorem dX6_settle_19 : decode cX6_settle 19 = .ok (.iconst 0, 1) := by decide +kernel
theorem dX6_settle_20 : decode cX6_settle 20 = .ok (.istore 4, 2) := by decide +kernel
theorem dX6_settle_22 : decode cX6_settle 22 = .ok (.iload 4, 2) := by decide +kernel
theorem dX6_settle_24 : decode cX6_settle 24 = .ok (.aload_n 0, 1) := by decide +kernel
theorem dX6_settle_25 : decode cX6_settle 25 = .ok (.getfield 32, 3) := by decide +kernel
theorem dX6_settle_28 : decode cX6_settle 28 = .ok (.getfield 51, 3) := by decide +kernel
theorem dX6_settle_31 : decode cX6_settle 31 = .ok (.if_icmp .ge 48, 3) := by decide +kernel
theorem dX6_settle_34 : decode cX6_settle 34 = .ok (.aload_n 0, 1) := by decide +kernel
theorem dX6_settle_35 : decode cX6_settle 35 = .ok (.getfield 32, 3) := by decide +kernel
theorem dX6_settle_38 : decode cX6_settle 38 = .ok (.getfield 56, 3) := by decide +kernel
theorem dX6_settle_41 : decode cX6_settle 41 = .ok (.iload 4, 2) := by decide +kernel
theorem dX6_settle_43 : decode cX6_settle 43 = .ok (.iload_n 2, 1) := by decide +kernel
theorem dX6_settle_44 : decode cX6_settle 44 = .ok (.if_icmp .ne 7, 3) := by decide +kernel
theorem dX6_settle_47 : decode cX6_settle 47 = .ok (.iload_n 3, 1) := by decide +kernel
theorem dX6_settle_48 : decode cX6_settle 48 = .ok (.goto 13, 3) := by decide +kernel
theorem dX6_settle_51 : decode cX6_settle 51 = .ok (.aload_n 0, 1) := by decide +kernel
theorem dX6_settle_52 : decode cX6_settle 52 = .ok (.getfield 32, 3) := by decide +kernel
theorem dX6_settle_55 : decode cX6_settle 55 = .ok (.getfield 60, 3) := by decide +kernel
theorem dX6_settle_58 : decode cX6_settle 58 = .ok (.iload 4, 2) := by decide +kernel
theorem dX6_settle_60 : decode cX6_settle 60 = .ok (.iaload, 1) := by decide +kernel
theorem dX6_settle_61 : decode cX6_settle 61 = .ok (.aaload, 1) := by decide +kernel
theorem dX6_settle_62 : decode cX6_settle 62 = .ok (.aload_n 0, 1) := by decide +kernel
theorem dX6_settle_63 : decode cX6_settle 63 = .ok (.getfield 22, 3) := by decide +kernel
theorem dX6_settle_66 : decode cX6_settle 66 = .ok (.iload 4, 2) := by decide +kernel
theorem dX6_settle_68 : decode cX6_settle 68 = .ok (.aaload, 1) := by decide +kernel
theorem dX6_settle_69 : decode cX6_settle 69 = .ok (.iconst 0, 1) := by decide +kernel
theorem dX6_settle_70 : decode cX6_settle 70 = .ok (.invokevirtual 63, 3) := by decide +kernel
theorem dX6_settle_73 : decode cX6_settle 73 = .ok (.iinc 4 1, 3) := by decide +kernel
theorem dX6_settle_76 : decode cX6_settle 76 = .ok (.goto (-54), 3) := by decide +kernel
theorem dX6_settle_79 : decode cX6_settle 79 = .ok (.iconst 1, 1) := by decide +kernel
theorem dX6_settle_80 : decode cX6_settle 80 = .ok (.istore 4, 2) := by decide +kernel
theorem dX6_settle_82 : decode cX6_settle 82 = .ok (.iload 4, 2) := by decide +kernel
theorem dX6_settle_84 : decode cX6_settle 84 = .ok (.bipush 60, 2) := by decide +kernel
theorem dX6_settle_86 : decode cX6_settle 86 = .ok (.if_icmp .gt 35, 3) := by decide +kernel
theorem dX6_settle_89 : decode cX6_settle 89 = .ok (.aload_n 0, 1) := by decide +kernel
theorem dX6_settle_90 : decode cX6_settle 90 = .ok (.invokevirtual 69, 3) := by decide +kernel
theorem dX6_settle_93 : decode cX6_settle 93 = .ok (.aload_n 0, 1) := by decide +kernel
theorem dX6_settle_94 : decode cX6_settle 94 = .ok (.invokevirtual 72, 3) := by decide +kernel
theorem dX6_settle_97 : decode cX6_settle 97 = .ok (.ifCond .ne 4, 3) := by decide +kernel
theorem dX6_settle_100 : decode cX6_settle 100 = .ok (.return_, 1) := by decide +kernel
theorem dX6_settle_101 : decode cX6_settle 101 = .ok (.aload_n 0, 1) := by decide +kernel
theorem dX6_settle_102 : decode cX6_settle 102 = .ok (.invokevirtual 76, 3) := by decide +kernel
theorem dX6_settle_105 : decode cX6_settle 105 = .ok (.ifCond .ne 10, 3) := by decide +kernel
theorem dX6_settle_108 : decode cX6_settle 108 = .ok (.aload_n 0, 1) := by decide +kernel
theorem dX6_settle_109 : decode cX6_settle 109 = .ok (.iload 4, 2) := by decide +kernel
theorem dX6_settle_111 : decode cX6_settle 111 = .ok (.putfield 44, 3) := by decide +kernel
theorem dX6_settle_114 : decode cX6_settle 114 = .ok (.return_, 1) := by decide +kernel
theorem dX6_settle_115 : decode cX6_settle 115 = .ok (.iinc 4 1, 3) := by decide +kernel
theorem dX6_settle_118 : decode cX6_settle 118 = .ok (.goto (-36), 3) := by decide +kernel
theorem dX6_settle_121 : decode cX6_settle 121 = .ok (.return_, 1) := by decide +kernel
theorem dX6_takeAnew_0 : decode cX6_takeAnew 0 = .ok (.iconst 0, 1) := by decide +kernel
theorem dX6_takeAnew_1 : decode cX6_takeAnew 1 = .ok (.istore_n 1, 1) := by decide +kernel
theorem dX6_takeAnew_2 : decode cX6_takeAnew 2 = .ok (.iconst 0, 1) := by decide +kernel
theorem dX6_takeAnew_3 : decode cX6_takeAnew 3 = .ok (.istore_n 2, 1) := by decide +kernel
theorem dX6_takeAnew_4 : decode cX6_takeAnew 4 = .ok (.iload_n 2, 1) := by decide +kernel
theorem dX6_takeAnew_5 : decode cX6_takeAnew 5 = .ok (.aload_n 0, 1) := by decide +kernel
theorem dX6_takeAnew_6 : decode cX6_takeAnew 6 = .ok (.getfield 32, 3) := by decide +kernel
theorem dX6_takeAnew_9 : decode cX6_takeAnew 9 = .ok (.getfield 79, 3) := by decide +kernel
theorem dX6_takeAnew_12 : decode cX6_takeAnew 12 = .ok (.if_icmp .ge 75, 3) := by decide +kernel
theorem dX6_takeAnew_15 : decode cX6_takeAnew 15 = .ok (.iconst 0, 1) := by decide +kernel
theorem dX6_takeAnew_16 : decode cX6_takeAnew 16 = .ok (.istore_n 3, 1) := by decide +kernel
theorem dX6_takeAnew_17 : decode cX6_takeAnew 17 = .ok (.iload_n 3, 1) := by decide +kernel
theorem dX6_takeAnew_18 : decode cX6_takeAnew 18 = .ok (.aload_n 0, 1) := by decide +kernel
theorem dX6_takeAnew_19 : decode cX6_takeAnew 19 = .ok (.getfield 32, 3) := by decide +kernel
theorem dX6_takeAnew_22 : decode cX6_takeAnew 22 = .ok (.getfield 82, 3) := by decide +kernel
theorem dX6_takeAnew_25 : decode cX6_takeAnew 25 = .ok (.iload_n 2, 1) := by decide +kernel
theorem dX6_takeAnew_26 : decode cX6_takeAnew 26 = .ok (.iaload, 1) := by decide +kernel
theorem dX6_takeAnew_27 : decode cX6_takeAnew 27 = .ok (.if_icmp .ge 54, 3) := by decide +kernel
theorem dX6_takeAnew_30 : decode cX6_takeAnew 30 = .ok (.iload_n 1, 1) := by decide +kernel
theorem dX6_takeAnew_31 : decode cX6_takeAnew 31 = .ok (.ifCond .ne 22, 3) := by decide +kernel
theorem dX6_takeAnew_34 : decode cX6_takeAnew 34 = .ok (.aload_n 0, 1) := by decide +kernel
theorem dX6_takeAnew_35 : decode cX6_takeAnew 35 = .ok (.getfield 11, 3) := by decide +kernel
theorem dX6_takeAnew_38 : decode cX6_takeAnew 38 = .ok (.iload_n 2, 1) := by decide +kernel
theorem dX6_takeAnew_39 : decode cX6_takeAnew 39 = .ok (.aaload, 1) := by decide +kernel
theorem dX6_takeAnew_40 : decode cX6_takeAnew 40 = .ok (.iload_n 3, 1) := by decide +kernel
theorem dX6_takeAnew_41 : decode cX6_takeAnew 41 = .ok (.iaload, 1) := by decide +kernel
theorem dX6_takeAnew_42 : decode cX6_takeAnew 42 = .ok (.aload_n 0, 1) := by decide +kernel
theorem dX6_takeAnew_43 : decode cX6_takeAnew 43 = .ok (.getfield 16, 3) := by decide +kernel
theorem dX6_takeAnew_46 : decode cX6_takeAnew 46 = .ok (.iload_n 2, 1) := by decide +kernel
theorem dX6_takeAnew_47 : decode cX6_takeAnew 47 = .ok (.aaload, 1) := by decide +kernel
theorem dX6_takeAnew_48 : decode cX6_takeAnew 48 = .ok (.iload_n 3, 1) := by decide +kernel
theorem dX6_takeAnew_49 : decode cX6_takeAnew 49 = .ok (.iaload, 1) := by decide +kernel
theorem dX6_takeAnew_50 : decode cX6_takeAnew 50 = .ok (.if_icmp .eq 7, 3) := by decide +kernel
theorem dX6_takeAnew_53 : decode cX6_takeAnew 53 = .ok (.iconst 1, 1) := by decide +kernel
theorem dX6_takeAnew_54 : decode cX6_takeAnew 54 = .ok (.goto 4, 3) := by decide +kernel
theorem dX6_takeAnew_57 : decode cX6_takeAnew 57 = .ok (.iconst 0, 1) := by decide +kernel
theorem dX6_takeAnew_58 : decode cX6_takeAnew 58 = .ok (.istore_n 1, 1) := by decide +kernel
theorem dX6_takeAnew_59 : decode cX6_takeAnew 59 = .ok (.aload_n 0, 1) := by decide +kernel
theorem dX6_takeAnew_60 : decode cX6_takeAnew 60 = .ok (.getfield 11, 3) := by decide +kernel
theorem dX6_takeAnew_63 : decode cX6_takeAnew 63 = .ok (.iload_n 2, 1) := by decide +kernel
theorem dX6_takeAnew_64 : decode cX6_takeAnew 64 = .ok (.aaload, 1) := by decide +kernel
theorem dX6_takeAnew_65 : decode cX6_takeAnew 65 = .ok (.iload_n 3, 1) := by decide +kernel
theorem dX6_takeAnew_66 : decode cX6_takeAnew 66 = .ok (.aload_n 0, 1) := by decide +kernel
theorem dX6_takeAnew_67 : decode cX6_takeAnew 67 = .ok (.getfield 16, 3) := by decide +kernel
theorem dX6_takeAnew_70 : decode cX6_takeAnew 70 = .ok (.iload_n 2, 1) := by decide +kernel
theorem dX6_takeAnew_71 : decode cX6_takeAnew 71 = .ok (.aaload, 1) := by decide +kernel
theorem dX6_takeAnew_72 : decode cX6_takeAnew 72 = .ok (.iload_n 3, 1) := by decide +kernel
theorem dX6_takeAnew_73 : decode cX6_takeAnew 73 = .ok (.iaload, 1) := by decide +kernel
theorem dX6_takeAnew_74 : decode cX6_takeAnew 74 = .ok (.iastore, 1) := by decide +kernel
theorem dX6_takeAnew_75 : decode cX6_takeAnew 75 = .ok (.iinc 3 1, 3) := by decide +kernel
theorem dX6_takeAnew_78 : decode cX6_takeAnew 78 = .ok (.goto (-61), 3) := by decide +kernel
theorem dX6_takeAnew_81 : decode cX6_takeAnew 81 = .ok (.iinc 2 1, 3) := by decide +kernel
theorem dX6_takeAnew_84 : decode cX6_takeAnew 84 = .ok (.goto (-80), 3) := by decide +kernel
theorem dX6_takeAnew_87 : decode cX6_takeAnew 87 = .ok (.iload_n 1, 1) := by decide +kernel
theorem dX6_takeAnew_88 : decode cX6_takeAnew 88 = .ok (.ireturn, 1) := by decide +kernel
theorem dX6_tellAnew_0 : decode cX6_tellAnew 0 = .ok (.iconst 0, 1) := by decide +kernel
theorem dX6_tellAnew_1 : decode cX6_tellAnew 1 = .ok (.istore_n 1, 1) := by decide +kernel
theorem dX6_tellAnew_2 : decode cX6_tellAnew 2 = .ok (.iload_n 1, 1) := by decide +kernel
theorem dX6_tellAnew_3 : decode cX6_tellAnew 3 = .ok (.aload_n 0, 1) := by decide +kernel
theorem dX6_tellAnew_4 : decode cX6_tellAnew 4 = .ok (.getfield 32, 3) := by decide +kernel
theorem dX6_tellAnew_7 : decode cX6_tellAnew 7 = .ok (.getfield 79, 3) := by decide +kernel
theorem dX6_tellAnew_10 : decode cX6_tellAnew 10 = .ok (.if_icmp .ge 68, 3) := by decide +kernel
theorem dX6_tellAnew_13 : decode cX6_tellAnew 13 = .ok (.iconst 0, 1) := by decide +kernel
theorem dX6_tellAnew_14 : decode cX6_tellAnew 14 = .ok (.istore_n 2, 1) := by decide +kernel
theorem dX6_tellAnew_15 : decode cX6_tellAnew 15 = .ok (.iload_n 2, 1) := by decide +kernel
theorem dX6_tellAnew_16 : decode cX6_tellAnew 16 = .ok (.aload_n 0, 1) := by decide +kernel
theorem dX6_tellAnew_17 : decode cX6_tellAnew 17 = .ok (.getfield 32, 3) := by decide +kernel
theorem dX6_tellAnew_20 : decode cX6_tellAnew 20 = .ok (.getfield 82, 3) := by decide +kernel
theorem dX6_tellAnew_23 : decode cX6_tellAnew 23 = .ok (.iload_n 1, 1) := by decide +kernel
theorem dX6_tellAnew_24 : decode cX6_tellAnew 24 = .ok (.iaload, 1) := by decide +kernel
theorem dX6_tellAnew_25 : decode cX6_tellAnew 25 = .ok (.if_icmp .ge 47, 3) := by decide +kernel
theorem dX6_tellAnew_28 : decode cX6_tellAnew 28 = .ok (.aload_n 0, 1) := by decide +kernel
theorem dX6_tellAnew_29 : decode cX6_tellAnew 29 = .ok (.getfield 16, 3) := by decide +kernel
theorem dX6_tellAnew_32 : decode cX6_tellAnew 32 = .ok (.iload_n 1, 1) := by decide +kernel
theorem dX6_tellAnew_33 : decode cX6_tellAnew 33 = .ok (.aaload, 1) := by decide +kernel
theorem dX6_tellAnew_34 : decode cX6_tellAnew 34 = .ok (.iload_n 2, 1) := by decide +kernel
theorem dX6_tellAnew_35 : decode cX6_tellAnew 35 = .ok (.aload_n 0, 1) := by decide +kernel
theorem dX6_tellAnew_36 : decode cX6_tellAnew 36 = .ok (.iload_n 1, 1) := by decide +kernel
theorem dX6_tellAnew_37 : decode cX6_tellAnew 37 = .ok (.aload_n 0, 1) := by decide +kernel
theorem dX6_tellAnew_38 : decode cX6_tellAnew 38 = .ok (.getfield 32, 3) := by decide +kernel
theorem dX6_tellAnew_41 : decode cX6_tellAnew 41 = .ok (.getfield 85, 3) := by decide +kernel
theorem dX6_tellAnew_44 : decode cX6_tellAnew 44 = .ok (.iload_n 1, 1) := by decide +kernel
theorem dX6_tellAnew_45 : decode cX6_tellAnew 45 = .ok (.aaload, 1) := by decide +kernel
theorem dX6_tellAnew_46 : decode cX6_tellAnew 46 = .ok (.iload_n 2, 1) := by decide +kernel
theorem dX6_tellAnew_47 : decode cX6_tellAnew 47 = .ok (.iaload, 1) := by decide +kernel
theorem dX6_tellAnew_48 : decode cX6_tellAnew 48 = .ok (.invokevirtual 91, 3) := by decide +kernel
theorem dX6_tellAnew_51 : decode cX6_tellAnew 51 = .ok (.iastore, 1) := by decide +kernel
theorem dX6_tellAnew_52 : decode cX6_tellAnew 52 = .ok (.aload_n 0, 1) := by decide +kernel
theorem dX6_tellAnew_53 : decode cX6_tellAnew 53 = .ok (.getfield 16, 3) := by decide +kernel
theorem dX6_tellAnew_56 : decode cX6_tellAnew 56 = .ok (.iload_n 1, 1) := by decide +kernel
theorem dX6_tellAnew_57 : decode cX6_tellAnew 57 = .ok (.aaload, 1) := by decide +kernel
theorem dX6_tellAnew_58 : decode cX6_tellAnew 58 = .ok (.iload_n 2, 1) := by decide +kernel
theorem dX6_tellAnew_59 : decode cX6_tellAnew 59 = .ok (.iaload, 1) := by decide +kernel
theorem dX6_tellAnew_60 : decode cX6_tellAnew 60 = .ok (.iconst (-1), 1) := by decide +kernel
theorem dX6_tellAnew_61 : decode cX6_tellAnew 61 = .ok (.if_icmp .ne 5, 3) := by decide +kernel
theorem dX6_tellAnew_64 : decode cX6_tellAnew 64 = .ok (.iconst 0, 1) := by decide +kernel
theorem dX6_tellAnew_65 : decode cX6_tellAnew 65 = .ok (.ireturn, 1) := by decide +kernel
theorem dX6_tellAnew_66 : decode cX6_tellAnew 66 = .ok (.iinc 2 1, 3) := by decide +kernel
theorem dX6_tellAnew_69 : decode cX6_tellAnew 69 = .ok (.goto (-54), 3) := by decide +kernel
theorem dX6_tellAnew_72 : decode cX6_tellAnew 72 = .ok (.iinc 1 1, 3) := by decide +kernel
theorem dX6_tellAnew_75 : decode cX6_tellAnew 75 = .ok (.goto (-73), 3) := by decide +kernel
theorem dX6_tellAnew_78 : decode cX6_tellAnew 78 = .ok (.iconst 1, 1) := by decide +kernel
theorem dX6_tellAnew_79 : decode cX6_tellAnew 79 = .ok (.ireturn, 1) := by decide +kernel
theorem dX6_totalOf_0 : decode cX6_totalOf 0 = .ok (.iconst 0, 1) := by decide +kernel
theorem dX6_totalOf_1 : decode cX6_totalOf 1 = .ok (.istore_n 2, 1) := by decide +kernel
theorem dX6_totalOf_2 : decode cX6_totalOf 2 = .ok (.iconst 0, 1) := by decide +kernel
theorem dX6_totalOf_3 : decode cX6_totalOf 3 = .ok (.istore_n 3, 1) := by decide +kernel
theorem dX6_totalOf_4 : decode cX6_totalOf 4 = .ok (.iload_n 3, 1) := by decide +kernel
theorem dX6_totalOf_5 : decode cX6_totalOf 5 = .ok (.aload_n 0, 1) := by decide +kernel
theorem dX6_totalOf_6 : decode cX6_totalOf 6 = .ok (.getfield 32, 3) := by decide +kernel
theorem dX6_totalOf_9 : decode cX6_totalOf 9 = .ok (.getfield 82, 3) := by decide +kernel
theorem dX6_totalOf_12 : decode cX6_totalOf 12 = .ok (.iload_n 1, 1) := by decide +kernel
theorem dX6_totalOf_13 : decode cX6_totalOf 13 = .ok (.iaload, 1) := by decide +kernel
theorem dX6_totalOf_14 : decode cX6_totalOf 14 = .ok (.if_icmp .ge 20, 3) := by decide +kernel
theorem dX6_totalOf_17 : decode cX6_totalOf 17 = .ok (.iload_n 2, 1) := by decide +kernel
theorem dX6_totalOf_18 : decode cX6_totalOf 18 = .ok (.aload_n 0, 1) := by decide +kernel
theorem dX6_totalOf_19 : decode cX6_totalOf 19 = .ok (.getfield 11, 3) := by decide +kernel
theorem dX6_totalOf_22 : decode cX6_totalOf 22 = .ok (.iload_n 1, 1) := by decide +kernel
theorem dX6_totalOf_23 : decode cX6_totalOf 23 = .ok (.aaload, 1) := by decide +kernel
theorem dX6_totalOf_24 : decode cX6_totalOf 24 = .ok (.iload_n 3, 1) := by decide +kernel
theorem dX6_totalOf_25 : decode cX6_totalOf 25 = .ok (.iaload, 1) := by decide +kernel
theorem dX6_totalOf_26 : decode cX6_totalOf 26 = .ok (.iadd, 1) := by decide +kernel
theorem dX6_totalOf_27 : decode cX6_totalOf 27 = .ok (.istore_n 2, 1) := by decide +kernel
theorem dX6_totalOf_28 : decode cX6_totalOf 28 = .ok (.iinc 3 1, 3) := by decide +kernel
theorem dX6_totalOf_31 : decode cX6_totalOf 31 = .ok (.goto (-27), 3) := by decide +kernel
theorem dX6_totalOf_34 : decode cX6_totalOf 34 = .ok (.iload_n 2, 1) := by decide +kernel
theorem dX6_totalOf_35 : decode cX6_totalOf 35 = .ok (.ireturn, 1) := by decide +kernel
theorem dX7_add_0 : decode cX7_add 0 = .ok (.aload_n 0, 1) := by decide +kernel
theorem dX7_add_1 : decode cX7_add 1 = .ok (.getfield 22, 3) := by decide +kernel
theorem dX7_add_4 : decode cX7_add 4 = .ok (.bipush 8, 2) := by decide +kernel
theorem dX7_add_6 : decode cX7_add 6 = .ok (.if_icmp .lt 5, 3) := by decide +kernel
theorem dX7_add_9 : decode cX7_add 9 = .ok (.iconst 0, 1) := by decide +kernel
theorem dX7_add_10 : decode cX7_add 10 = .ok (.ireturn, 1) := by decide +kernel
theorem dX7_add_11 : decode cX7_add 11 = .ok (.aload_n 0, 1) := by decide +kernel
theorem dX7_add_12 : decode cX7_add 12 = .ok (.getfield 9, 3) := by decide +kernel
theorem dX7_add_15 : decode cX7_add 15 = .ok (.aload_n 0, 1) := by decide +kernel
theorem dX7_add_16 : decode cX7_add 16 = .ok (.getfield 22, 3) := by decide +kernel
theorem dX7_add_19 : decode cX7_add 19 = .ok (.iload_n 1, 1) := by decide +kernel
theorem dX7_add_20 : decode cX7_add 20 = .ok (.iastore, 1) := by decide +kernel
theorem dX7_add_21 : decode cX7_add 21 = .ok (.aload_n 0, 1) := by decide +kernel
theorem dX7_add_22 : decode cX7_add 22 = .ok (.getfield 15, 3) := by decide +kernel
theorem dX7_add_25 : decode cX7_add 25 = .ok (.aload_n 0, 1) := by decide +kernel
theorem dX7_add_26 : decode cX7_add 26 = .ok (.getfield 22, 3) := by decide +kernel
theorem dX7_add_29 : decode cX7_add 29 = .ok (.iload_n 2, 1) := by decide +kernel
theorem dX7_add_30 : decode cX7_add 30 = .ok (.iastore, 1) := by decide +kernel
theorem dX7_add_31 : decode cX7_add 31 = .ok (.aload_n 0, 1) := by decide +kernel
theorem dX7_add_32 : decode cX7_add 32 = .ok (.getfield 18, 3) := by decide +kernel
theorem dX7_add_35 : decode cX7_add 35 = .ok (.aload_n 0, 1) := by decide +kernel
theorem dX7_add_36 : decode cX7_add 36 = .ok (.getfield 22, 3) := by decide +kernel
theorem dX7_add_39 : decode cX7_add 39 = .ok (.iload_n 3, 1) := by decide +kernel
theorem dX7_add_40 : decode cX7_add 40 = .ok (.bastore, 1) := by decide +kernel
theorem dX7_add_41 : decode cX7_add 41 = .ok (.aload_n 0, 1) := by decide +kernel
theorem dX7_add_42 : decode cX7_add 42 = .ok (.dup, 1) := by decide +kernel
theorem dX7_add_43 : decode cX7_add 43 = .ok (.getfield 22, 3) := by decide +kernel
theorem dX7_add_46 : decode cX7_add 46 = .ok (.iconst 1, 1) := by decide +kernel
theorem dX7_add_47 : decode cX7_add 47 = .ok (.iadd, 1) := by decide +kernel
theorem dX7_add_48 : decode cX7_add 48 = .ok (.putfield 22, 3) := by decide +kernel
theorem dX7_add_51 : decode cX7_add 51 = .ok (.iconst 1, 1) := by decide +kernel
theorem dX7_add_52 : decode cX7_add 52 = .ok (.ireturn, 1) := by decide +kernel
theorem dX7_copy_0 : decode cX7_copy 0 = .ok (.aload_n 0, 1) := by decide +kernel
theorem dX7_copy_1 : decode cX7_copy 1 = .ok (.aload_n 1, 1) := by decide +kernel
theorem dX7_copy_2 : decode cX7_copy 2 = .ok (.getfield 22, 3) := by decide +kernel
theorem dX7_copy_5 : decode cX7_copy 5 = .ok (.putfield 22, 3) := by decide +kernel
theorem dX7_copy_8 : decode cX7_copy 8 = .ok (.iconst 0, 1) := by decide +kernel
theorem dX7_copy_9 : decode cX7_copy 9 = .ok (.istore_n 2, 1) := by decide +kernel
theorem dX7_copy_10 : decode cX7_copy 10 = .ok (.iload_n 2, 1) := by decide +kernel
theorem dX7_copy_11 : decode cX7_copy 11 = .ok (.bipush 8, 2) := by decide +kernel
theorem dX7_copy_13 : decode cX7_copy 13 = .ok (.if_icmp .ge 45, 3) := by decide +kernel
theorem dX7_copy_16 : decode cX7_copy 16 = .ok (.aload_n 0, 1) := by decide +kernel
theorem dX7_copy_17 : decode cX7_copy 17 = .ok (.getfield 9, 3) := by decide +kernel
theorem dX7_copy_20 : decode cX7_copy 20 = .ok (.iload_n 2, 1) := by decide +kernel
theorem dX7_copy_21 : decode cX7_copy 21 = .ok (.aload_n 1, 1) := by decide +kernel
theorem dX7_copy_22 : decode cX7_copy 22 = .ok (.getfield 9, 3) := by decide +kernel
theorem dX7_copy_25 : decode cX7_copy 25 = .ok (.iload_n 2, 1) := by decide +kernel
theorem dX7_copy_26 : decode cX7_copy 26 = .ok (.iaload, 1) := by decide +kernel
theorem dX7_copy_27 : decode cX7_copy 27 = .ok (.iastore, 1) := by decide +kernel
theorem dX7_copy_28 : decode cX7_copy 28 = .ok (.aload_n 0, 1) := by decide +kernel
theorem dX7_copy_29 : decode cX7_copy 29 = .ok (.getfield 15, 3) := by decide +kernel
theorem dX7_copy_32 : decode cX7_copy 32 = .ok (.iload_n 2, 1) := by decide +kernel
theorem dX7_copy_33 : decode cX7_copy 33 = .ok (.aload_n 1, 1) := by decide +kernel
theorem dX7_copy_34 : decode cX7_copy 34 = .ok (.getfield 15, 3) := by decide +kernel
theorem dX7_copy_37 : decode cX7_copy 37 = .ok (.iload_n 2, 1) := by decide +kernel
theorem dX7_copy_38 : decode cX7_copy 38 = .ok (.iaload, 1) := by decide +kernel
theorem dX7_copy_39 : decode cX7_copy 39 = .ok (.iastore, 1) := by decide +kernel
theorem dX7_copy_40 : decode cX7_copy 40 = .ok (.aload_n 0, 1) := by decide +kernel
theorem dX7_copy_41 : decode cX7_copy 41 = .ok (.getfield 18, 3) := by decide +kernel
theorem dX7_copy_44 : decode cX7_copy 44 = .ok (.iload_n 2, 1) := by decide +kernel
theorem dX7_copy_45 : decode cX7_copy 45 = .ok (.aload_n 1, 1) := by decide +kernel
theorem dX7_copy_46 : decode cX7_copy 46 = .ok (.getfield 18, 3) := by decide +kernel
theorem dX7_copy_49 : decode cX7_copy 49 = .ok (.iload_n 2, 1) := by decide +kernel
theorem dX7_copy_50 : decode cX7_copy 50 = .ok (.baload, 1) := by decide +kernel
theorem dX7_copy_51 : decode cX7_copy 51 = .ok (.bastore, 1) := by decide +kernel
theorem dX7_copy_52 : decode cX7_copy 52 = .ok (.iinc 2 1, 3) := by decide +kernel
theorem dX7_copy_55 : decode cX7_copy 55 = .ok (.goto (-45), 3) := by decide +kernel
theorem dX7_copy_58 : decode cX7_copy 58 = .ok (.return_, 1) := by decide +kernel
theorem dX7_init_0 : decode cX7_init 0 = .ok (.aload_n 0, 1) := by decide +kernel
theorem dX7_init_1 : decode cX7_init 1 = .ok (.invokespecial 3, 3) := by decide +kernel
theorem dX7_init_4 : decode cX7_init 4 = .ok (.aload_n 0, 1) := by decide +kernel
theorem dX7_init_5 : decode cX7_init 5 = .ok (.bipush 8, 2) := by decide +kernel
theorem dX7_init_7 : decode cX7_init 7 = .ok (.newarray .int, 2) := by decide +kernel
theorem dX7_init_9 : decode cX7_init 9 = .ok (.putfield 9, 3) := by decide +kernel
theorem dX7_init_12 : decode cX7_init 12 = .ok (.aload_n 0, 1) := by decide +kernel
theorem dX7_init_13 : decode cX7_init 13 = .ok (.bipush 8, 2) := by decide +kernel
theorem dX7_init_15 : decode cX7_init 15 = .ok (.newarray .int, 2) := by decide +kernel
theorem dX7_init_17 : decode cX7_init 17 = .ok (.putfield 15, 3) := by decide +kernel
theorem dX7_init_20 : decode cX7_init 20 = .ok (.aload_n 0, 1) := by decide +kernel
theorem dX7_init_21 : decode cX7_init 21 = .ok (.bipush 8, 2) := by decide +kernel
theorem dX7_init_23 : decode cX7_init 23 = .ok (.newarray .boolean, 2) := by decide +kernel
theorem dX7_init_25 : decode cX7_init 25 = .ok (.putfield 18, 3) := by decide +kernel
theorem dX7_init_28 : decode cX7_init 28 = .ok (.return_, 1) := by decide +kernel
theorem dX7_suits_0 : decode cX7_suits 0 = .ok (.iconst 0, 1) := by decide +kernel
theorem dX7_suits_1 : decode cX7_suits 1 = .ok (.istore_n 2, 1) := by decide +kernel
theorem dX7_suits_2 : decode cX7_suits 2 = .ok (.iload_n 2, 1) := by decide +kernel
theorem dX7_suits_3 : decode cX7_suits 3 = .ok (.aload_n 0, 1) := by decide +kernel
theorem dX7_suits_4 : decode cX7_suits 4 = .ok (.getfield 22, 3) := by decide +kernel
theorem dX7_suits_7 : decode cX7_suits 7 = .ok (.if_icmp .ge 46, 3) := by decide +kernel
theorem dX7_suits_10 : decode cX7_suits 10 = .ok (.aload_n 1, 1) := by decide +kernel
theorem dX7_suits_11 : decode cX7_suits 11 = .ok (.aload_n 0, 1) := by decide +kernel
theorem dX7_suits_12 : decode cX7_suits 12 = .ok (.getfield 9, 3) := by decide +kernel
theorem dX7_suits_15 : decode cX7_suits 15 = .ok (.iload_n 2, 1) := by decide +kernel
theorem dX7_suits_16 : decode cX7_suits 16 = .ok (.iaload, 1) := by decide +kernel
theorem dX7_suits_17 : decode cX7_suits 17 = .ok (.invokevirtual 26, 3) := by decide +kernel
theorem dX7_suits_20 : decode cX7_suits 20 = .ok (.aload_n 0, 1) := by decide +kernel
theorem dX7_suits_21 : decode cX7_suits 21 = .ok (.getfield 15, 3) := by decide +kernel
theorem dX7_suits_24 : decode cX7_suits 24 = .ok (.iload_n 2, 1) := by decide +kernel
theorem dX7_suits_25 : decode cX7_suits 25 = .ok (.iaload, 1) := by decide +kernel
theorem dX7_suits_26 : decode cX7_suits 26 = .ok (.if_icmp .lt 7, 3) := by decide +kernel
theorem dX7_suits_29 : decode cX7_suits 29 = .ok (.iconst 1, 1) := by decide +kernel
theorem dX7_suits_30 : decode cX7_suits 30 = .ok (.goto 4, 3) := by decide +kernel
theorem dX7_suits_33 : decode cX7_suits 33 = .ok (.iconst 0, 1) := by decide +kernel
theorem dX7_suits_34 : decode cX7_suits 34 = .ok (.istore_n 3, 1) := by decide +kernel
theorem dX7_suits_35 : decode cX7_suits 35 = .ok (.iload_n 3, 1) := by decide +kernel
theorem dX7_suits_36 : decode cX7_suits 36 = .ok (.aload_n 0, 1) := by decide +kernel
theorem dX7_suits_37 : decode cX7_suits 37 = .ok (.getfield 18, 3) := by decide +kernel
theorem dX7_suits_40 : decode cX7_suits 40 = .ok (.iload_n 2, 1) := by decide +kernel
theorem dX7_suits_41 : decode cX7_suits 41 = .ok (.baload, 1) := by decide +kernel
theorem dX7_suits_42 : decode cX7_suits 42 = .ok (.if_icmp .eq 5, 3) := by decide +kernel
theorem dX7_suits_45 : decode cX7_suits 45 = .ok (.iconst 0, 1) := by decide +kernel
theorem dX7_suits_46 : decode cX7_suits 46 = .ok (.ireturn, 1) := by decide +kernel
theorem dX7_suits_47 : decode cX7_suits 47 = .ok (.iinc 2 1, 3) := by decide +kernel
theorem dX7_suits_50 : decode cX7_suits 50 = .ok (.goto (-48), 3) := by decide +kernel
theorem dX7_suits_53 : decode cX7_suits 53 = .ok (.iconst 1, 1) := by decide +kernel
theorem dX7_suits_54 : decode cX7_suits 54 = .ok (.ireturn, 1) := by decide +kernel
theorem dX8_append_0 : decode cX8_append 0 = .ok (.iload_n 1, 1) := by decide +kernel
theorem dX8_append_1 : decode cX8_append 1 = .ok (.bipush 10, 2) := by decide +kernel
theorem dX8_append_3 : decode cX8_append 3 = .ok (.if_icmp .eq 15, 3) := by decide +kernel
theorem dX8_append_6 : decode cX8_append 6 = .ok (.iload_n 1, 1) := by decide +kernel
theorem dX8_append_7 : decode cX8_append 7 = .ok (.bipush 32, 2) := by decide +kernel
theorem dX8_append_9 : decode cX8_append 9 = .ok (.if_icmp .lt 13, 3) := by decide +kernel
theorem dX8_append_12 : decode cX8_append 12 = .ok (.iload_n 1, 1) := by decide +kernel
theorem dX8_append_13 : decode cX8_append 13 = .ok (.bipush 126, 2) := by decide +kernel
theorem dX8_append_15 : decode cX8_append 15 = .ok (.if_icmp .gt 7, 3) := by decide +kernel
theorem dX8_append_18 : decode cX8_append 18 = .ok (.iconst 1, 1) := by decide +kernel
theorem dX8_append_19 : decode cX8_append 19 = .ok (.goto 4, 3) := by decide +kernel
theorem dX8_append_22 : decode cX8_append 22 = .ok (.iconst 0, 1) := by decide +kernel
theorem dX8_append_23 : decode cX8_append 23 = .ok (.istore_n 2, 1) := by decide +kernel
theorem dX8_append_24 : decode cX8_append 24 = .ok (.iload_n 2, 1) := by decide +kernel
theorem dX8_append_25 : decode cX8_append 25 = .ok (.ifCond .eq 33, 3) := by decide +kernel
theorem dX8_append_28 : decode cX8_append 28 = .ok (.aload_n 0, 1) := by decide +kernel
theorem dX8_append_29 : decode cX8_append 29 = .ok (.getfield 37, 3) := by decide +kernel
theorem dX8_append_32 : decode cX8_append 32 = .ok (.sipush 1000, 3) := by decide +kernel
theorem dX8_append_35 : decode cX8_append 35 = .ok (.if_icmp .ge 23, 3) := by decide +kernel
theorem dX8_append_38 : decode cX8_append 38 = .ok (.aload_n 0, 1) := by decide +kernel
theorem dX8_append_39 : decode cX8_append 39 = .ok (.getfield 9, 3) := by decide +kernel
theorem dX8_append_42 : decode cX8_append 42 = .ok (.aload_n 0, 1) := by decide +kernel
theorem dX8_append_43 : decode cX8_append 43 = .ok (.getfield 37, 3) := by decide +kernel
theorem dX8_append_46 : decode cX8_append 46 = .ok (.iload_n 1, 1) := by decide +kernel
theorem dX8_append_47 : decode cX8_append 47 = .ok (.castore, 1) := by decide +kernel
theorem dX8_append_48 : decode cX8_append 48 = .ok (.aload_n 0, 1) := by decide +kernel
theorem dX8_append_49 : decode cX8_append 49 = .ok (.dup, 1) := by decide +kernel
theorem dX8_append_50 : decode cX8_append 50 = .ok (.getfield 37, 3) := by decide +kernel
theorem dX8_append_53 : decode cX8_append 53 = .ok (.iconst 1, 1) := by decide +kernel
theorem dX8_append_54 : decode cX8_append 54 = .ok (.iadd, 1) := by decide +kernel
theorem dX8_append_55 : decode cX8_append 55 = .ok (.putfield 37, 3) := by decide +kernel
theorem dX8_append_58 : decode cX8_append 58 = .ok (.return_, 1) := by decide +kernel
theorem dX8_begin_0 : decode cX8_begin 0 = .ok (.aload_n 0, 1) := by decide +kernel
theorem dX8_begin_1 : decode cX8_begin 1 = .ok (.iconst 0, 1) := by decide +kernel
theorem dX8_begin_2 : decode cX8_begin 2 = .ok (.putfield 40, 3) := by decide +kernel
theorem dX8_begin_5 : decode cX8_begin 5 = .ok (.aload_n 0, 1) := by decide +kernel
theorem dX8_begin_6 : decode cX8_begin 6 = .ok (.iconst 0, 1) := by decide +kernel
theorem dX8_begin_7 : decode cX8_begin 7 = .ok (.putfield 43, 3) := by decide +kernel
theorem dX8_begin_10 : decode cX8_begin 10 = .ok (.aload_n 0, 1) := by decide +kernel
theorem dX8_begin_11 : decode cX8_begin 11 = .ok (.invokevirtual 46, 3) := by decide +kernel
theorem dX8_begin_14 : decode cX8_begin 14 = .ok (.return_, 1) := by decide +kernel
theorem dX8_empty_0 : decode cX8_empty 0 = .ok (.aload_n 0, 1) := by decide +kernel
theorem dX8_empty_1 : decode cX8_empty 1 = .ok (.iconst 0, 1) := by decide +kernel
theorem dX8_empty_2 : decode cX8_empty 2 = .ok (.putfield 37, 3) := by decide +kernel
theorem dX8_empty_5 : decode cX8_empty 5 = .ok (.return_, 1) := by decide +kernel
theorem dX8_hasNumber_0 : decode cX8_hasNumber 0 = .ok (.aload_n 0, 1) := by decide +kernel
theorem dX8_hasNumber_1 : decode cX8_hasNumber 1 = .ok (.getfield 52, 3) := by decide +kernel
theorem dX8_hasNumber_4 : decode cX8_hasNumber 4 = .ok (.iconst 2, 1) := by decide +kernel
theorem dX8_hasNumber_5 : decode cX8_hasNumber 5 = .ok (.if_icmp .eq 9, 3) := by decide +kernel
theorem dX8_hasNumber_8 : decode cX8_hasNumber 8 = .ok (.aload_n 0, 1) := by decide +kernel
theorem dX8_hasNumber_9 : decode cX8_hasNumber 9 = .ok (.iconst 1, 1) := by decide +kernel
theorem dX8_hasNumber_10 : decode cX8_hasNumber 10 = .ok (.invokevirtual 87, 3) := by decide +kernel
theorem dX8_hasNumber_13 : decode cX8_hasNumber 13 = .ok (.ireturn, 1) := by decide +kernel
theorem dX8_hasNumber_14 : decode cX8_hasNumber 14 = .ok (.aload_n 0, 1) := by decide +kernel
theorem dX8_hasNumber_15 : decode cX8_hasNumber 15 = .ok (.getfield 80, 3) := by decide +kernel
theorem dX8_hasNumber_18 : decode cX8_hasNumber 18 = .ok (.iload_n 1, 1) := by decide +kernel
theorem dX8_hasNumber_19 : decode cX8_hasNumber 19 = .ok (.if_icmp .lt 11, 3) := by decide +kernel
theorem dX8_hasNumber_22 : decode cX8_hasNumber 22 = .ok (.aload_n 0, 1) := by decide +kernel
theorem dX8_hasNumber_23 : decode cX8_hasNumber 23 = .ok (.getfield 80, 3) := by decide +kernel
theorem dX8_hasNumber_26 : decode cX8_hasNumber 26 = .ok (.iload_n 2, 1) := by decide +kernel
theorem dX8_hasNumber_27 : decode cX8_hasNumber 27 = .ok (.if_icmp .le 11, 3) := by decide +kernel
theorem dX8_hasNumber_30 : decode cX8_hasNumber 30 = .ok (.aload_n 0, 1) := by decide +kernel
theorem dX8_hasNumber_31 : decode cX8_hasNumber 31 = .ok (.iconst 4, 1) := by decide +kernel
theorem dX8_hasNumber_32 : decode cX8_hasNumber 32 = .ok (.invokevirtual 87, 3) := by decide +kernel
theorem dX8_hasNumber_35 : decode cX8_hasNumber 35 = .ok (.ifCond .eq 7, 3) := by decide +kernel
theorem dX8_hasNumber_38 : decode cX8_hasNumber 38 = .ok (.iconst 1, 1) := by decide +kernel
theorem dX8_hasNumber_39 : decode cX8_hasNumber 39 = .ok (.goto 4, 3) := by decide +kernel
theorem dX8_hasNumber_42 : decode cX8_hasNumber 42 = .ok (.iconst 0, 1) := by decide +kernel
theorem dX8_hasNumber_43 : decode cX8_hasNumber 43 = .ok (.ireturn, 1) := by decide +kernel
theorem dX8_init_0 : decode cX8_init 0 = .ok (.aload_n 0, 1) := by decide +kernel
theorem dX8_init_1 : decode cX8_init 1 = .ok (.invokespecial 3, 3) := by decide +kernel
theorem dX8_init_4 : decode cX8_init 4 = .ok (.aload_n 0, 1) := by decide +kernel
theorem dX8_init_5 : decode cX8_init 5 = .ok (.sipush 1000, 3) := by decide +kernel
theorem dX8_init_8 : decode cX8_init 8 = .ok (.newarray .char, 2) := by decide +kernel
theorem dX8_init_10 : decode cX8_init 10 = .ok (.putfield 9, 3) := by decide +kernel
theorem dX8_init_13 : decode cX8_init 13 = .ok (.aload_n 0, 1) := by decide +kernel
theorem dX8_init_14 : decode cX8_init 14 = .ok (.bipush 23, 2) := by decide +kernel
theorem dX8_init_16 : decode cX8_init 16 = .ok (.newarray .long, 2) := by decide +kernel
theorem dX8_init_18 : decode cX8_init 18 = .ok (.putfield 15, 3) := by decide +kernel
theorem dX8_init_21 : decode cX8_init 21 = .ok (.iconst 0, 1) := by decide +kernel
theorem dX8_init_22 : decode cX8_init 22 = .ok (.istore_n 1, 1) := by decide +kernel
theorem dX8_init_23 : decode cX8_init 23 = .ok (.lconst 0, 1) := by decide +kernel
theorem dX8_init_24 : decode cX8_init 24 = .ok (.lstore_n 2, 1) := by decide +kernel
theorem dX8_init_25 : decode cX8_init 25 = .ok (.iconst 0, 1) := by decide +kernel
theorem dX8_init_26 : decode cX8_init 26 = .ok (.istore 4, 2) := by decide +kernel
theorem dX8_init_28 : decode cX8_init 28 = .ok (.iload 4, 2) := by decide +kernel
theorem dX8_init_30 : decode cX8_init 30 = .ok (.ldc 19, 2) := by decide +kernel
theorem dX8_init_32 : decode cX8_init 32 = .ok (.invokevirtual 21, 3) := by decide +kernel
theorem dX8_init_35 : decode cX8_init 35 = .ok (.if_icmp .ge 54, 3) := by decide +kernel
theorem dX8_init_38 : decode cX8_init 38 = .ok (.ldc 19, 2) := by decide +kernel
theorem dX8_init_40 : decode cX8_init 40 = .ok (.iload 4, 2) := by decide +kernel
theorem dX8_init_42 : decode cX8_init 42 = .ok (.invokevirtual 27, 3) := by decide +kernel
theorem dX8_init_45 : decode cX8_init 45 = .ok (.bipush 32, 2) := by decide +kernel
theorem dX8_init_47 : decode cX8_init 47 = .ok (.if_icmp .eq 18, 3) := by decide +kernel
theorem dX8_init_50 : decode cX8_init 50 = .ok (.lload_n 2, 1) := by decide +kernel
theorem dX8_init_51 : decode cX8_init 51 = .ok (.ldc 19, 2) := by decide +kernel
theorem dX8_init_53 : decode cX8_init 53 = .ok (.iload 4, 2) := by decide +kernel
theorem dX8_init_55 : decode cX8_init 55 = .ok (.invokevirtual 27, 3) := by decide +kernel
theorem dX8_init_58 : decode cX8_init 58 = .ok (.invokestatic 31, 3) := by decide +kernel
theorem dX8_init_61 : decode cX8_init 61 = .ok (.lstore_n 2, 1) := by decide +kernel
theorem dX8_init_62 : decode cX8_init 62 = .ok (.goto 21, 3) := by decide +kernel
theorem dX8_init_65 : decode cX8_init 65 = .ok (.iload_n 1, 1) := by decide +kernel
theorem dX8_init_66 : decode cX8_init 66 = .ok (.bipush 23, 2) := by decide +kernel
theorem dX8_init_68 : decode cX8_init 68 = .ok (.if_icmp .ge 15, 3) := by decide +kernel
theorem dX8_init_71 : decode cX8_init 71 = .ok (.aload_n 0, 1) := by decide +kernel
theorem dX8_init_72 : decode cX8_init 72 = .ok (.getfield 15, 3) := by decide +kernel
theorem dX8_init_75 : decode cX8_init 75 = .ok (.iload_n 1, 1) := by decide +kernel
theorem dX8_init_76 : decode cX8_init 76 = .ok (.lload_n 2, 1) := by decide +kernel
theorem dX8_init_77 : decode cX8_init 77 = .ok (.lastore, 1) := by decide +kernel
theorem dX8_init_78 : decode cX8_init 78 = .ok (.iinc 1 1, 3) := by decide +kernel
theorem dX8_init_81 : decode cX8_init 81 = .ok (.lconst 0, 1) := by decide +kernel
theorem dX8_init_82 : decode cX8_init 82 = .ok (.lstore_n 2, 1) := by decide +kernel
theorem dX8_init_83 : decode cX8_init 83 = .ok (.iinc 4 1, 3) := by decide +kernel
theorem dX8_init_86 : decode cX8_init 86 = .ok (.goto (-58), 3) := by decide +kernel
theorem dX8_init_89 : decode cX8_init 89 = .ok (.return_, 1) := by decide +kernel
theorem dX8_isDigit_0 : decode cX8_isDigit 0 = .ok (.iload_n 0, 1) := by decide +kernel
theorem dX8_isDigit_1 : decode cX8_isDigit 1 = .ok (.bipush 48, 2) := by decide +kernel
theorem dX8_isDigit_3 : decode cX8_isDigit 3 = .ok (.if_icmp .lt 13, 3) := by decide +kernel
theorem dX8_isDigit_6 : decode cX8_isDigit 6 = .ok (.iload_n 0, 1) := by decide +kernel
theorem dX8_isDigit_7 : decode cX8_isDigit 7 = .ok (.bipush 57, 2) := by decide +kernel
theorem dX8_isDigit_9 : decode cX8_isDigit 9 = .ok (.if_icmp .gt 7, 3) := by decide +kernel
theorem dX8_isDigit_12 : decode cX8_isDigit 12 = .ok (.iconst 1, 1) := by decide +kernel
theorem dX8_isDigit_13 : decode cX8_isDigit 13 = .ok (.goto 4, 3) := by decide +kernel
theorem dX8_isDigit_16 : decode cX8_isDigit 16 = .ok (.iconst 0, 1) := by decide +kernel
theorem dX8_isDigit_17 : decode cX8_isDigit 17 = .ok (.ireturn, 1) := by decide +kernel
theorem dX8_isFact_0 : decode cX8_isFact 0 = .ok (.aload_n 0, 1) := by decide +kernel
theorem dX8_isFact_1 : decode cX8_isFact 1 = .ok (.getfield 52, 3) := by decide +kernel
theorem dX8_isFact_4 : decode cX8_isFact 4 = .ok (.sipush 147, 3) := by decide +kernel
theorem dX8_isFact_7 : decode cX8_isFact 7 = .ok (.if_icmp .lt 17, 3) := by decide +kernel
theorem dX8_isFact_10 : decode cX8_isFact 10 = .ok (.aload_n 0, 1) := by decide +kernel
theorem dX8_isFact_11 : decode cX8_isFact 11 = .ok (.getfield 52, 3) := by decide +kernel
theorem dX8_isFact_14 : decode cX8_isFact 14 = .ok (.sipush 150, 3) := by decide +kernel
theorem dX8_isFact_17 : decode cX8_isFact 17 = .ok (.if_icmp .gt 7, 3) := by decide +kernel
theorem dX8_isFact_20 : decode cX8_isFact 20 = .ok (.iconst 1, 1) := by decide +kernel
theorem dX8_isFact_21 : decode cX8_isFact 21 = .ok (.goto 4, 3) := by decide +kernel
theorem dX8_isFact_24 : decode cX8_isFact 24 = .ok (.iconst 0, 1) := by decide +kernel
theorem dX8_isFact_25 : decode cX8_isFact 25 = .ok (.ireturn, 1) := by decide +kernel
theorem dX8_isLetter_0 : decode cX8_isLetter 0 = .ok (.iload_n 0, 1) := by decide +kernel
theorem dX8_isLetter_1 : decode cX8_isLetter 1 = .ok (.bipush 97, 2) := by decide +kernel
theorem dX8_isLetter_3 : decode cX8_isLetter 3 = .ok (.if_icmp .lt 13, 3) := by decide +kernel
theorem dX8_isLetter_6 : decode cX8_isLetter 6 = .ok (.iload_n 0, 1) := by decide +kernel
theorem dX8_isLetter_7 : decode cX8_isLetter 7 = .ok (.bipush 122, 2) := by decide +kernel
theorem dX8_isLetter_9 : decode cX8_isLetter 9 = .ok (.if_icmp .gt 7, 3) := by decide +kernel
theorem dX8_isLetter_12 : decode cX8_isLetter 12 = .ok (.iconst 1, 1) := by decide +kernel
theorem dX8_isLetter_13 : decode cX8_isLetter 13 = .ok (.goto 4, 3) := by decide +kernel
theorem dX8_isLetter_16 : decode cX8_isLetter 16 = .ok (.iconst 0, 1) := by decide +kernel
theorem dX8_isLetter_17 : decode cX8_isLetter 17 = .ok (.ireturn, 1) := by decide +kernel
theorem dX8_isName_0 : decode cX8_isName 0 = .ok (.aload_n 0, 1) := by decide +kernel
theorem dX8_isName_1 : decode cX8_isName 1 = .ok (.getfield 52, 3) := by decide +kernel
theorem dX8_isName_4 : decode cX8_isName 4 = .ok (.iconst 3, 1) := by decide +kernel
theorem dX8_isName_5 : decode cX8_isName 5 = .ok (.if_icmp .eq 10, 3) := by decide +kernel
theorem dX8_isName_8 : decode cX8_isName 8 = .ok (.aload_n 0, 1) := by decide +kernel
theorem dX8_isName_9 : decode cX8_isName 9 = .ok (.invokevirtual 83, 3) := by decide +kernel
theorem dX8_isName_12 : decode cX8_isName 12 = .ok (.ifCond .eq 7, 3) := by decide +kernel
theorem dX8_isName_15 : decode cX8_isName 15 = .ok (.iconst 1, 1) := by decide +kernel
theorem dX8_isName_16 : decode cX8_isName 16 = .ok (.goto 4, 3) := by decide +kernel
theorem dX8_isName_19 : decode cX8_isName 19 = .ok (.iconst 0, 1) := by decide +kernel
theorem dX8_isName_20 : decode cX8_isName 20 = .ok (.ireturn, 1) := by decide +kernel
theorem dX8_kindOfSign_0 : decode cX8_kindOfSign 0 = .ok (.iload_n 0, 1) := by decide +kernel
theorem dX8_kindOfSign_1 : decode cX8_kindOfSign 1 = .ok (.tableswitch 105 40 61 #[103, 103, 103, 103, 105, 103, 105, 105, 105, 105, 105, 105, 105, 105, 105, 105, 105, 105, 105, 103, 103, 103], 103) := by decide +kernel
theorem dX8_kindOfSign_104 : decode cX8_kindOfSign 104 = .ok (.iload_n 0, 1) := by decide +kernel
theorem dX8_kindOfSign_105 : decode cX8_kindOfSign 105 = .ok (.ireturn, 1) := by decide +kernel
theorem dX8_kindOfSign_106 : decode cX8_kindOfSign 106 = .ok (.iconst 1, 1) := by decide +kernel
theorem dX8_kindOfSign_107 : decode cX8_kindOfSign 107 = .ok (.ireturn, 1) := by decide +kernel
theorem dX8_kindOfWord_0 : decode cX8_kindOfWord 0 = .ok (.iconst 0, 1) := by decide +kernel
theorem dX8_kindOfWord_1 : decode cX8_kindOfWord 1 = .ok (.istore_n 3, 1) := by decide +kernel
theorem dX8_kindOfWord_2 : decode cX8_kindOfWord 2 = .ok (.iload_n 3, 1) := by decide +kernel
theorem dX8_kindOfWord_3 : decode cX8_kindOfWord 3 = .ok (.bipush 23, 2) := by decide +kernel
theorem dX8_kindOfWord_5 : decode cX8_kindOfWord 5 = .ok (.if_icmp .ge 26, 3) := by decide +kernel
theorem dX8_kindOfWord_8 : decode cX8_kindOfWord 8 = .ok (.aload_n 0, 1) := by decide +kernel
theorem dX8_kindOfWord_9 : decode cX8_kindOfWord 9 = .ok (.getfield 15, 3) := by decide +kernel
theorem dX8_kindOfWord_12 : decode cX8_kindOfWord 12 = .ok (.iload_n 3, 1) := by decide +kernel
theorem dX8_kindOfWord_13 : decode cX8_kindOfWord 13 = .ok (.laload, 1) := by decide +kernel
theorem dX8_kindOfWord_14 : decode cX8_kindOfWord 14 = .ok (.lload_n 1, 1) := by decide +kernel
theorem dX8_kindOfWord_15 : decode cX8_kindOfWord 15 = .ok (.lcmp, 1) := by decide +kernel
theorem dX8_kindOfWord_16 : decode cX8_kindOfWord 16 = .ok (.ifCond .ne 9, 3) := by decide +kernel
theorem dX8_kindOfWord_19 : decode cX8_kindOfWord 19 = .ok (.sipush 128, 3) := by decide +kernel
theorem dX8_kindOfWord_22 : decode cX8_kindOfWord 22 = .ok (.iload_n 3, 1) := by decide +kernel
theorem dX8_kindOfWord_23 : decode cX8_kindOfWord 23 = .ok (.iadd, 1) := by decide +kernel
theorem dX8_kindOfWord_24 : decode cX8_kindOfWord 24 = .ok (.ireturn, 1) := by decide +kernel
theorem dX8_kindOfWord_25 : decode cX8_kindOfWord 25 = .ok (.iinc 3 1, 3) := by decide +kernel
theorem dX8_kindOfWord_28 : decode cX8_kindOfWord 28 = .ok (.goto (-26), 3) := by decide +kernel
theorem dX8_kindOfWord_31 : decode cX8_kindOfWord 31 = .ok (.iconst 3, 1) := by decide +kernel
theorem dX8_kindOfWord_32 : decode cX8_kindOfWord 32 = .ok (.ireturn, 1) := by decide +kernel
theorem dX8_readNumber_0 : decode cX8_readNumber 0 = .ok (.aload_n 0, 1) := by decide +kernel
theorem dX8_readNumber_1 : decode cX8_readNumber 1 = .ok (.iconst 0, 1) := by decide +kernel
theorem dX8_readNumber_2 : decode cX8_readNumber 2 = .ok (.putfield 80, 3) := by decide +kernel
theorem dX8_readNumber_5 : decode cX8_readNumber 5 = .ok (.aload_n 0, 1) := by decide +kernel
theorem dX8_readNumber_6 : decode cX8_readNumber 6 = .ok (.getfield 40, 3) := by decide +kernel
theorem dX8_readNumber_9 : decode cX8_readNumber 9 = .ok (.aload_n 0, 1) := by decide +kernel
theorem dX8_readNumber_10 : decode cX8_readNumber 10 = .ok (.getfield 37, 3) := by decide +kernel
theorem dX8_readNumber_13 : decode cX8_readNumber 13 = .ok (.if_icmp .ge 55, 3) := by decide +kernel
theorem dX8_readNumber_16 : decode cX8_readNumber 16 = .ok (.aload_n 0, 1) := by decide +kernel
theorem dX8_readNumber_17 : decode cX8_readNumber 17 = .ok (.getfield 9, 3) := by decide +kernel
theorem dX8_readNumber_20 : decode cX8_readNumber 20 = .ok (.aload_n 0, 1) := by decide +kernel
theorem dX8_readNumber_21 : decode cX8_readNumber 21 = .ok (.getfield 40, 3) := by decide +kernel
theorem dX8_readNumber_24 : decode cX8_readNumber 24 = .ok (.caload, 1) := by decide +kernel
theorem dX8_readNumber_25 : decode cX8_readNumber 25 = .ok (.invokestatic 62, 3) := by decide +kernel
theorem dX8_readNumber_28 : decode cX8_readNumber 28 = .ok (.ifCond .eq 40, 3) := by decide +kernel
theorem dX8_readNumber_31 : decode cX8_readNumber 31 = .ok (.aload_n 0, 1) := by decide +kernel
theorem dX8_readNumber_32 : decode cX8_readNumber 32 = .ok (.aload_n 0, 1) := by decide +kernel
theorem dX8_readNumber_33 : decode cX8_readNumber 33 = .ok (.getfield 80, 3) := by decide +kernel
theorem dX8_readNumber_36 : decode cX8_readNumber 36 = .ok (.bipush 10, 2) := by decide +kernel
theorem dX8_readNumber_38 : decode cX8_readNumber 38 = .ok (.imul, 1) := by decide +kernel
theorem dX8_readNumber_39 : decode cX8_readNumber 39 = .ok (.aload_n 0, 1) := by decide +kernel
theorem dX8_readNumber_40 : decode cX8_readNumber 40 = .ok (.getfield 9, 3) := by decide +kernel
theorem dX8_readNumber_43 : decode cX8_readNumber 43 = .ok (.aload_n 0, 1) := by decide +kernel
theorem dX8_readNumber_44 : decode cX8_readNumber 44 = .ok (.getfield 40, 3) := by decide +kernel
theorem dX8_readNumber_47 : decode cX8_readNumber 47 = .ok (.caload, 1) := by decide +kernel
theorem dX8_readNumber_48 : decode cX8_readNumber 48 = .ok (.bipush 48, 2) := by decide +kernel
theorem dX8_readNumber_50 : decode cX8_readNumber 50 = .ok (.isub, 1) := by decide +kernel
theorem dX8_readNumber_51 : decode cX8_readNumber 51 = .ok (.iadd, 1) := by decide +kernel
theorem dX8_readNumber_52 : decode cX8_readNumber 52 = .ok (.putfield 80, 3) := by decide +kernel
theorem dX8_readNumber_55 : decode cX8_readNumber 55 = .ok (.aload_n 0, 1) := by decide +kernel
theorem dX8_readNumber_56 : decode cX8_readNumber 56 = .ok (.dup, 1) := by decide +kernel
theorem dX8_readNumber_57 : decode cX8_readNumber 57 = .ok (.getfield 40, 3) := by decide +kernel
theorem dX8_readNumber_60 : decode cX8_readNumber 60 = .ok (.iconst 1, 1) := by decide +kernel
theorem dX8_readNumber_61 : decode cX8_readNumber 61 = .ok (.iadd, 1) := by decide +kernel
theorem dX8_readNumber_62 : decode cX8_readNumber 62 = .ok (.putfield 40, 3) := by decide +kernel
theorem dX8_readNumber_65 : decode cX8_readNumber 65 = .ok (.goto (-60), 3) := by decide +kernel
theorem dX8_readNumber_68 : decode cX8_readNumber 68 = .ok (.aload_n 0, 1) := by decide +kernel
theorem dX8_readNumber_69 : decode cX8_readNumber 69 = .ok (.aload_n 0, 1) := by decide +kernel
theorem dX8_readNumber_70 : decode cX8_readNumber 70 = .ok (.getfield 40, 3) := by decide +kernel
theorem dX8_readNumber_73 : decode cX8_readNumber 73 = .ok (.aload_n 0, 1) := by decide +kernel
theorem dX8_readNumber_74 : decode cX8_readNumber 74 = .ok (.getfield 49, 3) := by decide +kernel
theorem dX8_readNumber_77 : decode cX8_readNumber 77 = .ok (.isub, 1) := by decide +kernel
theorem dX8_readNumber_78 : decode cX8_readNumber 78 = .ok (.iconst 4, 1) := by decide +kernel
theorem dX8_readNumber_79 : decode cX8_readNumber 79 = .ok (.if_icmp .le 7, 3) := by decide +kernel
theorem dX8_readNumber_82 : decode cX8_readNumber 82 = .ok (.iconst 1, 1) := by decide +kernel
theorem dX8_readNumber_83 : decode cX8_readNumber 83 = .ok (.goto 4, 3) := by decide +kernel
theorem dX8_readNumber_86 : decode cX8_readNumber 86 = .ok (.iconst 2, 1) := by decide +kernel
theorem dX8_readNumber_87 : decode cX8_readNumber 87 = .ok (.putfield 52, 3) := by decide +kernel
theorem dX8_readNumber_90 : decode cX8_readNumber 90 = .ok (.return_, 1) := by decide +kernel
theorem dX8_readWord_0 : decode cX8_readWord 0 = .ok (.aload_n 0, 1) := by decide +kernel
theorem dX8_readWord_1 : decode cX8_readWord 1 = .ok (.lconst 0, 1) := by decide +kernel
theorem dX8_readWord_2 : decode cX8_readWord 2 = .ok (.putfield 72, 3) := by decide +kernel
theorem dX8_readWord_5 : decode cX8_readWord 5 = .ok (.aload_n 0, 1) := by decide +kernel
theorem dX8_readWord_6 : decode cX8_readWord 6 = .ok (.getfield 40, 3) := by decide +kernel
theorem dX8_readWord_9 : decode cX8_readWord 9 = .ok (.aload_n 0, 1) := by decide +kernel
theorem dX8_readWord_10 : decode cX8_readWord 10 = .ok (.getfield 37, 3) := by decide +kernel
theorem dX8_readWord_13 : decode cX8_readWord 13 = .ok (.if_icmp .ge 51, 3) := by decide +kernel
theorem dX8_readWord_16 : decode cX8_readWord 16 = .ok (.aload_n 0, 1) := by decide +kernel
theorem dX8_readWord_17 : decode cX8_readWord 17 = .ok (.getfield 9, 3) := by decide +kernel
theorem dX8_readWord_20 : decode cX8_readWord 20 = .ok (.aload_n 0, 1) := by decide +kernel
theorem dX8_readWord_21 : decode cX8_readWord 21 = .ok (.getfield 40, 3) := by decide +kernel
theorem dX8_readWord_24 : decode cX8_readWord 24 = .ok (.caload, 1) := by decide +kernel
theorem dX8_readWord_25 : decode cX8_readWord 25 = .ok (.invokestatic 55, 3) := by decide +kernel
theorem dX8_readWord_28 : decode cX8_readWord 28 = .ok (.ifCond .eq 36, 3) := by decide +kernel
theorem dX8_readWord_31 : decode cX8_readWord 31 = .ok (.aload_n 0, 1) := by decide +kernel
theorem dX8_readWord_32 : decode cX8_readWord 32 = .ok (.aload_n 0, 1) := by decide +kernel
theorem dX8_readWord_33 : decode cX8_readWord 33 = .ok (.getfield 72, 3) := by decide +kernel
theorem dX8_readWord_36 : decode cX8_readWord 36 = .ok (.aload_n 0, 1) := by decide +kernel
theorem dX8_readWord_37 : decode cX8_readWord 37 = .ok (.getfield 9, 3) := by decide +kernel
theorem dX8_readWord_40 : decode cX8_readWord 40 = .ok (.aload_n 0, 1) := by decide +kernel
theorem dX8_readWord_41 : decode cX8_readWord 41 = .ok (.getfield 40, 3) := by decide +kernel
theorem dX8_readWord_44 : decode cX8_readWord 44 = .ok (.caload, 1) := by decide +kernel
theorem dX8_readWord_45 : decode cX8_readWord 45 = .ok (.invokestatic 31, 3) := by decide +kernel
theorem dX8_readWord_48 : decode cX8_readWord 48 = .ok (.putfield 72, 3) := by decide +kernel
theorem dX8_readWord_51 : decode cX8_readWord 51 = .ok (.aload_n 0, 1) := by decide +kernel
theorem dX8_readWord_52 : decode cX8_readWord 52 = .ok (.dup, 1) := by decide +kernel
theorem dX8_readWord_53 : decode cX8_readWord 53 = .ok (.getfield 40, 3) := by decide +kernel
theorem dX8_readWord_56 : decode cX8_readWord 56 = .ok (.iconst 1, 1) := by decide +kernel
theorem dX8_readWord_57 : decode cX8_readWord 57 = .ok (.iadd, 1) := by decide +kernel
theorem dX8_readWord_58 : decode cX8_readWord 58 = .ok (.putfield 40, 3) := by decide +kernel
theorem dX8_readWord_61 : decode cX8_readWord 61 = .ok (.goto (-56), 3) := by decide +kernel
theorem dX8_readWord_64 : decode cX8_readWord 64 = .ok (.aload_n 0, 1) := by decide +kernel
theorem dX8_readWord_65 : decode cX8_readWord 65 = .ok (.aload_n 0, 1) := by decide +kernel
theorem dX8_readWord_66 : decode cX8_readWord 66 = .ok (.getfield 40, 3) := by decide +kernel
theorem dX8_readWord_69 : decode cX8_readWord 69 = .ok (.aload_n 0, 1) := by decide +kernel
theorem dX8_readWord_70 : decode cX8_readWord 70 = .ok (.getfield 49, 3) := by decide +kernel
theorem dX8_readWord_73 : decode cX8_readWord 73 = .ok (.isub, 1) := by decide +kernel
theorem dX8_readWord_74 : decode cX8_readWord 74 = .ok (.bipush 8, 2) := by decide +kernel
theorem dX8_readWord_76 : decode cX8_readWord 76 = .ok (.if_icmp .le 7, 3) := by decide +kernel
theorem dX8_readWord_79 : decode cX8_readWord 79 = .ok (.iconst 1, 1) := by decide +kernel
theorem dX8_readWord_80 : decode cX8_readWord 80 = .ok (.goto 11, 3) := by decide +kernel
theorem dX8_readWord_83 : decode cX8_readWord 83 = .ok (.aload_n 0, 1) := by decide +kernel
theorem dX8_readWord_84 : decode cX8_readWord 84 = .ok (.aload_n 0, 1) := by decide +kernel
theorem dX8_readWord_85 : decode cX8_readWord 85 = .ok (.getfield 72, 3) := by decide +kernel
theorem dX8_readWord_88 : decode cX8_readWord 88 = .ok (.invokevirtual 76, 3) := by decide +kernel
theorem dX8_readWord_91 : decode cX8_readWord 91 = .ok (.putfield 52, 3) := by decide +kernel
theorem dX8_readWord_94 : decode cX8_readWord 94 = .ok (.return_, 1) := by decide +kernel
theorem dX8_step_0 : decode cX8_step 0 = .ok (.aload_n 0, 1) := by decide +kernel
theorem dX8_step_1 : decode cX8_step 1 = .ok (.aload_n 0, 1) := by decide +kernel
theorem dX8_step_2 : decode cX8_step 2 = .ok (.getfield 40, 3) := by decide +kernel
theorem dX8_step_5 : decode cX8_step 5 = .ok (.putfield 49, 3) := by decide +kernel
theorem dX8_step_8 : decode cX8_step 8 = .ok (.aload_n 0, 1) := by decide +kernel
theorem dX8_step_9 : decode cX8_step 9 = .ok (.getfield 49, 3) := by decide +kernel
theorem dX8_step_12 : decode cX8_step 12 = .ok (.aload_n 0, 1) := by decide +kernel
theorem dX8_step_13 : decode cX8_step 13 = .ok (.getfield 37, 3) := by decide +kernel
theorem dX8_step_16 : decode cX8_step 16 = .ok (.if_icmp .ge 44, 3) := by decide +kernel
theorem dX8_step_19 : decode cX8_step 19 = .ok (.aload_n 0, 1) := by decide +kernel
theorem dX8_step_20 : decode cX8_step 20 = .ok (.getfield 9, 3) := by decide +kernel
theorem dX8_step_23 : decode cX8_step 23 = .ok (.aload_n 0, 1) := by decide +kernel
theorem dX8_step_24 : decode cX8_step 24 = .ok (.getfield 49, 3) := by decide +kernel
theorem dX8_step_27 : decode cX8_step 27 = .ok (.caload, 1) := by decide +kernel
theorem dX8_step_28 : decode cX8_step 28 = .ok (.bipush 10, 2) := by decide +kernel
theorem dX8_step_30 : decode cX8_step 30 = .ok (.if_icmp .eq 17, 3) := by decide +kernel
theorem dX8_step_33 : decode cX8_step 33 = .ok (.aload_n 0, 1) := by decide +kernel
theorem dX8_step_34 : decode cX8_step 34 = .ok (.getfield 9, 3) := by decide +kernel
theorem dX8_step_37 : decode cX8_step 37 = .ok (.aload_n 0, 1) := by decide +kernel
theorem dX8_step_38 : decode cX8_step 38 = .ok (.getfield 49, 3) := by decide +kernel
theorem dX8_step_41 : decode cX8_step 41 = .ok (.caload, 1) := by decide +kernel
theorem dX8_step_42 : decode cX8_step 42 = .ok (.bipush 32, 2) := by decide +kernel
theorem dX8_step_44 : decode cX8_step 44 = .ok (.if_icmp .ne 16, 3) := by decide +kernel
theorem dX8_step_47 : decode cX8_step 47 = .ok (.aload_n 0, 1) := by decide +kernel
theorem dX8_step_48 : decode cX8_step 48 = .ok (.dup, 1) := by decide +kernel
theorem dX8_step_49 : decode cX8_step 49 = .ok (.getfield 49, 3) := by decide +kernel
theorem dX8_step_52 : decode cX8_step 52 = .ok (.iconst 1, 1) := by decide +kernel
theorem dX8_step_53 : decode cX8_step 53 = .ok (.iadd, 1) := by decide +kernel
theorem dX8_step_54 : decode cX8_step 54 = .ok (.putfield 49, 3) := by decide +kernel
theorem dX8_step_57 : decode cX8_step 57 = .ok (.goto (-49), 3) := by decide +kernel
theorem dX8_step_60 : decode cX8_step 60 = .ok (.aload_n 0, 1) := by decide +kernel
theorem dX8_step_61 : decode cX8_step 61 = .ok (.aload_n 0, 1) := by decide +kernel
theorem dX8_step_62 : decode cX8_step 62 = .ok (.getfield 49, 3) := by decide +kernel
theorem dX8_step_65 : decode cX8_step 65 = .ok (.putfield 40, 3) := by decide +kernel
theorem dX8_step_68 : decode cX8_step 68 = .ok (.aload_n 0, 1) := by decide +kernel
theorem dX8_step_69 : decode cX8_step 69 = .ok (.getfield 49, 3) := by decide +kernel
theorem dX8_step_72 : decode cX8_step 72 = .ok (.aload_n 0, 1) := by decide +kernel
theorem dX8_step_73 : decode cX8_step 73 = .ok (.getfield 37, 3) := by decide +kernel
theorem dX8_step_76 : decode cX8_step 76 = .ok (.if_icmp .lt 11, 3) := by decide +kernel
theorem dX8_step_79 : decode cX8_step 79 = .ok (.aload_n 0, 1) := by decide +kernel
theorem dX8_step_80 : decode cX8_step 80 = .ok (.iconst 0, 1) := by decide +kernel
theorem dX8_step_81 : decode cX8_step 81 = .ok (.putfield 52, 3) := by decide +kernel
theorem dX8_step_84 : decode cX8_step 84 = .ok (.goto 73, 3) := by decide +kernel
theorem dX8_step_87 : decode cX8_step 87 = .ok (.aload_n 0, 1) := by decide +kernel
theorem dX8_step_88 : decode cX8_step 88 = .ok (.getfield 9, 3) := by decide +kernel
theorem dX8_step_91 : decode cX8_step 91 = .ok (.aload_n 0, 1) := by decide +kernel
theorem dX8_step_92 : decode cX8_step 92 = .ok (.getfield 49, 3) := by decide +kernel
theorem dX8_step_95 : decode cX8_step 95 = .ok (.caload, 1) := by decide +kernel
theorem dX8_step_96 : decode cX8_step 96 = .ok (.invokestatic 55, 3) := by decide +kernel
theorem dX8_step_99 : decode cX8_step 99 = .ok (.ifCond .eq 10, 3) := by decide +kernel
theorem dX8_step_102 : decode cX8_step 102 = .ok (.aload_n 0, 1) := by decide +kernel
theorem dX8_step_103 : decode cX8_step 103 = .ok (.invokevirtual 59, 3) := by decide +kernel
theorem dX8_step_106 : decode cX8_step 106 = .ok (.goto 51, 3) := by decide +kernel
theorem dX8_step_109 : decode cX8_step 109 = .ok (.aload_n 0, 1) := by decide +kernel
theorem dX8_step_110 : decode cX8_step 110 = .ok (.getfield 9, 3) := by decide +kernel
theorem dX8_step_113 : decode cX8_step 113 = .ok (.aload_n 0, 1) := by decide +kernel
theorem dX8_step_114 : decode cX8_step 114 = .ok (.getfield 49, 3) := by decide +kernel
theorem dX8_step_117 : decode cX8_step 117 = .ok (.caload, 1) := by decide +kernel
theorem dX8_step_118 : decode cX8_step 118 = .ok (.invokestatic 62, 3) := by decide +kernel
theorem dX8_step_121 : decode cX8_step 121 = .ok (.ifCond .eq 10, 3) := by decide +kernel
theorem dX8_step_124 : decode cX8_step 124 = .ok (.aload_n 0, 1) := by decide +kernel
theorem dX8_step_125 : decode cX8_step 125 = .ok (.invokevirtual 65, 3) := by decide +kernel
theorem dX8_step_128 : decode cX8_step 128 = .ok (.goto 29, 3) := by decide +kernel
theorem dX8_step_131 : decode cX8_step 131 = .ok (.aload_n 0, 1) := by decide +kernel
theorem dX8_step_132 : decode cX8_step 132 = .ok (.aload_n 0, 1) := by decide +kernel
theorem dX8_step_133 : decode cX8_step 133 = .ok (.getfield 9, 3) := by decide +kernel
theorem dX8_step_136 : decode cX8_step 136 = .ok (.aload_n 0, 1) := by decide +kernel
theorem dX8_step_137 : decode cX8_step 137 = .ok (.getfield 49, 3) := by decide +kernel
theorem dX8_step_140 : decode cX8_step 140 = .ok (.caload, 1) := by decide +kernel
theorem dX8_step_141 : decode cX8_step 141 = .ok (.invokestatic 68, 3) := by decide +kernel
theorem dX8_step_144 : decode cX8_step 144 = .ok (.putfield 52, 3) := by decide +kernel
theorem dX8_step_147 : decode cX8_step 147 = .ok (.aload_n 0, 1) := by decide +kernel
theorem dX8_step_148 : decode cX8_step 148 = .ok (.aload_n 0, 1) := by decide +kernel
theorem dX8_step_149 : decode cX8_step 149 = .ok (.getfield 49, 3) := by decide +kernel
theorem dX8_step_152 : decode cX8_step 152 = .ok (.iconst 1, 1) := by decide +kernel
theorem dX8_step_153 : decode cX8_step 153 = .ok (.iadd, 1) := by decide +kernel
theorem dX8_step_154 : decode cX8_step 154 = .ok (.putfield 40, 3) := by decide +kernel
theorem dX8_step_157 : decode cX8_step 157 = .ok (.return_, 1) := by decide +kernel
theorem dX8_take_0 : decode cX8_take 0 = .ok (.aload_n 0, 1) := by decide +kernel
theorem dX8_take_1 : decode cX8_take 1 = .ok (.getfield 52, 3) := by decide +kernel
theorem dX8_take_4 : decode cX8_take 4 = .ok (.iload_n 1, 1) := by decide +kernel
theorem dX8_take_5 : decode cX8_take 5 = .ok (.if_icmp .eq 9, 3) := by decide +kernel
theorem dX8_take_8 : decode cX8_take 8 = .ok (.aload_n 0, 1) := by decide +kernel
theorem dX8_take_9 : decode cX8_take 9 = .ok (.iconst 1, 1) := by decide +kernel
theorem dX8_take_10 : decode cX8_take 10 = .ok (.invokevirtual 87, 3) := by decide +kernel
theorem dX8_take_13 : decode cX8_take 13 = .ok (.ireturn, 1) := by decide +kernel
theorem dX8_take_14 : decode cX8_take 14 = .ok (.aload_n 0, 1) := by decide +kernel
theorem dX8_take_15 : decode cX8_take 15 = .ok (.invokevirtual 46, 3) := by decide +kernel
theorem dX8_take_18 : decode cX8_take 18 = .ok (.iconst 1, 1) := by decide +kernel
theorem dX8_take_19 : decode cX8_take 19 = .ok (.ireturn, 1) := by decide +kernel
theorem dX8_withLetter_0 : decode cX8_withLetter 0 = .ok (.lload_n 0, 1) := by decide +kernel
theorem dX8_withLetter_1 : decode cX8_withLetter 1 = .ok (.ldc2_w 35, 3) := by decide +kernel
theorem dX8_withLetter_4 : decode cX8_withLetter 4 = .ok (.lmul, 1) := by decide +kernel
theorem dX8_withLetter_5 : decode cX8_withLetter 5 = .ok (.iload_n 2, 1) := by decide +kernel
theorem dX8_withLetter_6 : decode cX8_withLetter 6 = .ok (.bipush 97, 2) := by decide +kernel
theorem dX8_withLetter_8 : decode cX8_withLetter 8 = .ok (.isub, 1) := by decide +kernel
theorem dX8_withLetter_9 : decode cX8_withLetter 9 = .ok (.iconst 1, 1) := by decide +kernel
theorem dX8_withLetter_10 : decode cX8_withLetter 10 = .ok (.iadd, 1) := by decide +kernel
theorem dX8_withLetter_11 : decode cX8_withLetter 11 = .ok (.i2l, 1) := by decide +kernel
theorem dX8_withLetter_12 : decode cX8_withLetter 12 = .ok (.ladd, 1) := by decide +kernel
theorem dX8_withLetter_13 : decode cX8_withLetter 13 = .ok (.lreturn, 1) := by decide +kernel
theorem dX8_wrong_0 : decode cX8_wrong 0 = .ok (.aload_n 0, 1) := by decide +kernel
theorem dX8_wrong_1 : decode cX8_wrong 1 = .ok (.iload_n 1, 1) := by decide +kernel
theorem dX8_wrong_2 : decode cX8_wrong 2 = .ok (.bipush 16, 2) := by decide +kernel
theorem dX8_wrong_4 : decode cX8_wrong 4 = .ok (.aload_n 0, 1) := by decide +kernel
theorem dX8_wrong_5 : decode cX8_wrong 5 = .ok (.getfield 49, 3) := by decide +kernel
theorem dX8_wrong_8 : decode cX8_wrong 8 = .ok (.imul, 1) := by decide +kernel
theorem dX8_wrong_9 : decode cX8_wrong 9 = .ok (.iadd, 1) := by decide +kernel
theorem dX8_wrong_10 : decode cX8_wrong 10 = .ok (.putfield 43, 3) := by decide +kernel
theorem dX8_wrong_13 : decode cX8_wrong 13 = .ok (.iconst 0, 1) := by decide +kernel
theorem dX8_wrong_14 : decode cX8_wrong 14 = .ok (.ireturn, 1) := by decide +kernel
theorem dX9_admit_0 : decode cX9_admit 0 = .ok (.aload_n 0, 1) := by decide +kernel
theorem dX9_admit_1 : decode cX9_admit 1 = .ok (.getfield 41, 3) := by decide +kernel
theorem dX9_admit_4 : decode cX9_admit 4 = .ok (.bipush 60, 2) := by decide +kernel
theorem dX9_admit_6 : decode cX9_admit 6 = .ok (.if_icmp .ge 17, 3) := by decide +kernel
theorem dX9_admit_9 : decode cX9_admit 9 = .ok (.aload_n 0, 1) := by decide +kernel
theorem dX9_admit_10 : decode cX9_admit 10 = .ok (.getfield 22, 3) := by decide +kernel
theorem dX9_admit_13 : decode cX9_admit 13 = .ok (.invokestatic 57, 3) := by decide +kernel
theorem dX9_admit_16 : decode cX9_admit 16 = .ok (.iload_n 3, 1) := by decide +kernel
theorem dX9_admit_17 : decode cX9_admit 17 = .ok (.iadd, 1) := by decide +kernel
theorem dX9_admit_18 : decode cX9_admit 18 = .ok (.bipush 40, 2) := by decide +kernel
theorem dX9_admit_20 : decode cX9_admit 20 = .ok (.if_icmp .le 5, 3) := by decide +kernel
theorem dX9_admit_23 : decode cX9_admit 23 = .ok (.iconst (-1), 1) := by decide +kernel
theorem dX9_admit_24 : decode cX9_admit 24 = .ok (.ireturn, 1) := by decide +kernel
theorem dX9_admit_25 : decode cX9_admit 25 = .ok (.aload_n 1, 1) := by decide +kernel
theorem dX9_admit_26 : decode cX9_admit 26 = .ok (.getfield 61, 3) := by decide +kernel
theorem dX9_admit_29 : decode cX9_admit 29 = .ok (.iload_n 2, 1) := by decide +kernel
theorem dX9_admit_30 : decode cX9_admit 30 = .ok (.aaload, 1) := by decide +kernel
theorem dX9_admit_31 : decode cX9_admit 31 = .ok (.iconst 0, 1) := by decide +kernel
theorem dX9_admit_32 : decode cX9_admit 32 = .ok (.iaload, 1) := by decide +kernel
theorem dX9_admit_33 : decode cX9_admit 33 = .ok (.istore 4, 2) := by decide +kernel
theorem dX9_admit_35 : decode cX9_admit 35 = .ok (.iconst 0, 1) := by decide +kernel
theorem dX9_admit_36 : decode cX9_admit 36 = .ok (.istore 5, 2) := by decide +kernel
theorem dX9_admit_38 : decode cX9_admit 38 = .ok (.aload_n 0, 1) := by decide +kernel
theorem dX9_admit_39 : decode cX9_admit 39 = .ok (.getfield 19, 3) := by decide +kernel
theorem dX9_admit_42 : decode cX9_admit 42 = .ok (.iload_n 2, 1) := by decide +kernel
theorem dX9_admit_43 : decode cX9_admit 43 = .ok (.aaload, 1) := by decide +kernel
theorem dX9_admit_44 : decode cX9_admit 44 = .ok (.aload_n 0, 1) := by decide +kernel
theorem dX9_admit_45 : decode cX9_admit 45 = .ok (.getfield 41, 3) := by decide +kernel
theorem dX9_admit_48 : decode cX9_admit 48 = .ok (.dup2, 1) := by decide +kernel
theorem dX9_admit_49 : decode cX9_admit 49 = .ok (.iaload, 1) := by decide +kernel
theorem dX9_admit_50 : decode cX9_admit 50 = .ok (.iload_n 3, 1) := by decide +kernel
theorem dX9_admit_51 : decode cX9_admit 51 = .ok (.iadd, 1) := by decide +kernel
theorem dX9_admit_52 : decode cX9_admit 52 = .ok (.iastore, 1) := by decide +kernel
theorem dX9_admit_53 : decode cX9_admit 53 = .ok (.iconst 0, 1) := by decide +kernel
theorem dX9_admit_54 : decode cX9_admit 54 = .ok (.istore 6, 2) := by decide +kernel
theorem dX9_admit_56 : decode cX9_admit 56 = .ok (.iload 6, 2) := by decide +kernel
theorem dX9_admit_58 : decode cX9_admit 58 = .ok (.iload_n 3, 1) := by decide +kernel
theorem dX9_admit_59 : decode cX9_admit 59 = .ok (.if_icmp .ge 69, 3) := by decide +kernel
theorem dX9_admit_62 : decode cX9_admit 62 = .ok (.aload_n 1, 1) := by decide +kernel
theorem dX9_admit_63 : decode cX9_admit 63 = .ok (.getfield 66, 3) := by decide +kernel
theorem dX9_admit_66 : decode cX9_admit 66 = .ok (.aload_n 0, 1) := by decide +kernel
theorem dX9_admit_67 : decode cX9_admit 67 = .ok (.getfield 22, 3) := by decide +kernel
theorem dX9_admit_70 : decode cX9_admit 70 = .ok (.iload 4, 2) := by decide +kernel
theorem dX9_admit_72 : decode cX9_admit 72 = .ok (.iaload, 1) := by decide +kernel
theorem dX9_admit_73 : decode cX9_admit 73 = .ok (.aload_n 0, 1) := by decide +kernel
theorem dX9_admit_74 : decode cX9_admit 74 = .ok (.getfield 22, 3) := by decide +kernel
theorem dX9_admit_77 : decode cX9_admit 77 = .ok (.invokestatic 57, 3) := by decide +kernel
theorem dX9_admit_80 : decode cX9_admit 80 = .ok (.iload_n 2, 1) := by decide +kernel
theorem dX9_admit_81 : decode cX9_admit 81 = .ok (.aload_n 0, 1) := by decide +kernel
theorem dX9_admit_82 : decode cX9_admit 82 = .ok (.getfield 41, 3) := by decide +kernel
theorem dX9_admit_85 : decode cX9_admit 85 = .ok (.invokevirtual 70, 3) := by decide +kernel
theorem dX9_admit_88 : decode cX9_admit 88 = .ok (.ifCond .eq 16, 3) := by decide +kernel
theorem dX9_admit_91 : decode cX9_admit 91 = .ok (.aload_n 0, 1) := by decide +kernel
theorem dX9_admit_92 : decode cX9_admit 92 = .ok (.getfield 32, 3) := by decide +kernel
theorem dX9_admit_95 : decode cX9_admit 95 = .ok (.iload_n 2, 1) := by decide +kernel
theorem dX9_admit_96 : decode cX9_admit 96 = .ok (.dup2, 1) := by decide +kernel
theorem dX9_admit_97 : decode cX9_admit 97 = .ok (.iaload, 1) := by decide +kernel
theorem dX9_admit_98 : decode cX9_admit 98 = .ok (.iconst 1, 1) := by decide +kernel
theorem dX9_admit_99 : decode cX9_admit 99 = .ok (.iadd, 1) := by decide +kernel
theorem dX9_admit_100 : decode cX9_admit 100 = .ok (.iastore, 1) := by decide +kernel
theorem dX9_admit_101 : decode cX9_admit 101 = .ok (.goto 21, 3) := by decide +kernel
theorem dX9_admit_104 : decode cX9_admit 104 = .ok (.aload_n 0, 1) := by decide +kernel
theorem dX9_admit_105 : decode cX9_admit 105 = .ok (.iload 4, 2) := by decide +kernel
theorem dX9_admit_107 : decode cX9_admit 107 = .ok (.iload_n 2, 1) := by decide +kernel
theorem dX9_admit_108 : decode cX9_admit 108 = .ok (.bipush 64, 2) := by decide +kernel
theorem dX9_admit_110 : decode cX9_admit 110 = .ok (.imul, 1) := by decide +kernel
theorem dX9_admit_111 : decode cX9_admit 111 = .ok (.aload_n 0, 1) := by decide +kernel
theorem dX9_admit_112 : decode cX9_admit 112 = .ok (.getfield 41, 3) := by decide +kernel
theorem dX9_admit_115 : decode cX9_admit 115 = .ok (.iadd, 1) := by decide +kernel
theorem dX9_admit_116 : decode cX9_admit 116 = .ok (.invokevirtual 76, 3) := by decide +kernel
theorem dX9_admit_119 : decode cX9_admit 119 = .ok (.iinc 5 1, 3) := by decide +kernel
theorem dX9_admit_122 : decode cX9_admit 122 = .ok (.iinc 6 1, 3) := by decide +kernel
theorem dX9_admit_125 : decode cX9_admit 125 = .ok (.goto (-69), 3) := by decide +kernel
theorem dX9_admit_128 : decode cX9_admit 128 = .ok (.iload 5, 2) := by decide +kernel
theorem dX9_admit_130 : decode cX9_admit 130 = .ok (.ireturn, 1) := by decide +kernel
theorem dX9_bringTo_0 : decode cX9_bringTo 0 = .ok (.aload_n 0, 1) := by decide +kernel
theorem dX9_bringTo_1 : decode cX9_bringTo 1 = .ok (.getfield 22, 3) := by decide +kernel
theorem dX9_bringTo_4 : decode cX9_bringTo 4 = .ok (.iload_n 1, 1) := by decide +kernel
theorem dX9_bringTo_5 : decode cX9_bringTo 5 = .ok (.iaload, 1) := by decide +kernel
theorem dX9_bringTo_6 : decode cX9_bringTo 6 = .ok (.istore_n 3, 1) := by decide +kernel
theorem dX9_bringTo_7 : decode cX9_bringTo 7 = .ok (.iload_n 3, 1) := by decide +kernel
theorem dX9_bringTo_8 : decode cX9_bringTo 8 = .ok (.bipush 40, 2) := by decide +kernel
theorem dX9_bringTo_10 : decode cX9_bringTo 10 = .ok (.if_icmp .ge 21, 3) := by decide +kernel
theorem dX9_bringTo_13 : decode cX9_bringTo 13 = .ok (.aload_n 0, 1) := by decide +kernel
theorem dX9_bringTo_14 : decode cX9_bringTo 14 = .ok (.getfield 11, 3) := by decide +kernel
theorem dX9_bringTo_17 : decode cX9_bringTo 17 = .ok (.iload_n 1, 1) := by decide +kernel
theorem dX9_bringTo_18 : decode cX9_bringTo 18 = .ok (.aaload, 1) := by decide +kernel
theorem dX9_bringTo_19 : decode cX9_bringTo 19 = .ok (.iload_n 3, 1) := by decide +kernel
theorem dX9_bringTo_20 : decode cX9_bringTo 20 = .ok (.iload_n 2, 1) := by decide +kernel
theorem dX9_bringTo_21 : decode cX9_bringTo 21 = .ok (.iastore, 1) := by decide +kernel
theorem dX9_bringTo_22 : decode cX9_bringTo 22 = .ok (.aload_n 0, 1) := by decide +kernel
theorem dX9_bringTo_23 : decode cX9_bringTo 23 = .ok (.getfield 22, 3) := by decide +kernel
theorem dX9_bringTo_26 : decode cX9_bringTo 26 = .ok (.iload_n 1, 1) := by decide +kernel
theorem dX9_bringTo_27 : decode cX9_bringTo 27 = .ok (.iload_n 3, 1) := by decide +kernel
theorem dX9_bringTo_28 : decode cX9_bringTo 28 = .ok (.iconst 1, 1) := by decide +kernel
theorem dX9_bringTo_29 : decode cX9_bringTo 29 = .ok (.iadd, 1) := by decide +kernel
theorem dX9_bringTo_30 : decode cX9_bringTo 30 = .ok (.iastore, 1) := by decide +kernel
theorem dX9_bringTo_31 : decode cX9_bringTo 31 = .ok (.return_, 1) := by decide +kernel
theorem dX9_copy_0 : decode cX9_copy 0 = .ok (.aload_n 0, 1) := by decide +kernel
theorem dX9_copy_1 : decode cX9_copy 1 = .ok (.aload_n 1, 1) := by decide +kernel
theorem dX9_copy_2 : decode cX9_copy 2 = .ok (.getfield 41, 3) := by decide +kernel
theorem dX9_copy_5 : decode cX9_copy 5 = .ok (.putfield 41, 3) := by decide +kernel
theorem dX9_copy_8 : decode cX9_copy 8 = .ok (.iconst 0, 1) := by decide +kernel
theorem dX9_copy_9 : decode cX9_copy 9 = .ok (.istore_n 2, 1) := by decide +kernel
theorem dX9_copy_10 : decode cX9_copy 10 = .ok (.iload_n 2, 1) := by decide +kernel
theorem dX9_copy_11 : decode cX9_copy 11 = .ok (.iconst 4, 1) := by decide +kernel
theorem dX9_copy_12 : decode cX9_copy 12 = .ok (.if_icmp .ge 52, 3) := by decide +kernel
theorem dX9_copy_15 : decode cX9_copy 15 = .ok (.aload_n 0, 1) := by decide +kernel
theorem dX9_copy_16 : decode cX9_copy 16 = .ok (.getfield 22, 3) := by decide +kernel
theorem dX9_copy_19 : decode cX9_copy 19 = .ok (.iload_n 2, 1) := by decide +kernel
theorem dX9_copy_20 : decode cX9_copy 20 = .ok (.aload_n 1, 1) := by decide +kernel
theorem dX9_copy_21 : decode cX9_copy 21 = .ok (.getfield 22, 3) := by decide +kernel
theorem dX9_copy_24 : decode cX9_copy 24 = .ok (.iload_n 2, 1) := by decide +kernel
theorem dX9_copy_25 : decode cX9_copy 25 = .ok (.iaload, 1) := by decide +kernel
theorem dX9_copy_26 : decode cX9_copy 26 = .ok (.iastore, 1) := by decide +kernel
theorem dX9_copy_27 : decode cX9_copy 27 = .ok (.aload_n 0, 1) := by decide +kernel
theorem dX9_copy_28 : decode cX9_copy 28 = .ok (.getfield 26, 3) := by decide +kernel
theorem dX9_copy_31 : decode cX9_copy 31 = .ok (.iload_n 2, 1) := by decide +kernel
theorem dX9_copy_32 : decode cX9_copy 32 = .ok (.aload_n 1, 1) := by decide +kernel
theorem dX9_copy_33 : decode cX9_copy 33 = .ok (.getfield 26, 3) := by decide +kernel
theorem dX9_copy_36 : decode cX9_copy 36 = .ok (.iload_n 2, 1) := by decide +kernel
theorem dX9_copy_37 : decode cX9_copy 37 = .ok (.iaload, 1) := by decide +kernel
theorem dX9_copy_38 : decode cX9_copy 38 = .ok (.iastore, 1) := by decide +kernel
theorem dX9_copy_39 : decode cX9_copy 39 = .ok (.aload_n 1, 1) := by decide +kernel
theorem dX9_copy_40 : decode cX9_copy 40 = .ok (.getfield 11, 3) := by decide +kernel
theorem dX9_copy_43 : decode cX9_copy 43 = .ok (.iload_n 2, 1) := by decide +kernel
theorem dX9_copy_44 : decode cX9_copy 44 = .ok (.aaload, 1) := by decide +kernel
theorem dX9_copy_45 : decode cX9_copy 45 = .ok (.iconst 0, 1) := by decide +kernel
theorem dX9_copy_46 : decode cX9_copy 46 = .ok (.aload_n 0, 1) := by decide +kernel
theorem dX9_copy_47 : decode cX9_copy 47 = .ok (.getfield 11, 3) := by decide +kernel
theorem dX9_copy_50 : decode cX9_copy 50 = .ok (.iload_n 2, 1) := by decide +kernel
theorem dX9_copy_51 : decode cX9_copy 51 = .ok (.aaload, 1) := by decide +kernel
theorem dX9_copy_52 : decode cX9_copy 52 = .ok (.iconst 0, 1) := by decide +kernel
theorem dX9_copy_53 : decode cX9_copy 53 = .ok (.bipush 40, 2) := by decide +kernel
theorem dX9_copy_55 : decode cX9_copy 55 = .ok (.invokestatic 45, 3) := by decide +kernel
theorem dX9_copy_58 : decode cX9_copy 58 = .ok (.iinc 2 1, 3) := by decide +kernel
theorem dX9_copy_61 : decode cX9_copy 61 = .ok (.goto (-51), 3) := by decide +kernel
theorem dX9_copy_64 : decode cX9_copy 64 = .ok (.iconst 0, 1) := by decide +kernel
theorem dX9_copy_65 : decode cX9_copy 65 = .ok (.istore_n 2, 1) := by decide +kernel
theorem dX9_copy_66 : decode cX9_copy 66 = .ok (.iload_n 2, 1) := by decide +kernel
theorem dX9_copy_67 : decode cX9_copy 67 = .ok (.iconst 4, 1) := by decide +kernel
theorem dX9_copy_68 : decode cX9_copy 68 = .ok (.if_icmp .ge 64, 3) := by decide +kernel
theorem dX9_copy_71 : decode cX9_copy 71 = .ok (.aload_n 0, 1) := by decide +kernel
theorem dX9_copy_72 : decode cX9_copy 72 = .ok (.getfield 29, 3) := by decide +kernel
theorem dX9_copy_75 : decode cX9_copy 75 = .ok (.iload_n 2, 1) := by decide +kernel
theorem dX9_copy_76 : decode cX9_copy 76 = .ok (.aload_n 1, 1) := by decide +kernel
theorem dX9_copy_77 : decode cX9_copy 77 = .ok (.getfield 29, 3) := by decide +kernel
theorem dX9_copy_80 : decode cX9_copy 80 = .ok (.iload_n 2, 1) := by decide +kernel
theorem dX9_copy_81 : decode cX9_copy 81 = .ok (.iaload, 1) := by decide +kernel
theorem dX9_copy_82 : decode cX9_copy 82 = .ok (.iastore, 1) := by decide +kernel
theorem dX9_copy_83 : decode cX9_copy 83 = .ok (.aload_n 0, 1) := by decide +kernel
theorem dX9_copy_84 : decode cX9_copy 84 = .ok (.getfield 32, 3) := by decide +kernel
theorem dX9_copy_87 : decode cX9_copy 87 = .ok (.iload_n 2, 1) := by decide +kernel
theorem dX9_copy_88 : decode cX9_copy 88 = .ok (.aload_n 1, 1) := by decide +kernel
theorem dX9_copy_89 : decode cX9_copy 89 = .ok (.getfield 32, 3) := by decide +kernel
theorem dX9_copy_92 : decode cX9_copy 92 = .ok (.iload_n 2, 1) := by decide +kernel
theorem dX9_copy_93 : decode cX9_copy 93 = .ok (.iaload, 1) := by decide +kernel
theorem dX9_copy_94 : decode cX9_copy 94 = .ok (.iastore, 1) := by decide +kernel
theorem dX9_copy_95 : decode cX9_copy 95 = .ok (.aload_n 0, 1) := by decide +kernel
theorem dX9_copy_96 : decode cX9_copy 96 = .ok (.getfield 35, 3) := by decide +kernel
theorem dX9_copy_99 : decode cX9_copy 99 = .ok (.iload_n 2, 1) := by decide +kernel
theorem dX9_copy_100 : decode cX9_copy 100 = .ok (.aload_n 1, 1) := by decide +kernel
theorem dX9_copy_101 : decode cX9_copy 101 = .ok (.getfield 35, 3) := by decide +kernel
theorem dX9_copy_104 : decode cX9_copy 104 = .ok (.iload_n 2, 1) := by decide +kernel
theorem dX9_copy_105 : decode cX9_copy 105 = .ok (.iaload, 1) := by decide +kernel
theorem dX9_copy_106 : decode cX9_copy 106 = .ok (.iastore, 1) := by decide +kernel
theorem dX9_copy_107 : decode cX9_copy 107 = .ok (.aload_n 1, 1) := by decide +kernel
theorem dX9_copy_108 : decode cX9_copy 108 = .ok (.getfield 19, 3) := by decide +kernel
theorem dX9_copy_111 : decode cX9_copy 111 = .ok (.iload_n 2, 1) := by decide +kernel
theorem dX9_copy_112 : decode cX9_copy 112 = .ok (.aaload, 1) := by decide +kernel
theorem dX9_copy_113 : decode cX9_copy 113 = .ok (.iconst 0, 1) := by decide +kernel
theorem dX9_copy_114 : decode cX9_copy 114 = .ok (.aload_n 0, 1) := by decide +kernel
theorem dX9_copy_115 : decode cX9_copy 115 = .ok (.getfield 19, 3) := by decide +kernel
theorem dX9_copy_118 : decode cX9_copy 118 = .ok (.iload_n 2, 1) := by decide +kernel
theorem dX9_copy_119 : decode cX9_copy 119 = .ok (.aaload, 1) := by decide +kernel
theorem dX9_copy_120 : decode cX9_copy 120 = .ok (.iconst 0, 1) := by decide +kernel
theorem dX9_copy_121 : decode cX9_copy 121 = .ok (.bipush 61, 2) := by decide +kernel
theorem dX9_copy_123 : decode cX9_copy 123 = .ok (.invokestatic 45, 3) := by decide +kernel
theorem dX9_copy_126 : decode cX9_copy 126 = .ok (.iinc 2 1, 3) := by decide +kernel
theorem dX9_copy_129 : decode cX9_copy 129 = .ok (.goto (-63), 3) := by decide +kernel
theorem dX9_copy_132 : decode cX9_copy 132 = .ok (.return_, 1) := by decide +kernel
theorem dX9_draw_0 : decode cX9_draw 0 = .ok (.aload_n 0, 1) := by decide +kernel
theorem dX9_draw_1 : decode cX9_draw 1 = .ok (.aload_n 0, 1) := by decide +kernel
theorem dX9_draw_2 : decode cX9_draw 2 = .ok (.getfield 151, 3) := by decide +kernel
theorem dX9_draw_5 : decode cX9_draw 5 = .ok (.ldc2_w 161, 3) := by decide +kernel
theorem dX9_draw_8 : decode cX9_draw 8 = .ok (.lmul, 1) := by decide +kernel
theorem dX9_draw_9 : decode cX9_draw 9 = .ok (.ldc2_w 163, 3) := by decide +kernel
theorem dX9_draw_12 : decode cX9_draw 12 = .ok (.ladd, 1) := by decide +kernel
theorem dX9_draw_13 : decode cX9_draw 13 = .ok (.ldc2_w 165, 3) := by decide +kernel
theorem dX9_draw_16 : decode cX9_draw 16 = .ok (.lrem, 1) := by decide +kernel
theorem dX9_draw_17 : decode cX9_draw 17 = .ok (.putfield 151, 3) := by decide +kernel
theorem dX9_draw_20 : decode cX9_draw 20 = .ok (.iload_n 1, 1) := by decide +kernel
theorem dX9_draw_21 : decode cX9_draw 21 = .ok (.ifCond .le 18, 3) := by decide +kernel
theorem dX9_draw_24 : decode cX9_draw 24 = .ok (.aload_n 0, 1) := by decide +kernel
theorem dX9_draw_25 : decode cX9_draw 25 = .ok (.getfield 151, 3) := by decide +kernel
theorem dX9_draw_28 : decode cX9_draw 28 = .ok (.ldc2_w 167, 3) := by decide +kernel
theorem dX9_draw_31 : decode cX9_draw 31 = .ok (.ldiv, 1) := by decide +kernel
theorem dX9_draw_32 : decode cX9_draw 32 = .ok (.iload_n 1, 1) := by decide +kernel
theorem dX9_draw_33 : decode cX9_draw 33 = .ok (.i2l, 1) := by decide +kernel
theorem dX9_draw_34 : decode cX9_draw 34 = .ok (.lrem, 1) := by decide +kernel
theorem dX9_draw_35 : decode cX9_draw 35 = .ok (.l2i, 1) := by decide +kernel
theorem dX9_draw_36 : decode cX9_draw 36 = .ok (.goto 4, 3) := by decide +kernel
theorem dX9_draw_39 : decode cX9_draw 39 = .ok (.iconst 0, 1) := by decide +kernel
theorem dX9_draw_40 : decode cX9_draw 40 = .ok (.ireturn, 1) := by decide +kernel
theorem dX9_firstPlaceAbove_0 : decode cX9_firstPlaceAbove 0 = .ok (.iconst (-1), 1) := by decide +kernel
theorem dX9_firstPlaceAbove_1 : decode cX9_firstPlaceAbove 1 = .ok (.istore_n 3, 1) := by decide +kernel
theorem dX9_firstPlaceAbove_2 : decode cX9_firstPlaceAbove 2 = .ok (.iconst 4, 1) := by decide +kernel
theorem dX9_firstPlaceAbove_3 : decode cX9_firstPlaceAbove 3 = .ok (.istore 4, 2) := by decide +kernel
theorem dX9_firstPlaceAbove_5 : decode cX9_firstPlaceAbove 5 = .ok (.iconst 0, 1) := by decide +kernel
theorem dX9_firstPlaceAbove_6 : decode cX9_firstPlaceAbove 6 = .ok (.istore 5, 2) := by decide +kernel
theorem dX9_firstPlaceAbove_8 : decode cX9_firstPlaceAbove 8 = .ok (.iload 5, 2) := by decide +kernel
theorem dX9_firstPlaceAbove_10 : decode cX9_firstPlaceAbove 10 = .ok (.aload_n 0, 1) := by decide +kernel
theorem dX9_firstPlaceAbove_11 : decode cX9_firstPlaceAbove 11 = .ok (.getfield 22, 3) := by decide +kernel
theorem dX9_firstPlaceAbove_14 : decode cX9_firstPlaceAbove 14 = .ok (.iload_n 1, 1) := by decide +kernel
theorem dX9_firstPlaceAbove_15 : decode cX9_firstPlaceAbove 15 = .ok (.iaload, 1) := by decide +kernel
theorem dX9_firstPlaceAbove_16 : decode cX9_firstPlaceAbove 16 = .ok (.if_icmp .ge 43, 3) := by decide +kernel
theorem dX9_firstPlaceAbove_19 : decode cX9_firstPlaceAbove 19 = .ok (.aload_n 0, 1) := by decide +kernel
theorem dX9_firstPlaceAbove_20 : decode cX9_firstPlaceAbove 20 = .ok (.getfield 11, 3) := by decide +kernel
theorem dX9_firstPlaceAbove_23 : decode cX9_firstPlaceAbove 23 = .ok (.iload_n 1, 1) := by decide +kernel
theorem dX9_firstPlaceAbove_24 : decode cX9_firstPlaceAbove 24 = .ok (.aaload, 1) := by decide +kernel
theorem dX9_firstPlaceAbove_25 : decode cX9_firstPlaceAbove 25 = .ok (.iload 5, 2) := by decide +kernel
theorem dX9_firstPlaceAbove_27 : decode cX9_firstPlaceAbove 27 = .ok (.iaload, 1) := by decide +kernel
theorem dX9_firstPlaceAbove_28 : decode cX9_firstPlaceAbove 28 = .ok (.bipush 64, 2) := by decide +kernel
theorem dX9_firstPlaceAbove_30 : decode cX9_firstPlaceAbove 30 = .ok (.idiv, 1) := by decide +kernel
theorem dX9_firstPlaceAbove_31 : decode cX9_firstPlaceAbove 31 = .ok (.istore 6, 2) := by decide +kernel
theorem dX9_firstPlaceAbove_33 : decode cX9_firstPlaceAbove 33 = .ok (.iload 6, 2) := by decide +kernel
theorem dX9_firstPlaceAbove_35 : decode cX9_firstPlaceAbove 35 = .ok (.iload_n 2, 1) := by decide +kernel
theorem dX9_firstPlaceAbove_36 : decode cX9_firstPlaceAbove 36 = .ok (.if_icmp .le 17, 3) := by decide +kernel
theorem dX9_firstPlaceAbove_39 : decode cX9_firstPlaceAbove 39 = .ok (.iload 6, 2) := by decide +kernel
theorem dX9_firstPlaceAbove_41 : decode cX9_firstPlaceAbove 41 = .ok (.iload 4, 2) := by decide +kernel
theorem dX9_firstPlaceAbove_43 : decode cX9_firstPlaceAbove 43 = .ok (.if_icmp .ge 10, 3) := by decide +kernel
theorem dX9_firstPlaceAbove_46 : decode cX9_firstPlaceAbove 46 = .ok (.iload 5, 2) := by decide +kernel
theorem dX9_firstPlaceAbove_48 : decode cX9_firstPlaceAbove 48 = .ok (.istore_n 3, 1) := by decide +kernel
theorem dX9_firstPlaceAbove_49 : decode cX9_firstPlaceAbove 49 = .ok (.iload 6, 2) := by decide +kernel
theorem dX9_firstPlaceAbove_51 : decode cX9_firstPlaceAbove 51 = .ok (.istore 4, 2) := by decide +kernel
theorem dX9_firstPlaceAbove_53 : decode cX9_firstPlaceAbove 53 = .ok (.iinc 5 1, 3) := by decide +kernel
theorem dX9_firstPlaceAbove_56 : decode cX9_firstPlaceAbove 56 = .ok (.goto (-48), 3) := by decide +kernel
theorem dX9_firstPlaceAbove_59 : decode cX9_firstPlaceAbove 59 = .ok (.iload_n 3, 1) := by decide +kernel
theorem dX9_firstPlaceAbove_60 : decode cX9_firstPlaceAbove 60 = .ok (.ireturn, 1) := by decide +kernel
theorem dX9_init_0 : decode cX9_init 0 = .ok (.aload_n 0, 1) := by decide +kernel
theorem dX9_init_1 : decode cX9_init 1 = .ok (.invokespecial 3, 3) := by decide +kernel
theorem dX9_init_4 : decode cX9_init 4 = .ok (.aload_n 0, 1) := by decide +kernel
theorem dX9_init_5 : decode cX9_init 5 = .ok (.iconst 4, 1) := by decide +kernel
theorem dX9_init_6 : decode cX9_init 6 = .ok (.bipush 40, 2) := by decide +kernel
theorem dX9_init_8 : decode cX9_init 8 = .ok (.multianewarray 9 2, 4) := by decide +kernel
theorem dX9_init_12 : decode cX9_init 12 = .ok (.putfield 11, 3) := by decide +kernel
theorem dX9_init_15 : decode cX9_init 15 = .ok (.aload_n 0, 1) := by decide +kernel
theorem dX9_init_16 : decode cX9_init 16 = .ok (.iconst 4, 1) := by decide +kernel
theorem dX9_init_17 : decode cX9_init 17 = .ok (.bipush 40, 2) := by decide +kernel
theorem dX9_init_19 : decode cX9_init 19 = .ok (.multianewarray 9 2, 4) := by decide +kernel
theorem dX9_init_23 : decode cX9_init 23 = .ok (.putfield 16, 3) := by decide +kernel
theorem dX9_init_26 : decode cX9_init 26 = .ok (.aload_n 0, 1) := by decide +kernel
theorem dX9_init_27 : decode cX9_init 27 = .ok (.iconst 4, 1) := by decide +kernel
theorem dX9_init_28 : decode cX9_init 28 = .ok (.bipush 61, 2) := by decide +kernel
theorem dX9_init_30 : decode cX9_init 30 = .ok (.multianewarray 9 2, 4) := by decide +kernel
theorem dX9_init_34 : decode cX9_init 34 = .ok (.putfield 19, 3) := by decide +kernel
theorem dX9_init_37 : decode cX9_init 37 = .ok (.aload_n 0, 1) := by decide +kernel
theorem dX9_init_38 : decode cX9_init 38 = .ok (.iconst 4, 1) := by decide +kernel
theorem dX9_init_39 : decode cX9_init 39 = .ok (.newarray .int, 2) := by decide +kernel
theorem dX9_init_41 : decode cX9_init 41 = .ok (.putfield 22, 3) := by decide +kernel
theorem dX9_init_44 : decode cX9_init 44 = .ok (.aload_n 0, 1) := by decide +kernel
theorem dX9_init_45 : decode cX9_init 45 = .ok (.iconst 4, 1) := by decide +kernel
theorem dX9_init_46 : decode cX9_init 46 = .ok (.newarray .int, 2) := by decide +kernel
theorem dX9_init_48 : decode cX9_init 48 = .ok (.putfield 26, 3) := by decide +kernel
theorem dX9_init_51 : decode cX9_init 51 = .ok (.aload_n 0, 1) := by decide +kernel
theorem dX9_init_52 : decode cX9_init 52 = .ok (.iconst 4, 1) := by decide +kernel
theorem dX9_init_53 : decode cX9_init 53 = .ok (.newarray .int, 2) := by decide +kernel
theorem dX9_init_55 : decode cX9_init 55 = .ok (.putfield 29, 3) := by decide +kernel
theorem dX9_init_58 : decode cX9_init 58 = .ok (.aload_n 0, 1) := by decide +kernel
theorem dX9_init_59 : decode cX9_init 59 = .ok (.iconst 4, 1) := by decide +kernel
theorem dX9_init_60 : decode cX9_init 60 = .ok (.newarray .int, 2) := by decide +kernel
theorem dX9_init_62 : decode cX9_init 62 = .ok (.putfield 32, 3) := by decide +kernel
theorem dX9_init_65 : decode cX9_init 65 = .ok (.aload_n 0, 1) := by decide +kernel
theorem dX9_init_66 : decode cX9_init 66 = .ok (.iconst 4, 1) := by decide +kernel
theorem dX9_init_67 : decode cX9_init 67 = .ok (.newarray .int, 2) := by decide +kernel
theorem dX9_init_69 : decode cX9_init 69 = .ok (.putfield 35, 3) := by decide +kernel
theorem dX9_init_72 : decode cX9_init 72 = .ok (.aload_n 0, 1) := by decide +kernel
theorem dX9_init_73 : decode cX9_init 73 = .ok (.iconst 4, 1) := by decide +kernel
theorem dX9_init_74 : decode cX9_init 74 = .ok (.newarray .int, 2) := by decide +kernel
theorem dX9_init_76 : decode cX9_init 76 = .ok (.putfield 38, 3) := by decide +kernel
theorem dX9_init_79 : decode cX9_init 79 = .ok (.iconst 0, 1) := by decide +kernel
theorem dX9_init_80 : decode cX9_init 80 = .ok (.istore_n 1, 1) := by decide +kernel
theorem dX9_init_81 : decode cX9_init 81 = .ok (.iload_n 1, 1) := by decide +kernel
theorem dX9_init_82 : decode cX9_init 82 = .ok (.iconst 4, 1) := by decide +kernel
theorem dX9_init_83 : decode cX9_init 83 = .ok (.if_icmp .ge 16, 3) := by decide +kernel
theorem dX9_init_86 : decode cX9_init 86 = .ok (.aload_n 0, 1) := by decide +kernel
theorem dX9_init_87 : decode cX9_init 87 = .ok (.getfield 35, 3) := by decide +kernel
theorem dX9_init_90 : decode cX9_init 90 = .ok (.iload_n 1, 1) := by decide +kernel
theorem dX9_init_91 : decode cX9_init 91 = .ok (.iconst (-1), 1) := by decide +kernel
theorem dX9_init_92 : decode cX9_init 92 = .ok (.iastore, 1) := by decide +kernel
theorem dX9_init_93 : decode cX9_init 93 = .ok (.iinc 1 1, 3) := by decide +kernel
theorem dX9_init_96 : decode cX9_init 96 = .ok (.goto (-15), 3) := by decide +kernel
theorem dX9_init_99 : decode cX9_init 99 = .ok (.return_, 1) := by decide +kernel
theorem dX9_keepsTo_0 : decode cX9_keepsTo 0 = .ok (.iconst 0, 1) := by decide +kernel
theorem dX9_keepsTo_1 : decode cX9_keepsTo 1 = .ok (.istore_n 3, 1) := by decide +kernel
theorem dX9_keepsTo_2 : decode cX9_keepsTo 2 = .ok (.iload_n 3, 1) := by decide +kernel
theorem dX9_keepsTo_3 : decode cX9_keepsTo 3 = .ok (.aload_n 0, 1) := by decide +kernel
theorem dX9_keepsTo_4 : decode cX9_keepsTo 4 = .ok (.getfield 41, 3) := by decide +kernel
theorem dX9_keepsTo_7 : decode cX9_keepsTo 7 = .ok (.if_icmp .gt 61, 3) := by decide +kernel
theorem dX9_keepsTo_10 : decode cX9_keepsTo 10 = .ok (.iconst 0, 1) := by decide +kernel
theorem dX9_keepsTo_11 : decode cX9_keepsTo 11 = .ok (.istore 4, 2) := by decide +kernel
theorem dX9_keepsTo_13 : decode cX9_keepsTo 13 = .ok (.iload_n 3, 1) := by decide +kernel
theorem dX9_keepsTo_14 : decode cX9_keepsTo 14 = .ok (.istore 5, 2) := by decide +kernel
theorem dX9_keepsTo_16 : decode cX9_keepsTo 16 = .ok (.iload 5, 2) := by decide +kernel
theorem dX9_keepsTo_18 : decode cX9_keepsTo 18 = .ok (.aload_n 0, 1) := by decide +kernel
theorem dX9_keepsTo_19 : decode cX9_keepsTo 19 = .ok (.getfield 41, 3) := by decide +kernel
theorem dX9_keepsTo_22 : decode cX9_keepsTo 22 = .ok (.if_icmp .gt 40, 3) := by decide +kernel
theorem dX9_keepsTo_25 : decode cX9_keepsTo 25 = .ok (.iload 4, 2) := by decide +kernel
theorem dX9_keepsTo_27 : decode cX9_keepsTo 27 = .ok (.aload_n 0, 1) := by decide +kernel
theorem dX9_keepsTo_28 : decode cX9_keepsTo 28 = .ok (.getfield 19, 3) := by decide +kernel
theorem dX9_keepsTo_31 : decode cX9_keepsTo 31 = .ok (.iload_n 2, 1) := by decide +kernel
theorem dX9_keepsTo_32 : decode cX9_keepsTo 32 = .ok (.aaload, 1) := by decide +kernel
theorem dX9_keepsTo_33 : decode cX9_keepsTo 33 = .ok (.iload 5, 2) := by decide +kernel
theorem dX9_keepsTo_35 : decode cX9_keepsTo 35 = .ok (.iaload, 1) := by decide +kernel
theorem dX9_keepsTo_36 : decode cX9_keepsTo 36 = .ok (.iadd, 1) := by decide +kernel
theorem dX9_keepsTo_37 : decode cX9_keepsTo 37 = .ok (.istore 4, 2) := by decide +kernel
theorem dX9_keepsTo_39 : decode cX9_keepsTo 39 = .ok (.iload 4, 2) := by decide +kernel
theorem dX9_keepsTo_41 : decode cX9_keepsTo 41 = .ok (.aload_n 1, 1) := by decide +kernel
theorem dX9_keepsTo_42 : decode cX9_keepsTo 42 = .ok (.iload 5, 2) := by decide +kernel
theorem dX9_keepsTo_44 : decode cX9_keepsTo 44 = .ok (.iconst 1, 1) := by decide +kernel
theorem dX9_keepsTo_45 : decode cX9_keepsTo 45 = .ok (.iadd, 1) := by decide +kernel
theorem dX9_keepsTo_46 : decode cX9_keepsTo 46 = .ok (.iload_n 3, 1) := by decide +kernel
theorem dX9_keepsTo_47 : decode cX9_keepsTo 47 = .ok (.isub, 1) := by decide +kernel
theorem dX9_keepsTo_48 : decode cX9_keepsTo 48 = .ok (.invokevirtual 115, 3) := by decide +kernel
theorem dX9_keepsTo_51 : decode cX9_keepsTo 51 = .ok (.if_icmp .le 5, 3) := by decide +kernel
theorem dX9_keepsTo_54 : decode cX9_keepsTo 54 = .ok (.iconst 0, 1) := by decide +kernel
theorem dX9_keepsTo_55 : decode cX9_keepsTo 55 = .ok (.ireturn, 1) := by decide +kernel
theorem dX9_keepsTo_56 : decode cX9_keepsTo 56 = .ok (.iinc 5 1, 3) := by decide +kernel
theorem dX9_keepsTo_59 : decode cX9_keepsTo 59 = .ok (.goto (-43), 3) := by decide +kernel
theorem dX9_keepsTo_62 : decode cX9_keepsTo 62 = .ok (.iinc 3 1, 3) := by decide +kernel
theorem dX9_keepsTo_65 : decode cX9_keepsTo 65 = .ok (.goto (-63), 3) := by decide +kernel
theorem dX9_keepsTo_68 : decode cX9_keepsTo 68 = .ok (.iconst 1, 1) := by decide +kernel
theorem dX9_keepsTo_69 : decode cX9_keepsTo 69 = .ok (.ireturn, 1) := by decide +kernel
theorem dX9_latestOfAll_0 : decode cX9_latestOfAll 0 = .ok (.iconst (-1), 1) := by decide +kernel
theorem dX9_latestOfAll_1 : decode cX9_latestOfAll 1 = .ok (.istore_n 1, 1) := by decide +kernel
theorem dX9_latestOfAll_2 : decode cX9_latestOfAll 2 = .ok (.iconst 0, 1) := by decide +kernel
theorem dX9_latestOfAll_3 : decode cX9_latestOfAll 3 = .ok (.istore_n 2, 1) := by decide +kernel
theorem dX9_latestOfAll_4 : decode cX9_latestOfAll 4 = .ok (.iload_n 2, 1) := by decide +kernel
theorem dX9_latestOfAll_5 : decode cX9_latestOfAll 5 = .ok (.iconst 4, 1) := by decide +kernel
theorem dX9_latestOfAll_6 : decode cX9_latestOfAll 6 = .ok (.if_icmp .ge 20, 3) := by decide +kernel
theorem dX9_latestOfAll_9 : decode cX9_latestOfAll 9 = .ok (.iload_n 1, 1) := by decide +kernel
theorem dX9_latestOfAll_10 : decode cX9_latestOfAll 10 = .ok (.aload_n 0, 1) := by decide +kernel
theorem dX9_latestOfAll_11 : decode cX9_latestOfAll 11 = .ok (.getfield 35, 3) := by decide +kernel
theorem dX9_latestOfAll_14 : decode cX9_latestOfAll 14 = .ok (.iload_n 2, 1) := by decide +kernel
theorem dX9_latestOfAll_15 : decode cX9_latestOfAll 15 = .ok (.iaload, 1) := by decide +kernel
theorem dX9_latestOfAll_16 : decode cX9_latestOfAll 16 = .ok (.invokestatic 51, 3) := by decide +kernel
theorem dX9_latestOfAll_19 : decode cX9_latestOfAll 19 = .ok (.istore_n 1, 1) := by decide +kernel
theorem dX9_latestOfAll_20 : decode cX9_latestOfAll 20 = .ok (.iinc 2 1, 3) := by decide +kernel
theorem dX9_latestOfAll_23 : decode cX9_latestOfAll 23 = .ok (.goto (-19), 3) := by decide +kernel
theorem dX9_latestOfAll_26 : decode cX9_latestOfAll 26 = .ok (.iload_n 1, 1) := by decide +kernel
theorem dX9_latestOfAll_27 : decode cX9_latestOfAll 27 = .ok (.ireturn, 1) := by decide +kernel
theorem dX9_nextPlace_0 : decode cX9_nextPlace 0 = .ok (.iconst 0, 1) := by decide +kernel
theorem dX9_nextPlace_1 : decode cX9_nextPlace 1 = .ok (.istore 4, 2) := by decide +kernel
theorem dX9_nextPlace_3 : decode cX9_nextPlace 3 = .ok (.iload_n 1, 1) := by decide +kernel
theorem dX9_nextPlace_4 : decode cX9_nextPlace 4 = .ok (.ifCond .ne 16, 3) := by decide +kernel
theorem dX9_nextPlace_7 : decode cX9_nextPlace 7 = .ok (.aload_n 0, 1) := by decide +kernel
theorem dX9_nextPlace_8 : decode cX9_nextPlace 8 = .ok (.getfield 22, 3) := by decide +kernel
theorem dX9_nextPlace_11 : decode cX9_nextPlace 11 = .ok (.iload_n 2, 1) := by decide +kernel
theorem dX9_nextPlace_12 : decode cX9_nextPlace 12 = .ok (.iaload, 1) := by decide +kernel
theorem dX9_nextPlace_13 : decode cX9_nextPlace 13 = .ok (.iconst 1, 1) := by decide +kernel
theorem dX9_nextPlace_14 : decode cX9_nextPlace 14 = .ok (.isub, 1) := by decide +kernel
theorem dX9_nextPlace_15 : decode cX9_nextPlace 15 = .ok (.istore 4, 2) := by decide +kernel
theorem dX9_nextPlace_17 : decode cX9_nextPlace 17 = .ok (.goto 46, 3) := by decide +kernel
theorem dX9_nextPlace_20 : decode cX9_nextPlace 20 = .ok (.iload_n 1, 1) := by decide +kernel
theorem dX9_nextPlace_21 : decode cX9_nextPlace 21 = .ok (.iconst 1, 1) := by decide +kernel
theorem dX9_nextPlace_22 : decode cX9_nextPlace 22 = .ok (.if_icmp .ne 14, 3) := by decide +kernel
theorem dX9_nextPlace_25 : decode cX9_nextPlace 25 = .ok (.aload_n 0, 1) := by decide +kernel
theorem dX9_nextPlace_26 : decode cX9_nextPlace 26 = .ok (.iload_n 2, 1) := by decide +kernel
theorem dX9_nextPlace_27 : decode cX9_nextPlace 27 = .ok (.iconst (-1), 1) := by decide +kernel
theorem dX9_nextPlace_28 : decode cX9_nextPlace 28 = .ok (.invokevirtual 121, 3) := by decide +kernel
theorem dX9_nextPlace_31 : decode cX9_nextPlace 31 = .ok (.istore 4, 2) := by decide +kernel
theorem dX9_nextPlace_33 : decode cX9_nextPlace 33 = .ok (.goto 30, 3) := by decide +kernel
theorem dX9_nextPlace_36 : decode cX9_nextPlace 36 = .ok (.iload_n 1, 1) := by decide +kernel
theorem dX9_nextPlace_37 : decode cX9_nextPlace 37 = .ok (.iconst 3, 1) := by decide +kernel
theorem dX9_nextPlace_38 : decode cX9_nextPlace 38 = .ok (.if_icmp .ne 25, 3) := by decide +kernel
theorem dX9_nextPlace_41 : decode cX9_nextPlace 41 = .ok (.aload_n 0, 1) := by decide +kernel
theorem dX9_nextPlace_42 : decode cX9_nextPlace 42 = .ok (.iload_n 2, 1) := by decide +kernel
theorem dX9_nextPlace_43 : decode cX9_nextPlace 43 = .ok (.iload_n 3, 1) := by decide +kernel
theorem dX9_nextPlace_44 : decode cX9_nextPlace 44 = .ok (.invokevirtual 121, 3) := by decide +kernel
theorem dX9_nextPlace_47 : decode cX9_nextPlace 47 = .ok (.istore 4, 2) := by decide +kernel
theorem dX9_nextPlace_49 : decode cX9_nextPlace 49 = .ok (.iload 4, 2) := by decide +kernel
theorem dX9_nextPlace_51 : decode cX9_nextPlace 51 = .ok (.iconst (-1), 1) := by decide +kernel
theorem dX9_nextPlace_52 : decode cX9_nextPlace 52 = .ok (.if_icmp .ne 11, 3) := by decide +kernel
theorem dX9_nextPlace_55 : decode cX9_nextPlace 55 = .ok (.aload_n 0, 1) := by decide +kernel
theorem dX9_nextPlace_56 : decode cX9_nextPlace 56 = .ok (.iload_n 2, 1) := by decide +kernel
theorem dX9_nextPlace_57 : decode cX9_nextPlace 57 = .ok (.iconst (-1), 1) := by decide +kernel
theorem dX9_nextPlace_58 : decode cX9_nextPlace 58 = .ok (.invokevirtual 121, 3) := by decide +kernel
theorem dX9_nextPlace_61 : decode cX9_nextPlace 61 = .ok (.istore 4, 2) := by decide +kernel
theorem dX9_nextPlace_63 : decode cX9_nextPlace 63 = .ok (.iconst 0, 1) := by decide +kernel
theorem dX9_nextPlace_64 : decode cX9_nextPlace 64 = .ok (.iload 4, 2) := by decide +kernel
theorem dX9_nextPlace_66 : decode cX9_nextPlace 66 = .ok (.invokestatic 51, 3) := by decide +kernel
theorem dX9_nextPlace_69 : decode cX9_nextPlace 69 = .ok (.ireturn, 1) := by decide +kernel
theorem dX9_oldestOf_0 : decode cX9_oldestOf 0 = .ok (.iconst (-1), 1) := by decide +kernel
theorem dX9_oldestOf_1 : decode cX9_oldestOf 1 = .ok (.istore_n 2, 1) := by decide +kernel
theorem dX9_oldestOf_2 : decode cX9_oldestOf 2 = .ok (.iconst 0, 1) := by decide +kernel
theorem dX9_oldestOf_3 : decode cX9_oldestOf 3 = .ok (.istore_n 3, 1) := by decide +kernel
theorem dX9_oldestOf_4 : decode cX9_oldestOf 4 = .ok (.iload_n 3, 1) := by decide +kernel
theorem dX9_oldestOf_5 : decode cX9_oldestOf 5 = .ok (.iconst 4, 1) := by decide +kernel
theorem dX9_oldestOf_6 : decode cX9_oldestOf 6 = .ok (.if_icmp .ge 73, 3) := by decide +kernel
theorem dX9_oldestOf_9 : decode cX9_oldestOf 9 = .ok (.iconst 0, 1) := by decide +kernel
theorem dX9_oldestOf_10 : decode cX9_oldestOf 10 = .ok (.istore 4, 2) := by decide +kernel
theorem dX9_oldestOf_12 : decode cX9_oldestOf 12 = .ok (.iload 4, 2) := by decide +kernel
theorem dX9_oldestOf_14 : decode cX9_oldestOf 14 = .ok (.aload_n 0, 1) := by decide +kernel
theorem dX9_oldestOf_15 : decode cX9_oldestOf 15 = .ok (.getfield 22, 3) := by decide +kernel
theorem dX9_oldestOf_18 : decode cX9_oldestOf 18 = .ok (.iload_n 3, 1) := by decide +kernel
theorem dX9_oldestOf_19 : decode cX9_oldestOf 19 = .ok (.iaload, 1) := by decide +kernel
theorem dX9_oldestOf_20 : decode cX9_oldestOf 20 = .ok (.if_icmp .ge 53, 3) := by decide +kernel
theorem dX9_oldestOf_23 : decode cX9_oldestOf 23 = .ok (.aload_n 0, 1) := by decide +kernel
theorem dX9_oldestOf_24 : decode cX9_oldestOf 24 = .ok (.getfield 11, 3) := by decide +kernel
theorem dX9_oldestOf_27 : decode cX9_oldestOf 27 = .ok (.iload_n 3, 1) := by decide +kernel
theorem dX9_oldestOf_28 : decode cX9_oldestOf 28 = .ok (.aaload, 1) := by decide +kernel
theorem dX9_oldestOf_29 : decode cX9_oldestOf 29 = .ok (.iload 4, 2) := by decide +kernel
theorem dX9_oldestOf_31 : decode cX9_oldestOf 31 = .ok (.iaload, 1) := by decide +kernel
theorem dX9_oldestOf_32 : decode cX9_oldestOf 32 = .ok (.bipush 64, 2) := by decide +kernel
theorem dX9_oldestOf_34 : decode cX9_oldestOf 34 = .ok (.irem, 1) := by decide +kernel
theorem dX9_oldestOf_35 : decode cX9_oldestOf 35 = .ok (.istore 5, 2) := by decide +kernel
theorem dX9_oldestOf_37 : decode cX9_oldestOf 37 = .ok (.aload_n 0, 1) := by decide +kernel
theorem dX9_oldestOf_38 : decode cX9_oldestOf 38 = .ok (.getfield 11, 3) := by decide +kernel
theorem dX9_oldestOf_41 : decode cX9_oldestOf 41 = .ok (.iload_n 3, 1) := by decide +kernel
theorem dX9_oldestOf_42 : decode cX9_oldestOf 42 = .ok (.aaload, 1) := by decide +kernel
theorem dX9_oldestOf_43 : decode cX9_oldestOf 43 = .ok (.iload 4, 2) := by decide +kernel
theorem dX9_oldestOf_45 : decode cX9_oldestOf 45 = .ok (.iaload, 1) := by decide +kernel
theorem dX9_oldestOf_46 : decode cX9_oldestOf 46 = .ok (.bipush 64, 2) := by decide +kernel
theorem dX9_oldestOf_48 : decode cX9_oldestOf 48 = .ok (.idiv, 1) := by decide +kernel
theorem dX9_oldestOf_49 : decode cX9_oldestOf 49 = .ok (.iload_n 1, 1) := by decide +kernel
theorem dX9_oldestOf_50 : decode cX9_oldestOf 50 = .ok (.if_icmp .ne 17, 3) := by decide +kernel
theorem dX9_oldestOf_53 : decode cX9_oldestOf 53 = .ok (.iload_n 2, 1) := by decide +kernel
theorem dX9_oldestOf_54 : decode cX9_oldestOf 54 = .ok (.iconst (-1), 1) := by decide +kernel
theorem dX9_oldestOf_55 : decode cX9_oldestOf 55 = .ok (.if_icmp .eq 9, 3) := by decide +kernel
theorem dX9_oldestOf_58 : decode cX9_oldestOf 58 = .ok (.iload 5, 2) := by decide +kernel
theorem dX9_oldestOf_60 : decode cX9_oldestOf 60 = .ok (.iload_n 2, 1) := by decide +kernel
theorem dX9_oldestOf_61 : decode cX9_oldestOf 61 = .ok (.if_icmp .ge 6, 3) := by decide +kernel
theorem dX9_oldestOf_64 : decode cX9_oldestOf 64 = .ok (.iload 5, 2) := by decide +kernel
theorem dX9_oldestOf_66 : decode cX9_oldestOf 66 = .ok (.istore_n 2, 1) := by decide +kernel
theorem dX9_oldestOf_67 : decode cX9_oldestOf 67 = .ok (.iinc 4 1, 3) := by decide +kernel
theorem dX9_oldestOf_70 : decode cX9_oldestOf 70 = .ok (.goto (-58), 3) := by decide +kernel
theorem dX9_oldestOf_73 : decode cX9_oldestOf 73 = .ok (.iinc 3 1, 3) := by decide +kernel
theorem dX9_oldestOf_76 : decode cX9_oldestOf 76 = .ok (.goto (-72), 3) := by decide +kernel
theorem dX9_oldestOf_79 : decode cX9_oldestOf 79 = .ok (.iload_n 2, 1) := by decide +kernel
theorem dX9_oldestOf_80 : decode cX9_oldestOf 80 = .ok (.ireturn, 1) := by decide +kernel
theorem dX9_passOn_0 : decode cX9_passOn 0 = .ok (.aload_n 0, 1) := by decide +kernel
theorem dX9_passOn_1 : decode cX9_passOn 1 = .ok (.getfield 41, 3) := by decide +kernel
theorem dX9_passOn_4 : decode cX9_passOn 4 = .ok (.bipush 60, 2) := by decide +kernel
theorem dX9_passOn_6 : decode cX9_passOn 6 = .ok (.if_icmp .lt 5, 3) := by decide +kernel
theorem dX9_passOn_9 : decode cX9_passOn 9 = .ok (.iconst (-1), 1) := by decide +kernel
theorem dX9_passOn_10 : decode cX9_passOn 10 = .ok (.ireturn, 1) := by decide +kernel
theorem dX9_passOn_11 : decode cX9_passOn 11 = .ok (.iconst 0, 1) := by decide +kernel
theorem dX9_passOn_12 : decode cX9_passOn 12 = .ok (.istore_n 2, 1) := by decide +kernel
theorem dX9_passOn_13 : decode cX9_passOn 13 = .ok (.iload_n 2, 1) := by decide +kernel
theorem dX9_passOn_14 : decode cX9_passOn 14 = .ok (.aload_n 1, 1) := by decide +kernel
theorem dX9_passOn_15 : decode cX9_passOn 15 = .ok (.getfield 80, 3) := by decide +kernel
theorem dX9_passOn_18 : decode cX9_passOn 18 = .ok (.if_icmp .ge 15, 3) := by decide +kernel
theorem dX9_passOn_21 : decode cX9_passOn 21 = .ok (.aload_n 0, 1) := by decide +kernel
theorem dX9_passOn_22 : decode cX9_passOn 22 = .ok (.aload_n 1, 1) := by decide +kernel
theorem dX9_passOn_23 : decode cX9_passOn 23 = .ok (.iload_n 2, 1) := by decide +kernel
theorem dX9_passOn_24 : decode cX9_passOn 24 = .ok (.invokevirtual 83, 3) := by decide +kernel
theorem dX9_passOn_27 : decode cX9_passOn 27 = .ok (.iinc 2 1, 3) := by decide +kernel
theorem dX9_passOn_30 : decode cX9_passOn 30 = .ok (.goto (-17), 3) := by decide +kernel
theorem dX9_passOn_33 : decode cX9_passOn 33 = .ok (.aload_n 0, 1) := by decide +kernel
theorem dX9_passOn_34 : decode cX9_passOn 34 = .ok (.dup, 1) := by decide +kernel
theorem dX9_passOn_35 : decode cX9_passOn 35 = .ok (.getfield 41, 3) := by decide +kernel
theorem dX9_passOn_38 : decode cX9_passOn 38 = .ok (.iconst 1, 1) := by decide +kernel
theorem dX9_passOn_39 : decode cX9_passOn 39 = .ok (.iadd, 1) := by decide +kernel
theorem dX9_passOn_40 : decode cX9_passOn 40 = .ok (.putfield 41, 3) := by decide +kernel
theorem dX9_passOn_43 : decode cX9_passOn 43 = .ok (.iconst 0, 1) := by decide +kernel
theorem dX9_passOn_44 : decode cX9_passOn 44 = .ok (.istore_n 2, 1) := by decide +kernel
theorem dX9_passOn_45 : decode cX9_passOn 45 = .ok (.iconst 0, 1) := by decide +kernel
theorem dX9_passOn_46 : decode cX9_passOn 46 = .ok (.istore_n 3, 1) := by decide +kernel
theorem dX9_passOn_47 : decode cX9_passOn 47 = .ok (.iload_n 3, 1) := by decide +kernel
theorem dX9_passOn_48 : decode cX9_passOn 48 = .ok (.aload_n 1, 1) := by decide +kernel
theorem dX9_passOn_49 : decode cX9_passOn 49 = .ok (.getfield 80, 3) := by decide +kernel
theorem dX9_passOn_52 : decode cX9_passOn 52 = .ok (.if_icmp .ge 47, 3) := by decide +kernel
theorem dX9_passOn_55 : decode cX9_passOn 55 = .ok (.iconst 0, 1) := by decide +kernel
theorem dX9_passOn_56 : decode cX9_passOn 56 = .ok (.istore 4, 2) := by decide +kernel
theorem dX9_passOn_58 : decode cX9_passOn 58 = .ok (.iload 4, 2) := by decide +kernel
theorem dX9_passOn_60 : decode cX9_passOn 60 = .ok (.aload_n 0, 1) := by decide +kernel
theorem dX9_passOn_61 : decode cX9_passOn 61 = .ok (.getfield 38, 3) := by decide +kernel
theorem dX9_passOn_64 : decode cX9_passOn 64 = .ok (.iload_n 3, 1) := by decide +kernel
theorem dX9_passOn_65 : decode cX9_passOn 65 = .ok (.iaload, 1) := by decide +kernel
theorem dX9_passOn_66 : decode cX9_passOn 66 = .ok (.if_icmp .ge 27, 3) := by decide +kernel
theorem dX9_passOn_69 : decode cX9_passOn 69 = .ok (.iload_n 2, 1) := by decide +kernel
theorem dX9_passOn_70 : decode cX9_passOn 70 = .ok (.aload_n 0, 1) := by decide +kernel
theorem dX9_passOn_71 : decode cX9_passOn 71 = .ok (.aload_n 1, 1) := by decide +kernel
theorem dX9_passOn_72 : decode cX9_passOn 72 = .ok (.iload_n 3, 1) := by decide +kernel
theorem dX9_passOn_73 : decode cX9_passOn 73 = .ok (.aload_n 0, 1) := by decide +kernel
theorem dX9_passOn_74 : decode cX9_passOn 74 = .ok (.getfield 16, 3) := by decide +kernel
theorem dX9_passOn_77 : decode cX9_passOn 77 = .ok (.iload_n 3, 1) := by decide +kernel
theorem dX9_passOn_78 : decode cX9_passOn 78 = .ok (.aaload, 1) := by decide +kernel
theorem dX9_passOn_79 : decode cX9_passOn 79 = .ok (.iload 4, 2) := by decide +kernel
theorem dX9_passOn_81 : decode cX9_passOn 81 = .ok (.iaload, 1) := by decide +kernel
theorem dX9_passOn_82 : decode cX9_passOn 82 = .ok (.invokevirtual 87, 3) := by decide +kernel
theorem dX9_passOn_85 : decode cX9_passOn 85 = .ok (.iadd, 1) := by decide +kernel
theorem dX9_passOn_86 : decode cX9_passOn 86 = .ok (.istore_n 2, 1) := by decide +kernel
theorem dX9_passOn_87 : decode cX9_passOn 87 = .ok (.iinc 4 1, 3) := by decide +kernel
theorem dX9_passOn_90 : decode cX9_passOn 90 = .ok (.goto (-32), 3) := by decide +kernel
theorem dX9_passOn_93 : decode cX9_passOn 93 = .ok (.iinc 3 1, 3) := by decide +kernel
theorem dX9_passOn_96 : decode cX9_passOn 96 = .ok (.goto (-49), 3) := by decide +kernel
theorem dX9_passOn_99 : decode cX9_passOn 99 = .ok (.iload_n 2, 1) := by decide +kernel
theorem dX9_passOn_100 : decode cX9_passOn 100 = .ok (.ireturn, 1) := by decide +kernel
theorem dX9_play_0 : decode cX9_play 0 = .ok (.aload_n 0, 1) := by decide +kernel
theorem dX9_play_1 : decode cX9_play 1 = .ok (.invokevirtual 130, 3) := by decide +kernel
theorem dX9_play_4 : decode cX9_play 4 = .ok (.iconst (-1), 1) := by decide +kernel
theorem dX9_play_5 : decode cX9_play 5 = .ok (.istore_n 3, 1) := by decide +kernel
theorem dX9_play_6 : decode cX9_play 6 = .ok (.iconst 0, 1) := by decide +kernel
theorem dX9_play_7 : decode cX9_play 7 = .ok (.istore 4, 2) := by decide +kernel
theorem dX9_play_9 : decode cX9_play 9 = .ok (.iload 4, 2) := by decide +kernel
theorem dX9_play_11 : decode cX9_play 11 = .ok (.aload_n 2, 1) := by decide +kernel
theorem dX9_play_12 : decode cX9_play 12 = .ok (.getfield 133, 3) := by decide +kernel
theorem dX9_play_15 : decode cX9_play 15 = .ok (.if_icmp .ge 75, 3) := by decide +kernel
theorem dX9_play_18 : decode cX9_play 18 = .ok (.aload_n 2, 1) := by decide +kernel
theorem dX9_play_19 : decode cX9_play 19 = .ok (.getfield 138, 3) := by decide +kernel
theorem dX9_play_22 : decode cX9_play 22 = .ok (.iload 4, 2) := by decide +kernel
theorem dX9_play_24 : decode cX9_play 24 = .ok (.iaload, 1) := by decide +kernel
theorem dX9_play_25 : decode cX9_play 25 = .ok (.iconst (-1), 1) := by decide +kernel
theorem dX9_play_26 : decode cX9_play 26 = .ok (.if_icmp .ne 7, 3) := by decide +kernel
theorem dX9_play_29 : decode cX9_play 29 = .ok (.iconst 1, 1) := by decide +kernel
theorem dX9_play_30 : decode cX9_play 30 = .ok (.goto 4, 3) := by decide +kernel
theorem dX9_play_33 : decode cX9_play 33 = .ok (.iconst 0, 1) := by decide +kernel
theorem dX9_play_34 : decode cX9_play 34 = .ok (.istore 5, 2) := by decide +kernel
theorem dX9_play_36 : decode cX9_play 36 = .ok (.iload 5, 2) := by decide +kernel
theorem dX9_play_38 : decode cX9_play 38 = .ok (.ifCond .eq 11, 3) := by decide +kernel
theorem dX9_play_41 : decode cX9_play 41 = .ok (.aload_n 0, 1) := by decide +kernel
theorem dX9_play_42 : decode cX9_play 42 = .ok (.aload_n 1, 1) := by decide +kernel
theorem dX9_play_43 : decode cX9_play 43 = .ok (.invokevirtual 141, 3) := by decide +kernel
theorem dX9_play_46 : decode cX9_play 46 = .ok (.goto 22, 3) := by decide +kernel
theorem dX9_play_49 : decode cX9_play 49 = .ok (.aload_n 0, 1) := by decide +kernel
theorem dX9_play_50 : decode cX9_play 50 = .ok (.aload_n 1, 1) := by decide +kernel
theorem dX9_play_51 : decode cX9_play 51 = .ok (.aload_n 2, 1) := by decide +kernel
theorem dX9_play_52 : decode cX9_play 52 = .ok (.getfield 138, 3) := by decide +kernel
theorem dX9_play_55 : decode cX9_play 55 = .ok (.iload 4, 2) := by decide +kernel
theorem dX9_play_57 : decode cX9_play 57 = .ok (.iaload, 1) := by decide +kernel
theorem dX9_play_58 : decode cX9_play 58 = .ok (.aload_n 2, 1) := by decide +kernel
theorem dX9_play_59 : decode cX9_play 59 = .ok (.getfield 145, 3) := by decide +kernel
theorem dX9_play_62 : decode cX9_play 62 = .ok (.iload 4, 2) := by decide +kernel
theorem dX9_play_64 : decode cX9_play 64 = .ok (.iaload, 1) := by decide +kernel
theorem dX9_play_65 : decode cX9_play 65 = .ok (.invokevirtual 148, 3) := by decide +kernel
theorem dX9_play_68 : decode cX9_play 68 = .ok (.istore 6, 2) := by decide +kernel
theorem dX9_play_70 : decode cX9_play 70 = .ok (.iload 6, 2) := by decide +kernel
theorem dX9_play_72 : decode cX9_play 72 = .ok (.iconst (-1), 1) := by decide +kernel
theorem dX9_play_73 : decode cX9_play 73 = .ok (.if_icmp .ne 11, 3) := by decide +kernel
theorem dX9_play_76 : decode cX9_play 76 = .ok (.iload_n 3, 1) := by decide +kernel
theorem dX9_play_77 : decode cX9_play 77 = .ok (.iconst (-1), 1) := by decide +kernel
theorem dX9_play_78 : decode cX9_play 78 = .ok (.if_icmp .ne 6, 3) := by decide +kernel
theorem dX9_play_81 : decode cX9_play 81 = .ok (.iload 4, 2) := by decide +kernel
theorem dX9_play_83 : decode cX9_play 83 = .ok (.istore_n 3, 1) := by decide +kernel
theorem dX9_play_84 : decode cX9_play 84 = .ok (.iinc 4 1, 3) := by decide +kernel
theorem dX9_play_87 : decode cX9_play 87 = .ok (.goto (-78), 3) := by decide +kernel
theorem dX9_play_90 : decode cX9_play 90 = .ok (.iload_n 3, 1) := by decide +kernel
theorem dX9_play_91 : decode cX9_play 91 = .ok (.ireturn, 1) := by decide +kernel
theorem dX9_playDraws_0 : decode cX9_playDraws 0 = .ok (.aload_n 0, 1) := by decide +kernel
theorem dX9_playDraws_1 : decode cX9_playDraws 1 = .ok (.iload_n 2, 1) := by decide +kernel
theorem dX9_playDraws_2 : decode cX9_playDraws 2 = .ok (.i2l, 1) := by decide +kernel
theorem dX9_playDraws_3 : decode cX9_playDraws 3 = .ok (.putfield 151, 3) := by decide +kernel
theorem dX9_playDraws_6 : decode cX9_playDraws 6 = .ok (.iconst 0, 1) := by decide +kernel
theorem dX9_playDraws_7 : decode cX9_playDraws 7 = .ok (.istore 4, 2) := by decide +kernel
theorem dX9_playDraws_9 : decode cX9_playDraws 9 = .ok (.iconst 0, 1) := by decide +kernel
theorem dX9_playDraws_10 : decode cX9_playDraws 10 = .ok (.istore 5, 2) := by decide +kernel
theorem dX9_playDraws_12 : decode cX9_playDraws 12 = .ok (.iload 5, 2) := by decide +kernel
theorem dX9_playDraws_14 : decode cX9_playDraws 14 = .ok (.iload_n 3, 1) := by decide +kernel
theorem dX9_playDraws_15 : decode cX9_playDraws 15 = .ok (.if_icmp .ge 67, 3) := by decide +kernel
theorem dX9_playDraws_18 : decode cX9_playDraws 18 = .ok (.aload_n 0, 1) := by decide +kernel
theorem dX9_playDraws_19 : decode cX9_playDraws 19 = .ok (.getfield 41, 3) := by decide +kernel
theorem dX9_playDraws_22 : decode cX9_playDraws 22 = .ok (.bipush 60, 2) := by decide +kernel
theorem dX9_playDraws_24 : decode cX9_playDraws 24 = .ok (.if_icmp .ge 58, 3) := by decide +kernel
theorem dX9_playDraws_27 : decode cX9_playDraws 27 = .ok (.aload_n 1, 1) := by decide +kernel
theorem dX9_playDraws_28 : decode cX9_playDraws 28 = .ok (.getfield 155, 3) := by decide +kernel
theorem dX9_playDraws_31 : decode cX9_playDraws 31 = .ok (.ifCond .le 35, 3) := by decide +kernel
theorem dX9_playDraws_34 : decode cX9_playDraws 34 = .ok (.aload_n 0, 1) := by decide +kernel
theorem dX9_playDraws_35 : decode cX9_playDraws 35 = .ok (.aload_n 1, 1) := by decide +kernel
theorem dX9_playDraws_36 : decode cX9_playDraws 36 = .ok (.getfield 155, 3) := by decide +kernel
theorem dX9_playDraws_39 : decode cX9_playDraws 39 = .ok (.invokevirtual 158, 3) := by decide +kernel
theorem dX9_playDraws_42 : decode cX9_playDraws 42 = .ok (.istore 6, 2) := by decide +kernel
theorem dX9_playDraws_44 : decode cX9_playDraws 44 = .ok (.aload_n 0, 1) := by decide +kernel
theorem dX9_playDraws_45 : decode cX9_playDraws 45 = .ok (.iconst 4, 1) := by decide +kernel
theorem dX9_playDraws_46 : decode cX9_playDraws 46 = .ok (.invokevirtual 158, 3) := by decide +kernel
theorem dX9_playDraws_49 : decode cX9_playDraws 49 = .ok (.istore 7, 2) := by decide +kernel
theorem dX9_playDraws_51 : decode cX9_playDraws 51 = .ok (.iload 7, 2) := by decide +kernel
theorem dX9_playDraws_53 : decode cX9_playDraws 53 = .ok (.ifCond .le 13, 3) := by decide +kernel
theorem dX9_playDraws_56 : decode cX9_playDraws 56 = .ok (.aload_n 0, 1) := by decide +kernel
theorem dX9_playDraws_57 : decode cX9_playDraws 57 = .ok (.aload_n 1, 1) := by decide +kernel
theorem dX9_playDraws_58 : decode cX9_playDraws 58 = .ok (.iload 6, 2) := by decide +kernel
theorem dX9_playDraws_60 : decode cX9_playDraws 60 = .ok (.iload 7, 2) := by decide +kernel
theorem dX9_playDraws_62 : decode cX9_playDraws 62 = .ok (.invokevirtual 148, 3) := by decide +kernel
theorem dX9_playDraws_65 : decode cX9_playDraws 65 = .ok (.pop, 1) := by decide +kernel
theorem dX9_playDraws_66 : decode cX9_playDraws 66 = .ok (.iload 4, 2) := by decide +kernel
theorem dX9_playDraws_68 : decode cX9_playDraws 68 = .ok (.aload_n 0, 1) := by decide +kernel
theorem dX9_playDraws_69 : decode cX9_playDraws 69 = .ok (.aload_n 1, 1) := by decide +kernel
theorem dX9_playDraws_70 : decode cX9_playDraws 70 = .ok (.invokevirtual 141, 3) := by decide +kernel
theorem dX9_playDraws_73 : decode cX9_playDraws 73 = .ok (.iadd, 1) := by decide +kernel
theorem dX9_playDraws_74 : decode cX9_playDraws 74 = .ok (.istore 4, 2) := by decide +kernel
theorem dX9_playDraws_76 : decode cX9_playDraws 76 = .ok (.iinc 5 1, 3) := by decide +kernel
theorem dX9_playDraws_79 : decode cX9_playDraws 79 = .ok (.goto (-67), 3) := by decide +kernel
theorem dX9_playDraws_82 : decode cX9_playDraws 82 = .ok (.iload 4, 2) := by decide +kernel
theorem dX9_playDraws_84 : decode cX9_playDraws 84 = .ok (.ireturn, 1) := by decide +kernel
theorem dX9_quota_0 : decode cX9_quota 0 = .ok (.aload_n 1, 1) := by decide +kernel
theorem dX9_quota_1 : decode cX9_quota 1 = .ok (.getfield 108, 3) := by decide +kernel
theorem dX9_quota_4 : decode cX9_quota 4 = .ok (.aload_n 1, 1) := by decide +kernel
theorem dX9_quota_5 : decode cX9_quota 5 = .ok (.getfield 112, 3) := by decide +kernel
theorem dX9_quota_8 : decode cX9_quota 8 = .ok (.iload_n 2, 1) := by decide +kernel
theorem dX9_quota_9 : decode cX9_quota 9 = .ok (.iaload, 1) := by decide +kernel
theorem dX9_quota_10 : decode cX9_quota 10 = .ok (.aaload, 1) := by decide +kernel
theorem dX9_quota_11 : decode cX9_quota 11 = .ok (.astore_n 3, 1) := by decide +kernel
theorem dX9_quota_12 : decode cX9_quota 12 = .ok (.aload_n 3, 1) := by decide +kernel
theorem dX9_quota_13 : decode cX9_quota 13 = .ok (.aload_n 0, 1) := by decide +kernel
theorem dX9_quota_14 : decode cX9_quota 14 = .ok (.getfield 26, 3) := by decide +kernel
theorem dX9_quota_17 : decode cX9_quota 17 = .ok (.iload_n 2, 1) := by decide +kernel
theorem dX9_quota_18 : decode cX9_quota 18 = .ok (.iaload, 1) := by decide +kernel
theorem dX9_quota_19 : decode cX9_quota 19 = .ok (.iconst 1, 1) := by decide +kernel
theorem dX9_quota_20 : decode cX9_quota 20 = .ok (.iadd, 1) := by decide +kernel
theorem dX9_quota_21 : decode cX9_quota 21 = .ok (.invokevirtual 115, 3) := by decide +kernel
theorem dX9_quota_24 : decode cX9_quota 24 = .ok (.aload_n 3, 1) := by decide +kernel
theorem dX9_quota_25 : decode cX9_quota 25 = .ok (.aload_n 0, 1) := by decide +kernel
theorem dX9_quota_26 : decode cX9_quota 26 = .ok (.getfield 26, 3) := by decide +kernel
theorem dX9_quota_29 : decode cX9_quota 29 = .ok (.iload_n 2, 1) := by decide +kernel
theorem dX9_quota_30 : decode cX9_quota 30 = .ok (.iaload, 1) := by decide +kernel
theorem dX9_quota_31 : decode cX9_quota 31 = .ok (.invokevirtual 115, 3) := by decide +kernel
theorem dX9_quota_34 : decode cX9_quota 34 = .ok (.isub, 1) := by decide +kernel
theorem dX9_quota_35 : decode cX9_quota 35 = .ok (.ireturn, 1) := by decide +kernel
theorem dX9_reset_0 : decode cX9_reset 0 = .ok (.aload_n 0, 1) := by decide +kernel
theorem dX9_reset_1 : decode cX9_reset 1 = .ok (.iconst 0, 1) := by decide +kernel
theorem dX9_reset_2 : decode cX9_reset 2 = .ok (.putfield 41, 3) := by decide +kernel
theorem dX9_reset_5 : decode cX9_reset 5 = .ok (.iconst 0, 1) := by decide +kernel
theorem dX9_reset_6 : decode cX9_reset 6 = .ok (.istore_n 1, 1) := by decide +kernel
theorem dX9_reset_7 : decode cX9_reset 7 = .ok (.iload_n 1, 1) := by decide +kernel
theorem dX9_reset_8 : decode cX9_reset 8 = .ok (.iconst 4, 1) := by decide +kernel
theorem dX9_reset_9 : decode cX9_reset 9 = .ok (.if_icmp .ge 23, 3) := by decide +kernel
theorem dX9_reset_12 : decode cX9_reset 12 = .ok (.aload_n 0, 1) := by decide +kernel
theorem dX9_reset_13 : decode cX9_reset 13 = .ok (.getfield 22, 3) := by decide +kernel
theorem dX9_reset_16 : decode cX9_reset 16 = .ok (.iload_n 1, 1) := by decide +kernel
theorem dX9_reset_17 : decode cX9_reset 17 = .ok (.iconst 0, 1) := by decide +kernel
theorem dX9_reset_18 : decode cX9_reset 18 = .ok (.iastore, 1) := by decide +kernel
theorem dX9_reset_19 : decode cX9_reset 19 = .ok (.aload_n 0, 1) := by decide +kernel
theorem dX9_reset_20 : decode cX9_reset 20 = .ok (.getfield 26, 3) := by decide +kernel
theorem dX9_reset_23 : decode cX9_reset 23 = .ok (.iload_n 1, 1) := by decide +kernel
theorem dX9_reset_24 : decode cX9_reset 24 = .ok (.iconst 0, 1) := by decide +kernel
theorem dX9_reset_25 : decode cX9_reset 25 = .ok (.iastore, 1) := by decide +kernel
theorem dX9_reset_26 : decode cX9_reset 26 = .ok (.iinc 1 1, 3) := by decide +kernel
theorem dX9_reset_29 : decode cX9_reset 29 = .ok (.goto (-22), 3) := by decide +kernel
theorem dX9_reset_32 : decode cX9_reset 32 = .ok (.iconst 0, 1) := by decide +kernel
theorem dX9_reset_33 : decode cX9_reset 33 = .ok (.istore_n 1, 1) := by decide +kernel
theorem dX9_reset_34 : decode cX9_reset 34 = .ok (.iload_n 1, 1) := by decide +kernel
theorem dX9_reset_35 : decode cX9_reset 35 = .ok (.iconst 4, 1) := by decide +kernel
theorem dX9_reset_36 : decode cX9_reset 36 = .ok (.if_icmp .ge 53, 3) := by decide +kernel
theorem dX9_reset_39 : decode cX9_reset 39 = .ok (.aload_n 0, 1) := by decide +kernel
theorem dX9_reset_40 : decode cX9_reset 40 = .ok (.getfield 29, 3) := by decide +kernel
theorem dX9_reset_43 : decode cX9_reset 43 = .ok (.iload_n 1, 1) := by decide +kernel
theorem dX9_reset_44 : decode cX9_reset 44 = .ok (.iconst 0, 1) := by decide +kernel
theorem dX9_reset_45 : decode cX9_reset 45 = .ok (.iastore, 1) := by decide +kernel
theorem dX9_reset_46 : decode cX9_reset 46 = .ok (.aload_n 0, 1) := by decide +kernel
theorem dX9_reset_47 : decode cX9_reset 47 = .ok (.getfield 32, 3) := by decide +kernel
theorem dX9_reset_50 : decode cX9_reset 50 = .ok (.iload_n 1, 1) := by decide +kernel
theorem dX9_reset_51 : decode cX9_reset 51 = .ok (.iconst 0, 1) := by decide +kernel
theorem dX9_reset_52 : decode cX9_reset 52 = .ok (.iastore, 1) := by decide +kernel
theorem dX9_reset_53 : decode cX9_reset 53 = .ok (.aload_n 0, 1) := by decide +kernel
theorem dX9_reset_54 : decode cX9_reset 54 = .ok (.getfield 35, 3) := by decide +kernel
theorem dX9_reset_57 : decode cX9_reset 57 = .ok (.iload_n 1, 1) := by decide +kernel
theorem dX9_reset_58 : decode cX9_reset 58 = .ok (.iconst (-1), 1) := by decide +kernel
theorem dX9_reset_59 : decode cX9_reset 59 = .ok (.iastore, 1) := by decide +kernel
theorem dX9_reset_60 : decode cX9_reset 60 = .ok (.iconst 0, 1) := by decide +kernel
theorem dX9_reset_61 : decode cX9_reset 61 = .ok (.istore_n 2, 1) := by decide +kernel
theorem dX9_reset_62 : decode cX9_reset 62 = .ok (.iload_n 2, 1) := by decide +kernel
theorem dX9_reset_63 : decode cX9_reset 63 = .ok (.bipush 60, 2) := by decide +kernel
theorem dX9_reset_65 : decode cX9_reset 65 = .ok (.if_icmp .gt 18, 3) := by decide +kernel
theorem dX9_reset_68 : decode cX9_reset 68 = .ok (.aload_n 0, 1) := by decide +kernel
theorem dX9_reset_69 : decode cX9_reset 69 = .ok (.getfield 19, 3) := by decide +kernel
theorem dX9_reset_72 : decode cX9_reset 72 = .ok (.iload_n 1, 1) := by decide +kernel
theorem dX9_reset_73 : decode cX9_reset 73 = .ok (.aaload, 1) := by decide +kernel
theorem dX9_reset_74 : decode cX9_reset 74 = .ok (.iload_n 2, 1) := by decide +kernel
theorem dX9_reset_75 : decode cX9_reset 75 = .ok (.iconst 0, 1) := by decide +kernel
theorem dX9_reset_76 : decode cX9_reset 76 = .ok (.iastore, 1) := by decide +kernel
theorem dX9_reset_77 : decode cX9_reset 77 = .ok (.iinc 2 1, 3) := by decide +kernel
theorem dX9_reset_80 : decode cX9_reset 80 = .ok (.goto (-18), 3) := by decide +kernel
theorem dX9_reset_83 : decode cX9_reset 83 = .ok (.iinc 1 1, 3) := by decide +kernel
theorem dX9_reset_86 : decode cX9_reset 86 = .ok (.goto (-52), 3) := by decide +kernel
theorem dX9_reset_89 : decode cX9_reset 89 = .ok (.return_, 1) := by decide +kernel
theorem dX9_sendOn_0 : decode cX9_sendOn 0 = .ok (.iload_n 3, 1) := by decide +kernel
theorem dX9_sendOn_1 : decode cX9_sendOn 1 = .ok (.bipush 64, 2) := by decide +kernel
theorem dX9_sendOn_3 : decode cX9_sendOn 3 = .ok (.idiv, 1) := by decide +kernel
theorem dX9_sendOn_4 : decode cX9_sendOn 4 = .ok (.istore 4, 2) := by decide +kernel
theorem dX9_sendOn_6 : decode cX9_sendOn 6 = .ok (.aload_n 1, 1) := by decide +kernel
theorem dX9_sendOn_7 : decode cX9_sendOn 7 = .ok (.iload 4, 2) := by decide +kernel
theorem dX9_sendOn_9 : decode cX9_sendOn 9 = .ok (.iload_n 2, 1) := by decide +kernel
theorem dX9_sendOn_10 : decode cX9_sendOn 10 = .ok (.invokevirtual 124, 3) := by decide +kernel
theorem dX9_sendOn_13 : decode cX9_sendOn 13 = .ok (.iconst 1, 1) := by decide +kernel
theorem dX9_sendOn_14 : decode cX9_sendOn 14 = .ok (.iadd, 1) := by decide +kernel
theorem dX9_sendOn_15 : decode cX9_sendOn 15 = .ok (.istore 5, 2) := by decide +kernel
theorem dX9_sendOn_17 : decode cX9_sendOn 17 = .ok (.iload 5, 2) := by decide +kernel
theorem dX9_sendOn_19 : decode cX9_sendOn 19 = .ok (.aload_n 1, 1) := by decide +kernel
theorem dX9_sendOn_20 : decode cX9_sendOn 20 = .ok (.getfield 127, 3) := by decide +kernel
theorem dX9_sendOn_23 : decode cX9_sendOn 23 = .ok (.iload 4, 2) := by decide +kernel
theorem dX9_sendOn_25 : decode cX9_sendOn 25 = .ok (.iaload, 1) := by decide +kernel
theorem dX9_sendOn_26 : decode cX9_sendOn 26 = .ok (.if_icmp .ge 20, 3) := by decide +kernel
theorem dX9_sendOn_29 : decode cX9_sendOn 29 = .ok (.aload_n 0, 1) := by decide +kernel
theorem dX9_sendOn_30 : decode cX9_sendOn 30 = .ok (.aload_n 1, 1) := by decide +kernel
theorem dX9_sendOn_31 : decode cX9_sendOn 31 = .ok (.getfield 61, 3) := by decide +kernel
theorem dX9_sendOn_34 : decode cX9_sendOn 34 = .ok (.iload 4, 2) := by decide +kernel
theorem dX9_sendOn_36 : decode cX9_sendOn 36 = .ok (.aaload, 1) := by decide +kernel
theorem dX9_sendOn_37 : decode cX9_sendOn 37 = .ok (.iload 5, 2) := by decide +kernel
theorem dX9_sendOn_39 : decode cX9_sendOn 39 = .ok (.iaload, 1) := by decide +kernel
theorem dX9_sendOn_40 : decode cX9_sendOn 40 = .ok (.iload_n 3, 1) := by decide +kernel
theorem dX9_sendOn_41 : decode cX9_sendOn 41 = .ok (.invokevirtual 76, 3) := by decide +kernel
theorem dX9_sendOn_44 : decode cX9_sendOn 44 = .ok (.iconst 0, 1) := by decide +kernel
theorem dX9_sendOn_45 : decode cX9_sendOn 45 = .ok (.ireturn, 1) := by decide +kernel
theorem dX9_sendOn_46 : decode cX9_sendOn 46 = .ok (.aload_n 0, 1) := by decide +kernel
theorem dX9_sendOn_47 : decode cX9_sendOn 47 = .ok (.getfield 29, 3) := by decide +kernel
theorem dX9_sendOn_50 : decode cX9_sendOn 50 = .ok (.iload 4, 2) := by decide +kernel
theorem dX9_sendOn_52 : decode cX9_sendOn 52 = .ok (.dup2, 1) := by decide +kernel
theorem dX9_sendOn_53 : decode cX9_sendOn 53 = .ok (.iaload, 1) := by decide +kernel
theorem dX9_sendOn_54 : decode cX9_sendOn 54 = .ok (.iconst 1, 1) := by decide +kernel
theorem dX9_sendOn_55 : decode cX9_sendOn 55 = .ok (.iadd, 1) := by decide +kernel
theorem dX9_sendOn_56 : decode cX9_sendOn 56 = .ok (.iastore, 1) := by decide +kernel
theorem dX9_sendOn_57 : decode cX9_sendOn 57 = .ok (.aload_n 0, 1) := by decide +kernel
theorem dX9_sendOn_58 : decode cX9_sendOn 58 = .ok (.getfield 35, 3) := by decide +kernel
theorem dX9_sendOn_61 : decode cX9_sendOn 61 = .ok (.iload 4, 2) := by decide +kernel
theorem dX9_sendOn_63 : decode cX9_sendOn 63 = .ok (.aload_n 0, 1) := by decide +kernel
theorem dX9_sendOn_64 : decode cX9_sendOn 64 = .ok (.getfield 35, 3) := by decide +kernel
theorem dX9_sendOn_67 : decode cX9_sendOn 67 = .ok (.iload 4, 2) := by decide +kernel
theorem dX9_sendOn_69 : decode cX9_sendOn 69 = .ok (.iaload, 1) := by decide +kernel
theorem dX9_sendOn_70 : decode cX9_sendOn 70 = .ok (.aload_n 0, 1) := by decide +kernel
theorem dX9_sendOn_71 : decode cX9_sendOn 71 = .ok (.getfield 41, 3) := by decide +kernel
theorem dX9_sendOn_74 : decode cX9_sendOn 74 = .ok (.iload_n 3, 1) := by decide +kernel
theorem dX9_sendOn_75 : decode cX9_sendOn 75 = .ok (.bipush 64, 2) := by decide +kernel
theorem dX9_sendOn_77 : decode cX9_sendOn 77 = .ok (.irem, 1) := by decide +kernel
theorem dX9_sendOn_78 : decode cX9_sendOn 78 = .ok (.isub, 1) := by decide +kernel
theorem dX9_sendOn_79 : decode cX9_sendOn 79 = .ok (.invokestatic 51, 3) := by decide +kernel
theorem dX9_sendOn_82 : decode cX9_sendOn 82 = .ok (.iastore, 1) := by decide +kernel
theorem dX9_sendOn_83 : decode cX9_sendOn 83 = .ok (.iconst 1, 1) := by decide +kernel
theorem dX9_sendOn_84 : decode cX9_sendOn 84 = .ok (.ireturn, 1) := by decide +kernel
theorem dX9_serveAt_0 : decode cX9_serveAt 0 = .ok (.aload_n 0, 1) := by decide +kernel
theorem dX9_serveAt_1 : decode cX9_serveAt 1 = .ok (.getfield 22, 3) := by decide +kernel
theorem dX9_serveAt_4 : decode cX9_serveAt 4 = .ok (.iload_n 2, 1) := by decide +kernel
theorem dX9_serveAt_5 : decode cX9_serveAt 5 = .ok (.iaload, 1) := by decide +kernel
theorem dX9_serveAt_6 : decode cX9_serveAt 6 = .ok (.aload_n 0, 1) := by decide +kernel
theorem dX9_serveAt_7 : decode cX9_serveAt 7 = .ok (.aload_n 1, 1) := by decide +kernel
theorem dX9_serveAt_8 : decode cX9_serveAt 8 = .ok (.iload_n 2, 1) := by decide +kernel
theorem dX9_serveAt_9 : decode cX9_serveAt 9 = .ok (.invokevirtual 91, 3) := by decide +kernel
theorem dX9_serveAt_12 : decode cX9_serveAt 12 = .ok (.invokestatic 95, 3) := by decide +kernel
theorem dX9_serveAt_15 : decode cX9_serveAt 15 = .ok (.istore_n 3, 1) := by decide +kernel
theorem dX9_serveAt_16 : decode cX9_serveAt 16 = .ok (.iconst (-1), 1) := by decide +kernel
theorem dX9_serveAt_17 : decode cX9_serveAt 17 = .ok (.istore 4, 2) := by decide +kernel
theorem dX9_serveAt_19 : decode cX9_serveAt 19 = .ok (.aload_n 0, 1) := by decide +kernel
theorem dX9_serveAt_20 : decode cX9_serveAt 20 = .ok (.getfield 38, 3) := by decide +kernel
theorem dX9_serveAt_23 : decode cX9_serveAt 23 = .ok (.iload_n 2, 1) := by decide +kernel
theorem dX9_serveAt_24 : decode cX9_serveAt 24 = .ok (.iload_n 3, 1) := by decide +kernel
theorem dX9_serveAt_25 : decode cX9_serveAt 25 = .ok (.iastore, 1) := by decide +kernel
theorem dX9_serveAt_26 : decode cX9_serveAt 26 = .ok (.aload_n 0, 1) := by decide +kernel
theorem dX9_serveAt_27 : decode cX9_serveAt 27 = .ok (.getfield 26, 3) := by decide +kernel
theorem dX9_serveAt_30 : decode cX9_serveAt 30 = .ok (.iload_n 2, 1) := by decide +kernel
theorem dX9_serveAt_31 : decode cX9_serveAt 31 = .ok (.iload_n 3, 1) := by decide +kernel
theorem dX9_serveAt_32 : decode cX9_serveAt 32 = .ok (.aload_n 0, 1) := by decide +kernel
theorem dX9_serveAt_33 : decode cX9_serveAt 33 = .ok (.getfield 22, 3) := by decide +kernel
theorem dX9_serveAt_36 : decode cX9_serveAt 36 = .ok (.iload_n 2, 1) := by decide +kernel
theorem dX9_serveAt_37 : decode cX9_serveAt 37 = .ok (.iaload, 1) := by decide +kernel
theorem dX9_serveAt_38 : decode cX9_serveAt 38 = .ok (.if_icmp .ge 14, 3) := by decide +kernel
theorem dX9_serveAt_41 : decode cX9_serveAt 41 = .ok (.aload_n 0, 1) := by decide +kernel
theorem dX9_serveAt_42 : decode cX9_serveAt 42 = .ok (.getfield 26, 3) := by decide +kernel
theorem dX9_serveAt_45 : decode cX9_serveAt 45 = .ok (.iload_n 2, 1) := by decide +kernel
theorem dX9_serveAt_46 : decode cX9_serveAt 46 = .ok (.iaload, 1) := by decide +kernel
theorem dX9_serveAt_47 : decode cX9_serveAt 47 = .ok (.iconst 1, 1) := by decide +kernel
theorem dX9_serveAt_48 : decode cX9_serveAt 48 = .ok (.iadd, 1) := by decide +kernel
theorem dX9_serveAt_49 : decode cX9_serveAt 49 = .ok (.goto 4, 3) := by decide +kernel
theorem dX9_serveAt_52 : decode cX9_serveAt 52 = .ok (.iconst 0, 1) := by decide +kernel
theorem dX9_serveAt_53 : decode cX9_serveAt 53 = .ok (.iastore, 1) := by decide +kernel
theorem dX9_serveAt_54 : decode cX9_serveAt 54 = .ok (.iconst 0, 1) := by decide +kernel
theorem dX9_serveAt_55 : decode cX9_serveAt 55 = .ok (.istore 5, 2) := by decide +kernel
theorem dX9_serveAt_57 : decode cX9_serveAt 57 = .ok (.iload 5, 2) := by decide +kernel
theorem dX9_serveAt_59 : decode cX9_serveAt 59 = .ok (.iload_n 3, 1) := by decide +kernel
theorem dX9_serveAt_60 : decode cX9_serveAt 60 = .ok (.if_icmp .ge 63, 3) := by decide +kernel
theorem dX9_serveAt_63 : decode cX9_serveAt 63 = .ok (.aload_n 0, 1) := by decide +kernel
theorem dX9_serveAt_64 : decode cX9_serveAt 64 = .ok (.aload_n 1, 1) := by decide +kernel
theorem dX9_serveAt_65 : decode cX9_serveAt 65 = .ok (.getfield 98, 3) := by decide +kernel
theorem dX9_serveAt_68 : decode cX9_serveAt 68 = .ok (.iload_n 2, 1) := by decide +kernel
theorem dX9_serveAt_69 : decode cX9_serveAt 69 = .ok (.iaload, 1) := by decide +kernel
theorem dX9_serveAt_70 : decode cX9_serveAt 70 = .ok (.iload_n 2, 1) := by decide +kernel
theorem dX9_serveAt_71 : decode cX9_serveAt 71 = .ok (.iload 4, 2) := by decide +kernel
theorem dX9_serveAt_73 : decode cX9_serveAt 73 = .ok (.invokevirtual 101, 3) := by decide +kernel
theorem dX9_serveAt_76 : decode cX9_serveAt 76 = .ok (.istore 6, 2) := by decide +kernel
theorem dX9_serveAt_78 : decode cX9_serveAt 78 = .ok (.aload_n 0, 1) := by decide +kernel
theorem dX9_serveAt_79 : decode cX9_serveAt 79 = .ok (.getfield 16, 3) := by decide +kernel
theorem dX9_serveAt_82 : decode cX9_serveAt 82 = .ok (.iload_n 2, 1) := by decide +kernel
theorem dX9_serveAt_83 : decode cX9_serveAt 83 = .ok (.aaload, 1) := by decide +kernel
theorem dX9_serveAt_84 : decode cX9_serveAt 84 = .ok (.iload 5, 2) := by decide +kernel
theorem dX9_serveAt_86 : decode cX9_serveAt 86 = .ok (.aload_n 0, 1) := by decide +kernel
theorem dX9_serveAt_87 : decode cX9_serveAt 87 = .ok (.getfield 11, 3) := by decide +kernel
theorem dX9_serveAt_90 : decode cX9_serveAt 90 = .ok (.iload_n 2, 1) := by decide +kernel
theorem dX9_serveAt_91 : decode cX9_serveAt 91 = .ok (.aaload, 1) := by decide +kernel
theorem dX9_serveAt_92 : decode cX9_serveAt 92 = .ok (.iload 6, 2) := by decide +kernel
theorem dX9_serveAt_94 : decode cX9_serveAt 94 = .ok (.iaload, 1) := by decide +kernel
theorem dX9_serveAt_95 : decode cX9_serveAt 95 = .ok (.iastore, 1) := by decide +kernel
theorem dX9_serveAt_96 : decode cX9_serveAt 96 = .ok (.aload_n 0, 1) := by decide +kernel
theorem dX9_serveAt_97 : decode cX9_serveAt 97 = .ok (.getfield 16, 3) := by decide +kernel
theorem dX9_serveAt_100 : decode cX9_serveAt 100 = .ok (.iload_n 2, 1) := by decide +kernel
theorem dX9_serveAt_101 : decode cX9_serveAt 101 = .ok (.aaload, 1) := by decide +kernel
theorem dX9_serveAt_102 : decode cX9_serveAt 102 = .ok (.iload 5, 2) := by decide +kernel
theorem dX9_serveAt_104 : decode cX9_serveAt 104 = .ok (.iaload, 1) := by decide +kernel
theorem dX9_serveAt_105 : decode cX9_serveAt 105 = .ok (.bipush 64, 2) := by decide +kernel
theorem dX9_serveAt_107 : decode cX9_serveAt 107 = .ok (.idiv, 1) := by decide +kernel
theorem dX9_serveAt_108 : decode cX9_serveAt 108 = .ok (.istore 4, 2) := by decide +kernel
theorem dX9_serveAt_110 : decode cX9_serveAt 110 = .ok (.aload_n 0, 1) := by decide +kernel
theorem dX9_serveAt_111 : decode cX9_serveAt 111 = .ok (.iload_n 2, 1) := by decide +kernel
theorem dX9_serveAt_112 : decode cX9_serveAt 112 = .ok (.iload 6, 2) := by decide +kernel
theorem dX9_serveAt_114 : decode cX9_serveAt 114 = .ok (.invokevirtual 105, 3) := by decide +kernel
theorem dX9_serveAt_117 : decode cX9_serveAt 117 = .ok (.iinc 5 1, 3) := by decide +kernel
theorem dX9_serveAt_120 : decode cX9_serveAt 120 = .ok (.goto (-63), 3) := by decide +kernel
theorem dX9_serveAt_123 : decode cX9_serveAt 123 = .ok (.return_, 1) := by decide +kernel
theorem dX9_servedFirst_0 : decode cX9_servedFirst 0 = .ok (.aload_n 0, 1) := by decide +kernel
theorem dX9_servedFirst_1 : decode cX9_servedFirst 1 = .ok (.getfield 22, 3) := by decide +kernel
theorem dX9_servedFirst_4 : decode cX9_servedFirst 4 = .ok (.iload_n 2, 1) := by decide +kernel
theorem dX9_servedFirst_5 : decode cX9_servedFirst 5 = .ok (.iaload, 1) := by decide +kernel
theorem dX9_servedFirst_6 : decode cX9_servedFirst 6 = .ok (.ifCond .eq 12, 3) := by decide +kernel
theorem dX9_servedFirst_9 : decode cX9_servedFirst 9 = .ok (.aload_n 0, 1) := by decide +kernel
theorem dX9_servedFirst_10 : decode cX9_servedFirst 10 = .ok (.aload_n 1, 1) := by decide +kernel
theorem dX9_servedFirst_11 : decode cX9_servedFirst 11 = .ok (.iload_n 2, 1) := by decide +kernel
theorem dX9_servedFirst_12 : decode cX9_servedFirst 12 = .ok (.invokevirtual 91, 3) := by decide +kernel
theorem dX9_servedFirst_15 : decode cX9_servedFirst 15 = .ok (.ifCond .gt 5, 3) := by decide +kernel
theorem dX9_servedFirst_18 : decode cX9_servedFirst 18 = .ok (.iconst (-1), 1) := by decide +kernel
theorem dX9_servedFirst_19 : decode cX9_servedFirst 19 = .ok (.ireturn, 1) := by decide +kernel
theorem dX9_servedFirst_20 : decode cX9_servedFirst 20 = .ok (.aload_n 0, 1) := by decide +kernel
theorem dX9_servedFirst_21 : decode cX9_servedFirst 21 = .ok (.getfield 11, 3) := by decide +kernel
theorem dX9_servedFirst_24 : decode cX9_servedFirst 24 = .ok (.iload_n 2, 1) := by decide +kernel
theorem dX9_servedFirst_25 : decode cX9_servedFirst 25 = .ok (.aaload, 1) := by decide +kernel
theorem dX9_servedFirst_26 : decode cX9_servedFirst 26 = .ok (.aload_n 0, 1) := by decide +kernel
theorem dX9_servedFirst_27 : decode cX9_servedFirst 27 = .ok (.aload_n 1, 1) := by decide +kernel
theorem dX9_servedFirst_28 : decode cX9_servedFirst 28 = .ok (.getfield 98, 3) := by decide +kernel
theorem dX9_servedFirst_31 : decode cX9_servedFirst 31 = .ok (.iload_n 2, 1) := by decide +kernel
theorem dX9_servedFirst_32 : decode cX9_servedFirst 32 = .ok (.iaload, 1) := by decide +kernel
theorem dX9_servedFirst_33 : decode cX9_servedFirst 33 = .ok (.iload_n 2, 1) := by decide +kernel
theorem dX9_servedFirst_34 : decode cX9_servedFirst 34 = .ok (.iconst (-1), 1) := by decide +kernel
theorem dX9_servedFirst_35 : decode cX9_servedFirst 35 = .ok (.invokevirtual 101, 3) := by decide +kernel
theorem dX9_servedFirst_38 : decode cX9_servedFirst 38 = .ok (.iaload, 1) := by decide +kernel
theorem dX9_servedFirst_39 : decode cX9_servedFirst 39 = .ok (.bipush 64, 2) := by decide +kernel
theorem dX9_servedFirst_41 : decode cX9_servedFirst 41 = .ok (.idiv, 1) := by decide +kernel
theorem dX9_servedFirst_42 : decode cX9_servedFirst 42 = .ok (.ireturn, 1) := by decide +kernel
theorem dX9_sum_0 : decode cX9_sum 0 = .ok (.iconst 0, 1) := by decide +kernel
theorem dX9_sum_1 : decode cX9_sum 1 = .ok (.istore_n 1, 1) := by decide +kernel
theorem dX9_sum_2 : decode cX9_sum 2 = .ok (.iconst 0, 1) := by decide +kernel
theorem dX9_sum_3 : decode cX9_sum 3 = .ok (.istore_n 2, 1) := by decide +kernel
theorem dX9_sum_4 : decode cX9_sum 4 = .ok (.iload_n 2, 1) := by decide +kernel
theorem dX9_sum_5 : decode cX9_sum 5 = .ok (.aload_n 0, 1) := by decide +kernel
theorem dX9_sum_6 : decode cX9_sum 6 = .ok (.arraylength, 1) := by decide +kernel
theorem dX9_sum_7 : decode cX9_sum 7 = .ok (.if_icmp .ge 15, 3) := by decide +kernel
theorem dX9_sum_10 : decode cX9_sum 10 = .ok (.iload_n 1, 1) := by decide +kernel
theorem dX9_sum_11 : decode cX9_sum 11 = .ok (.aload_n 0, 1) := by decide +kernel
theorem dX9_sum_12 : decode cX9_sum 12 = .ok (.iload_n 2, 1) := by decide +kernel
theorem dX9_sum_13 : decode cX9_sum 13 = .ok (.iaload, 1) := by decide +kernel
theorem dX9_sum_14 : decode cX9_sum 14 = .ok (.iadd, 1) := by decide +kernel
theorem dX9_sum_15 : decode cX9_sum 15 = .ok (.istore_n 1, 1) := by decide +kernel
theorem dX9_sum_16 : decode cX9_sum 16 = .ok (.iinc 2 1, 3) := by decide +kernel
theorem dX9_sum_19 : decode cX9_sum 19 = .ok (.goto (-15), 3) := by decide +kernel
theorem dX9_sum_22 : decode cX9_sum 22 = .ok (.iload_n 1, 1) := by decide +kernel
theorem dX9_sum_23 : decode cX9_sum 23 = .ok (.ireturn, 1) := by decide +kernel
theorem dX9_takeOut_0 : decode cX9_takeOut 0 = .ok (.iload_n 2, 1) := by decide +kernel
theorem dX9_takeOut_1 : decode cX9_takeOut 1 = .ok (.iconst 1, 1) := by decide +kernel
theorem dX9_takeOut_2 : decode cX9_takeOut 2 = .ok (.iadd, 1) := by decide +kernel
theorem dX9_takeOut_3 : decode cX9_takeOut 3 = .ok (.istore_n 3, 1) := by decide +kernel
theorem dX9_takeOut_4 : decode cX9_takeOut 4 = .ok (.iload_n 3, 1) := by decide +kernel
theorem dX9_takeOut_5 : decode cX9_takeOut 5 = .ok (.aload_n 0, 1) := by decide +kernel
theorem dX9_takeOut_6 : decode cX9_takeOut 6 = .ok (.getfield 22, 3) := by decide +kernel
theorem dX9_takeOut_9 : decode cX9_takeOut 9 = .ok (.iload_n 1, 1) := by decide +kernel
theorem dX9_takeOut_10 : decode cX9_takeOut 10 = .ok (.iaload, 1) := by decide +kernel
theorem dX9_takeOut_11 : decode cX9_takeOut 11 = .ok (.if_icmp .ge 27, 3) := by decide +kernel
theorem dX9_takeOut_14 : decode cX9_takeOut 14 = .ok (.aload_n 0, 1) := by decide +kernel
theorem dX9_takeOut_15 : decode cX9_takeOut 15 = .ok (.getfield 11, 3) := by decide +kernel
theorem dX9_takeOut_18 : decode cX9_takeOut 18 = .ok (.iload_n 1, 1) := by decide +kernel
theorem dX9_takeOut_19 : decode cX9_takeOut 19 = .ok (.aaload, 1) := by decide +kernel
theorem dX9_takeOut_20 : decode cX9_takeOut 20 = .ok (.iload_n 3, 1) := by decide +kernel
theorem dX9_takeOut_21 : decode cX9_takeOut 21 = .ok (.iconst 1, 1) := by decide +kernel
theorem dX9_takeOut_22 : decode cX9_takeOut 22 = .ok (.isub, 1) := by decide +kernel
theorem dX9_takeOut_23 : decode cX9_takeOut 23 = .ok (.aload_n 0, 1) := by decide +kernel
theorem dX9_takeOut_24 : decode cX9_takeOut 24 = .ok (.getfield 11, 3) := by decide +kernel
theorem dX9_takeOut_27 : decode cX9_takeOut 27 = .ok (.iload_n 1, 1) := by decide +kernel
theorem dX9_takeOut_28 : decode cX9_takeOut 28 = .ok (.aaload, 1) := by decide +kernel
theorem dX9_takeOut_29 : decode cX9_takeOut 29 = .ok (.iload_n 3, 1) := by decide +kernel
theorem dX9_takeOut_30 : decode cX9_takeOut 30 = .ok (.iaload, 1) := by decide +kernel
theorem dX9_takeOut_31 : decode cX9_takeOut 31 = .ok (.iastore, 1) := by decide +kernel
theorem dX9_takeOut_32 : decode cX9_takeOut 32 = .ok (.iinc 3 1, 3) := by decide +kernel
theorem dX9_takeOut_35 : decode cX9_takeOut 35 = .ok (.goto (-31), 3) := by decide +kernel
theorem dX9_takeOut_38 : decode cX9_takeOut 38 = .ok (.aload_n 0, 1) := by decide +kernel
theorem dX9_takeOut_39 : decode cX9_takeOut 39 = .ok (.getfield 22, 3) := by decide +kernel
theorem dX9_takeOut_42 : decode cX9_takeOut 42 = .ok (.iload_n 1, 1) := by decide +kernel
theorem dX9_takeOut_43 : decode cX9_takeOut 43 = .ok (.dup2, 1) := by decide +kernel
theorem dX9_takeOut_44 : decode cX9_takeOut 44 = .ok (.iaload, 1) := by decide +kernel
theorem dX9_takeOut_45 : decode cX9_takeOut 45 = .ok (.iconst 1, 1) := by decide +kernel
theorem dX9_takeOut_46 : decode cX9_takeOut 46 = .ok (.isub, 1) := by decide +kernel
theorem dX9_takeOut_47 : decode cX9_takeOut 47 = .ok (.iastore, 1) := by decide +kernel
theorem dX9_takeOut_48 : decode cX9_takeOut 48 = .ok (.return_, 1) := by decide +kernel
theorem dX9_unitsOf_0 : decode cX9_unitsOf 0 = .ok (.iconst 0, 1) := by decide +kernel
theorem dX9_unitsOf_1 : decode cX9_unitsOf 1 = .ok (.istore_n 2, 1) := by decide +kernel
theorem dX9_unitsOf_2 : decode cX9_unitsOf 2 = .ok (.iconst 0, 1) := by decide +kernel
theorem dX9_unitsOf_3 : decode cX9_unitsOf 3 = .ok (.istore_n 3, 1) := by decide +kernel
theorem dX9_unitsOf_4 : decode cX9_unitsOf 4 = .ok (.iload_n 3, 1) := by decide +kernel
theorem dX9_unitsOf_5 : decode cX9_unitsOf 5 = .ok (.iconst 4, 1) := by decide +kernel
theorem dX9_unitsOf_6 : decode cX9_unitsOf 6 = .ok (.if_icmp .ge 48, 3) := by decide +kernel
theorem dX9_unitsOf_9 : decode cX9_unitsOf 9 = .ok (.iconst 0, 1) := by decide +kernel
theorem dX9_unitsOf_10 : decode cX9_unitsOf 10 = .ok (.istore 4, 2) := by decide +kernel
theorem dX9_unitsOf_12 : decode cX9_unitsOf 12 = .ok (.iload 4, 2) := by decide +kernel
theorem dX9_unitsOf_14 : decode cX9_unitsOf 14 = .ok (.aload_n 0, 1) := by decide +kernel
theorem dX9_unitsOf_15 : decode cX9_unitsOf 15 = .ok (.getfield 22, 3) := by decide +kernel
theorem dX9_unitsOf_18 : decode cX9_unitsOf 18 = .ok (.iload_n 3, 1) := by decide +kernel
theorem dX9_unitsOf_19 : decode cX9_unitsOf 19 = .ok (.iaload, 1) := by decide +kernel
theorem dX9_unitsOf_20 : decode cX9_unitsOf 20 = .ok (.if_icmp .ge 28, 3) := by decide +kernel
theorem dX9_unitsOf_23 : decode cX9_unitsOf 23 = .ok (.aload_n 0, 1) := by decide +kernel
theorem dX9_unitsOf_24 : decode cX9_unitsOf 24 = .ok (.getfield 11, 3) := by decide +kernel
theorem dX9_unitsOf_27 : decode cX9_unitsOf 27 = .ok (.iload_n 3, 1) := by decide +kernel
theorem dX9_unitsOf_28 : decode cX9_unitsOf 28 = .ok (.aaload, 1) := by decide +kernel
theorem dX9_unitsOf_29 : decode cX9_unitsOf 29 = .ok (.iload 4, 2) := by decide +kernel
theorem dX9_unitsOf_31 : decode cX9_unitsOf 31 = .ok (.iaload, 1) := by decide +kernel
theorem dX9_unitsOf_32 : decode cX9_unitsOf 32 = .ok (.bipush 64, 2) := by decide +kernel
theorem dX9_unitsOf_34 : decode cX9_unitsOf 34 = .ok (.idiv, 1) := by decide +kernel
theorem dX9_unitsOf_35 : decode cX9_unitsOf 35 = .ok (.iload_n 1, 1) := by decide +kernel
theorem dX9_unitsOf_36 : decode cX9_unitsOf 36 = .ok (.if_icmp .ne 6, 3) := by decide +kernel
theorem dX9_unitsOf_39 : decode cX9_unitsOf 39 = .ok (.iinc 2 1, 3) := by decide +kernel
theorem dX9_unitsOf_42 : decode cX9_unitsOf 42 = .ok (.iinc 4 1, 3) := by decide +kernel
theorem dX9_unitsOf_45 : decode cX9_unitsOf 45 = .ok (.goto (-33), 3) := by decide +kernel
theorem dX9_unitsOf_48 : decode cX9_unitsOf 48 = .ok (.iinc 3 1, 3) := by decide +kernel
theorem dX9_unitsOf_51 : decode cX9_unitsOf 51 = .ok (.goto (-47), 3) := by decide +kernel
theorem dX9_unitsOf_54 : decode cX9_unitsOf 54 = .ok (.iload_n 2, 1) := by decide +kernel
theorem dX9_unitsOf_55 : decode cX9_unitsOf 55 = .ok (.ireturn, 1) := by decide +kernel
