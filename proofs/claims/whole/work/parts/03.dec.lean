theorem dX0_init_0 : decode cX0_init 0 = .ok (.aload_n 0, 1) := by decide +kernel
theorem dX0_init_1 : decode cX0_init 1 = .ok (.invokespecial 3, 3) := by decide +kernel
theorem dX0_init_4 : decode cX0_init 4 = .ok (.aload_n 0, 1) := by decide +kernel
theorem dX0_init_5 : decode cX0_init 5 = .ok (.bipush 8, 2) := by decide +kernel
theorem dX0_init_7 : decode cX0_init 7 = .ok (.newarray .int, 2) := by decide +kernel
theorem dX0_init_9 : decode cX0_init 9 = .ok (.putfield 9, 3) := by decide +kernel
theorem dX0_init_12 : decode cX0_init 12 = .ok (.return_, 1) := by decide +kernel
theorem dX0_at_0 : decode cX0_at 0 = .ok (.iload_n 1, 1) := by decide +kernel
theorem dX0_at_1 : decode cX0_at 1 = .ok (.ifCond .lt 22, 3) := by decide +kernel
theorem dX0_at_4 : decode cX0_at 4 = .ok (.aload_n 0, 1) := by decide +kernel
theorem dX0_at_5 : decode cX0_at 5 = .ok (.getfield 15, 3) := by decide +kernel
theorem dX0_at_8 : decode cX0_at 8 = .ok (.iconst 1, 1) := by decide +kernel
theorem dX0_at_9 : decode cX0_at 9 = .ok (.if_icmp .lt 14, 3) := by decide +kernel
theorem dX0_at_12 : decode cX0_at 12 = .ok (.aload_n 0, 1) := by decide +kernel
theorem dX0_at_13 : decode cX0_at 13 = .ok (.getfield 15, 3) := by decide +kernel
theorem dX0_at_16 : decode cX0_at 16 = .ok (.aload_n 0, 1) := by decide +kernel
theorem dX0_at_17 : decode cX0_at 17 = .ok (.getfield 19, 3) := by decide +kernel
theorem dX0_at_20 : decode cX0_at 20 = .ok (.if_icmp .le 5, 3) := by decide +kernel
theorem dX0_at_23 : decode cX0_at 23 = .ok (.iconst 0, 1) := by decide +kernel
theorem dX0_at_24 : decode cX0_at 24 = .ok (.ireturn, 1) := by decide +kernel
theorem dX0_at_25 : decode cX0_at 25 = .ok (.iload_n 1, 1) := by decide +kernel
theorem dX0_at_26 : decode cX0_at 26 = .ok (.aload_n 0, 1) := by decide +kernel
theorem dX0_at_27 : decode cX0_at 27 = .ok (.getfield 19, 3) := by decide +kernel
theorem dX0_at_30 : decode cX0_at 30 = .ok (.if_icmp .ge 10, 3) := by decide +kernel
theorem dX0_at_33 : decode cX0_at 33 = .ok (.aload_n 0, 1) := by decide +kernel
theorem dX0_at_34 : decode cX0_at 34 = .ok (.getfield 9, 3) := by decide +kernel
theorem dX0_at_37 : decode cX0_at 37 = .ok (.iload_n 1, 1) := by decide +kernel
theorem dX0_at_38 : decode cX0_at 38 = .ok (.iaload, 1) := by decide +kernel
theorem dX0_at_39 : decode cX0_at 39 = .ok (.ireturn, 1) := by decide +kernel
theorem dX0_at_40 : decode cX0_at 40 = .ok (.iload_n 1, 1) := by decide +kernel
theorem dX0_at_41 : decode cX0_at 41 = .ok (.aload_n 0, 1) := by decide +kernel
theorem dX0_at_42 : decode cX0_at 42 = .ok (.getfield 19, 3) := by decide +kernel
theorem dX0_at_45 : decode cX0_at 45 = .ok (.isub, 1) := by decide +kernel
theorem dX0_at_46 : decode cX0_at 46 = .ok (.aload_n 0, 1) := by decide +kernel
theorem dX0_at_47 : decode cX0_at 47 = .ok (.getfield 15, 3) := by decide +kernel
theorem dX0_at_50 : decode cX0_at 50 = .ok (.idiv, 1) := by decide +kernel
theorem dX0_at_51 : decode cX0_at 51 = .ok (.iconst 1, 1) := by decide +kernel
theorem dX0_at_52 : decode cX0_at 52 = .ok (.iadd, 1) := by decide +kernel
theorem dX0_at_53 : decode cX0_at 53 = .ok (.istore_n 2, 1) := by decide +kernel
theorem dX0_at_54 : decode cX0_at 54 = .ok (.aload_n 0, 1) := by decide +kernel
theorem dX0_at_55 : decode cX0_at 55 = .ok (.getfield 9, 3) := by decide +kernel
theorem dX0_at_58 : decode cX0_at 58 = .ok (.iload_n 1, 1) := by decide +kernel
theorem dX0_at_59 : decode cX0_at 59 = .ok (.iload_n 2, 1) := by decide +kernel
theorem dX0_at_60 : decode cX0_at 60 = .ok (.aload_n 0, 1) := by decide +kernel
theorem dX0_at_61 : decode cX0_at 61 = .ok (.getfield 15, 3) := by decide +kernel
theorem dX0_at_64 : decode cX0_at 64 = .ok (.imul, 1) := by decide +kernel
theorem dX0_at_65 : decode cX0_at 65 = .ok (.isub, 1) := by decide +kernel
theorem dX0_at_66 : decode cX0_at 66 = .ok (.iaload, 1) := by decide +kernel
theorem dX0_at_67 : decode cX0_at 67 = .ok (.iload_n 2, 1) := by decide +kernel
theorem dX0_at_68 : decode cX0_at 68 = .ok (.aload_n 0, 1) := by decide +kernel
theorem dX0_at_69 : decode cX0_at 69 = .ok (.getfield 22, 3) := by decide +kernel
theorem dX0_at_72 : decode cX0_at 72 = .ok (.imul, 1) := by decide +kernel
theorem dX0_at_73 : decode cX0_at 73 = .ok (.iadd, 1) := by decide +kernel
theorem dX0_at_74 : decode cX0_at 74 = .ok (.ireturn, 1) := by decide +kernel
theorem dX0_fill_0 : decode cX0_fill 0 = .ok (.iconst 0, 1) := by decide +kernel
theorem dX0_fill_1 : decode cX0_fill 1 = .ok (.istore_n 3, 1) := by decide +kernel
theorem dX0_fill_2 : decode cX0_fill 2 = .ok (.iload_n 3, 1) := by decide +kernel
theorem dX0_fill_3 : decode cX0_fill 3 = .ok (.aload_n 1, 1) := by decide +kernel
theorem dX0_fill_4 : decode cX0_fill 4 = .ok (.arraylength, 1) := by decide +kernel
theorem dX0_fill_5 : decode cX0_fill 5 = .ok (.if_icmp .ge 19, 3) := by decide +kernel
theorem dX0_fill_8 : decode cX0_fill 8 = .ok (.aload_n 1, 1) := by decide +kernel
theorem dX0_fill_9 : decode cX0_fill 9 = .ok (.iload_n 3, 1) := by decide +kernel
theorem dX0_fill_10 : decode cX0_fill 10 = .ok (.aload_n 0, 1) := by decide +kernel
theorem dX0_fill_11 : decode cX0_fill 11 = .ok (.iload_n 3, 1) := by decide +kernel
theorem dX0_fill_12 : decode cX0_fill 12 = .ok (.iload_n 2, 1) := by decide +kernel
theorem dX0_fill_13 : decode cX0_fill 13 = .ok (.iadd, 1) := by decide +kernel
theorem dX0_fill_14 : decode cX0_fill 14 = .ok (.invokevirtual 25, 3) := by decide +kernel
theorem dX0_fill_17 : decode cX0_fill 17 = .ok (.iastore, 1) := by decide +kernel
theorem dX0_fill_18 : decode cX0_fill 18 = .ok (.iinc 3 1, 3) := by decide +kernel
theorem dX0_fill_21 : decode cX0_fill 21 = .ok (.goto (-19), 3) := by decide +kernel
theorem dX0_fill_24 : decode cX0_fill 24 = .ok (.return_, 1) := by decide +kernel
theorem dX0_bends_0 : decode cX0_bends 0 = .ok (.iconst 1, 1) := by decide +kernel
theorem dX0_bends_1 : decode cX0_bends 1 = .ok (.istore_n 1, 1) := by decide +kernel
theorem dX0_bends_2 : decode cX0_bends 2 = .ok (.iconst 1, 1) := by decide +kernel
theorem dX0_bends_3 : decode cX0_bends 3 = .ok (.istore_n 2, 1) := by decide +kernel
theorem dX0_bends_4 : decode cX0_bends 4 = .ok (.aload_n 0, 1) := by decide +kernel
theorem dX0_bends_5 : decode cX0_bends 5 = .ok (.iconst 1, 1) := by decide +kernel
theorem dX0_bends_6 : decode cX0_bends 6 = .ok (.invokevirtual 25, 3) := by decide +kernel
theorem dX0_bends_9 : decode cX0_bends 9 = .ok (.aload_n 0, 1) := by decide +kernel
theorem dX0_bends_10 : decode cX0_bends 10 = .ok (.iconst 0, 1) := by decide +kernel
theorem dX0_bends_11 : decode cX0_bends 11 = .ok (.invokevirtual 25, 3) := by decide +kernel
theorem dX0_bends_14 : decode cX0_bends 14 = .ok (.isub, 1) := by decide +kernel
theorem dX0_bends_15 : decode cX0_bends 15 = .ok (.istore_n 3, 1) := by decide +kernel
theorem dX0_bends_16 : decode cX0_bends 16 = .ok (.iconst 1, 1) := by decide +kernel
theorem dX0_bends_17 : decode cX0_bends 17 = .ok (.istore 4, 2) := by decide +kernel
theorem dX0_bends_19 : decode cX0_bends 19 = .ok (.iload 4, 2) := by decide +kernel
theorem dX0_bends_21 : decode cX0_bends 21 = .ok (.bipush 60, 2) := by decide +kernel
theorem dX0_bends_23 : decode cX0_bends 23 = .ok (.if_icmp .gt 61, 3) := by decide +kernel
theorem dX0_bends_26 : decode cX0_bends 26 = .ok (.aload_n 0, 1) := by decide +kernel
theorem dX0_bends_27 : decode cX0_bends 27 = .ok (.iload 4, 2) := by decide +kernel
theorem dX0_bends_29 : decode cX0_bends 29 = .ok (.iconst 1, 1) := by decide +kernel
theorem dX0_bends_30 : decode cX0_bends 30 = .ok (.iadd, 1) := by decide +kernel
theorem dX0_bends_31 : decode cX0_bends 31 = .ok (.invokevirtual 25, 3) := by decide +kernel
theorem dX0_bends_34 : decode cX0_bends 34 = .ok (.aload_n 0, 1) := by decide +kernel
theorem dX0_bends_35 : decode cX0_bends 35 = .ok (.iload 4, 2) := by decide +kernel
theorem dX0_bends_37 : decode cX0_bends 37 = .ok (.invokevirtual 25, 3) := by decide +kernel
theorem dX0_bends_40 : decode cX0_bends 40 = .ok (.isub, 1) := by decide +kernel
theorem dX0_bends_41 : decode cX0_bends 41 = .ok (.istore 5, 2) := by decide +kernel
theorem dX0_bends_43 : decode cX0_bends 43 = .ok (.iload_n 1, 1) := by decide +kernel
theorem dX0_bends_44 : decode cX0_bends 44 = .ok (.ifCond .eq 13, 3) := by decide +kernel
theorem dX0_bends_47 : decode cX0_bends 47 = .ok (.iload 5, 2) := by decide +kernel
theorem dX0_bends_49 : decode cX0_bends 49 = .ok (.iload_n 3, 1) := by decide +kernel
theorem dX0_bends_50 : decode cX0_bends 50 = .ok (.if_icmp .gt 7, 3) := by decide +kernel
theorem dX0_bends_53 : decode cX0_bends 53 = .ok (.iconst 1, 1) := by decide +kernel
theorem dX0_bends_54 : decode cX0_bends 54 = .ok (.goto 4, 3) := by decide +kernel
theorem dX0_bends_57 : decode cX0_bends 57 = .ok (.iconst 0, 1) := by decide +kernel
theorem dX0_bends_58 : decode cX0_bends 58 = .ok (.istore_n 1, 1) := by decide +kernel
theorem dX0_bends_59 : decode cX0_bends 59 = .ok (.iload_n 2, 1) := by decide +kernel
theorem dX0_bends_60 : decode cX0_bends 60 = .ok (.ifCond .eq 13, 3) := by decide +kernel
theorem dX0_bends_63 : decode cX0_bends 63 = .ok (.iload 5, 2) := by decide +kernel
theorem dX0_bends_65 : decode cX0_bends 65 = .ok (.iload_n 3, 1) := by decide +kernel
theorem dX0_bends_66 : decode cX0_bends 66 = .ok (.if_icmp .lt 7, 3) := by decide +kernel
theorem dX0_bends_69 : decode cX0_bends 69 = .ok (.iconst 1, 1) := by decide +kernel
theorem dX0_bends_70 : decode cX0_bends 70 = .ok (.goto 4, 3) := by decide +kernel
theorem dX0_bends_73 : decode cX0_bends 73 = .ok (.iconst 0, 1) := by decide +kernel
theorem dX0_bends_74 : decode cX0_bends 74 = .ok (.istore_n 2, 1) := by decide +kernel
theorem dX0_bends_75 : decode cX0_bends 75 = .ok (.iload 5, 2) := by decide +kernel
theorem dX0_bends_77 : decode cX0_bends 77 = .ok (.istore_n 3, 1) := by decide +kernel
theorem dX0_bends_78 : decode cX0_bends 78 = .ok (.iinc 4 1, 3) := by decide +kernel
theorem dX0_bends_81 : decode cX0_bends 81 = .ok (.goto (-62), 3) := by decide +kernel
theorem dX0_bends_84 : decode cX0_bends 84 = .ok (.iload_n 1, 1) := by decide +kernel
theorem dX0_bends_85 : decode cX0_bends 85 = .ok (.ifCond .eq 7, 3) := by decide +kernel
theorem dX0_bends_88 : decode cX0_bends 88 = .ok (.iconst 1, 1) := by decide +kernel
theorem dX0_bends_89 : decode cX0_bends 89 = .ok (.goto 4, 3) := by decide +kernel
theorem dX0_bends_92 : decode cX0_bends 92 = .ok (.iconst 0, 1) := by decide +kernel
theorem dX0_bends_93 : decode cX0_bends 93 = .ok (.iload_n 2, 1) := by decide +kernel
theorem dX0_bends_94 : decode cX0_bends 94 = .ok (.ifCond .eq 7, 3) := by decide +kernel
theorem dX0_bends_97 : decode cX0_bends 97 = .ok (.iconst 2, 1) := by decide +kernel
theorem dX0_bends_98 : decode cX0_bends 98 = .ok (.goto 4, 3) := by decide +kernel
theorem dX0_bends_101 : decode cX0_bends 101 = .ok (.iconst 0, 1) := by decide +kernel
theorem dX0_bends_102 : decode cX0_bends 102 = .ok (.iadd, 1) := by decide +kernel
theorem dX0_bends_103 : decode cX0_bends 103 = .ok (.ireturn, 1) := by decide +kernel
theorem dX1_init_0 : decode cX1_init 0 = .ok (.aload_n 0, 1) := by decide +kernel
theorem dX1_init_1 : decode cX1_init 1 = .ok (.invokespecial 3, 3) := by decide +kernel
theorem dX1_init_4 : decode cX1_init 4 = .ok (.aload_n 0, 1) := by decide +kernel
theorem dX1_init_5 : decode cX1_init 5 = .ok (.sipush 1000, 3) := by decide +kernel
theorem dX1_init_8 : decode cX1_init 8 = .ok (.newarray .int, 2) := by decide +kernel
theorem dX1_init_10 : decode cX1_init 10 = .ok (.putfield 9, 3) := by decide +kernel
theorem dX1_init_13 : decode cX1_init 13 = .ok (.aload_n 0, 1) := by decide +kernel
theorem dX1_init_14 : decode cX1_init 14 = .ok (.bipush 21, 2) := by decide +kernel
theorem dX1_init_16 : decode cX1_init 16 = .ok (.newarray .int, 2) := by decide +kernel
theorem dX1_init_18 : decode cX1_init 18 = .ok (.putfield 15, 3) := by decide +kernel
theorem dX1_init_21 : decode cX1_init 21 = .ok (.return_, 1) := by decide +kernel
theorem dX1_reset_0 : decode cX1_reset 0 = .ok (.aload_n 0, 1) := by decide +kernel
theorem dX1_reset_1 : decode cX1_reset 1 = .ok (.iconst 0, 1) := by decide +kernel
theorem dX1_reset_2 : decode cX1_reset 2 = .ok (.putfield 18, 3) := by decide +kernel
theorem dX1_reset_5 : decode cX1_reset 5 = .ok (.return_, 1) := by decide +kernel
theorem dX1_add_0 : decode cX1_add 0 = .ok (.aload_n 0, 1) := by decide +kernel
theorem dX1_add_1 : decode cX1_add 1 = .ok (.getfield 18, 3) := by decide +kernel
theorem dX1_add_4 : decode cX1_add 4 = .ok (.aload_n 0, 1) := by decide +kernel
theorem dX1_add_5 : decode cX1_add 5 = .ok (.getfield 9, 3) := by decide +kernel
theorem dX1_add_8 : decode cX1_add 8 = .ok (.arraylength, 1) := by decide +kernel
theorem dX1_add_9 : decode cX1_add 9 = .ok (.if_icmp .ge 23, 3) := by decide +kernel
theorem dX1_add_12 : decode cX1_add 12 = .ok (.aload_n 0, 1) := by decide +kernel
theorem dX1_add_13 : decode cX1_add 13 = .ok (.getfield 9, 3) := by decide +kernel
theorem dX1_add_16 : decode cX1_add 16 = .ok (.aload_n 0, 1) := by decide +kernel
theorem dX1_add_17 : decode cX1_add 17 = .ok (.getfield 18, 3) := by decide +kernel
theorem dX1_add_20 : decode cX1_add 20 = .ok (.iload_n 1, 1) := by decide +kernel
theorem dX1_add_21 : decode cX1_add 21 = .ok (.iastore, 1) := by decide +kernel
theorem dX1_add_22 : decode cX1_add 22 = .ok (.aload_n 0, 1) := by decide +kernel
theorem dX1_add_23 : decode cX1_add 23 = .ok (.dup, 1) := by decide +kernel
theorem dX1_add_24 : decode cX1_add 24 = .ok (.getfield 18, 3) := by decide +kernel
theorem dX1_add_27 : decode cX1_add 27 = .ok (.iconst 1, 1) := by decide +kernel
theorem dX1_add_28 : decode cX1_add 28 = .ok (.iadd, 1) := by decide +kernel
theorem dX1_add_29 : decode cX1_add 29 = .ok (.putfield 18, 3) := by decide +kernel
theorem dX1_add_32 : decode cX1_add 32 = .ok (.return_, 1) := by decide +kernel
theorem dX1_strengthOf_0 : decode cX1_strengthOf 0 = .ok (.iload_n 0, 1) := by decide +kernel
theorem dX1_strengthOf_1 : decode cX1_strengthOf 1 = .ok (.lookupswitch 75 #[(42, 73), (43, 71), (45, 71), (60, 69), (61, 69), (145, 67), (146, 67)], 67) := by decide +kernel
theorem dX1_strengthOf_68 : decode cX1_strengthOf 68 = .ok (.iconst 0, 1) := by decide +kernel
theorem dX1_strengthOf_69 : decode cX1_strengthOf 69 = .ok (.ireturn, 1) := by decide +kernel
theorem dX1_strengthOf_70 : decode cX1_strengthOf 70 = .ok (.iconst 1, 1) := by decide +kernel
theorem dX1_strengthOf_71 : decode cX1_strengthOf 71 = .ok (.ireturn, 1) := by decide +kernel
theorem dX1_strengthOf_72 : decode cX1_strengthOf 72 = .ok (.iconst 2, 1) := by decide +kernel
theorem dX1_strengthOf_73 : decode cX1_strengthOf 73 = .ok (.ireturn, 1) := by decide +kernel
theorem dX1_strengthOf_74 : decode cX1_strengthOf 74 = .ok (.iconst 3, 1) := by decide +kernel
theorem dX1_strengthOf_75 : decode cX1_strengthOf 75 = .ok (.ireturn, 1) := by decide +kernel
theorem dX1_strengthOf_76 : decode cX1_strengthOf 76 = .ok (.iconst (-1), 1) := by decide +kernel
theorem dX1_strengthOf_77 : decode cX1_strengthOf 77 = .ok (.ireturn, 1) := by decide +kernel
theorem dX1_worth_0 : decode cX1_worth 0 = .ok (.iconst 0, 1) := by decide +kernel
theorem dX1_worth_1 : decode cX1_worth 1 = .ok (.istore 5, 2) := by decide +kernel
theorem dX1_worth_3 : decode cX1_worth 3 = .ok (.iconst 0, 1) := by decide +kernel
theorem dX1_worth_4 : decode cX1_worth 4 = .ok (.istore 6, 2) := by decide +kernel
theorem dX1_worth_6 : decode cX1_worth 6 = .ok (.iload 6, 2) := by decide +kernel
theorem dX1_worth_8 : decode cX1_worth 8 = .ok (.aload_n 0, 1) := by decide +kernel
theorem dX1_worth_9 : decode cX1_worth 9 = .ok (.getfield 18, 3) := by decide +kernel
theorem dX1_worth_12 : decode cX1_worth 12 = .ok (.if_icmp .ge 155, 3) := by decide +kernel
theorem dX1_worth_15 : decode cX1_worth 15 = .ok (.aload_n 0, 1) := by decide +kernel
theorem dX1_worth_16 : decode cX1_worth 16 = .ok (.getfield 9, 3) := by decide +kernel
theorem dX1_worth_19 : decode cX1_worth 19 = .ok (.iload 6, 2) := by decide +kernel
theorem dX1_worth_21 : decode cX1_worth 21 = .ok (.iaload, 1) := by decide +kernel
theorem dX1_worth_22 : decode cX1_worth 22 = .ok (.istore 7, 2) := by decide +kernel
theorem dX1_worth_24 : decode cX1_worth 24 = .ok (.iload 7, 2) := by decide +kernel
theorem dX1_worth_26 : decode cX1_worth 26 = .ok (.sipush (-144), 3) := by decide +kernel
theorem dX1_worth_29 : decode cX1_worth 29 = .ok (.if_icmp .ne 38, 3) := by decide +kernel
theorem dX1_worth_32 : decode cX1_worth 32 = .ok (.iload 5, 2) := by decide +kernel
theorem dX1_worth_34 : decode cX1_worth 34 = .ok (.iconst 1, 1) := by decide +kernel
theorem dX1_worth_35 : decode cX1_worth 35 = .ok (.if_icmp .lt 126, 3) := by decide +kernel
theorem dX1_worth_38 : decode cX1_worth 38 = .ok (.aload_n 0, 1) := by decide +kernel
theorem dX1_worth_39 : decode cX1_worth 39 = .ok (.getfield 15, 3) := by decide +kernel
theorem dX1_worth_42 : decode cX1_worth 42 = .ok (.iload 5, 2) := by decide +kernel
theorem dX1_worth_44 : decode cX1_worth 44 = .ok (.iconst 1, 1) := by decide +kernel
theorem dX1_worth_45 : decode cX1_worth 45 = .ok (.isub, 1) := by decide +kernel
theorem dX1_worth_46 : decode cX1_worth 46 = .ok (.aload_n 0, 1) := by decide +kernel
theorem dX1_worth_47 : decode cX1_worth 47 = .ok (.getfield 15, 3) := by decide +kernel
theorem dX1_worth_50 : decode cX1_worth 50 = .ok (.iload 5, 2) := by decide +kernel
theorem dX1_worth_52 : decode cX1_worth 52 = .ok (.iconst 1, 1) := by decide +kernel
theorem dX1_worth_53 : decode cX1_worth 53 = .ok (.isub, 1) := by decide +kernel
theorem dX1_worth_54 : decode cX1_worth 54 = .ok (.iaload, 1) := by decide +kernel
theorem dX1_worth_55 : decode cX1_worth 55 = .ok (.ifCond .ne 7, 3) := by decide +kernel
theorem dX1_worth_58 : decode cX1_worth 58 = .ok (.iconst 1, 1) := by decide +kernel
theorem dX1_worth_59 : decode cX1_worth 59 = .ok (.goto 4, 3) := by decide +kernel
theorem dX1_worth_62 : decode cX1_worth 62 = .ok (.iconst 0, 1) := by decide +kernel
theorem dX1_worth_63 : decode cX1_worth 63 = .ok (.iastore, 1) := by decide +kernel
theorem dX1_worth_64 : decode cX1_worth 64 = .ok (.goto 97, 3) := by decide +kernel
theorem dX1_worth_67 : decode cX1_worth 67 = .ok (.iload 7, 2) := by decide +kernel
theorem dX1_worth_69 : decode cX1_worth 69 = .ok (.ineg, 1) := by decide +kernel
theorem dX1_worth_70 : decode cX1_worth 70 = .ok (.invokestatic 24, 3) := by decide +kernel
theorem dX1_worth_73 : decode cX1_worth 73 = .ok (.iconst (-1), 1) := by decide +kernel
theorem dX1_worth_74 : decode cX1_worth 74 = .ok (.if_icmp .eq 46, 3) := by decide +kernel
theorem dX1_worth_77 : decode cX1_worth 77 = .ok (.iload 5, 2) := by decide +kernel
theorem dX1_worth_79 : decode cX1_worth 79 = .ok (.iconst 2, 1) := by decide +kernel
theorem dX1_worth_80 : decode cX1_worth 80 = .ok (.if_icmp .lt 81, 3) := by decide +kernel
theorem dX1_worth_83 : decode cX1_worth 83 = .ok (.iinc 5 (-1), 3) := by decide +kernel
theorem dX1_worth_86 : decode cX1_worth 86 = .ok (.aload_n 0, 1) := by decide +kernel
theorem dX1_worth_87 : decode cX1_worth 87 = .ok (.getfield 15, 3) := by decide +kernel
theorem dX1_worth_90 : decode cX1_worth 90 = .ok (.iload 5, 2) := by decide +kernel
theorem dX1_worth_92 : decode cX1_worth 92 = .ok (.iconst 1, 1) := by decide +kernel
theorem dX1_worth_93 : decode cX1_worth 93 = .ok (.isub, 1) := by decide +kernel
theorem dX1_worth_94 : decode cX1_worth 94 = .ok (.iload 7, 2) := by decide +kernel
theorem dX1_worth_96 : decode cX1_worth 96 = .ok (.ineg, 1) := by decide +kernel
theorem dX1_worth_97 : decode cX1_worth 97 = .ok (.aload_n 0, 1) := by decide +kernel
theorem dX1_worth_98 : decode cX1_worth 98 = .ok (.getfield 15, 3) := by decide +kernel
theorem dX1_worth_101 : decode cX1_worth 101 = .ok (.iload 5, 2) := by decide +kernel
theorem dX1_worth_103 : decode cX1_worth 103 = .ok (.iconst 1, 1) := by decide +kernel
theorem dX1_worth_104 : decode cX1_worth 104 = .ok (.isub, 1) := by decide +kernel
theorem dX1_worth_105 : decode cX1_worth 105 = .ok (.iaload, 1) := by decide +kernel
theorem dX1_worth_106 : decode cX1_worth 106 = .ok (.aload_n 0, 1) := by decide +kernel
theorem dX1_worth_107 : decode cX1_worth 107 = .ok (.getfield 15, 3) := by decide +kernel
theorem dX1_worth_110 : decode cX1_worth 110 = .ok (.iload 5, 2) := by decide +kernel
theorem dX1_worth_112 : decode cX1_worth 112 = .ok (.iaload, 1) := by decide +kernel
theorem dX1_worth_113 : decode cX1_worth 113 = .ok (.invokestatic 28, 3) := by decide +kernel
theorem dX1_worth_116 : decode cX1_worth 116 = .ok (.iastore, 1) := by decide +kernel
theorem dX1_worth_117 : decode cX1_worth 117 = .ok (.goto 44, 3) := by decide +kernel
theorem dX1_worth_120 : decode cX1_worth 120 = .ok (.iload 5, 2) := by decide +kernel
theorem dX1_worth_122 : decode cX1_worth 122 = .ok (.aload_n 0, 1) := by decide +kernel
theorem dX1_worth_123 : decode cX1_worth 123 = .ok (.getfield 15, 3) := by decide +kernel
theorem dX1_worth_126 : decode cX1_worth 126 = .ok (.arraylength, 1) := by decide +kernel
theorem dX1_worth_127 : decode cX1_worth 127 = .ok (.if_icmp .ge 34, 3) := by decide +kernel
theorem dX1_worth_130 : decode cX1_worth 130 = .ok (.aload_n 0, 1) := by decide +kernel
theorem dX1_worth_131 : decode cX1_worth 131 = .ok (.getfield 15, 3) := by decide +kernel
theorem dX1_worth_134 : decode cX1_worth 134 = .ok (.iload 5, 2) := by decide +kernel
theorem dX1_worth_136 : decode cX1_worth 136 = .ok (.iload 7, 2) := by decide +kernel
theorem dX1_worth_138 : decode cX1_worth 138 = .ok (.ifCond .lt 8, 3) := by decide +kernel
theorem dX1_worth_141 : decode cX1_worth 141 = .ok (.iload 7, 2) := by decide +kernel
theorem dX1_worth_143 : decode cX1_worth 143 = .ok (.goto 14, 3) := by decide +kernel
theorem dX1_worth_146 : decode cX1_worth 146 = .ok (.iload 7, 2) := by decide +kernel
theorem dX1_worth_148 : decode cX1_worth 148 = .ok (.ineg, 1) := by decide +kernel
theorem dX1_worth_149 : decode cX1_worth 149 = .ok (.iload_n 1, 1) := by decide +kernel
theorem dX1_worth_150 : decode cX1_worth 150 = .ok (.iload_n 2, 1) := by decide +kernel
theorem dX1_worth_151 : decode cX1_worth 151 = .ok (.iload_n 3, 1) := by decide +kernel
theorem dX1_worth_152 : decode cX1_worth 152 = .ok (.iload 4, 2) := by decide +kernel
theorem dX1_worth_154 : decode cX1_worth 154 = .ok (.invokestatic 32, 3) := by decide +kernel
theorem dX1_worth_157 : decode cX1_worth 157 = .ok (.iastore, 1) := by decide +kernel
theorem dX1_worth_158 : decode cX1_worth 158 = .ok (.iinc 5 1, 3) := by decide +kernel
theorem dX1_worth_161 : decode cX1_worth 161 = .ok (.iinc 6 1, 3) := by decide +kernel
theorem dX1_worth_164 : decode cX1_worth 164 = .ok (.goto (-158), 3) := by decide +kernel
theorem dX1_worth_167 : decode cX1_worth 167 = .ok (.iload 5, 2) := by decide +kernel
theorem dX1_worth_169 : decode cX1_worth 169 = .ok (.iconst 1, 1) := by decide +kernel
theorem dX1_worth_170 : decode cX1_worth 170 = .ok (.if_icmp .ne 12, 3) := by decide +kernel
theorem dX1_worth_173 : decode cX1_worth 173 = .ok (.aload_n 0, 1) := by decide +kernel
theorem dX1_worth_174 : decode cX1_worth 174 = .ok (.getfield 15, 3) := by decide +kernel
theorem dX1_worth_177 : decode cX1_worth 177 = .ok (.iconst 0, 1) := by decide +kernel
theorem dX1_worth_178 : decode cX1_worth 178 = .ok (.iaload, 1) := by decide +kernel
theorem dX1_worth_179 : decode cX1_worth 179 = .ok (.goto 4, 3) := by decide +kernel
theorem dX1_worth_182 : decode cX1_worth 182 = .ok (.iconst 0, 1) := by decide +kernel
theorem dX1_worth_183 : decode cX1_worth 183 = .ok (.ireturn, 1) := by decide +kernel
theorem dX1_fact_0 : decode cX1_fact 0 = .ok (.iload_n 0, 1) := by decide +kernel
theorem dX1_fact_1 : decode cX1_fact 1 = .ok (.tableswitch 33 147 149 #[27, 29, 31], 27) := by decide +kernel
theorem dX1_fact_28 : decode cX1_fact 28 = .ok (.iload_n 1, 1) := by decide +kernel
theorem dX1_fact_29 : decode cX1_fact 29 = .ok (.ireturn, 1) := by decide +kernel
theorem dX1_fact_30 : decode cX1_fact 30 = .ok (.iload_n 2, 1) := by decide +kernel
theorem dX1_fact_31 : decode cX1_fact 31 = .ok (.ireturn, 1) := by decide +kernel
theorem dX1_fact_32 : decode cX1_fact 32 = .ok (.iload_n 3, 1) := by decide +kernel
theorem dX1_fact_33 : decode cX1_fact 33 = .ok (.ireturn, 1) := by decide +kernel
theorem dX1_fact_34 : decode cX1_fact 34 = .ok (.iload 4, 2) := by decide +kernel
theorem dX1_fact_36 : decode cX1_fact 36 = .ok (.ireturn, 1) := by decide +kernel
theorem dX1_joined_0 : decode cX1_joined 0 = .ok (.iload_n 0, 1) := by decide +kernel
theorem dX1_joined_1 : decode cX1_joined 1 = .ok (.lookupswitch 117 #[(43, 109), (45, 113), (60, 87), (61, 98), (145, 59), (146, 73)], 59) := by decide +kernel
theorem dX1_joined_60 : decode cX1_joined 60 = .ok (.iload_n 1, 1) := by decide +kernel
theorem dX1_joined_61 : decode cX1_joined 61 = .ok (.ifCond .eq 11, 3) := by decide +kernel
theorem dX1_joined_64 : decode cX1_joined 64 = .ok (.iload_n 2, 1) := by decide +kernel
theorem dX1_joined_65 : decode cX1_joined 65 = .ok (.ifCond .eq 7, 3) := by decide +kernel
theorem dX1_joined_68 : decode cX1_joined 68 = .ok (.iconst 1, 1) := by decide +kernel
theorem dX1_joined_69 : decode cX1_joined 69 = .ok (.goto 4, 3) := by decide +kernel
theorem dX1_joined_72 : decode cX1_joined 72 = .ok (.iconst 0, 1) := by decide +kernel
theorem dX1_joined_73 : decode cX1_joined 73 = .ok (.ireturn, 1) := by decide +kernel
theorem dX1_joined_74 : decode cX1_joined 74 = .ok (.iload_n 1, 1) := by decide +kernel
theorem dX1_joined_75 : decode cX1_joined 75 = .ok (.ifCond .ne 7, 3) := by decide +kernel
theorem dX1_joined_78 : decode cX1_joined 78 = .ok (.iload_n 2, 1) := by decide +kernel
theorem dX1_joined_79 : decode cX1_joined 79 = .ok (.ifCond .eq 7, 3) := by decide +kernel
theorem dX1_joined_82 : decode cX1_joined 82 = .ok (.iconst 1, 1) := by decide +kernel
theorem dX1_joined_83 : decode cX1_joined 83 = .ok (.goto 4, 3) := by decide +kernel
theorem dX1_joined_86 : decode cX1_joined 86 = .ok (.iconst 0, 1) := by decide +kernel
theorem dX1_joined_87 : decode cX1_joined 87 = .ok (.ireturn, 1) := by decide +kernel
theorem dX1_joined_88 : decode cX1_joined 88 = .ok (.iload_n 1, 1) := by decide +kernel
theorem dX1_joined_89 : decode cX1_joined 89 = .ok (.iload_n 2, 1) := by decide +kernel
theorem dX1_joined_90 : decode cX1_joined 90 = .ok (.if_icmp .ge 7, 3) := by decide +kernel
theorem dX1_joined_93 : decode cX1_joined 93 = .ok (.iconst 1, 1) := by decide +kernel
theorem dX1_joined_94 : decode cX1_joined 94 = .ok (.goto 4, 3) := by decide +kernel
theorem dX1_joined_97 : decode cX1_joined 97 = .ok (.iconst 0, 1) := by decide +kernel
theorem dX1_joined_98 : decode cX1_joined 98 = .ok (.ireturn, 1) := by decide +kernel
theorem dX1_joined_99 : decode cX1_joined 99 = .ok (.iload_n 1, 1) := by decide +kernel
theorem dX1_joined_100 : decode cX1_joined 100 = .ok (.iload_n 2, 1) := by decide +kernel
theorem dX1_joined_101 : decode cX1_joined 101 = .ok (.if_icmp .ne 7, 3) := by decide +kernel
theorem dX1_joined_104 : decode cX1_joined 104 = .ok (.iconst 1, 1) := by decide +kernel
theorem dX1_joined_105 : decode cX1_joined 105 = .ok (.goto 4, 3) := by decide +kernel
theorem dX1_joined_108 : decode cX1_joined 108 = .ok (.iconst 0, 1) := by decide +kernel
theorem dX1_joined_109 : decode cX1_joined 109 = .ok (.ireturn, 1) := by decide +kernel
theorem dX1_joined_110 : decode cX1_joined 110 = .ok (.iload_n 1, 1) := by decide +kernel
theorem dX1_joined_111 : decode cX1_joined 111 = .ok (.iload_n 2, 1) := by decide +kernel
theorem dX1_joined_112 : decode cX1_joined 112 = .ok (.iadd, 1) := by decide +kernel
theorem dX1_joined_113 : decode cX1_joined 113 = .ok (.ireturn, 1) := by decide +kernel
theorem dX1_joined_114 : decode cX1_joined 114 = .ok (.iload_n 1, 1) := by decide +kernel
theorem dX1_joined_115 : decode cX1_joined 115 = .ok (.iload_n 2, 1) := by decide +kernel
theorem dX1_joined_116 : decode cX1_joined 116 = .ok (.isub, 1) := by decide +kernel
theorem dX1_joined_117 : decode cX1_joined 117 = .ok (.ireturn, 1) := by decide +kernel
theorem dX1_joined_118 : decode cX1_joined 118 = .ok (.iload_n 1, 1) := by decide +kernel
theorem dX1_joined_119 : decode cX1_joined 119 = .ok (.iload_n 2, 1) := by decide +kernel
theorem dX1_joined_120 : decode cX1_joined 120 = .ok (.imul, 1) := by decide +kernel
theorem dX1_joined_121 : decode cX1_joined 121 = .ok (.ireturn, 1) := by decide +kernel
theorem dX2_init_0 : decode cX2_init 0 = .ok (.aload_n 0, 1) := by decide +kernel
theorem dX2_init_1 : decode cX2_init 1 = .ok (.invokespecial 3, 3) := by decide +kernel
theorem dX2_init_4 : decode cX2_init 4 = .ok (.aload_n 0, 1) := by decide +kernel
theorem dX2_init_5 : decode cX2_init 5 = .ok (.aload_n 1, 1) := by decide +kernel
theorem dX2_init_6 : decode cX2_init 6 = .ok (.putfield 9, 3) := by decide +kernel
theorem dX2_init_9 : decode cX2_init 9 = .ok (.return_, 1) := by decide +kernel
theorem dX2_readPairs_0 : decode cX2_readPairs 0 = .ok (.iload_n 2, 1) := by decide +kernel
theorem dX2_readPairs_1 : decode cX2_readPairs 1 = .ok (.iconst 3, 1) := by decide +kernel
theorem dX2_readPairs_2 : decode cX2_readPairs 2 = .ok (.if_icmp .le 10, 3) := by decide +kernel
theorem dX2_readPairs_5 : decode cX2_readPairs 5 = .ok (.aload_n 0, 1) := by decide +kernel
theorem dX2_readPairs_6 : decode cX2_readPairs 6 = .ok (.aload_n 1, 1) := by decide +kernel
theorem dX2_readPairs_7 : decode cX2_readPairs 7 = .ok (.iload_n 3, 1) := by decide +kernel
theorem dX2_readPairs_8 : decode cX2_readPairs 8 = .ok (.invokevirtual 17, 3) := by decide +kernel
theorem dX2_readPairs_11 : decode cX2_readPairs 11 = .ok (.ireturn, 1) := by decide +kernel
theorem dX2_readPairs_12 : decode cX2_readPairs 12 = .ok (.aload_n 0, 1) := by decide +kernel
theorem dX2_readPairs_13 : decode cX2_readPairs 13 = .ok (.aload_n 1, 1) := by decide +kernel
theorem dX2_readPairs_14 : decode cX2_readPairs 14 = .ok (.iload_n 2, 1) := by decide +kernel
theorem dX2_readPairs_15 : decode cX2_readPairs 15 = .ok (.iconst 1, 1) := by decide +kernel
theorem dX2_readPairs_16 : decode cX2_readPairs 16 = .ok (.iadd, 1) := by decide +kernel
theorem dX2_readPairs_17 : decode cX2_readPairs 17 = .ok (.iload_n 3, 1) := by decide +kernel
theorem dX2_readPairs_18 : decode cX2_readPairs 18 = .ok (.invokevirtual 21, 3) := by decide +kernel
theorem dX2_readPairs_21 : decode cX2_readPairs 21 = .ok (.ifCond .ne 5, 3) := by decide +kernel
theorem dX2_readPairs_24 : decode cX2_readPairs 24 = .ok (.iconst 0, 1) := by decide +kernel
theorem dX2_readPairs_25 : decode cX2_readPairs 25 = .ok (.ireturn, 1) := by decide +kernel
theorem dX2_readPairs_26 : decode cX2_readPairs 26 = .ok (.iload_n 2, 1) := by decide +kernel
theorem dX2_readPairs_27 : decode cX2_readPairs 27 = .ok (.iconst 1, 1) := by decide +kernel
theorem dX2_readPairs_28 : decode cX2_readPairs 28 = .ok (.if_icmp .ne 7, 3) := by decide +kernel
theorem dX2_readPairs_31 : decode cX2_readPairs 31 = .ok (.iconst 1, 1) := by decide +kernel
theorem dX2_readPairs_32 : decode cX2_readPairs 32 = .ok (.goto 6, 3) := by decide +kernel
theorem dX2_readPairs_35 : decode cX2_readPairs 35 = .ok (.sipush 1000, 3) := by decide +kernel
theorem dX2_readPairs_38 : decode cX2_readPairs 38 = .ok (.istore 4, 2) := by decide +kernel
theorem dX2_readPairs_40 : decode cX2_readPairs 40 = .ok (.iconst 0, 1) := by decide +kernel
theorem dX2_readPairs_41 : decode cX2_readPairs 41 = .ok (.istore 5, 2) := by decide +kernel
theorem dX2_readPairs_43 : decode cX2_readPairs 43 = .ok (.iload 5, 2) := by decide +kernel
theorem dX2_readPairs_45 : decode cX2_readPairs 45 = .ok (.iload 4, 2) := by decide +kernel
theorem dX2_readPairs_47 : decode cX2_readPairs 47 = .ok (.if_icmp .ge 60, 3) := by decide +kernel
theorem dX2_readPairs_50 : decode cX2_readPairs 50 = .ok (.aload_n 0, 1) := by decide +kernel
theorem dX2_readPairs_51 : decode cX2_readPairs 51 = .ok (.getfield 9, 3) := by decide +kernel
theorem dX2_readPairs_54 : decode cX2_readPairs 54 = .ok (.getfield 25, 3) := by decide +kernel
theorem dX2_readPairs_57 : decode cX2_readPairs 57 = .ok (.invokestatic 31, 3) := by decide +kernel
theorem dX2_readPairs_60 : decode cX2_readPairs 60 = .ok (.iload_n 2, 1) := by decide +kernel
theorem dX2_readPairs_61 : decode cX2_readPairs 61 = .ok (.if_icmp .ne 46, 3) := by decide +kernel
theorem dX2_readPairs_64 : decode cX2_readPairs 64 = .ok (.aload_n 0, 1) := by decide +kernel
theorem dX2_readPairs_65 : decode cX2_readPairs 65 = .ok (.getfield 9, 3) := by decide +kernel
theorem dX2_readPairs_68 : decode cX2_readPairs 68 = .ok (.getfield 25, 3) := by decide +kernel
theorem dX2_readPairs_71 : decode cX2_readPairs 71 = .ok (.istore 6, 2) := by decide +kernel
theorem dX2_readPairs_73 : decode cX2_readPairs 73 = .ok (.aload_n 0, 1) := by decide +kernel
theorem dX2_readPairs_74 : decode cX2_readPairs 74 = .ok (.getfield 9, 3) := by decide +kernel
theorem dX2_readPairs_77 : decode cX2_readPairs 77 = .ok (.invokevirtual 35, 3) := by decide +kernel
theorem dX2_readPairs_80 : decode cX2_readPairs 80 = .ok (.aload_n 0, 1) := by decide +kernel
theorem dX2_readPairs_81 : decode cX2_readPairs 81 = .ok (.aload_n 1, 1) := by decide +kernel
theorem dX2_readPairs_82 : decode cX2_readPairs 82 = .ok (.iload_n 2, 1) := by decide +kernel
theorem dX2_readPairs_83 : decode cX2_readPairs 83 = .ok (.iconst 1, 1) := by decide +kernel
theorem dX2_readPairs_84 : decode cX2_readPairs 84 = .ok (.iadd, 1) := by decide +kernel
theorem dX2_readPairs_85 : decode cX2_readPairs 85 = .ok (.iload_n 3, 1) := by decide +kernel
theorem dX2_readPairs_86 : decode cX2_readPairs 86 = .ok (.invokevirtual 21, 3) := by decide +kernel
theorem dX2_readPairs_89 : decode cX2_readPairs 89 = .ok (.ifCond .ne 5, 3) := by decide +kernel
theorem dX2_readPairs_92 : decode cX2_readPairs 92 = .ok (.iconst 0, 1) := by decide +kernel
theorem dX2_readPairs_93 : decode cX2_readPairs 93 = .ok (.ireturn, 1) := by decide +kernel
theorem dX2_readPairs_94 : decode cX2_readPairs 94 = .ok (.aload_n 1, 1) := by decide +kernel
theorem dX2_readPairs_95 : decode cX2_readPairs 95 = .ok (.iload 6, 2) := by decide +kernel
theorem dX2_readPairs_97 : decode cX2_readPairs 97 = .ok (.ineg, 1) := by decide +kernel
theorem dX2_readPairs_98 : decode cX2_readPairs 98 = .ok (.invokevirtual 38, 3) := by decide +kernel
theorem dX2_readPairs_101 : decode cX2_readPairs 101 = .ok (.iinc 5 1, 3) := by decide +kernel
theorem dX2_readPairs_104 : decode cX2_readPairs 104 = .ok (.goto (-61), 3) := by decide +kernel
theorem dX2_readPairs_107 : decode cX2_readPairs 107 = .ok (.iconst 1, 1) := by decide +kernel
theorem dX2_readPairs_108 : decode cX2_readPairs 108 = .ok (.ireturn, 1) := by decide +kernel
theorem dX2_readPart_0 : decode cX2_readPart 0 = .ok (.aload_n 0, 1) := by decide +kernel
theorem dX2_readPart_1 : decode cX2_readPart 1 = .ok (.getfield 9, 3) := by decide +kernel
theorem dX2_readPart_4 : decode cX2_readPart 4 = .ok (.getfield 25, 3) := by decide +kernel
theorem dX2_readPart_7 : decode cX2_readPart 7 = .ok (.istore_n 3, 1) := by decide +kernel
theorem dX2_readPart_8 : decode cX2_readPart 8 = .ok (.iload_n 3, 1) := by decide +kernel
theorem dX2_readPart_9 : decode cX2_readPart 9 = .ok (.iconst 2, 1) := by decide +kernel
theorem dX2_readPart_10 : decode cX2_readPart 10 = .ok (.if_icmp .eq 13, 3) := by decide +kernel
theorem dX2_readPart_13 : decode cX2_readPart 13 = .ok (.aload_n 0, 1) := by decide +kernel
theorem dX2_readPart_14 : decode cX2_readPart 14 = .ok (.getfield 9, 3) := by decide +kernel
theorem dX2_readPart_17 : decode cX2_readPart 17 = .ok (.invokevirtual 42, 3) := by decide +kernel
theorem dX2_readPart_20 : decode cX2_readPart 20 = .ok (.ifCond .eq 7, 3) := by decide +kernel
theorem dX2_readPart_23 : decode cX2_readPart 23 = .ok (.iconst 1, 1) := by decide +kernel
theorem dX2_readPart_24 : decode cX2_readPart 24 = .ok (.goto 4, 3) := by decide +kernel
theorem dX2_readPart_27 : decode cX2_readPart 27 = .ok (.iconst 0, 1) := by decide +kernel
theorem dX2_readPart_28 : decode cX2_readPart 28 = .ok (.istore 4, 2) := by decide +kernel
theorem dX2_readPart_30 : decode cX2_readPart 30 = .ok (.iload 4, 2) := by decide +kernel
theorem dX2_readPart_32 : decode cX2_readPart 32 = .ok (.ifCond .ne 25, 3) := by decide +kernel
theorem dX2_readPart_35 : decode cX2_readPart 35 = .ok (.iload_n 3, 1) := by decide +kernel
theorem dX2_readPart_36 : decode cX2_readPart 36 = .ok (.sipush 144, 3) := by decide +kernel
theorem dX2_readPart_39 : decode cX2_readPart 39 = .ok (.if_icmp .eq 18, 3) := by decide +kernel
theorem dX2_readPart_42 : decode cX2_readPart 42 = .ok (.iload_n 3, 1) := by decide +kernel
theorem dX2_readPart_43 : decode cX2_readPart 43 = .ok (.bipush 40, 2) := by decide +kernel
theorem dX2_readPart_45 : decode cX2_readPart 45 = .ok (.if_icmp .eq 12, 3) := by decide +kernel
theorem dX2_readPart_48 : decode cX2_readPart 48 = .ok (.aload_n 0, 1) := by decide +kernel
theorem dX2_readPart_49 : decode cX2_readPart 49 = .ok (.getfield 9, 3) := by decide +kernel
theorem dX2_readPart_52 : decode cX2_readPart 52 = .ok (.iconst 1, 1) := by decide +kernel
theorem dX2_readPart_53 : decode cX2_readPart 53 = .ok (.invokevirtual 46, 3) := by decide +kernel
theorem dX2_readPart_56 : decode cX2_readPart 56 = .ok (.ireturn, 1) := by decide +kernel
theorem dX2_readPart_57 : decode cX2_readPart 57 = .ok (.iload_n 2, 1) := by decide +kernel
theorem dX2_readPart_58 : decode cX2_readPart 58 = .ok (.iconst 5, 1) := by decide +kernel
theorem dX2_readPart_59 : decode cX2_readPart 59 = .ok (.if_icmp .lt 12, 3) := by decide +kernel
theorem dX2_readPart_62 : decode cX2_readPart 62 = .ok (.aload_n 0, 1) := by decide +kernel
theorem dX2_readPart_63 : decode cX2_readPart 63 = .ok (.getfield 9, 3) := by decide +kernel
theorem dX2_readPart_66 : decode cX2_readPart 66 = .ok (.iconst 5, 1) := by decide +kernel
theorem dX2_readPart_67 : decode cX2_readPart 67 = .ok (.invokevirtual 46, 3) := by decide +kernel
theorem dX2_readPart_70 : decode cX2_readPart 70 = .ok (.ireturn, 1) := by decide +kernel
theorem dX2_readPart_71 : decode cX2_readPart 71 = .ok (.iload_n 3, 1) := by decide +kernel
theorem dX2_readPart_72 : decode cX2_readPart 72 = .ok (.iconst 2, 1) := by decide +kernel
theorem dX2_readPart_73 : decode cX2_readPart 73 = .ok (.if_icmp .ne 13, 3) := by decide +kernel
theorem dX2_readPart_76 : decode cX2_readPart 76 = .ok (.aload_n 0, 1) := by decide +kernel
theorem dX2_readPart_77 : decode cX2_readPart 77 = .ok (.getfield 9, 3) := by decide +kernel
theorem dX2_readPart_80 : decode cX2_readPart 80 = .ok (.getfield 50, 3) := by decide +kernel
theorem dX2_readPart_83 : decode cX2_readPart 83 = .ok (.goto 5, 3) := by decide +kernel
theorem dX2_readPart_86 : decode cX2_readPart 86 = .ok (.iload_n 3, 1) := by decide +kernel
theorem dX2_readPart_87 : decode cX2_readPart 87 = .ok (.ineg, 1) := by decide +kernel
theorem dX2_readPart_88 : decode cX2_readPart 88 = .ok (.istore 5, 2) := by decide +kernel
theorem dX2_readPart_90 : decode cX2_readPart 90 = .ok (.aload_n 0, 1) := by decide +kernel
theorem dX2_readPart_91 : decode cX2_readPart 91 = .ok (.getfield 9, 3) := by decide +kernel
theorem dX2_readPart_94 : decode cX2_readPart 94 = .ok (.invokevirtual 35, 3) := by decide +kernel
theorem dX2_readPart_97 : decode cX2_readPart 97 = .ok (.iload 4, 2) := by decide +kernel
theorem dX2_readPart_99 : decode cX2_readPart 99 = .ok (.ifCond .eq 11, 3) := by decide +kernel
theorem dX2_readPart_102 : decode cX2_readPart 102 = .ok (.aload_n 1, 1) := by decide +kernel
theorem dX2_readPart_103 : decode cX2_readPart 103 = .ok (.iload 5, 2) := by decide +kernel
theorem dX2_readPart_105 : decode cX2_readPart 105 = .ok (.invokevirtual 38, 3) := by decide +kernel
theorem dX2_readPart_108 : decode cX2_readPart 108 = .ok (.iconst 1, 1) := by decide +kernel
theorem dX2_readPart_109 : decode cX2_readPart 109 = .ok (.ireturn, 1) := by decide +kernel
theorem dX2_readPart_110 : decode cX2_readPart 110 = .ok (.iload_n 3, 1) := by decide +kernel
theorem dX2_readPart_111 : decode cX2_readPart 111 = .ok (.bipush 40, 2) := by decide +kernel
theorem dX2_readPart_113 : decode cX2_readPart 113 = .ok (.if_icmp .ne 47, 3) := by decide +kernel
theorem dX2_readPart_116 : decode cX2_readPart 116 = .ok (.aload_n 0, 1) := by decide +kernel
theorem dX2_readPart_117 : decode cX2_readPart 117 = .ok (.aload_n 1, 1) := by decide +kernel
theorem dX2_readPart_118 : decode cX2_readPart 118 = .ok (.iconst 0, 1) := by decide +kernel
theorem dX2_readPart_119 : decode cX2_readPart 119 = .ok (.iload_n 2, 1) := by decide +kernel
theorem dX2_readPart_120 : decode cX2_readPart 120 = .ok (.iconst 1, 1) := by decide +kernel
theorem dX2_readPart_121 : decode cX2_readPart 121 = .ok (.iadd, 1) := by decide +kernel
theorem dX2_readPart_122 : decode cX2_readPart 122 = .ok (.invokevirtual 21, 3) := by decide +kernel
theorem dX2_readPart_125 : decode cX2_readPart 125 = .ok (.ifCond .ne 5, 3) := by decide +kernel
theorem dX2_readPart_128 : decode cX2_readPart 128 = .ok (.iconst 0, 1) := by decide +kernel
theorem dX2_readPart_129 : decode cX2_readPart 129 = .ok (.ireturn, 1) := by decide +kernel
theorem dX2_readPart_130 : decode cX2_readPart 130 = .ok (.aload_n 0, 1) := by decide +kernel
theorem dX2_readPart_131 : decode cX2_readPart 131 = .ok (.getfield 9, 3) := by decide +kernel
theorem dX2_readPart_134 : decode cX2_readPart 134 = .ok (.getfield 25, 3) := by decide +kernel
theorem dX2_readPart_137 : decode cX2_readPart 137 = .ok (.bipush 41, 2) := by decide +kernel
theorem dX2_readPart_139 : decode cX2_readPart 139 = .ok (.if_icmp .eq 12, 3) := by decide +kernel
theorem dX2_readPart_142 : decode cX2_readPart 142 = .ok (.aload_n 0, 1) := by decide +kernel
theorem dX2_readPart_143 : decode cX2_readPart 143 = .ok (.getfield 9, 3) := by decide +kernel
theorem dX2_readPart_146 : decode cX2_readPart 146 = .ok (.iconst 1, 1) := by decide +kernel
theorem dX2_readPart_147 : decode cX2_readPart 147 = .ok (.invokevirtual 46, 3) := by decide +kernel
theorem dX2_readPart_150 : decode cX2_readPart 150 = .ok (.ireturn, 1) := by decide +kernel
theorem dX2_readPart_151 : decode cX2_readPart 151 = .ok (.aload_n 0, 1) := by decide +kernel
theorem dX2_readPart_152 : decode cX2_readPart 152 = .ok (.getfield 9, 3) := by decide +kernel
theorem dX2_readPart_155 : decode cX2_readPart 155 = .ok (.invokevirtual 35, 3) := by decide +kernel
theorem dX2_readPart_158 : decode cX2_readPart 158 = .ok (.iconst 1, 1) := by decide +kernel
theorem dX2_readPart_159 : decode cX2_readPart 159 = .ok (.ireturn, 1) := by decide +kernel
theorem dX2_readPart_160 : decode cX2_readPart 160 = .ok (.aload_n 0, 1) := by decide +kernel
theorem dX2_readPart_161 : decode cX2_readPart 161 = .ok (.aload_n 1, 1) := by decide +kernel
theorem dX2_readPart_162 : decode cX2_readPart 162 = .ok (.iload_n 2, 1) := by decide +kernel
theorem dX2_readPart_163 : decode cX2_readPart 163 = .ok (.iconst 1, 1) := by decide +kernel
theorem dX2_readPart_164 : decode cX2_readPart 164 = .ok (.iadd, 1) := by decide +kernel
theorem dX2_readPart_165 : decode cX2_readPart 165 = .ok (.invokevirtual 17, 3) := by decide +kernel
theorem dX2_readPart_168 : decode cX2_readPart 168 = .ok (.ifCond .ne 5, 3) := by decide +kernel
theorem dX2_readPart_171 : decode cX2_readPart 171 = .ok (.iconst 0, 1) := by decide +kernel
theorem dX2_readPart_172 : decode cX2_readPart 172 = .ok (.ireturn, 1) := by decide +kernel
theorem dX2_readPart_173 : decode cX2_readPart 173 = .ok (.aload_n 1, 1) := by decide +kernel
theorem dX2_readPart_174 : decode cX2_readPart 174 = .ok (.sipush (-144), 3) := by decide +kernel
theorem dX2_readPart_177 : decode cX2_readPart 177 = .ok (.invokevirtual 38, 3) := by decide +kernel
theorem dX2_readPart_180 : decode cX2_readPart 180 = .ok (.iconst 1, 1) := by decide +kernel
theorem dX2_readPart_181 : decode cX2_readPart 181 = .ok (.ireturn, 1) := by decide +kernel
theorem dX3_init_0 : decode cX3_init 0 = .ok (.aload_n 0, 1) := by decide +kernel
theorem dX3_init_1 : decode cX3_init 1 = .ok (.invokespecial 3, 3) := by decide +kernel
theorem dX3_init_4 : decode cX3_init 4 = .ok (.aload_n 0, 1) := by decide +kernel
theorem dX3_init_5 : decode cX3_init 5 = .ok (.bipush 6, 2) := by decide +kernel
theorem dX3_init_7 : decode cX3_init 7 = .ok (.anewarray 9, 3) := by decide +kernel
theorem dX3_init_10 : decode cX3_init 10 = .ok (.putfield 11, 3) := by decide +kernel
theorem dX3_init_13 : decode cX3_init 13 = .ok (.aload_n 0, 1) := by decide +kernel
theorem dX3_init_14 : decode cX3_init 14 = .ok (.bipush 6, 2) := by decide +kernel
theorem dX3_init_16 : decode cX3_init 16 = .ok (.newarray .long, 2) := by decide +kernel
theorem dX3_init_18 : decode cX3_init 18 = .ok (.putfield 17, 3) := by decide +kernel
theorem dX3_init_21 : decode cX3_init 21 = .ok (.aload_n 0, 1) := by decide +kernel
theorem dX3_init_22 : decode cX3_init 22 = .ok (.iconst 4, 1) := by decide +kernel
theorem dX3_init_23 : decode cX3_init 23 = .ok (.newarray .long, 2) := by decide +kernel
theorem dX3_init_25 : decode cX3_init 25 = .ok (.putfield 21, 3) := by decide +kernel
theorem dX3_init_28 : decode cX3_init 28 = .ok (.aload_n 0, 1) := by decide +kernel
theorem dX3_init_29 : decode cX3_init 29 = .ok (.iconst 4, 1) := by decide +kernel
theorem dX3_init_30 : decode cX3_init 30 = .ok (.newarray .long, 2) := by decide +kernel
theorem dX3_init_32 : decode cX3_init 32 = .ok (.putfield 24, 3) := by decide +kernel
theorem dX3_init_35 : decode cX3_init 35 = .ok (.aload_n 0, 1) := by decide +kernel
theorem dX3_init_36 : decode cX3_init 36 = .ok (.iconst 4, 1) := by decide +kernel
theorem dX3_init_37 : decode cX3_init 37 = .ok (.newarray .int, 2) := by decide +kernel
theorem dX3_init_39 : decode cX3_init 39 = .ok (.putfield 27, 3) := by decide +kernel
theorem dX3_init_42 : decode cX3_init 42 = .ok (.aload_n 0, 1) := by decide +kernel
theorem dX3_init_43 : decode cX3_init 43 = .ok (.iconst 4, 1) := by decide +kernel
theorem dX3_init_44 : decode cX3_init 44 = .ok (.newarray .int, 2) := by decide +kernel
theorem dX3_init_46 : decode cX3_init 46 = .ok (.putfield 31, 3) := by decide +kernel
theorem dX3_init_49 : decode cX3_init 49 = .ok (.aload_n 0, 1) := by decide +kernel
theorem dX3_init_50 : decode cX3_init 50 = .ok (.iconst 4, 1) := by decide +kernel
theorem dX3_init_51 : decode cX3_init 51 = .ok (.newarray .int, 2) := by decide +kernel
theorem dX3_init_53 : decode cX3_init 53 = .ok (.putfield 34, 3) := by decide +kernel
theorem dX3_init_56 : decode cX3_init 56 = .ok (.aload_n 0, 1) := by decide +kernel
theorem dX3_init_57 : decode cX3_init 57 = .ok (.iconst 4, 1) := by decide +kernel
theorem dX3_init_58 : decode cX3_init 58 = .ok (.newarray .int, 2) := by decide +kernel
theorem dX3_init_60 : decode cX3_init 60 = .ok (.putfield 37, 3) := by decide +kernel
theorem dX3_init_63 : decode cX3_init 63 = .ok (.aload_n 0, 1) := by decide +kernel
theorem dX3_init_64 : decode cX3_init 64 = .ok (.iconst 4, 1) := by decide +kernel
theorem dX3_init_65 : decode cX3_init 65 = .ok (.iconst 4, 1) := by decide +kernel
theorem dX3_init_66 : decode cX3_init 66 = .ok (.multianewarray 40 2, 4) := by decide +kernel
theorem dX3_init_70 : decode cX3_init 70 = .ok (.putfield 42, 3) := by decide +kernel
theorem dX3_init_73 : decode cX3_init 73 = .ok (.aload_n 0, 1) := by decide +kernel
theorem dX3_init_74 : decode cX3_init 74 = .ok (.iconst 4, 1) := by decide +kernel
theorem dX3_init_75 : decode cX3_init 75 = .ok (.newarray .int, 2) := by decide +kernel
theorem dX3_init_77 : decode cX3_init 77 = .ok (.putfield 45, 3) := by decide +kernel
theorem dX3_init_80 : decode cX3_init 80 = .ok (.aload_n 0, 1) := by decide +kernel
theorem dX3_init_81 : decode cX3_init 81 = .ok (.new 48, 3) := by decide +kernel
theorem dX3_init_84 : decode cX3_init 84 = .ok (.dup, 1) := by decide +kernel
theorem dX3_init_85 : decode cX3_init 85 = .ok (.invokespecial 50, 3) := by decide +kernel
theorem dX3_init_88 : decode cX3_init 88 = .ok (.putfield 51, 3) := by decide +kernel
theorem dX3_init_91 : decode cX3_init 91 = .ok (.iconst 0, 1) := by decide +kernel
theorem dX3_init_92 : decode cX3_init 92 = .ok (.istore_n 1, 1) := by decide +kernel
theorem dX3_init_93 : decode cX3_init 93 = .ok (.iload_n 1, 1) := by decide +kernel
theorem dX3_init_94 : decode cX3_init 94 = .ok (.bipush 6, 2) := by decide +kernel
theorem dX3_init_96 : decode cX3_init 96 = .ok (.if_icmp .ge 22, 3) := by decide +kernel
theorem dX3_init_99 : decode cX3_init 99 = .ok (.aload_n 0, 1) := by decide +kernel
theorem dX3_init_100 : decode cX3_init 100 = .ok (.getfield 11, 3) := by decide +kernel
theorem dX3_init_103 : decode cX3_init 103 = .ok (.iload_n 1, 1) := by decide +kernel
theorem dX3_init_104 : decode cX3_init 104 = .ok (.new 9, 3) := by decide +kernel
theorem dX3_init_107 : decode cX3_init 107 = .ok (.dup, 1) := by decide +kernel
theorem dX3_init_108 : decode cX3_init 108 = .ok (.invokespecial 55, 3) := by decide +kernel
theorem dX3_init_111 : decode cX3_init 111 = .ok (.aastore, 1) := by decide +kernel
theorem dX3_init_112 : decode cX3_init 112 = .ok (.iinc 1 1, 3) := by decide +kernel
theorem dX3_init_115 : decode cX3_init 115 = .ok (.goto (-22), 3) := by decide +kernel
theorem dX3_init_118 : decode cX3_init 118 = .ok (.return_, 1) := by decide +kernel
theorem dX3_reset_0 : decode cX3_reset 0 = .ok (.aload_n 0, 1) := by decide +kernel
theorem dX3_reset_1 : decode cX3_reset 1 = .ok (.iconst 0, 1) := by decide +kernel
theorem dX3_reset_2 : decode cX3_reset 2 = .ok (.putfield 56, 3) := by decide +kernel
theorem dX3_reset_5 : decode cX3_reset 5 = .ok (.aload_n 0, 1) := by decide +kernel
theorem dX3_reset_6 : decode cX3_reset 6 = .ok (.iconst 0, 1) := by decide +kernel
theorem dX3_reset_7 : decode cX3_reset 7 = .ok (.putfield 60, 3) := by decide +kernel
theorem dX3_reset_10 : decode cX3_reset 10 = .ok (.aload_n 0, 1) := by decide +kernel
theorem dX3_reset_11 : decode cX3_reset 11 = .ok (.iconst 0, 1) := by decide +kernel
theorem dX3_reset_12 : decode cX3_reset 12 = .ok (.putfield 63, 3) := by decide +kernel
theorem dX3_reset_15 : decode cX3_reset 15 = .ok (.aload_n 0, 1) := by decide +kernel
theorem dX3_reset_16 : decode cX3_reset 16 = .ok (.iconst 0, 1) := by decide +kernel
theorem dX3_reset_17 : decode cX3_reset 17 = .ok (.putfield 66, 3) := by decide +kernel
theorem dX3_reset_20 : decode cX3_reset 20 = .ok (.aload_n 0, 1) := by decide +kernel
theorem dX3_reset_21 : decode cX3_reset 21 = .ok (.getfield 51, 3) := by decide +kernel
theorem dX3_reset_24 : decode cX3_reset 24 = .ok (.invokevirtual 70, 3) := by decide +kernel
theorem dX3_reset_27 : decode cX3_reset 27 = .ok (.iconst 0, 1) := by decide +kernel
theorem dX3_reset_28 : decode cX3_reset 28 = .ok (.istore_n 1, 1) := by decide +kernel
theorem dX3_reset_29 : decode cX3_reset 29 = .ok (.iload_n 1, 1) := by decide +kernel
theorem dX3_reset_30 : decode cX3_reset 30 = .ok (.iconst 4, 1) := by decide +kernel
theorem dX3_reset_31 : decode cX3_reset 31 = .ok (.if_icmp .ge 16, 3) := by decide +kernel
theorem dX3_reset_34 : decode cX3_reset 34 = .ok (.aload_n 0, 1) := by decide +kernel
theorem dX3_reset_35 : decode cX3_reset 35 = .ok (.getfield 45, 3) := by decide +kernel
theorem dX3_reset_38 : decode cX3_reset 38 = .ok (.iload_n 1, 1) := by decide +kernel
theorem dX3_reset_39 : decode cX3_reset 39 = .ok (.iconst 0, 1) := by decide +kernel
theorem dX3_reset_40 : decode cX3_reset 40 = .ok (.iastore, 1) := by decide +kernel
theorem dX3_reset_41 : decode cX3_reset 41 = .ok (.iinc 1 1, 3) := by decide +kernel
theorem dX3_reset_44 : decode cX3_reset 44 = .ok (.goto (-15), 3) := by decide +kernel
theorem dX3_reset_47 : decode cX3_reset 47 = .ok (.return_, 1) := by decide +kernel
theorem dX3_find_0 : decode cX3_find 0 = .ok (.iconst 0, 1) := by decide +kernel
theorem dX3_find_1 : decode cX3_find 1 = .ok (.istore 4, 2) := by decide +kernel
theorem dX3_find_3 : decode cX3_find 3 = .ok (.iload 4, 2) := by decide +kernel
theorem dX3_find_5 : decode cX3_find 5 = .ok (.iload_n 1, 1) := by decide +kernel
theorem dX3_find_6 : decode cX3_find 6 = .ok (.if_icmp .ge 28, 3) := by decide +kernel
theorem dX3_find_9 : decode cX3_find 9 = .ok (.iload 4, 2) := by decide +kernel
theorem dX3_find_11 : decode cX3_find 11 = .ok (.aload_n 0, 1) := by decide +kernel
theorem dX3_find_12 : decode cX3_find 12 = .ok (.arraylength, 1) := by decide +kernel
theorem dX3_find_13 : decode cX3_find 13 = .ok (.if_icmp .ge 21, 3) := by decide +kernel
theorem dX3_find_16 : decode cX3_find 16 = .ok (.aload_n 0, 1) := by decide +kernel
theorem dX3_find_17 : decode cX3_find 17 = .ok (.iload 4, 2) := by decide +kernel
theorem dX3_find_19 : decode cX3_find 19 = .ok (.laload, 1) := by decide +kernel
theorem dX3_find_20 : decode cX3_find 20 = .ok (.lload_n 2, 1) := by decide +kernel
theorem dX3_find_21 : decode cX3_find 21 = .ok (.lcmp, 1) := by decide +kernel
theorem dX3_find_22 : decode cX3_find 22 = .ok (.ifCond .ne 6, 3) := by decide +kernel
theorem dX3_find_25 : decode cX3_find 25 = .ok (.iload 4, 2) := by decide +kernel
theorem dX3_find_27 : decode cX3_find 27 = .ok (.ireturn, 1) := by decide +kernel
theorem dX3_find_28 : decode cX3_find 28 = .ok (.iinc 4 1, 3) := by decide +kernel
theorem dX3_find_31 : decode cX3_find 31 = .ok (.goto (-28), 3) := by decide +kernel
theorem dX3_find_34 : decode cX3_find 34 = .ok (.iconst (-1), 1) := by decide +kernel
theorem dX3_find_35 : decode cX3_find 35 = .ok (.ireturn, 1) := by decide +kernel
theorem dX3_knows_0 : decode cX3_knows 0 = .ok (.aload_n 0, 1) := by decide +kernel
theorem dX3_knows_1 : decode cX3_knows 1 = .ok (.getfield 17, 3) := by decide +kernel
theorem dX3_knows_4 : decode cX3_knows 4 = .ok (.aload_n 0, 1) := by decide +kernel
theorem dX3_knows_5 : decode cX3_knows 5 = .ok (.getfield 56, 3) := by decide +kernel
theorem dX3_knows_8 : decode cX3_knows 8 = .ok (.lload_n 1, 1) := by decide +kernel
theorem dX3_knows_9 : decode cX3_knows 9 = .ok (.invokestatic 73, 3) := by decide +kernel
theorem dX3_knows_12 : decode cX3_knows 12 = .ok (.iconst (-1), 1) := by decide +kernel
theorem dX3_knows_13 : decode cX3_knows 13 = .ok (.if_icmp .ne 35, 3) := by decide +kernel
theorem dX3_knows_16 : decode cX3_knows 16 = .ok (.aload_n 0, 1) := by decide +kernel
theorem dX3_knows_17 : decode cX3_knows 17 = .ok (.getfield 21, 3) := by decide +kernel
theorem dX3_knows_20 : decode cX3_knows 20 = .ok (.aload_n 0, 1) := by decide +kernel
theorem dX3_knows_21 : decode cX3_knows 21 = .ok (.getfield 60, 3) := by decide +kernel
theorem dX3_knows_24 : decode cX3_knows 24 = .ok (.lload_n 1, 1) := by decide +kernel
theorem dX3_knows_25 : decode cX3_knows 25 = .ok (.invokestatic 73, 3) := by decide +kernel
theorem dX3_knows_28 : decode cX3_knows 28 = .ok (.iconst (-1), 1) := by decide +kernel
theorem dX3_knows_29 : decode cX3_knows 29 = .ok (.if_icmp .ne 19, 3) := by decide +kernel
theorem dX3_knows_32 : decode cX3_knows 32 = .ok (.aload_n 0, 1) := by decide +kernel
theorem dX3_knows_33 : decode cX3_knows 33 = .ok (.getfield 24, 3) := by decide +kernel
theorem dX3_knows_36 : decode cX3_knows 36 = .ok (.aload_n 0, 1) := by decide +kernel
theorem dX3_knows_37 : decode cX3_knows 37 = .ok (.getfield 63, 3) := by decide +kernel
theorem dX3_knows_40 : decode cX3_knows 40 = .ok (.lload_n 1, 1) := by decide +kernel
theorem dX3_knows_41 : decode cX3_knows 41 = .ok (.invokestatic 73, 3) := by decide +kernel
theorem dX3_knows_44 : decode cX3_knows 44 = .ok (.iconst (-1), 1) := by decide +kernel
theorem dX3_knows_45 : decode cX3_knows 45 = .ok (.if_icmp .eq 7, 3) := by decide +kernel
theorem dX3_knows_48 : decode cX3_knows 48 = .ok (.iconst 1, 1) := by decide +kernel
theorem dX3_knows_49 : decode cX3_knows 49 = .ok (.goto 4, 3) := by decide +kernel
theorem dX3_knows_52 : decode cX3_knows 52 = .ok (.iconst 0, 1) := by decide +kernel
theorem dX3_knows_53 : decode cX3_knows 53 = .ok (.ireturn, 1) := by decide +kernel
theorem dX3_hopAt_0 : decode cX3_hopAt 0 = .ok (.iconst 0, 1) := by decide +kernel
theorem dX3_hopAt_1 : decode cX3_hopAt 1 = .ok (.istore_n 3, 1) := by decide +kernel
theorem dX3_hopAt_2 : decode cX3_hopAt 2 = .ok (.iload_n 3, 1) := by decide +kernel
theorem dX3_hopAt_3 : decode cX3_hopAt 3 = .ok (.aload_n 0, 1) := by decide +kernel
theorem dX3_hopAt_4 : decode cX3_hopAt 4 = .ok (.getfield 37, 3) := by decide +kernel
theorem dX3_hopAt_7 : decode cX3_hopAt 7 = .ok (.iload_n 1, 1) := by decide +kernel
theorem dX3_hopAt_8 : decode cX3_hopAt 8 = .ok (.iaload, 1) := by decide +kernel
theorem dX3_hopAt_9 : decode cX3_hopAt 9 = .ok (.if_icmp .ge 23, 3) := by decide +kernel
theorem dX3_hopAt_12 : decode cX3_hopAt 12 = .ok (.aload_n 0, 1) := by decide +kernel
theorem dX3_hopAt_13 : decode cX3_hopAt 13 = .ok (.getfield 42, 3) := by decide +kernel
theorem dX3_hopAt_16 : decode cX3_hopAt 16 = .ok (.iload_n 1, 1) := by decide +kernel
theorem dX3_hopAt_17 : decode cX3_hopAt 17 = .ok (.aaload, 1) := by decide +kernel
theorem dX3_hopAt_18 : decode cX3_hopAt 18 = .ok (.iload_n 3, 1) := by decide +kernel
theorem dX3_hopAt_19 : decode cX3_hopAt 19 = .ok (.iaload, 1) := by decide +kernel
theorem dX3_hopAt_20 : decode cX3_hopAt 20 = .ok (.iload_n 2, 1) := by decide +kernel
theorem dX3_hopAt_21 : decode cX3_hopAt 21 = .ok (.if_icmp .ne 5, 3) := by decide +kernel
theorem dX3_hopAt_24 : decode cX3_hopAt 24 = .ok (.iload_n 3, 1) := by decide +kernel
theorem dX3_hopAt_25 : decode cX3_hopAt 25 = .ok (.ireturn, 1) := by decide +kernel
theorem dX3_hopAt_26 : decode cX3_hopAt 26 = .ok (.iinc 3 1, 3) := by decide +kernel
theorem dX3_hopAt_29 : decode cX3_hopAt 29 = .ok (.goto (-27), 3) := by decide +kernel
theorem dX3_hopAt_32 : decode cX3_hopAt 32 = .ok (.iconst (-1), 1) := by decide +kernel
theorem dX3_hopAt_33 : decode cX3_hopAt 33 = .ok (.ireturn, 1) := by decide +kernel
theorem dX4_init_0 : decode cX4_init 0 = .ok (.aload_n 0, 1) := by decide +kernel
theorem dX4_init_1 : decode cX4_init 1 = .ok (.invokespecial 3, 3) := by decide +kernel
theorem dX4_init_4 : decode cX4_init 4 = .ok (.aload_n 0, 1) := by decide +kernel
theorem dX4_init_5 : decode cX4_init 5 = .ok (.aload_n 1, 1) := by decide +kernel
theorem dX4_init_6 : decode cX4_init 6 = .ok (.putfield 9, 3) := by decide +kernel
theorem dX4_init_9 : decode cX4_init 9 = .ok (.aload_n 0, 1) := by decide +kernel
theorem dX4_init_10 : decode cX4_init 10 = .ok (.aload_n 2, 1) := by decide +kernel
theorem dX4_init_11 : decode cX4_init 11 = .ok (.putfield 15, 3) := by decide +kernel
theorem dX4_init_14 : decode cX4_init 14 = .ok (.aload_n 0, 1) := by decide +kernel
theorem dX4_init_15 : decode cX4_init 15 = .ok (.new 19, 3) := by decide +kernel
theorem dX4_init_18 : decode cX4_init 18 = .ok (.dup, 1) := by decide +kernel
theorem dX4_init_19 : decode cX4_init 19 = .ok (.aload_n 1, 1) := by decide +kernel
theorem dX4_init_20 : decode cX4_init 20 = .ok (.invokespecial 21, 3) := by decide +kernel
theorem dX4_init_23 : decode cX4_init 23 = .ok (.putfield 24, 3) := by decide +kernel
theorem dX4_init_26 : decode cX4_init 26 = .ok (.return_, 1) := by decide +kernel
theorem dX4_read_0 : decode cX4_read 0 = .ok (.aload_n 0, 1) := by decide +kernel
theorem dX4_read_1 : decode cX4_read 1 = .ok (.aload_n 1, 1) := by decide +kernel
theorem dX4_read_2 : decode cX4_read 2 = .ok (.putfield 15, 3) := by decide +kernel
theorem dX4_read_5 : decode cX4_read 5 = .ok (.aload_n 0, 1) := by decide +kernel
theorem dX4_read_6 : decode cX4_read 6 = .ok (.getfield 15, 3) := by decide +kernel
theorem dX4_read_9 : decode cX4_read 9 = .ok (.invokevirtual 28, 3) := by decide +kernel
theorem dX4_read_12 : decode cX4_read 12 = .ok (.aload_n 0, 1) := by decide +kernel
theorem dX4_read_13 : decode cX4_read 13 = .ok (.getfield 9, 3) := by decide +kernel
theorem dX4_read_16 : decode cX4_read 16 = .ok (.invokevirtual 33, 3) := by decide +kernel
theorem dX4_read_19 : decode cX4_read 19 = .ok (.iconst 0, 1) := by decide +kernel
theorem dX4_read_20 : decode cX4_read 20 = .ok (.istore_n 2, 1) := by decide +kernel
theorem dX4_read_21 : decode cX4_read 21 = .ok (.iload_n 2, 1) := by decide +kernel
theorem dX4_read_22 : decode cX4_read 22 = .ok (.sipush 1000, 3) := by decide +kernel
theorem dX4_read_25 : decode cX4_read 25 = .ok (.if_icmp .ge 126, 3) := by decide +kernel
theorem dX4_read_28 : decode cX4_read 28 = .ok (.aload_n 0, 1) := by decide +kernel
theorem dX4_read_29 : decode cX4_read 29 = .ok (.getfield 9, 3) := by decide +kernel
theorem dX4_read_32 : decode cX4_read 32 = .ok (.getfield 38, 3) := by decide +kernel
theorem dX4_read_35 : decode cX4_read 35 = .ok (.ifCond .ne 116, 3) := by decide +kernel
theorem dX4_read_38 : decode cX4_read 38 = .ok (.aload_n 0, 1) := by decide +kernel
theorem dX4_read_39 : decode cX4_read 39 = .ok (.getfield 9, 3) := by decide +kernel
theorem dX4_read_42 : decode cX4_read 42 = .ok (.getfield 42, 3) := by decide +kernel
theorem dX4_read_45 : decode cX4_read 45 = .ok (.ifCond .eq 106, 3) := by decide +kernel
theorem dX4_read_48 : decode cX4_read 48 = .ok (.aload_n 0, 1) := by decide +kernel
theorem dX4_read_49 : decode cX4_read 49 = .ok (.getfield 9, 3) := by decide +kernel
theorem dX4_read_52 : decode cX4_read 52 = .ok (.getfield 42, 3) := by decide +kernel
theorem dX4_read_55 : decode cX4_read 55 = .ok (.tableswitch 81 128 137 #[53, 81, 81, 81, 60, 81, 67, 81, 81, 74], 53) := by decide +kernel
theorem dX4_read_108 : decode cX4_read 108 = .ok (.aload_n 0, 1) := by decide +kernel
theorem dX4_read_109 : decode cX4_read 109 = .ok (.invokevirtual 45, 3) := by decide +kernel
theorem dX4_read_112 : decode cX4_read 112 = .ok (.goto 33, 3) := by decide +kernel
theorem dX4_read_115 : decode cX4_read 115 = .ok (.aload_n 0, 1) := by decide +kernel
theorem dX4_read_116 : decode cX4_read 116 = .ok (.invokevirtual 48, 3) := by decide +kernel
theorem dX4_read_119 : decode cX4_read 119 = .ok (.goto 26, 3) := by decide +kernel
theorem dX4_read_122 : decode cX4_read 122 = .ok (.aload_n 0, 1) := by decide +kernel
theorem dX4_read_123 : decode cX4_read 123 = .ok (.invokevirtual 51, 3) := by decide +kernel
theorem dX4_read_126 : decode cX4_read 126 = .ok (.goto 19, 3) := by decide +kernel
theorem dX4_read_129 : decode cX4_read 129 = .ok (.aload_n 0, 1) := by decide +kernel
theorem dX4_read_130 : decode cX4_read 130 = .ok (.invokevirtual 54, 3) := by decide +kernel
theorem dX4_read_133 : decode cX4_read 133 = .ok (.goto 12, 3) := by decide +kernel
theorem dX4_read_136 : decode cX4_read 136 = .ok (.aload_n 0, 1) := by decide +kernel
theorem dX4_read_137 : decode cX4_read 137 = .ok (.getfield 9, 3) := by decide +kernel
theorem dX4_read_140 : decode cX4_read 140 = .ok (.iconst 1, 1) := by decide +kernel
theorem dX4_read_141 : decode cX4_read 141 = .ok (.invokevirtual 57, 3) := by decide +kernel
theorem dX4_read_144 : decode cX4_read 144 = .ok (.pop, 1) := by decide +kernel
theorem dX4_read_145 : decode cX4_read 145 = .ok (.iinc 2 1, 3) := by decide +kernel
theorem dX4_read_148 : decode cX4_read 148 = .ok (.goto (-127), 3) := by decide +kernel
theorem dX4_read_151 : decode cX4_read 151 = .ok (.aload_n 0, 1) := by decide +kernel
theorem dX4_read_152 : decode cX4_read 152 = .ok (.getfield 9, 3) := by decide +kernel
theorem dX4_read_155 : decode cX4_read 155 = .ok (.getfield 38, 3) := by decide +kernel
theorem dX4_read_158 : decode cX4_read 158 = .ok (.ireturn, 1) := by decide +kernel
theorem dX4_readNewName_0 : decode cX4_readNewName 0 = .ok (.aload_n 0, 1) := by decide +kernel
theorem dX4_readNewName_1 : decode cX4_readNewName 1 = .ok (.getfield 9, 3) := by decide +kernel
theorem dX4_readNewName_4 : decode cX4_readNewName 4 = .ok (.invokevirtual 61, 3) := by decide +kernel
theorem dX4_readNewName_7 : decode cX4_readNewName 7 = .ok (.ifCond .ne 12, 3) := by decide +kernel
theorem dX4_readNewName_10 : decode cX4_readNewName 10 = .ok (.aload_n 0, 1) := by decide +kernel
theorem dX4_readNewName_11 : decode cX4_readNewName 11 = .ok (.getfield 9, 3) := by decide +kernel
theorem dX4_readNewName_14 : decode cX4_readNewName 14 = .ok (.iconst 1, 1) := by decide +kernel
theorem dX4_readNewName_15 : decode cX4_readNewName 15 = .ok (.invokevirtual 57, 3) := by decide +kernel
theorem dX4_readNewName_18 : decode cX4_readNewName 18 = .ok (.ireturn, 1) := by decide +kernel
theorem dX4_readNewName_19 : decode cX4_readNewName 19 = .ok (.aload_n 0, 1) := by decide +kernel
theorem dX4_readNewName_20 : decode cX4_readNewName 20 = .ok (.getfield 15, 3) := by decide +kernel
theorem dX4_readNewName_23 : decode cX4_readNewName 23 = .ok (.aload_n 0, 1) := by decide +kernel
theorem dX4_readNewName_24 : decode cX4_readNewName 24 = .ok (.getfield 9, 3) := by decide +kernel
theorem dX4_readNewName_27 : decode cX4_readNewName 27 = .ok (.getfield 65, 3) := by decide +kernel
theorem dX4_readNewName_30 : decode cX4_readNewName 30 = .ok (.invokevirtual 69, 3) := by decide +kernel
theorem dX4_readNewName_33 : decode cX4_readNewName 33 = .ok (.ifCond .eq 12, 3) := by decide +kernel
theorem dX4_readNewName_36 : decode cX4_readNewName 36 = .ok (.aload_n 0, 1) := by decide +kernel
theorem dX4_readNewName_37 : decode cX4_readNewName 37 = .ok (.getfield 9, 3) := by decide +kernel
theorem dX4_readNewName_40 : decode cX4_readNewName 40 = .ok (.iconst 3, 1) := by decide +kernel
theorem dX4_readNewName_41 : decode cX4_readNewName 41 = .ok (.invokevirtual 57, 3) := by decide +kernel
theorem dX4_readNewName_44 : decode cX4_readNewName 44 = .ok (.ireturn, 1) := by decide +kernel
theorem dX4_readNewName_45 : decode cX4_readNewName 45 = .ok (.aload_n 1, 1) := by decide +kernel
theorem dX4_readNewName_46 : decode cX4_readNewName 46 = .ok (.iload_n 2, 1) := by decide +kernel
theorem dX4_readNewName_47 : decode cX4_readNewName 47 = .ok (.aload_n 0, 1) := by decide +kernel
theorem dX4_readNewName_48 : decode cX4_readNewName 48 = .ok (.getfield 9, 3) := by decide +kernel
theorem dX4_readNewName_51 : decode cX4_readNewName 51 = .ok (.getfield 65, 3) := by decide +kernel
theorem dX4_readNewName_54 : decode cX4_readNewName 54 = .ok (.lastore, 1) := by decide +kernel
theorem dX4_readNewName_55 : decode cX4_readNewName 55 = .ok (.aload_n 0, 1) := by decide +kernel
theorem dX4_readNewName_56 : decode cX4_readNewName 56 = .ok (.getfield 9, 3) := by decide +kernel
theorem dX4_readNewName_59 : decode cX4_readNewName 59 = .ok (.invokevirtual 73, 3) := by decide +kernel
theorem dX4_readNewName_62 : decode cX4_readNewName 62 = .ok (.iconst 1, 1) := by decide +kernel
theorem dX4_readNewName_63 : decode cX4_readNewName 63 = .ok (.ireturn, 1) := by decide +kernel
theorem dX4_readCurve_0 : decode cX4_readCurve 0 = .ok (.aload_n 0, 1) := by decide +kernel
theorem dX4_readCurve_1 : decode cX4_readCurve 1 = .ok (.getfield 15, 3) := by decide +kernel
theorem dX4_readCurve_4 : decode cX4_readCurve 4 = .ok (.getfield 76, 3) := by decide +kernel
theorem dX4_readCurve_7 : decode cX4_readCurve 7 = .ok (.istore_n 1, 1) := by decide +kernel
theorem dX4_readCurve_8 : decode cX4_readCurve 8 = .ok (.iload_n 1, 1) := by decide +kernel
theorem dX4_readCurve_9 : decode cX4_readCurve 9 = .ok (.bipush 6, 2) := by decide +kernel
theorem dX4_readCurve_11 : decode cX4_readCurve 11 = .ok (.if_icmp .lt 13, 3) := by decide +kernel
theorem dX4_readCurve_14 : decode cX4_readCurve 14 = .ok (.aload_n 0, 1) := by decide +kernel
theorem dX4_readCurve_15 : decode cX4_readCurve 15 = .ok (.getfield 9, 3) := by decide +kernel
theorem dX4_readCurve_18 : decode cX4_readCurve 18 = .ok (.iconst 5, 1) := by decide +kernel
theorem dX4_readCurve_19 : decode cX4_readCurve 19 = .ok (.invokevirtual 57, 3) := by decide +kernel
theorem dX4_readCurve_22 : decode cX4_readCurve 22 = .ok (.pop, 1) := by decide +kernel
theorem dX4_readCurve_23 : decode cX4_readCurve 23 = .ok (.return_, 1) := by decide +kernel
theorem dX4_readCurve_24 : decode cX4_readCurve 24 = .ok (.aload_n 0, 1) := by decide +kernel
theorem dX4_readCurve_25 : decode cX4_readCurve 25 = .ok (.getfield 15, 3) := by decide +kernel
theorem dX4_readCurve_28 : decode cX4_readCurve 28 = .ok (.getfield 79, 3) := by decide +kernel
theorem dX4_readCurve_31 : decode cX4_readCurve 31 = .ok (.iload_n 1, 1) := by decide +kernel
theorem dX4_readCurve_32 : decode cX4_readCurve 32 = .ok (.aaload, 1) := by decide +kernel
theorem dX4_readCurve_33 : decode cX4_readCurve 33 = .ok (.astore_n 2, 1) := by decide +kernel
theorem dX4_readCurve_34 : decode cX4_readCurve 34 = .ok (.aload_n 0, 1) := by decide +kernel
theorem dX4_readCurve_35 : decode cX4_readCurve 35 = .ok (.getfield 9, 3) := by decide +kernel
theorem dX4_readCurve_38 : decode cX4_readCurve 38 = .ok (.invokevirtual 73, 3) := by decide +kernel
theorem dX4_readCurve_41 : decode cX4_readCurve 41 = .ok (.aload_n 0, 1) := by decide +kernel
theorem dX4_readCurve_42 : decode cX4_readCurve 42 = .ok (.aload_n 0, 1) := by decide +kernel
theorem dX4_readCurve_43 : decode cX4_readCurve 43 = .ok (.getfield 15, 3) := by decide +kernel
theorem dX4_readCurve_46 : decode cX4_readCurve 46 = .ok (.getfield 83, 3) := by decide +kernel
theorem dX4_readCurve_49 : decode cX4_readCurve 49 = .ok (.iload_n 1, 1) := by decide +kernel
theorem dX4_readCurve_50 : decode cX4_readCurve 50 = .ok (.invokevirtual 87, 3) := by decide +kernel
theorem dX4_readCurve_53 : decode cX4_readCurve 53 = .ok (.ifCond .eq 82, 3) := by decide +kernel
theorem dX4_readCurve_56 : decode cX4_readCurve 56 = .ok (.aload_n 0, 1) := by decide +kernel
theorem dX4_readCurve_57 : decode cX4_readCurve 57 = .ok (.getfield 9, 3) := by decide +kernel
theorem dX4_readCurve_60 : decode cX4_readCurve 60 = .ok (.sipush 129, 3) := by decide +kernel
theorem dX4_readCurve_63 : decode cX4_readCurve 63 = .ok (.invokevirtual 91, 3) := by decide +kernel
theorem dX4_readCurve_66 : decode cX4_readCurve 66 = .ok (.ifCond .eq 69, 3) := by decide +kernel
theorem dX4_readCurve_69 : decode cX4_readCurve 69 = .ok (.aload_n 0, 1) := by decide +kernel
theorem dX4_readCurve_70 : decode cX4_readCurve 70 = .ok (.aload_n 2, 1) := by decide +kernel
theorem dX4_readCurve_71 : decode cX4_readCurve 71 = .ok (.invokevirtual 94, 3) := by decide +kernel
theorem dX4_readCurve_74 : decode cX4_readCurve 74 = .ok (.ifCond .eq 61, 3) := by decide +kernel
theorem dX4_readCurve_77 : decode cX4_readCurve 77 = .ok (.aload_n 0, 1) := by decide +kernel
theorem dX4_readCurve_78 : decode cX4_readCurve 78 = .ok (.getfield 9, 3) := by decide +kernel
theorem dX4_readCurve_81 : decode cX4_readCurve 81 = .ok (.sipush 130, 3) := by decide +kernel
theorem dX4_readCurve_84 : decode cX4_readCurve 84 = .ok (.invokevirtual 91, 3) := by decide +kernel
theorem dX4_readCurve_87 : decode cX4_readCurve 87 = .ok (.ifCond .eq 48, 3) := by decide +kernel
theorem dX4_readCurve_90 : decode cX4_readCurve 90 = .ok (.aload_n 0, 1) := by decide +kernel
theorem dX4_readCurve_91 : decode cX4_readCurve 91 = .ok (.aload_n 2, 1) := by decide +kernel
theorem dX4_readCurve_92 : decode cX4_readCurve 92 = .ok (.invokevirtual 98, 3) := by decide +kernel
theorem dX4_readCurve_95 : decode cX4_readCurve 95 = .ok (.ifCond .eq 40, 3) := by decide +kernel
theorem dX4_readCurve_98 : decode cX4_readCurve 98 = .ok (.aload_n 0, 1) := by decide +kernel
theorem dX4_readCurve_99 : decode cX4_readCurve 99 = .ok (.getfield 9, 3) := by decide +kernel
theorem dX4_readCurve_102 : decode cX4_readCurve 102 = .ok (.sipush 131, 3) := by decide +kernel
theorem dX4_readCurve_105 : decode cX4_readCurve 105 = .ok (.invokevirtual 91, 3) := by decide +kernel
theorem dX4_readCurve_108 : decode cX4_readCurve 108 = .ok (.ifCond .eq 27, 3) := by decide +kernel
theorem dX4_readCurve_111 : decode cX4_readCurve 111 = .ok (.aload_n 0, 1) := by decide +kernel
theorem dX4_readCurve_112 : decode cX4_readCurve 112 = .ok (.aload_n 2, 1) := by decide +kernel
theorem dX4_readCurve_113 : decode cX4_readCurve 113 = .ok (.invokevirtual 101, 3) := by decide +kernel
theorem dX4_readCurve_116 : decode cX4_readCurve 116 = .ok (.ifCond .eq 19, 3) := by decide +kernel
theorem dX4_readCurve_119 : decode cX4_readCurve 119 = .ok (.aload_n 0, 1) := by decide +kernel
theorem dX4_readCurve_120 : decode cX4_readCurve 120 = .ok (.getfield 9, 3) := by decide +kernel
theorem dX4_readCurve_123 : decode cX4_readCurve 123 = .ok (.bipush 59, 2) := by decide +kernel
theorem dX4_readCurve_125 : decode cX4_readCurve 125 = .ok (.invokevirtual 91, 3) := by decide +kernel
theorem dX4_readCurve_128 : decode cX4_readCurve 128 = .ok (.ifCond .eq 7, 3) := by decide +kernel
theorem dX4_readCurve_131 : decode cX4_readCurve 131 = .ok (.iconst 1, 1) := by decide +kernel
theorem dX4_readCurve_132 : decode cX4_readCurve 132 = .ok (.goto 4, 3) := by decide +kernel
theorem dX4_readCurve_135 : decode cX4_readCurve 135 = .ok (.iconst 0, 1) := by decide +kernel
theorem dX4_readCurve_136 : decode cX4_readCurve 136 = .ok (.istore_n 3, 1) := by decide +kernel
theorem dX4_readCurve_137 : decode cX4_readCurve 137 = .ok (.iload_n 3, 1) := by decide +kernel
theorem dX4_readCurve_138 : decode cX4_readCurve 138 = .ok (.ifCond .eq 16, 3) := by decide +kernel
theorem dX4_readCurve_141 : decode cX4_readCurve 141 = .ok (.aload_n 0, 1) := by decide +kernel
theorem dX4_readCurve_142 : decode cX4_readCurve 142 = .ok (.getfield 15, 3) := by decide +kernel
theorem dX4_readCurve_145 : decode cX4_readCurve 145 = .ok (.dup, 1) := by decide +kernel
theorem dX4_readCurve_146 : decode cX4_readCurve 146 = .ok (.getfield 76, 3) := by decide +kernel
theorem dX4_readCurve_149 : decode cX4_readCurve 149 = .ok (.iconst 1, 1) := by decide +kernel
theorem dX4_readCurve_150 : decode cX4_readCurve 150 = .ok (.iadd, 1) := by decide +kernel
theorem dX4_readCurve_151 : decode cX4_readCurve 151 = .ok (.putfield 76, 3) := by decide +kernel
theorem dX4_readCurve_154 : decode cX4_readCurve 154 = .ok (.return_, 1) := by decide +kernel
theorem dX4_readValues_0 : decode cX4_readValues 0 = .ok (.iconst 0, 1) := by decide +kernel
theorem dX4_readValues_1 : decode cX4_readValues 1 = .ok (.istore_n 2, 1) := by decide +kernel
theorem dX4_readValues_2 : decode cX4_readValues 2 = .ok (.iconst 0, 1) := by decide +kernel
theorem dX4_readValues_3 : decode cX4_readValues 3 = .ok (.istore_n 3, 1) := by decide +kernel
theorem dX4_readValues_4 : decode cX4_readValues 4 = .ok (.iload_n 3, 1) := by decide +kernel
theorem dX4_readValues_5 : decode cX4_readValues 5 = .ok (.bipush 8, 2) := by decide +kernel
theorem dX4_readValues_7 : decode cX4_readValues 7 = .ok (.if_icmp .gt 83, 3) := by decide +kernel
theorem dX4_readValues_10 : decode cX4_readValues 10 = .ok (.iload_n 3, 1) := by decide +kernel
theorem dX4_readValues_11 : decode cX4_readValues 11 = .ok (.ifCond .eq 14, 3) := by decide +kernel
theorem dX4_readValues_14 : decode cX4_readValues 14 = .ok (.aload_n 0, 1) := by decide +kernel
theorem dX4_readValues_15 : decode cX4_readValues 15 = .ok (.getfield 9, 3) := by decide +kernel
theorem dX4_readValues_18 : decode cX4_readValues 18 = .ok (.getfield 42, 3) := by decide +kernel
theorem dX4_readValues_21 : decode cX4_readValues 21 = .ok (.iconst 2, 1) := by decide +kernel
theorem dX4_readValues_22 : decode cX4_readValues 22 = .ok (.if_icmp .ne 68, 3) := by decide +kernel
theorem dX4_readValues_25 : decode cX4_readValues 25 = .ok (.aload_n 0, 1) := by decide +kernel
theorem dX4_readValues_26 : decode cX4_readValues 26 = .ok (.getfield 9, 3) := by decide +kernel
theorem dX4_readValues_29 : decode cX4_readValues 29 = .ok (.iload_n 2, 1) := by decide +kernel
theorem dX4_readValues_30 : decode cX4_readValues 30 = .ok (.bipush 99, 2) := by decide +kernel
theorem dX4_readValues_32 : decode cX4_readValues 32 = .ok (.invokevirtual 104, 3) := by decide +kernel
theorem dX4_readValues_35 : decode cX4_readValues 35 = .ok (.ifCond .ne 5, 3) := by decide +kernel
theorem dX4_readValues_38 : decode cX4_readValues 38 = .ok (.iconst 0, 1) := by decide +kernel
theorem dX4_readValues_39 : decode cX4_readValues 39 = .ok (.ireturn, 1) := by decide +kernel
theorem dX4_readValues_40 : decode cX4_readValues 40 = .ok (.iload_n 3, 1) := by decide +kernel
theorem dX4_readValues_41 : decode cX4_readValues 41 = .ok (.bipush 8, 2) := by decide +kernel
theorem dX4_readValues_43 : decode cX4_readValues 43 = .ok (.if_icmp .lt 12, 3) := by decide +kernel
theorem dX4_readValues_46 : decode cX4_readValues 46 = .ok (.aload_n 0, 1) := by decide +kernel
theorem dX4_readValues_47 : decode cX4_readValues 47 = .ok (.getfield 9, 3) := by decide +kernel
theorem dX4_readValues_50 : decode cX4_readValues 50 = .ok (.iconst 5, 1) := by decide +kernel
theorem dX4_readValues_51 : decode cX4_readValues 51 = .ok (.invokevirtual 57, 3) := by decide +kernel
theorem dX4_readValues_54 : decode cX4_readValues 54 = .ok (.ireturn, 1) := by decide +kernel
theorem dX4_readValues_55 : decode cX4_readValues 55 = .ok (.aload_n 0, 1) := by decide +kernel
theorem dX4_readValues_56 : decode cX4_readValues 56 = .ok (.getfield 9, 3) := by decide +kernel
theorem dX4_readValues_59 : decode cX4_readValues 59 = .ok (.getfield 108, 3) := by decide +kernel
theorem dX4_readValues_62 : decode cX4_readValues 62 = .ok (.istore_n 2, 1) := by decide +kernel
theorem dX4_readValues_63 : decode cX4_readValues 63 = .ok (.aload_n 1, 1) := by decide +kernel
theorem dX4_readValues_64 : decode cX4_readValues 64 = .ok (.getfield 111, 3) := by decide +kernel
theorem dX4_readValues_67 : decode cX4_readValues 67 = .ok (.iload_n 3, 1) := by decide +kernel
theorem dX4_readValues_68 : decode cX4_readValues 68 = .ok (.iload_n 2, 1) := by decide +kernel
theorem dX4_readValues_69 : decode cX4_readValues 69 = .ok (.iastore, 1) := by decide +kernel
theorem dX4_readValues_70 : decode cX4_readValues 70 = .ok (.aload_n 1, 1) := by decide +kernel
theorem dX4_readValues_71 : decode cX4_readValues 71 = .ok (.iload_n 3, 1) := by decide +kernel
theorem dX4_readValues_72 : decode cX4_readValues 72 = .ok (.iconst 1, 1) := by decide +kernel
theorem dX4_readValues_73 : decode cX4_readValues 73 = .ok (.iadd, 1) := by decide +kernel
theorem dX4_readValues_74 : decode cX4_readValues 74 = .ok (.putfield 117, 3) := by decide +kernel
theorem dX4_readValues_77 : decode cX4_readValues 77 = .ok (.aload_n 0, 1) := by decide +kernel
theorem dX4_readValues_78 : decode cX4_readValues 78 = .ok (.getfield 9, 3) := by decide +kernel
theorem dX4_readValues_81 : decode cX4_readValues 81 = .ok (.invokevirtual 73, 3) := by decide +kernel
theorem dX4_readValues_84 : decode cX4_readValues 84 = .ok (.iinc 3 1, 3) := by decide +kernel
theorem dX4_readValues_87 : decode cX4_readValues 87 = .ok (.goto (-83), 3) := by decide +kernel
theorem dX4_readValues_90 : decode cX4_readValues 90 = .ok (.iconst 1, 1) := by decide +kernel
theorem dX4_readValues_91 : decode cX4_readValues 91 = .ok (.ireturn, 1) := by decide +kernel
theorem dX4_readAgain_0 : decode cX4_readAgain 0 = .ok (.aload_n 0, 1) := by decide +kernel
theorem dX4_readAgain_1 : decode cX4_readAgain 1 = .ok (.getfield 9, 3) := by decide +kernel
theorem dX4_readAgain_4 : decode cX4_readAgain 4 = .ok (.iconst 1, 1) := by decide +kernel
theorem dX4_readAgain_5 : decode cX4_readAgain 5 = .ok (.aload_n 1, 1) := by decide +kernel
theorem dX4_readAgain_6 : decode cX4_readAgain 6 = .ok (.getfield 117, 3) := by decide +kernel
theorem dX4_readAgain_9 : decode cX4_readAgain 9 = .ok (.invokevirtual 104, 3) := by decide +kernel
theorem dX4_readAgain_12 : decode cX4_readAgain 12 = .ok (.ifCond .ne 5, 3) := by decide +kernel
theorem dX4_readAgain_15 : decode cX4_readAgain 15 = .ok (.iconst 0, 1) := by decide +kernel
theorem dX4_readAgain_16 : decode cX4_readAgain 16 = .ok (.ireturn, 1) := by decide +kernel
theorem dX4_readAgain_17 : decode cX4_readAgain 17 = .ok (.aload_n 1, 1) := by decide +kernel
theorem dX4_readAgain_18 : decode cX4_readAgain 18 = .ok (.aload_n 0, 1) := by decide +kernel
theorem dX4_readAgain_19 : decode cX4_readAgain 19 = .ok (.getfield 9, 3) := by decide +kernel
theorem dX4_readAgain_22 : decode cX4_readAgain 22 = .ok (.getfield 108, 3) := by decide +kernel
theorem dX4_readAgain_25 : decode cX4_readAgain 25 = .ok (.putfield 120, 3) := by decide +kernel
theorem dX4_readAgain_28 : decode cX4_readAgain 28 = .ok (.aload_n 0, 1) := by decide +kernel
theorem dX4_readAgain_29 : decode cX4_readAgain 29 = .ok (.getfield 9, 3) := by decide +kernel
theorem dX4_readAgain_32 : decode cX4_readAgain 32 = .ok (.invokevirtual 73, 3) := by decide +kernel
theorem dX4_readAgain_35 : decode cX4_readAgain 35 = .ok (.iconst 1, 1) := by decide +kernel
theorem dX4_readAgain_36 : decode cX4_readAgain 36 = .ok (.ireturn, 1) := by decide +kernel
theorem dX4_readAdds_0 : decode cX4_readAdds 0 = .ok (.aload_n 1, 1) := by decide +kernel
theorem dX4_readAdds_1 : decode cX4_readAdds 1 = .ok (.getfield 111, 3) := by decide +kernel
theorem dX4_readAdds_4 : decode cX4_readAdds 4 = .ok (.aload_n 1, 1) := by decide +kernel
theorem dX4_readAdds_5 : decode cX4_readAdds 5 = .ok (.getfield 117, 3) := by decide +kernel
theorem dX4_readAdds_8 : decode cX4_readAdds 8 = .ok (.iconst 1, 1) := by decide +kernel
theorem dX4_readAdds_9 : decode cX4_readAdds 9 = .ok (.isub, 1) := by decide +kernel
theorem dX4_readAdds_10 : decode cX4_readAdds 10 = .ok (.iaload, 1) := by decide +kernel
theorem dX4_readAdds_11 : decode cX4_readAdds 11 = .ok (.aload_n 1, 1) := by decide +kernel
theorem dX4_readAdds_12 : decode cX4_readAdds 12 = .ok (.getfield 111, 3) := by decide +kernel
theorem dX4_readAdds_15 : decode cX4_readAdds 15 = .ok (.aload_n 1, 1) := by decide +kernel
theorem dX4_readAdds_16 : decode cX4_readAdds 16 = .ok (.getfield 117, 3) := by decide +kernel
theorem dX4_readAdds_19 : decode cX4_readAdds 19 = .ok (.aload_n 1, 1) := by decide +kernel
theorem dX4_readAdds_20 : decode cX4_readAdds 20 = .ok (.getfield 120, 3) := by decide +kernel
theorem dX4_readAdds_23 : decode cX4_readAdds 23 = .ok (.isub, 1) := by decide +kernel
theorem dX4_readAdds_24 : decode cX4_readAdds 24 = .ok (.iaload, 1) := by decide +kernel
theorem dX4_readAdds_25 : decode cX4_readAdds 25 = .ok (.isub, 1) := by decide +kernel
theorem dX4_readAdds_26 : decode cX4_readAdds 26 = .ok (.istore_n 2, 1) := by decide +kernel
theorem dX4_readAdds_27 : decode cX4_readAdds 27 = .ok (.aload_n 0, 1) := by decide +kernel
theorem dX4_readAdds_28 : decode cX4_readAdds 28 = .ok (.getfield 9, 3) := by decide +kernel
theorem dX4_readAdds_31 : decode cX4_readAdds 31 = .ok (.iload_n 2, 1) := by decide +kernel
theorem dX4_readAdds_32 : decode cX4_readAdds 32 = .ok (.bipush 99, 2) := by decide +kernel
theorem dX4_readAdds_34 : decode cX4_readAdds 34 = .ok (.invokevirtual 104, 3) := by decide +kernel
theorem dX4_readAdds_37 : decode cX4_readAdds 37 = .ok (.ifCond .ne 5, 3) := by decide +kernel
theorem dX4_readAdds_40 : decode cX4_readAdds 40 = .ok (.iconst 0, 1) := by decide +kernel
theorem dX4_readAdds_41 : decode cX4_readAdds 41 = .ok (.ireturn, 1) := by decide +kernel
theorem dX4_readAdds_42 : decode cX4_readAdds 42 = .ok (.aload_n 1, 1) := by decide +kernel
theorem dX4_readAdds_43 : decode cX4_readAdds 43 = .ok (.aload_n 0, 1) := by decide +kernel
theorem dX4_readAdds_44 : decode cX4_readAdds 44 = .ok (.getfield 9, 3) := by decide +kernel
theorem dX4_readAdds_47 : decode cX4_readAdds 47 = .ok (.getfield 108, 3) := by decide +kernel
theorem dX4_readAdds_50 : decode cX4_readAdds 50 = .ok (.putfield 123, 3) := by decide +kernel
theorem dX4_readAdds_53 : decode cX4_readAdds 53 = .ok (.aload_n 0, 1) := by decide +kernel
theorem dX4_readAdds_54 : decode cX4_readAdds 54 = .ok (.getfield 9, 3) := by decide +kernel
theorem dX4_readAdds_57 : decode cX4_readAdds 57 = .ok (.invokevirtual 73, 3) := by decide +kernel
theorem dX4_readAdds_60 : decode cX4_readAdds 60 = .ok (.iconst 1, 1) := by decide +kernel
theorem dX4_readAdds_61 : decode cX4_readAdds 61 = .ok (.ireturn, 1) := by decide +kernel
theorem dX4_readNode_0 : decode cX4_readNode 0 = .ok (.aload_n 0, 1) := by decide +kernel
theorem dX4_readNode_1 : decode cX4_readNode 1 = .ok (.getfield 15, 3) := by decide +kernel
theorem dX4_readNode_4 : decode cX4_readNode 4 = .ok (.getfield 126, 3) := by decide +kernel
theorem dX4_readNode_7 : decode cX4_readNode 7 = .ok (.istore_n 1, 1) := by decide +kernel
theorem dX4_readNode_8 : decode cX4_readNode 8 = .ok (.iload_n 1, 1) := by decide +kernel
theorem dX4_readNode_9 : decode cX4_readNode 9 = .ok (.iconst 4, 1) := by decide +kernel
theorem dX4_readNode_10 : decode cX4_readNode 10 = .ok (.if_icmp .lt 13, 3) := by decide +kernel
theorem dX4_readNode_13 : decode cX4_readNode 13 = .ok (.aload_n 0, 1) := by decide +kernel
theorem dX4_readNode_14 : decode cX4_readNode 14 = .ok (.getfield 9, 3) := by decide +kernel
theorem dX4_readNode_17 : decode cX4_readNode 17 = .ok (.iconst 5, 1) := by decide +kernel
theorem dX4_readNode_18 : decode cX4_readNode 18 = .ok (.invokevirtual 57, 3) := by decide +kernel
theorem dX4_readNode_21 : decode cX4_readNode 21 = .ok (.pop, 1) := by decide +kernel
theorem dX4_readNode_22 : decode cX4_readNode 22 = .ok (.return_, 1) := by decide +kernel
theorem dX4_readNode_23 : decode cX4_readNode 23 = .ok (.aload_n 0, 1) := by decide +kernel
theorem dX4_readNode_24 : decode cX4_readNode 24 = .ok (.getfield 9, 3) := by decide +kernel
theorem dX4_readNode_27 : decode cX4_readNode 27 = .ok (.invokevirtual 73, 3) := by decide +kernel
theorem dX4_readNode_30 : decode cX4_readNode 30 = .ok (.aload_n 0, 1) := by decide +kernel
theorem dX4_readNode_31 : decode cX4_readNode 31 = .ok (.aload_n 0, 1) := by decide +kernel
theorem dX4_readNode_32 : decode cX4_readNode 32 = .ok (.getfield 15, 3) := by decide +kernel
theorem dX4_readNode_35 : decode cX4_readNode 35 = .ok (.getfield 129, 3) := by decide +kernel
theorem dX4_readNode_38 : decode cX4_readNode 38 = .ok (.iload_n 1, 1) := by decide +kernel
theorem dX4_readNode_39 : decode cX4_readNode 39 = .ok (.invokevirtual 87, 3) := by decide +kernel
theorem dX4_readNode_42 : decode cX4_readNode 42 = .ok (.ifCond .eq 55, 3) := by decide +kernel
theorem dX4_readNode_45 : decode cX4_readNode 45 = .ok (.aload_n 0, 1) := by decide +kernel
theorem dX4_readNode_46 : decode cX4_readNode 46 = .ok (.iload_n 1, 1) := by decide +kernel
theorem dX4_readNode_47 : decode cX4_readNode 47 = .ok (.invokevirtual 132, 3) := by decide +kernel
theorem dX4_readNode_50 : decode cX4_readNode 50 = .ok (.ifCond .eq 47, 3) := by decide +kernel
theorem dX4_readNode_53 : decode cX4_readNode 53 = .ok (.aload_n 0, 1) := by decide +kernel
theorem dX4_readNode_54 : decode cX4_readNode 54 = .ok (.getfield 9, 3) := by decide +kernel
theorem dX4_readNode_57 : decode cX4_readNode 57 = .ok (.sipush 133, 3) := by decide +kernel
theorem dX4_readNode_60 : decode cX4_readNode 60 = .ok (.invokevirtual 91, 3) := by decide +kernel
theorem dX4_readNode_63 : decode cX4_readNode 63 = .ok (.ifCond .eq 34, 3) := by decide +kernel
theorem dX4_readNode_66 : decode cX4_readNode 66 = .ok (.aload_n 0, 1) := by decide +kernel
theorem dX4_readNode_67 : decode cX4_readNode 67 = .ok (.aload_n 0, 1) := by decide +kernel
theorem dX4_readNode_68 : decode cX4_readNode 68 = .ok (.getfield 15, 3) := by decide +kernel
theorem dX4_readNode_71 : decode cX4_readNode 71 = .ok (.getfield 135, 3) := by decide +kernel
theorem dX4_readNode_74 : decode cX4_readNode 74 = .ok (.iload_n 1, 1) := by decide +kernel
theorem dX4_readNode_75 : decode cX4_readNode 75 = .ok (.invokevirtual 138, 3) := by decide +kernel
theorem dX4_readNode_78 : decode cX4_readNode 78 = .ok (.ifCond .eq 19, 3) := by decide +kernel
theorem dX4_readNode_81 : decode cX4_readNode 81 = .ok (.aload_n 0, 1) := by decide +kernel
theorem dX4_readNode_82 : decode cX4_readNode 82 = .ok (.getfield 9, 3) := by decide +kernel
theorem dX4_readNode_85 : decode cX4_readNode 85 = .ok (.bipush 59, 2) := by decide +kernel
theorem dX4_readNode_87 : decode cX4_readNode 87 = .ok (.invokevirtual 91, 3) := by decide +kernel
theorem dX4_readNode_90 : decode cX4_readNode 90 = .ok (.ifCond .eq 7, 3) := by decide +kernel
theorem dX4_readNode_93 : decode cX4_readNode 93 = .ok (.iconst 1, 1) := by decide +kernel
theorem dX4_readNode_94 : decode cX4_readNode 94 = .ok (.goto 4, 3) := by decide +kernel
theorem dX4_readNode_97 : decode cX4_readNode 97 = .ok (.iconst 0, 1) := by decide +kernel
theorem dX4_readNode_98 : decode cX4_readNode 98 = .ok (.istore_n 2, 1) := by decide +kernel
theorem dX4_readNode_99 : decode cX4_readNode 99 = .ok (.iload_n 2, 1) := by decide +kernel
theorem dX4_readNode_100 : decode cX4_readNode 100 = .ok (.ifCond .eq 16, 3) := by decide +kernel
theorem dX4_readNode_103 : decode cX4_readNode 103 = .ok (.aload_n 0, 1) := by decide +kernel
theorem dX4_readNode_104 : decode cX4_readNode 104 = .ok (.getfield 15, 3) := by decide +kernel
theorem dX4_readNode_107 : decode cX4_readNode 107 = .ok (.dup, 1) := by decide +kernel
theorem dX4_readNode_108 : decode cX4_readNode 108 = .ok (.getfield 126, 3) := by decide +kernel
theorem dX4_readNode_111 : decode cX4_readNode 111 = .ok (.iconst 1, 1) := by decide +kernel
theorem dX4_readNode_112 : decode cX4_readNode 112 = .ok (.iadd, 1) := by decide +kernel
theorem dX4_readNode_113 : decode cX4_readNode 113 = .ok (.putfield 126, 3) := by decide +kernel
theorem dX4_readNode_116 : decode cX4_readNode 116 = .ok (.return_, 1) := by decide +kernel
theorem dX4_readDiscipline_0 : decode cX4_readDiscipline 0 = .ok (.aload_n 0, 1) := by decide +kernel
theorem dX4_readDiscipline_1 : decode cX4_readDiscipline 1 = .ok (.getfield 9, 3) := by decide +kernel
theorem dX4_readDiscipline_4 : decode cX4_readDiscipline 4 = .ok (.getfield 42, 3) := by decide +kernel
theorem dX4_readDiscipline_7 : decode cX4_readDiscipline 7 = .ok (.sipush 140, 3) := by decide +kernel
theorem dX4_readDiscipline_10 : decode cX4_readDiscipline 10 = .ok (.if_icmp .lt 16, 3) := by decide +kernel
theorem dX4_readDiscipline_13 : decode cX4_readDiscipline 13 = .ok (.aload_n 0, 1) := by decide +kernel
theorem dX4_readDiscipline_14 : decode cX4_readDiscipline 14 = .ok (.getfield 9, 3) := by decide +kernel
theorem dX4_readDiscipline_17 : decode cX4_readDiscipline 17 = .ok (.getfield 42, 3) := by decide +kernel
theorem dX4_readDiscipline_20 : decode cX4_readDiscipline 20 = .ok (.sipush 143, 3) := by decide +kernel
theorem dX4_readDiscipline_23 : decode cX4_readDiscipline 23 = .ok (.if_icmp .le 12, 3) := by decide +kernel
theorem dX4_readDiscipline_26 : decode cX4_readDiscipline 26 = .ok (.aload_n 0, 1) := by decide +kernel
theorem dX4_readDiscipline_27 : decode cX4_readDiscipline 27 = .ok (.getfield 9, 3) := by decide +kernel
theorem dX4_readDiscipline_30 : decode cX4_readDiscipline 30 = .ok (.iconst 1, 1) := by decide +kernel
theorem dX4_readDiscipline_31 : decode cX4_readDiscipline 31 = .ok (.invokevirtual 57, 3) := by decide +kernel
theorem dX4_readDiscipline_34 : decode cX4_readDiscipline 34 = .ok (.ireturn, 1) := by decide +kernel
theorem dX4_readDiscipline_35 : decode cX4_readDiscipline 35 = .ok (.aload_n 0, 1) := by decide +kernel
theorem dX4_readDiscipline_36 : decode cX4_readDiscipline 36 = .ok (.getfield 15, 3) := by decide +kernel
theorem dX4_readDiscipline_39 : decode cX4_readDiscipline 39 = .ok (.getfield 142, 3) := by decide +kernel
theorem dX4_readDiscipline_42 : decode cX4_readDiscipline 42 = .ok (.iload_n 1, 1) := by decide +kernel
theorem dX4_readDiscipline_43 : decode cX4_readDiscipline 43 = .ok (.aload_n 0, 1) := by decide +kernel
theorem dX4_readDiscipline_44 : decode cX4_readDiscipline 44 = .ok (.getfield 9, 3) := by decide +kernel
theorem dX4_readDiscipline_47 : decode cX4_readDiscipline 47 = .ok (.getfield 42, 3) := by decide +kernel
theorem dX4_readDiscipline_50 : decode cX4_readDiscipline 50 = .ok (.sipush 140, 3) := by decide +kernel
theorem dX4_readDiscipline_53 : decode cX4_readDiscipline 53 = .ok (.isub, 1) := by decide +kernel
theorem dX4_readDiscipline_54 : decode cX4_readDiscipline 54 = .ok (.iastore, 1) := by decide +kernel
theorem dX4_readDiscipline_55 : decode cX4_readDiscipline 55 = .ok (.aload_n 0, 1) := by decide +kernel
theorem dX4_readDiscipline_56 : decode cX4_readDiscipline 56 = .ok (.getfield 9, 3) := by decide +kernel
theorem dX4_readDiscipline_59 : decode cX4_readDiscipline 59 = .ok (.invokevirtual 73, 3) := by decide +kernel
theorem dX4_readDiscipline_62 : decode cX4_readDiscipline 62 = .ok (.iconst 1, 1) := by decide +kernel
theorem dX4_readDiscipline_63 : decode cX4_readDiscipline 63 = .ok (.ireturn, 1) := by decide +kernel
theorem dX4_readCurveName_0 : decode cX4_readCurveName 0 = .ok (.aload_n 0, 1) := by decide +kernel
theorem dX4_readCurveName_1 : decode cX4_readCurveName 1 = .ok (.getfield 9, 3) := by decide +kernel
theorem dX4_readCurveName_4 : decode cX4_readCurveName 4 = .ok (.invokevirtual 61, 3) := by decide +kernel
theorem dX4_readCurveName_7 : decode cX4_readCurveName 7 = .ok (.ifCond .ne 12, 3) := by decide +kernel
theorem dX4_readCurveName_10 : decode cX4_readCurveName 10 = .ok (.aload_n 0, 1) := by decide +kernel
theorem dX4_readCurveName_11 : decode cX4_readCurveName 11 = .ok (.getfield 9, 3) := by decide +kernel
theorem dX4_readCurveName_14 : decode cX4_readCurveName 14 = .ok (.iconst 1, 1) := by decide +kernel
theorem dX4_readCurveName_15 : decode cX4_readCurveName 15 = .ok (.invokevirtual 57, 3) := by decide +kernel
theorem dX4_readCurveName_18 : decode cX4_readCurveName 18 = .ok (.ireturn, 1) := by decide +kernel
theorem dX4_readCurveName_19 : decode cX4_readCurveName 19 = .ok (.aload_n 1, 1) := by decide +kernel
theorem dX4_readCurveName_20 : decode cX4_readCurveName 20 = .ok (.iload_n 2, 1) := by decide +kernel
theorem dX4_readCurveName_21 : decode cX4_readCurveName 21 = .ok (.aload_n 0, 1) := by decide +kernel
theorem dX4_readCurveName_22 : decode cX4_readCurveName 22 = .ok (.getfield 15, 3) := by decide +kernel
theorem dX4_readCurveName_25 : decode cX4_readCurveName 25 = .ok (.getfield 83, 3) := by decide +kernel
theorem dX4_readCurveName_28 : decode cX4_readCurveName 28 = .ok (.aload_n 0, 1) := by decide +kernel
theorem dX4_readCurveName_29 : decode cX4_readCurveName 29 = .ok (.getfield 15, 3) := by decide +kernel
theorem dX4_readCurveName_32 : decode cX4_readCurveName 32 = .ok (.getfield 76, 3) := by decide +kernel
theorem dX4_readCurveName_35 : decode cX4_readCurveName 35 = .ok (.aload_n 0, 1) := by decide +kernel
theorem dX4_readCurveName_36 : decode cX4_readCurveName 36 = .ok (.getfield 9, 3) := by decide +kernel
theorem dX4_readCurveName_39 : decode cX4_readCurveName 39 = .ok (.getfield 65, 3) := by decide +kernel
theorem dX4_readCurveName_42 : decode cX4_readCurveName 42 = .ok (.invokestatic 145, 3) := by decide +kernel
theorem dX4_readCurveName_45 : decode cX4_readCurveName 45 = .ok (.iastore, 1) := by decide +kernel
theorem dX4_readCurveName_46 : decode cX4_readCurveName 46 = .ok (.aload_n 1, 1) := by decide +kernel
theorem dX4_readCurveName_47 : decode cX4_readCurveName 47 = .ok (.iload_n 2, 1) := by decide +kernel
theorem dX4_readCurveName_48 : decode cX4_readCurveName 48 = .ok (.iaload, 1) := by decide +kernel
theorem dX4_readCurveName_49 : decode cX4_readCurveName 49 = .ok (.iconst (-1), 1) := by decide +kernel
theorem dX4_readCurveName_50 : decode cX4_readCurveName 50 = .ok (.if_icmp .ne 12, 3) := by decide +kernel
theorem dX4_readCurveName_53 : decode cX4_readCurveName 53 = .ok (.aload_n 0, 1) := by decide +kernel
theorem dX4_readCurveName_54 : decode cX4_readCurveName 54 = .ok (.getfield 9, 3) := by decide +kernel
theorem dX4_readCurveName_57 : decode cX4_readCurveName 57 = .ok (.iconst 2, 1) := by decide +kernel
theorem dX4_readCurveName_58 : decode cX4_readCurveName 58 = .ok (.invokevirtual 57, 3) := by decide +kernel
theorem dX4_readCurveName_61 : decode cX4_readCurveName 61 = .ok (.ireturn, 1) := by decide +kernel
theorem dX4_readCurveName_62 : decode cX4_readCurveName 62 = .ok (.aload_n 0, 1) := by decide +kernel
theorem dX4_readCurveName_63 : decode cX4_readCurveName 63 = .ok (.getfield 9, 3) := by decide +kernel
theorem dX4_readCurveName_66 : decode cX4_readCurveName 66 = .ok (.invokevirtual 73, 3) := by decide +kernel
theorem dX4_readCurveName_69 : decode cX4_readCurveName 69 = .ok (.iconst 1, 1) := by decide +kernel
theorem dX4_readCurveName_70 : decode cX4_readCurveName 70 = .ok (.ireturn, 1) := by decide +kernel
theorem dX4_readFlow_0 : decode cX4_readFlow 0 = .ok (.aload_n 0, 1) := by decide +kernel
theorem dX4_readFlow_1 : decode cX4_readFlow 1 = .ok (.getfield 15, 3) := by decide +kernel
theorem dX4_readFlow_4 : decode cX4_readFlow 4 = .ok (.getfield 149, 3) := by decide +kernel
theorem dX4_readFlow_7 : decode cX4_readFlow 7 = .ok (.istore_n 1, 1) := by decide +kernel
theorem dX4_readFlow_8 : decode cX4_readFlow 8 = .ok (.iload_n 1, 1) := by decide +kernel
theorem dX4_readFlow_9 : decode cX4_readFlow 9 = .ok (.iconst 4, 1) := by decide +kernel
theorem dX4_readFlow_10 : decode cX4_readFlow 10 = .ok (.if_icmp .lt 13, 3) := by decide +kernel
theorem dX4_readFlow_13 : decode cX4_readFlow 13 = .ok (.aload_n 0, 1) := by decide +kernel
theorem dX4_readFlow_14 : decode cX4_readFlow 14 = .ok (.getfield 9, 3) := by decide +kernel
theorem dX4_readFlow_17 : decode cX4_readFlow 17 = .ok (.iconst 5, 1) := by decide +kernel
theorem dX4_readFlow_18 : decode cX4_readFlow 18 = .ok (.invokevirtual 57, 3) := by decide +kernel
theorem dX4_readFlow_21 : decode cX4_readFlow 21 = .ok (.pop, 1) := by decide +kernel
theorem dX4_readFlow_22 : decode cX4_readFlow 22 = .ok (.return_, 1) := by decide +kernel
theorem dX4_readFlow_23 : decode cX4_readFlow 23 = .ok (.aload_n 0, 1) := by decide +kernel
theorem dX4_readFlow_24 : decode cX4_readFlow 24 = .ok (.getfield 9, 3) := by decide +kernel
theorem dX4_readFlow_27 : decode cX4_readFlow 27 = .ok (.invokevirtual 73, 3) := by decide +kernel
theorem dX4_readFlow_30 : decode cX4_readFlow 30 = .ok (.aload_n 0, 1) := by decide +kernel
theorem dX4_readFlow_31 : decode cX4_readFlow 31 = .ok (.aload_n 0, 1) := by decide +kernel
theorem dX4_readFlow_32 : decode cX4_readFlow 32 = .ok (.getfield 15, 3) := by decide +kernel
theorem dX4_readFlow_35 : decode cX4_readFlow 35 = .ok (.getfield 152, 3) := by decide +kernel
theorem dX4_readFlow_38 : decode cX4_readFlow 38 = .ok (.iload_n 1, 1) := by decide +kernel
theorem dX4_readFlow_39 : decode cX4_readFlow 39 = .ok (.invokevirtual 87, 3) := by decide +kernel
theorem dX4_readFlow_42 : decode cX4_readFlow 42 = .ok (.ifCond .eq 68, 3) := by decide +kernel
theorem dX4_readFlow_45 : decode cX4_readFlow 45 = .ok (.aload_n 0, 1) := by decide +kernel
theorem dX4_readFlow_46 : decode cX4_readFlow 46 = .ok (.getfield 9, 3) := by decide +kernel
theorem dX4_readFlow_49 : decode cX4_readFlow 49 = .ok (.sipush 135, 3) := by decide +kernel
theorem dX4_readFlow_52 : decode cX4_readFlow 52 = .ok (.invokevirtual 91, 3) := by decide +kernel
theorem dX4_readFlow_55 : decode cX4_readFlow 55 = .ok (.ifCond .eq 55, 3) := by decide +kernel
theorem dX4_readFlow_58 : decode cX4_readFlow 58 = .ok (.aload_n 0, 1) := by decide +kernel
theorem dX4_readFlow_59 : decode cX4_readFlow 59 = .ok (.aload_n 0, 1) := by decide +kernel
theorem dX4_readFlow_60 : decode cX4_readFlow 60 = .ok (.getfield 15, 3) := by decide +kernel
theorem dX4_readFlow_63 : decode cX4_readFlow 63 = .ok (.getfield 155, 3) := by decide +kernel
theorem dX4_readFlow_66 : decode cX4_readFlow 66 = .ok (.iload_n 1, 1) := by decide +kernel
theorem dX4_readFlow_67 : decode cX4_readFlow 67 = .ok (.invokevirtual 138, 3) := by decide +kernel
theorem dX4_readFlow_70 : decode cX4_readFlow 70 = .ok (.ifCond .eq 40, 3) := by decide +kernel
theorem dX4_readFlow_73 : decode cX4_readFlow 73 = .ok (.aload_n 0, 1) := by decide +kernel
theorem dX4_readFlow_74 : decode cX4_readFlow 74 = .ok (.getfield 9, 3) := by decide +kernel
theorem dX4_readFlow_77 : decode cX4_readFlow 77 = .ok (.sipush 136, 3) := by decide +kernel
theorem dX4_readFlow_80 : decode cX4_readFlow 80 = .ok (.invokevirtual 91, 3) := by decide +kernel
theorem dX4_readFlow_83 : decode cX4_readFlow 83 = .ok (.ifCond .eq 27, 3) := by decide +kernel
theorem dX4_readFlow_86 : decode cX4_readFlow 86 = .ok (.aload_n 0, 1) := by decide +kernel
theorem dX4_readFlow_87 : decode cX4_readFlow 87 = .ok (.iload_n 1, 1) := by decide +kernel
theorem dX4_readFlow_88 : decode cX4_readFlow 88 = .ok (.invokevirtual 158, 3) := by decide +kernel
theorem dX4_readFlow_91 : decode cX4_readFlow 91 = .ok (.ifCond .eq 19, 3) := by decide +kernel
theorem dX4_readFlow_94 : decode cX4_readFlow 94 = .ok (.aload_n 0, 1) := by decide +kernel
theorem dX4_readFlow_95 : decode cX4_readFlow 95 = .ok (.getfield 9, 3) := by decide +kernel
theorem dX4_readFlow_98 : decode cX4_readFlow 98 = .ok (.bipush 59, 2) := by decide +kernel
theorem dX4_readFlow_100 : decode cX4_readFlow 100 = .ok (.invokevirtual 91, 3) := by decide +kernel
theorem dX4_readFlow_103 : decode cX4_readFlow 103 = .ok (.ifCond .eq 7, 3) := by decide +kernel
theorem dX4_readFlow_106 : decode cX4_readFlow 106 = .ok (.iconst 1, 1) := by decide +kernel
theorem dX4_readFlow_107 : decode cX4_readFlow 107 = .ok (.goto 4, 3) := by decide +kernel
theorem dX4_readFlow_110 : decode cX4_readFlow 110 = .ok (.iconst 0, 1) := by decide +kernel
theorem dX4_readFlow_111 : decode cX4_readFlow 111 = .ok (.istore_n 2, 1) := by decide +kernel
theorem dX4_readFlow_112 : decode cX4_readFlow 112 = .ok (.iload_n 2, 1) := by decide +kernel
theorem dX4_readFlow_113 : decode cX4_readFlow 113 = .ok (.ifCond .eq 16, 3) := by decide +kernel
theorem dX4_readFlow_116 : decode cX4_readFlow 116 = .ok (.aload_n 0, 1) := by decide +kernel
theorem dX4_readFlow_117 : decode cX4_readFlow 117 = .ok (.getfield 15, 3) := by decide +kernel
theorem dX4_readFlow_120 : decode cX4_readFlow 120 = .ok (.dup, 1) := by decide +kernel
theorem dX4_readFlow_121 : decode cX4_readFlow 121 = .ok (.getfield 149, 3) := by decide +kernel
theorem dX4_readFlow_124 : decode cX4_readFlow 124 = .ok (.iconst 1, 1) := by decide +kernel
theorem dX4_readFlow_125 : decode cX4_readFlow 125 = .ok (.iadd, 1) := by decide +kernel
theorem dX4_readFlow_126 : decode cX4_readFlow 126 = .ok (.putfield 149, 3) := by decide +kernel
theorem dX4_readFlow_129 : decode cX4_readFlow 129 = .ok (.return_, 1) := by decide +kernel
theorem dX4_readWay_0 : decode cX4_readWay 0 = .ok (.aload_n 0, 1) := by decide +kernel
theorem dX4_readWay_1 : decode cX4_readWay 1 = .ok (.getfield 15, 3) := by decide +kernel
theorem dX4_readWay_4 : decode cX4_readWay 4 = .ok (.getfield 161, 3) := by decide +kernel
theorem dX4_readWay_7 : decode cX4_readWay 7 = .ok (.iload_n 1, 1) := by decide +kernel
theorem dX4_readWay_8 : decode cX4_readWay 8 = .ok (.iconst 0, 1) := by decide +kernel
theorem dX4_readWay_9 : decode cX4_readWay 9 = .ok (.iastore, 1) := by decide +kernel
theorem dX4_readWay_10 : decode cX4_readWay 10 = .ok (.iconst 0, 1) := by decide +kernel
theorem dX4_readWay_11 : decode cX4_readWay 11 = .ok (.istore_n 2, 1) := by decide +kernel
theorem dX4_readWay_12 : decode cX4_readWay 12 = .ok (.iload_n 2, 1) := by decide +kernel
theorem dX4_readWay_13 : decode cX4_readWay 13 = .ok (.iconst 4, 1) := by decide +kernel
theorem dX4_readWay_14 : decode cX4_readWay 14 = .ok (.if_icmp .gt 33, 3) := by decide +kernel
theorem dX4_readWay_17 : decode cX4_readWay 17 = .ok (.iload_n 2, 1) := by decide +kernel
theorem dX4_readWay_18 : decode cX4_readWay 18 = .ok (.ifCond .eq 13, 3) := by decide +kernel
theorem dX4_readWay_21 : decode cX4_readWay 21 = .ok (.aload_n 0, 1) := by decide +kernel
theorem dX4_readWay_22 : decode cX4_readWay 22 = .ok (.getfield 9, 3) := by decide +kernel
theorem dX4_readWay_25 : decode cX4_readWay 25 = .ok (.invokevirtual 61, 3) := by decide +kernel
theorem dX4_readWay_28 : decode cX4_readWay 28 = .ok (.ifCond .eq 19, 3) := by decide +kernel
theorem dX4_readWay_31 : decode cX4_readWay 31 = .ok (.aload_n 0, 1) := by decide +kernel
theorem dX4_readWay_32 : decode cX4_readWay 32 = .ok (.iload_n 1, 1) := by decide +kernel
theorem dX4_readWay_33 : decode cX4_readWay 33 = .ok (.invokevirtual 164, 3) := by decide +kernel
theorem dX4_readWay_36 : decode cX4_readWay 36 = .ok (.ifCond .ne 5, 3) := by decide +kernel
theorem dX4_readWay_39 : decode cX4_readWay 39 = .ok (.iconst 0, 1) := by decide +kernel
theorem dX4_readWay_40 : decode cX4_readWay 40 = .ok (.ireturn, 1) := by decide +kernel
theorem dX4_readWay_41 : decode cX4_readWay 41 = .ok (.iinc 2 1, 3) := by decide +kernel
theorem dX4_readWay_44 : decode cX4_readWay 44 = .ok (.goto (-32), 3) := by decide +kernel
theorem dX4_readWay_47 : decode cX4_readWay 47 = .ok (.iconst 1, 1) := by decide +kernel
theorem dX4_readWay_48 : decode cX4_readWay 48 = .ok (.ireturn, 1) := by decide +kernel
theorem dX4_readHop_0 : decode cX4_readHop 0 = .ok (.aload_n 0, 1) := by decide +kernel
theorem dX4_readHop_1 : decode cX4_readHop 1 = .ok (.getfield 9, 3) := by decide +kernel
theorem dX4_readHop_4 : decode cX4_readHop 4 = .ok (.invokevirtual 61, 3) := by decide +kernel
theorem dX4_readHop_7 : decode cX4_readHop 7 = .ok (.ifCond .ne 12, 3) := by decide +kernel
theorem dX4_readHop_10 : decode cX4_readHop 10 = .ok (.aload_n 0, 1) := by decide +kernel
theorem dX4_readHop_11 : decode cX4_readHop 11 = .ok (.getfield 9, 3) := by decide +kernel
theorem dX4_readHop_14 : decode cX4_readHop 14 = .ok (.iconst 1, 1) := by decide +kernel
theorem dX4_readHop_15 : decode cX4_readHop 15 = .ok (.invokevirtual 57, 3) := by decide +kernel
theorem dX4_readHop_18 : decode cX4_readHop 18 = .ok (.ireturn, 1) := by decide +kernel
theorem dX4_readHop_19 : decode cX4_readHop 19 = .ok (.aload_n 0, 1) := by decide +kernel
theorem dX4_readHop_20 : decode cX4_readHop 20 = .ok (.getfield 15, 3) := by decide +kernel
theorem dX4_readHop_23 : decode cX4_readHop 23 = .ok (.getfield 129, 3) := by decide +kernel
theorem dX4_readHop_26 : decode cX4_readHop 26 = .ok (.aload_n 0, 1) := by decide +kernel
theorem dX4_readHop_27 : decode cX4_readHop 27 = .ok (.getfield 15, 3) := by decide +kernel
theorem dX4_readHop_30 : decode cX4_readHop 30 = .ok (.getfield 126, 3) := by decide +kernel
theorem dX4_readHop_33 : decode cX4_readHop 33 = .ok (.aload_n 0, 1) := by decide +kernel
theorem dX4_readHop_34 : decode cX4_readHop 34 = .ok (.getfield 9, 3) := by decide +kernel
theorem dX4_readHop_37 : decode cX4_readHop 37 = .ok (.getfield 65, 3) := by decide +kernel
theorem dX4_readHop_40 : decode cX4_readHop 40 = .ok (.invokestatic 145, 3) := by decide +kernel
theorem dX4_readHop_43 : decode cX4_readHop 43 = .ok (.istore_n 2, 1) := by decide +kernel
theorem dX4_readHop_44 : decode cX4_readHop 44 = .ok (.iload_n 2, 1) := by decide +kernel
theorem dX4_readHop_45 : decode cX4_readHop 45 = .ok (.iconst (-1), 1) := by decide +kernel
theorem dX4_readHop_46 : decode cX4_readHop 46 = .ok (.if_icmp .ne 12, 3) := by decide +kernel
theorem dX4_readHop_49 : decode cX4_readHop 49 = .ok (.aload_n 0, 1) := by decide +kernel
theorem dX4_readHop_50 : decode cX4_readHop 50 = .ok (.getfield 9, 3) := by decide +kernel
theorem dX4_readHop_53 : decode cX4_readHop 53 = .ok (.iconst 2, 1) := by decide +kernel
theorem dX4_readHop_54 : decode cX4_readHop 54 = .ok (.invokevirtual 57, 3) := by decide +kernel
theorem dX4_readHop_57 : decode cX4_readHop 57 = .ok (.ireturn, 1) := by decide +kernel
theorem dX4_readHop_58 : decode cX4_readHop 58 = .ok (.aload_n 0, 1) := by decide +kernel
theorem dX4_readHop_59 : decode cX4_readHop 59 = .ok (.getfield 15, 3) := by decide +kernel
theorem dX4_readHop_62 : decode cX4_readHop 62 = .ok (.iload_n 1, 1) := by decide +kernel
theorem dX4_readHop_63 : decode cX4_readHop 63 = .ok (.iload_n 2, 1) := by decide +kernel
theorem dX4_readHop_64 : decode cX4_readHop 64 = .ok (.invokevirtual 167, 3) := by decide +kernel
theorem dX4_readHop_67 : decode cX4_readHop 67 = .ok (.iconst (-1), 1) := by decide +kernel
theorem dX4_readHop_68 : decode cX4_readHop 68 = .ok (.if_icmp .ne 16, 3) := by decide +kernel
theorem dX4_readHop_71 : decode cX4_readHop 71 = .ok (.aload_n 0, 1) := by decide +kernel
theorem dX4_readHop_72 : decode cX4_readHop 72 = .ok (.getfield 15, 3) := by decide +kernel
theorem dX4_readHop_75 : decode cX4_readHop 75 = .ok (.getfield 161, 3) := by decide +kernel
theorem dX4_readHop_78 : decode cX4_readHop 78 = .ok (.iload_n 1, 1) := by decide +kernel
theorem dX4_readHop_79 : decode cX4_readHop 79 = .ok (.iaload, 1) := by decide +kernel
theorem dX4_readHop_80 : decode cX4_readHop 80 = .ok (.iconst 4, 1) := by decide +kernel
theorem dX4_readHop_81 : decode cX4_readHop 81 = .ok (.if_icmp .lt 12, 3) := by decide +kernel
theorem dX4_readHop_84 : decode cX4_readHop 84 = .ok (.aload_n 0, 1) := by decide +kernel
theorem dX4_readHop_85 : decode cX4_readHop 85 = .ok (.getfield 9, 3) := by decide +kernel
theorem dX4_readHop_88 : decode cX4_readHop 88 = .ok (.iconst 3, 1) := by decide +kernel
theorem dX4_readHop_89 : decode cX4_readHop 89 = .ok (.invokevirtual 57, 3) := by decide +kernel
theorem dX4_readHop_92 : decode cX4_readHop 92 = .ok (.ireturn, 1) := by decide +kernel
theorem dX4_readHop_93 : decode cX4_readHop 93 = .ok (.aload_n 0, 1) := by decide +kernel
theorem dX4_readHop_94 : decode cX4_readHop 94 = .ok (.getfield 15, 3) := by decide +kernel
theorem dX4_readHop_97 : decode cX4_readHop 97 = .ok (.getfield 171, 3) := by decide +kernel
theorem dX4_readHop_100 : decode cX4_readHop 100 = .ok (.iload_n 1, 1) := by decide +kernel
theorem dX4_readHop_101 : decode cX4_readHop 101 = .ok (.aaload, 1) := by decide +kernel
theorem dX4_readHop_102 : decode cX4_readHop 102 = .ok (.aload_n 0, 1) := by decide +kernel
theorem dX4_readHop_103 : decode cX4_readHop 103 = .ok (.getfield 15, 3) := by decide +kernel
theorem dX4_readHop_106 : decode cX4_readHop 106 = .ok (.getfield 161, 3) := by decide +kernel
theorem dX4_readHop_109 : decode cX4_readHop 109 = .ok (.iload_n 1, 1) := by decide +kernel
theorem dX4_readHop_110 : decode cX4_readHop 110 = .ok (.iaload, 1) := by decide +kernel
theorem dX4_readHop_111 : decode cX4_readHop 111 = .ok (.iload_n 2, 1) := by decide +kernel
theorem dX4_readHop_112 : decode cX4_readHop 112 = .ok (.iastore, 1) := by decide +kernel
theorem dX4_readHop_113 : decode cX4_readHop 113 = .ok (.aload_n 0, 1) := by decide +kernel
theorem dX4_readHop_114 : decode cX4_readHop 114 = .ok (.getfield 15, 3) := by decide +kernel
theorem dX4_readHop_117 : decode cX4_readHop 117 = .ok (.getfield 161, 3) := by decide +kernel
theorem dX4_readHop_120 : decode cX4_readHop 120 = .ok (.iload_n 1, 1) := by decide +kernel
theorem dX4_readHop_121 : decode cX4_readHop 121 = .ok (.dup2, 1) := by decide +kernel
theorem dX4_readHop_122 : decode cX4_readHop 122 = .ok (.iaload, 1) := by decide +kernel
theorem dX4_readHop_123 : decode cX4_readHop 123 = .ok (.iconst 1, 1) := by decide +kernel
theorem dX4_readHop_124 : decode cX4_readHop 124 = .ok (.iadd, 1) := by decide +kernel
theorem dX4_readHop_125 : decode cX4_readHop 125 = .ok (.iastore, 1) := by decide +kernel
theorem dX4_readHop_126 : decode cX4_readHop 126 = .ok (.aload_n 0, 1) := by decide +kernel
theorem dX4_readHop_127 : decode cX4_readHop 127 = .ok (.getfield 15, 3) := by decide +kernel
theorem dX4_readHop_130 : decode cX4_readHop 130 = .ok (.getfield 175, 3) := by decide +kernel
theorem dX4_readHop_133 : decode cX4_readHop 133 = .ok (.iload_n 2, 1) := by decide +kernel
theorem dX4_readHop_134 : decode cX4_readHop 134 = .ok (.dup2, 1) := by decide +kernel
theorem dX4_readHop_135 : decode cX4_readHop 135 = .ok (.iaload, 1) := by decide +kernel
theorem dX4_readHop_136 : decode cX4_readHop 136 = .ok (.iconst 1, 1) := by decide +kernel
theorem dX4_readHop_137 : decode cX4_readHop 137 = .ok (.iload_n 1, 1) := by decide +kernel
theorem dX4_readHop_138 : decode cX4_readHop 138 = .ok (.ishl, 1) := by decide +kernel
theorem dX4_readHop_139 : decode cX4_readHop 139 = .ok (.ior, 1) := by decide +kernel
theorem dX4_readHop_140 : decode cX4_readHop 140 = .ok (.iastore, 1) := by decide +kernel
theorem dX4_readHop_141 : decode cX4_readHop 141 = .ok (.aload_n 0, 1) := by decide +kernel
theorem dX4_readHop_142 : decode cX4_readHop 142 = .ok (.getfield 9, 3) := by decide +kernel
theorem dX4_readHop_145 : decode cX4_readHop 145 = .ok (.invokevirtual 73, 3) := by decide +kernel
theorem dX4_readHop_148 : decode cX4_readHop 148 = .ok (.iconst 1, 1) := by decide +kernel
theorem dX4_readHop_149 : decode cX4_readHop 149 = .ok (.ireturn, 1) := by decide +kernel
theorem dX4_readLoses_0 : decode cX4_readLoses 0 = .ok (.aload_n 0, 1) := by decide +kernel
theorem dX4_readLoses_1 : decode cX4_readLoses 1 = .ok (.getfield 15, 3) := by decide +kernel
theorem dX4_readLoses_4 : decode cX4_readLoses 4 = .ok (.getfield 178, 3) := by decide +kernel
theorem dX4_readLoses_7 : decode cX4_readLoses 7 = .ok (.ifCond .eq 13, 3) := by decide +kernel
theorem dX4_readLoses_10 : decode cX4_readLoses 10 = .ok (.aload_n 0, 1) := by decide +kernel
theorem dX4_readLoses_11 : decode cX4_readLoses 11 = .ok (.getfield 9, 3) := by decide +kernel
theorem dX4_readLoses_14 : decode cX4_readLoses 14 = .ok (.iconst 3, 1) := by decide +kernel
theorem dX4_readLoses_15 : decode cX4_readLoses 15 = .ok (.invokevirtual 57, 3) := by decide +kernel
theorem dX4_readLoses_18 : decode cX4_readLoses 18 = .ok (.pop, 1) := by decide +kernel
theorem dX4_readLoses_19 : decode cX4_readLoses 19 = .ok (.return_, 1) := by decide +kernel
theorem dX4_readLoses_20 : decode cX4_readLoses 20 = .ok (.aload_n 0, 1) := by decide +kernel
theorem dX4_readLoses_21 : decode cX4_readLoses 21 = .ok (.getfield 15, 3) := by decide +kernel
theorem dX4_readLoses_24 : decode cX4_readLoses 24 = .ok (.iconst 1, 1) := by decide +kernel
theorem dX4_readLoses_25 : decode cX4_readLoses 25 = .ok (.putfield 178, 3) := by decide +kernel
theorem dX4_readLoses_28 : decode cX4_readLoses 28 = .ok (.aload_n 0, 1) := by decide +kernel
theorem dX4_readLoses_29 : decode cX4_readLoses 29 = .ok (.getfield 9, 3) := by decide +kernel
theorem dX4_readLoses_32 : decode cX4_readLoses 32 = .ok (.invokevirtual 73, 3) := by decide +kernel
theorem dX4_readLoses_35 : decode cX4_readLoses 35 = .ok (.aload_n 0, 1) := by decide +kernel
theorem dX4_readLoses_36 : decode cX4_readLoses 36 = .ok (.getfield 24, 3) := by decide +kernel
theorem dX4_readLoses_39 : decode cX4_readLoses 39 = .ok (.aload_n 0, 1) := by decide +kernel
theorem dX4_readLoses_40 : decode cX4_readLoses 40 = .ok (.getfield 15, 3) := by decide +kernel
theorem dX4_readLoses_43 : decode cX4_readLoses 43 = .ok (.getfield 182, 3) := by decide +kernel
theorem dX4_readLoses_46 : decode cX4_readLoses 46 = .ok (.iconst 0, 1) := by decide +kernel
theorem dX4_readLoses_47 : decode cX4_readLoses 47 = .ok (.iconst 0, 1) := by decide +kernel
theorem dX4_readLoses_48 : decode cX4_readLoses 48 = .ok (.invokevirtual 188, 3) := by decide +kernel
theorem dX4_readLoses_51 : decode cX4_readLoses 51 = .ok (.ifCond .eq 13, 3) := by decide +kernel
theorem dX4_readLoses_54 : decode cX4_readLoses 54 = .ok (.aload_n 0, 1) := by decide +kernel
theorem dX4_readLoses_55 : decode cX4_readLoses 55 = .ok (.getfield 9, 3) := by decide +kernel
theorem dX4_readLoses_58 : decode cX4_readLoses 58 = .ok (.bipush 59, 2) := by decide +kernel
theorem dX4_readLoses_60 : decode cX4_readLoses 60 = .ok (.invokevirtual 91, 3) := by decide +kernel
theorem dX4_readLoses_63 : decode cX4_readLoses 63 = .ok (.pop, 1) := by decide +kernel
theorem dX4_readLoses_64 : decode cX4_readLoses 64 = .ok (.return_, 1) := by decide +kernel
theorem dX5_init_0 : decode cX5_init 0 = .ok (.aload_n 0, 1) := by decide +kernel
theorem dX5_init_1 : decode cX5_init 1 = .ok (.invokespecial 3, 3) := by decide +kernel
theorem dX5_init_4 : decode cX5_init 4 = .ok (.aload_n 0, 1) := by decide +kernel
theorem dX5_init_5 : decode cX5_init 5 = .ok (.bipush 40, 2) := by decide +kernel
theorem dX5_init_7 : decode cX5_init 7 = .ok (.newarray .int, 2) := by decide +kernel
theorem dX5_init_9 : decode cX5_init 9 = .ok (.putfield 9, 3) := by decide +kernel
theorem dX5_init_12 : decode cX5_init 12 = .ok (.aload_n 0, 1) := by decide +kernel
theorem dX5_init_13 : decode cX5_init 13 = .ok (.bipush 40, 2) := by decide +kernel
theorem dX5_init_15 : decode cX5_init 15 = .ok (.newarray .int, 2) := by decide +kernel
theorem dX5_init_17 : decode cX5_init 17 = .ok (.putfield 15, 3) := by decide +kernel
theorem dX5_init_20 : decode cX5_init 20 = .ok (.return_, 1) := by decide +kernel
theorem dX5_read_0 : decode cX5_read 0 = .ok (.aload_n 0, 1) := by decide +kernel
theorem dX5_read_1 : decode cX5_read 1 = .ok (.iconst 0, 1) := by decide +kernel
theorem dX5_read_2 : decode cX5_read 2 = .ok (.putfield 18, 3) := by decide +kernel
theorem dX5_read_5 : decode cX5_read 5 = .ok (.aload_n 1, 1) := by decide +kernel
theorem dX5_read_6 : decode cX5_read 6 = .ok (.invokevirtual 22, 3) := by decide +kernel
theorem dX5_read_9 : decode cX5_read 9 = .ok (.iconst 0, 1) := by decide +kernel
theorem dX5_read_10 : decode cX5_read 10 = .ok (.istore_n 3, 1) := by decide +kernel
theorem dX5_read_11 : decode cX5_read 11 = .ok (.iload_n 3, 1) := by decide +kernel
theorem dX5_read_12 : decode cX5_read 12 = .ok (.bipush 40, 2) := by decide +kernel
theorem dX5_read_14 : decode cX5_read 14 = .ok (.if_icmp .gt 30, 3) := by decide +kernel
theorem dX5_read_17 : decode cX5_read 17 = .ok (.aload_n 1, 1) := by decide +kernel
theorem dX5_read_18 : decode cX5_read 18 = .ok (.getfield 27, 3) := by decide +kernel
theorem dX5_read_21 : decode cX5_read 21 = .ok (.ifCond .eq 23, 3) := by decide +kernel
theorem dX5_read_24 : decode cX5_read 24 = .ok (.aload_n 0, 1) := by decide +kernel
theorem dX5_read_25 : decode cX5_read 25 = .ok (.aload_n 1, 1) := by decide +kernel
theorem dX5_read_26 : decode cX5_read 26 = .ok (.aload_n 2, 1) := by decide +kernel
theorem dX5_read_27 : decode cX5_read 27 = .ok (.invokevirtual 30, 3) := by decide +kernel
theorem dX5_read_30 : decode cX5_read 30 = .ok (.ifCond .ne 8, 3) := by decide +kernel
theorem dX5_read_33 : decode cX5_read 33 = .ok (.aload_n 1, 1) := by decide +kernel
theorem dX5_read_34 : decode cX5_read 34 = .ok (.getfield 34, 3) := by decide +kernel
theorem dX5_read_37 : decode cX5_read 37 = .ok (.ireturn, 1) := by decide +kernel
theorem dX5_read_38 : decode cX5_read 38 = .ok (.iinc 3 1, 3) := by decide +kernel
theorem dX5_read_41 : decode cX5_read 41 = .ok (.goto (-30), 3) := by decide +kernel
theorem dX5_read_44 : decode cX5_read 44 = .ok (.iconst 0, 1) := by decide +kernel
theorem dX5_read_45 : decode cX5_read 45 = .ok (.ireturn, 1) := by decide +kernel
theorem dX5_readLine_0 : decode cX5_readLine 0 = .ok (.aload_n 1, 1) := by decide +kernel
theorem dX5_readLine_1 : decode cX5_readLine 1 = .ok (.getfield 27, 3) := by decide +kernel
theorem dX5_readLine_4 : decode cX5_readLine 4 = .ok (.istore_n 3, 1) := by decide +kernel
theorem dX5_readLine_5 : decode cX5_readLine 5 = .ok (.iload_n 3, 1) := by decide +kernel
theorem dX5_readLine_6 : decode cX5_readLine 6 = .ok (.sipush 138, 3) := by decide +kernel
theorem dX5_readLine_9 : decode cX5_readLine 9 = .ok (.if_icmp .eq 16, 3) := by decide +kernel
theorem dX5_readLine_12 : decode cX5_readLine 12 = .ok (.iload_n 3, 1) := by decide +kernel
theorem dX5_readLine_13 : decode cX5_readLine 13 = .ok (.sipush 139, 3) := by decide +kernel
theorem dX5_readLine_16 : decode cX5_readLine 16 = .ok (.if_icmp .eq 9, 3) := by decide +kernel
theorem dX5_readLine_19 : decode cX5_readLine 19 = .ok (.aload_n 1, 1) := by decide +kernel
theorem dX5_readLine_20 : decode cX5_readLine 20 = .ok (.iconst 1, 1) := by decide +kernel
theorem dX5_readLine_21 : decode cX5_readLine 21 = .ok (.invokevirtual 37, 3) := by decide +kernel
theorem dX5_readLine_24 : decode cX5_readLine 24 = .ok (.ireturn, 1) := by decide +kernel
theorem dX5_readLine_25 : decode cX5_readLine 25 = .ok (.aload_n 0, 1) := by decide +kernel
theorem dX5_readLine_26 : decode cX5_readLine 26 = .ok (.getfield 18, 3) := by decide +kernel
theorem dX5_readLine_29 : decode cX5_readLine 29 = .ok (.bipush 40, 2) := by decide +kernel
theorem dX5_readLine_31 : decode cX5_readLine 31 = .ok (.if_icmp .lt 9, 3) := by decide +kernel
theorem dX5_readLine_34 : decode cX5_readLine 34 = .ok (.aload_n 1, 1) := by decide +kernel
theorem dX5_readLine_35 : decode cX5_readLine 35 = .ok (.iconst 5, 1) := by decide +kernel
theorem dX5_readLine_36 : decode cX5_readLine 36 = .ok (.invokevirtual 37, 3) := by decide +kernel
theorem dX5_readLine_39 : decode cX5_readLine 39 = .ok (.ireturn, 1) := by decide +kernel
theorem dX5_readLine_40 : decode cX5_readLine 40 = .ok (.aload_n 1, 1) := by decide +kernel
theorem dX5_readLine_41 : decode cX5_readLine 41 = .ok (.invokevirtual 41, 3) := by decide +kernel
theorem dX5_readLine_44 : decode cX5_readLine 44 = .ok (.aload_n 0, 1) := by decide +kernel
theorem dX5_readLine_45 : decode cX5_readLine 45 = .ok (.getfield 9, 3) := by decide +kernel
theorem dX5_readLine_48 : decode cX5_readLine 48 = .ok (.aload_n 0, 1) := by decide +kernel
theorem dX5_readLine_49 : decode cX5_readLine 49 = .ok (.getfield 18, 3) := by decide +kernel
theorem dX5_readLine_52 : decode cX5_readLine 52 = .ok (.iconst (-1), 1) := by decide +kernel
theorem dX5_readLine_53 : decode cX5_readLine 53 = .ok (.iastore, 1) := by decide +kernel
theorem dX5_readLine_54 : decode cX5_readLine 54 = .ok (.iload_n 3, 1) := by decide +kernel
theorem dX5_readLine_55 : decode cX5_readLine 55 = .ok (.sipush 139, 3) := by decide +kernel
theorem dX5_readLine_58 : decode cX5_readLine 58 = .ok (.if_icmp .ne 14, 3) := by decide +kernel
theorem dX5_readLine_61 : decode cX5_readLine 61 = .ok (.aload_n 0, 1) := by decide +kernel
theorem dX5_readLine_62 : decode cX5_readLine 62 = .ok (.aload_n 1, 1) := by decide +kernel
theorem dX5_readLine_63 : decode cX5_readLine 63 = .ok (.aload_n 2, 1) := by decide +kernel
theorem dX5_readLine_64 : decode cX5_readLine 64 = .ok (.invokevirtual 44, 3) := by decide +kernel
theorem dX5_readLine_67 : decode cX5_readLine 67 = .ok (.ifCond .ne 5, 3) := by decide +kernel
theorem dX5_readLine_70 : decode cX5_readLine 70 = .ok (.iconst 0, 1) := by decide +kernel
theorem dX5_readLine_71 : decode cX5_readLine 71 = .ok (.ireturn, 1) := by decide +kernel
theorem dX5_readLine_72 : decode cX5_readLine 72 = .ok (.aload_n 1, 1) := by decide +kernel
theorem dX5_readLine_73 : decode cX5_readLine 73 = .ok (.bipush 59, 2) := by decide +kernel
theorem dX5_readLine_75 : decode cX5_readLine 75 = .ok (.invokevirtual 47, 3) := by decide +kernel
theorem dX5_readLine_78 : decode cX5_readLine 78 = .ok (.ifCond .ne 5, 3) := by decide +kernel
theorem dX5_readLine_81 : decode cX5_readLine 81 = .ok (.iconst 0, 1) := by decide +kernel
theorem dX5_readLine_82 : decode cX5_readLine 82 = .ok (.ireturn, 1) := by decide +kernel
theorem dX5_readLine_83 : decode cX5_readLine 83 = .ok (.aload_n 0, 1) := by decide +kernel
theorem dX5_readLine_84 : decode cX5_readLine 84 = .ok (.dup, 1) := by decide +kernel
theorem dX5_readLine_85 : decode cX5_readLine 85 = .ok (.getfield 18, 3) := by decide +kernel
theorem dX5_readLine_88 : decode cX5_readLine 88 = .ok (.iconst 1, 1) := by decide +kernel
theorem dX5_readLine_89 : decode cX5_readLine 89 = .ok (.iadd, 1) := by decide +kernel
theorem dX5_readLine_90 : decode cX5_readLine 90 = .ok (.putfield 18, 3) := by decide +kernel
theorem dX5_readLine_93 : decode cX5_readLine 93 = .ok (.iconst 1, 1) := by decide +kernel
theorem dX5_readLine_94 : decode cX5_readLine 94 = .ok (.ireturn, 1) := by decide +kernel
theorem dX5_readPut_0 : decode cX5_readPut 0 = .ok (.aload_n 1, 1) := by decide +kernel
theorem dX5_readPut_1 : decode cX5_readPut 1 = .ok (.invokevirtual 50, 3) := by decide +kernel
theorem dX5_readPut_4 : decode cX5_readPut 4 = .ok (.ifCond .ne 9, 3) := by decide +kernel
theorem dX5_readPut_7 : decode cX5_readPut 7 = .ok (.aload_n 1, 1) := by decide +kernel
theorem dX5_readPut_8 : decode cX5_readPut 8 = .ok (.iconst 1, 1) := by decide +kernel
theorem dX5_readPut_9 : decode cX5_readPut 9 = .ok (.invokevirtual 37, 3) := by decide +kernel
theorem dX5_readPut_12 : decode cX5_readPut 12 = .ok (.ireturn, 1) := by decide +kernel
theorem dX5_readPut_13 : decode cX5_readPut 13 = .ok (.aload_n 0, 1) := by decide +kernel
theorem dX5_readPut_14 : decode cX5_readPut 14 = .ok (.getfield 9, 3) := by decide +kernel
theorem dX5_readPut_17 : decode cX5_readPut 17 = .ok (.aload_n 0, 1) := by decide +kernel
theorem dX5_readPut_18 : decode cX5_readPut 18 = .ok (.getfield 18, 3) := by decide +kernel
theorem dX5_readPut_21 : decode cX5_readPut 21 = .ok (.aload_n 2, 1) := by decide +kernel
theorem dX5_readPut_22 : decode cX5_readPut 22 = .ok (.getfield 54, 3) := by decide +kernel
theorem dX5_readPut_25 : decode cX5_readPut 25 = .ok (.aload_n 2, 1) := by decide +kernel
theorem dX5_readPut_26 : decode cX5_readPut 26 = .ok (.getfield 60, 3) := by decide +kernel
theorem dX5_readPut_29 : decode cX5_readPut 29 = .ok (.aload_n 1, 1) := by decide +kernel
theorem dX5_readPut_30 : decode cX5_readPut 30 = .ok (.getfield 63, 3) := by decide +kernel
theorem dX5_readPut_33 : decode cX5_readPut 33 = .ok (.invokestatic 67, 3) := by decide +kernel
theorem dX5_readPut_36 : decode cX5_readPut 36 = .ok (.iastore, 1) := by decide +kernel
theorem dX5_readPut_37 : decode cX5_readPut 37 = .ok (.aload_n 0, 1) := by decide +kernel
theorem dX5_readPut_38 : decode cX5_readPut 38 = .ok (.getfield 9, 3) := by decide +kernel
theorem dX5_readPut_41 : decode cX5_readPut 41 = .ok (.aload_n 0, 1) := by decide +kernel
theorem dX5_readPut_42 : decode cX5_readPut 42 = .ok (.getfield 18, 3) := by decide +kernel
theorem dX5_readPut_45 : decode cX5_readPut 45 = .ok (.iaload, 1) := by decide +kernel
theorem dX5_readPut_46 : decode cX5_readPut 46 = .ok (.iconst (-1), 1) := by decide +kernel
theorem dX5_readPut_47 : decode cX5_readPut 47 = .ok (.if_icmp .ne 9, 3) := by decide +kernel
theorem dX5_readPut_50 : decode cX5_readPut 50 = .ok (.aload_n 1, 1) := by decide +kernel
theorem dX5_readPut_51 : decode cX5_readPut 51 = .ok (.iconst 2, 1) := by decide +kernel
theorem dX5_readPut_52 : decode cX5_readPut 52 = .ok (.invokevirtual 37, 3) := by decide +kernel
theorem dX5_readPut_55 : decode cX5_readPut 55 = .ok (.ireturn, 1) := by decide +kernel
theorem dX5_readPut_56 : decode cX5_readPut 56 = .ok (.aload_n 1, 1) := by decide +kernel
theorem dX5_readPut_57 : decode cX5_readPut 57 = .ok (.invokevirtual 41, 3) := by decide +kernel
theorem dX5_readPut_60 : decode cX5_readPut 60 = .ok (.aload_n 1, 1) := by decide +kernel
theorem dX5_readPut_61 : decode cX5_readPut 61 = .ok (.iconst 1, 1) := by decide +kernel
theorem dX5_readPut_62 : decode cX5_readPut 62 = .ok (.bipush 9, 2) := by decide +kernel
theorem dX5_readPut_64 : decode cX5_readPut 64 = .ok (.invokevirtual 71, 3) := by decide +kernel
theorem dX5_readPut_67 : decode cX5_readPut 67 = .ok (.ifCond .ne 5, 3) := by decide +kernel
theorem dX5_readPut_70 : decode cX5_readPut 70 = .ok (.iconst 0, 1) := by decide +kernel
theorem dX5_readPut_71 : decode cX5_readPut 71 = .ok (.ireturn, 1) := by decide +kernel
theorem dX5_readPut_72 : decode cX5_readPut 72 = .ok (.aload_n 0, 1) := by decide +kernel
theorem dX5_readPut_73 : decode cX5_readPut 73 = .ok (.getfield 15, 3) := by decide +kernel
theorem dX5_readPut_76 : decode cX5_readPut 76 = .ok (.aload_n 0, 1) := by decide +kernel
theorem dX5_readPut_77 : decode cX5_readPut 77 = .ok (.getfield 18, 3) := by decide +kernel
theorem dX5_readPut_80 : decode cX5_readPut 80 = .ok (.aload_n 1, 1) := by decide +kernel
theorem dX5_readPut_81 : decode cX5_readPut 81 = .ok (.getfield 75, 3) := by decide +kernel
theorem dX5_readPut_84 : decode cX5_readPut 84 = .ok (.iastore, 1) := by decide +kernel
theorem dX5_readPut_85 : decode cX5_readPut 85 = .ok (.aload_n 1, 1) := by decide +kernel
theorem dX5_readPut_86 : decode cX5_readPut 86 = .ok (.invokevirtual 41, 3) := by decide +kernel
theorem dX5_readPut_89 : decode cX5_readPut 89 = .ok (.iconst 1, 1) := by decide +kernel
theorem dX5_readPut_90 : decode cX5_readPut 90 = .ok (.ireturn, 1) := by decide +kernel
theorem dX6_init_0 : decode cX6_init 0 = .ok (.aload_n 0, 1) := by decide +kernel
theorem dX6_init_1 : decode cX6_init 1 = .ok (.invokespecial 3, 3) := by decide +kernel
theorem dX6_init_4 : decode cX6_init 4 = .ok (.aload_n 0, 1) := by decide +kernel
theorem dX6_init_5 : decode cX6_init 5 = .ok (.iconst 4, 1) := by decide +kernel
theorem dX6_init_6 : decode cX6_init 6 = .ok (.iconst 4, 1) := by decide +kernel
theorem dX6_init_7 : decode cX6_init 7 = .ok (.multianewarray 9 2, 4) := by decide +kernel
theorem dX6_init_11 : decode cX6_init 11 = .ok (.putfield 11, 3) := by decide +kernel
theorem dX6_init_14 : decode cX6_init 14 = .ok (.aload_n 0, 1) := by decide +kernel
theorem dX6_init_15 : decode cX6_init 15 = .ok (.iconst 4, 1) := by decide +kernel
theorem dX6_init_16 : decode cX6_init 16 = .ok (.iconst 4, 1) := by decide +kernel
theorem dX6_init_17 : decode cX6_init 17 = .ok (.multianewarray 9 2, 4) := by decide +kernel
theorem dX6_init_21 : decode cX6_init 21 = .ok (.putfield 16, 3) := by decide +kernel
theorem dX6_init_24 : decode cX6_init 24 = .ok (.aload_n 0, 1) := by decide +kernel
theorem dX6_init_25 : decode cX6_init 25 = .ok (.bipush 16, 2) := by decide +kernel
theorem dX6_init_27 : decode cX6_init 27 = .ok (.bipush 121, 2) := by decide +kernel
theorem dX6_init_29 : decode cX6_init 29 = .ok (.multianewarray 9 2, 4) := by decide +kernel
theorem dX6_init_33 : decode cX6_init 33 = .ok (.putfield 19, 3) := by decide +kernel
theorem dX6_init_36 : decode cX6_init 36 = .ok (.aload_n 0, 1) := by decide +kernel
theorem dX6_init_37 : decode cX6_init 37 = .ok (.iconst 4, 1) := by decide +kernel
theorem dX6_init_38 : decode cX6_init 38 = .ok (.bipush 121, 2) := by decide +kernel
theorem dX6_init_40 : decode cX6_init 40 = .ok (.multianewarray 9 2, 4) := by decide +kernel
theorem dX6_init_44 : decode cX6_init 44 = .ok (.putfield 22, 3) := by decide +kernel
theorem dX6_init_47 : decode cX6_init 47 = .ok (.aload_n 0, 1) := by decide +kernel
theorem dX6_init_48 : decode cX6_init 48 = .ok (.bipush 121, 2) := by decide +kernel
theorem dX6_init_50 : decode cX6_init 50 = .ok (.newarray .int, 2) := by decide +kernel
theorem dX6_init_52 : decode cX6_init 52 = .ok (.putfield 25, 3) := by decide +kernel
theorem dX6_init_55 : decode cX6_init 55 = .ok (.aload_n 0, 1) := by decide +kernel
theorem dX6_init_56 : decode cX6_init 56 = .ok (.bipush 121, 2) := by decide +kernel
theorem dX6_init_58 : decode cX6_init 58 = .ok (.newarray .int, 2) := by decide +kernel
theorem dX6_init_60 : decode cX6_init 60 = .ok (.putfield 29, 3) := by decide +kernel
theorem dX6_init_63 : decode cX6_init 63 = .ok (.aload_n 0, 1) := by decide +kernel
theorem dX6_init_64 : decode cX6_init 64 = .ok (.aload_n 1, 1) := by decide +kernel
theorem dX6_init_65 : decode cX6_init 65 = .ok (.putfield 32, 3) := by decide +kernel
theorem dX6_init_68 : decode cX6_init 68 = .ok (.return_, 1) := by decide +kernel
theorem dX6_forget_0 : decode cX6_forget 0 = .ok (.aload_n 0, 1) := by decide +kernel
theorem dX6_forget_1 : decode cX6_forget 1 = .ok (.iconst 0, 1) := by decide +kernel
theorem dX6_forget_2 : decode cX6_forget 2 = .ok (.putfield 36, 3) := by decide +kernel
theorem dX6_forget_5 : decode cX6_forget 5 = .ok (.return_, 1) := by decide +kernel
theorem dX6_roundsAsTold_0 : decode cX6_roundsAsTold 0 = .ok (.aload_n 0, 1) := by decide +kernel
theorem dX6_roundsAsTold_1 : decode cX6_roundsAsTold 1 = .ok (.getfield 36, 3) := by decide +kernel
theorem dX6_roundsAsTold_4 : decode cX6_roundsAsTold 4 = .ok (.ifCond .ne 15, 3) := by decide +kernel
theorem dX6_roundsAsTold_7 : decode cX6_roundsAsTold 7 = .ok (.aload_n 0, 1) := by decide +kernel
theorem dX6_roundsAsTold_8 : decode cX6_roundsAsTold 8 = .ok (.aload_n 1, 1) := by decide +kernel
theorem dX6_roundsAsTold_9 : decode cX6_roundsAsTold 9 = .ok (.iconst (-1), 1) := by decide +kernel
theorem dX6_roundsAsTold_10 : decode cX6_roundsAsTold 10 = .ok (.iconst (-1), 1) := by decide +kernel
theorem dX6_roundsAsTold_11 : decode cX6_roundsAsTold 11 = .ok (.invokevirtual 40, 3) := by decide +kernel
theorem dX6_roundsAsTold_14 : decode cX6_roundsAsTold 14 = .ok (.aload_n 0, 1) := by decide +kernel
theorem dX6_roundsAsTold_15 : decode cX6_roundsAsTold 15 = .ok (.iconst 1, 1) := by decide +kernel
theorem dX6_roundsAsTold_16 : decode cX6_roundsAsTold 16 = .ok (.putfield 36, 3) := by decide +kernel
theorem dX6_roundsAsTold_19 : decode cX6_roundsAsTold 19 = .ok (.aload_n 0, 1) := by decide +kernel
theorem dX6_roundsAsTold_20 : decode cX6_roundsAsTold 20 = .ok (.getfield 44, 3) := by decide +kernel
theorem dX6_roundsAsTold_23 : decode cX6_roundsAsTold 23 = .ok (.ireturn, 1) := by decide +kernel
theorem dX6_settle_0 : decode cX6_settle 0 = .ok (.aload_n 0, 1) := by decide +kernel
theorem dX6_settle_1 : decode cX6_settle 1 = .ok (.aload_n 1, 1) := by decide +kernel
theorem dX6_settle_2 : decode cX6_settle 2 = .ok (.putfield 32, 3) := by decide +kernel
theorem dX6_settle_5 : decode cX6_settle 5 = .ok (.aload_n 0, 1) := by decide +kernel
theorem dX6_settle_6 : decode cX6_settle 6 = .ok (.iconst 0, 1) := by decide +kernel
theorem dX6_settle_7 : decode cX6_settle 7 = .ok (.putfield 36, 3) := by decide +kernel
theorem dX6_settle_10 : decode cX6_settle 10 = .ok (.aload_n 0, 1) := by decide +kernel
theorem dX6_settle_11 : decode cX6_settle 11 = .ok (.iconst (-1), 1) := by decide +kernel
theorem dX6_settle_12 : decode cX6_settle 12 = .ok (.putfield 44, 3) := by decide +kernel
theorem dX6_settle_15 : decode cX6_settle 15 = .ok (.aload_n 0, 1) := by decide +kernel
theorem dX6_settle_16 : decode cX6_settle 16 = .ok (.invokevirtual 48, 3) := by decide +kernel
theorem dX6_settle_19 : decode cX6_settle 19 = .ok (.iconst 0, 1) := by decide +kernel
theorem dX6_settle_20 : decode cX6_settle 20 = .ok (.istore 4, 2) := by decide +kernel
theorem dX6_settle_22 : decode cX6_settle 22 = .ok (.iload 4, 2) := by decide +kernel
theorem dX6_settle_24 : decode cX6_settle 24 = .ok (.aload_n 0, 1) := by decide +kernel
theorem dX6_settle_25 : decode cX6_settle 25 = .ok (.getfield 32, 3) := by decide +kernel
theorem dX6_settle_28 : decode cX6_settle 28 = .ok (.getfield 51, 3) := by decide +kernel
theorem dX6_settle_31 : decode cX6_settle 31 = .ok (.if_icmp .ge 48, 3) := by decide +kernel
theorem dX6_settle_34 : decode cX6_settle 34 = .ok (.aload_n 0, 1) := by decide +kernel
theorem dX6_settle_35 : decode cX6_settle 35 = .ok (.getfield 32, 3) := by decide +kernel
theorem dX6_settle_38 : decode cX6_settle 38 = .ok (.getfield 56, 3) := by decide +kernel
theorem dX6_settle_41 : decode cX6_settle 41 = .ok (.iload 4, 2) := by decide +kernel
theorem dX6_settle_43 : decode cX6_settle 43 = .ok (.iload_n 2, 1) := by decide +kernel
theorem dX6_settle_44 : decode cX6_settle 44 = .ok (.if_icmp .ne 7, 3) := by decide +kernel
theorem dX6_settle_47 : decode cX6_settle 47 = .ok (.iload_n 3, 1) := by decide +kernel
theorem dX6_settle_48 : decode cX6_settle 48 = .ok (.goto 13, 3) := by decide +kernel
theorem dX6_settle_51 : decode cX6_settle 51 = .ok (.aload_n 0, 1) := by decide +kernel
theorem dX6_settle_52 : decode cX6_settle 52 = .ok (.getfield 32, 3) := by decide +kernel
theorem dX6_settle_55 : decode cX6_settle 55 = .ok (.getfield 60, 3) := by decide +kernel
theorem dX6_settle_58 : decode cX6_settle 58 = .ok (.iload 4, 2) := by decide +kernel
theorem dX6_settle_60 : decode cX6_settle 60 = .ok (.iaload, 1) := by decide +kernel
theorem dX6_settle_61 : decode cX6_settle 61 = .ok (.aaload, 1) := by decide +kernel
theorem dX6_settle_62 : decode cX6_settle 62 = .ok (.aload_n 0, 1) := by decide +kernel
theorem dX6_settle_63 : decode cX6_settle 63 = .ok (.getfield 22, 3) := by decide +kernel
theorem dX6_settle_66 : decode cX6_settle 66 = .ok (.iload 4, 2) := by decide +kernel
theorem dX6_settle_68 : decode cX6_settle 68 = .ok (.aaload, 1) := by decide +kernel
theorem dX6_settle_69 : decode cX6_settle 69 = .ok (.iconst 0, 1) := by decide +kernel
theorem dX6_settle_70 : decode cX6_settle 70 = .ok (.invokevirtual 63, 3) := by decide +kernel
theorem dX6_settle_73 : decode cX6_settle 73 = .ok (.iinc 4 1, 3) := by decide +kernel
theorem dX6_settle_76 : decode cX6_settle 76 = .ok (.goto (-54), 3) := by decide +kernel
theorem dX6_settle_79 : decode cX6_settle 79 = .ok (.iconst 1, 1) := by decide +kernel
theorem dX6_settle_80 : decode cX6_settle 80 = .ok (.istore 4, 2) := by decide +kernel
theorem dX6_settle_82 : decode cX6_settle 82 = .ok (.iload 4, 2) := by decide +kernel
theorem dX6_settle_84 : decode cX6_settle 84 = .ok (.bipush 60, 2) := by decide +kernel
theorem dX6_settle_86 : decode cX6_settle 86 = .ok (.if_icmp .gt 35, 3) := by decide +kernel
