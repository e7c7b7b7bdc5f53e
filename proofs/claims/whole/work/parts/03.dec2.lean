theorem dX10_tries_17 : decode cX10_tries 17 = .ok (.iload_n 3, 1) := by decide +kernel
theorem dX10_tries_18 : decode cX10_tries 18 = .ok (.invokevirtual 144, 3) := by decide +kernel
theorem dX10_tries_21 : decode cX10_tries 21 = .ok (.ifCond .eq 13, 3) := by decide +kernel
theorem dX10_tries_24 : decode cX10_tries 24 = .ok (.aload_n 0, 1) := by decide +kernel
theorem dX10_tries_25 : decode cX10_tries 25 = .ok (.iload_n 1, 1) := by decide +kernel
theorem dX10_tries_26 : decode cX10_tries 26 = .ok (.iload_n 2, 1) := by decide +kernel
theorem dX10_tries_27 : decode cX10_tries 27 = .ok (.iload_n 3, 1) := by decide +kernel
theorem dX10_tries_28 : decode cX10_tries 28 = .ok (.invokevirtual 281, 3) := by decide +kernel
theorem dX10_tries_31 : decode cX10_tries 31 = .ok (.goto 4, 3) := by decide +kernel
theorem dX10_tries_34 : decode cX10_tries 34 = .ok (.iconst (-1), 1) := by decide +kernel
theorem dX10_tries_35 : decode cX10_tries 35 = .ok (.ireturn, 1) := by decide +kernel
theorem dX10_tune_0 : decode cX10_tune 0 = .ok (.aload_n 0, 1) := by decide +kernel
theorem dX10_tune_1 : decode cX10_tune 1 = .ok (.iload_n 1, 1) := by decide +kernel
theorem dX10_tune_2 : decode cX10_tune 2 = .ok (.invokevirtual 171, 3) := by decide +kernel
theorem dX10_tune_5 : decode cX10_tune 5 = .ok (.ifCond .eq 11, 3) := by decide +kernel
theorem dX10_tune_8 : decode cX10_tune 8 = .ok (.aload_n 0, 1) := by decide +kernel
theorem dX10_tune_9 : decode cX10_tune 9 = .ok (.iload_n 2, 1) := by decide +kernel
theorem dX10_tune_10 : decode cX10_tune 10 = .ok (.invokevirtual 144, 3) := by decide +kernel
theorem dX10_tune_13 : decode cX10_tune 13 = .ok (.ifCond .ne 5, 3) := by decide +kernel
theorem dX10_tune_16 : decode cX10_tune 16 = .ok (.iconst (-1), 1) := by decide +kernel
theorem dX10_tune_17 : decode cX10_tune 17 = .ok (.ireturn, 1) := by decide +kernel
theorem dX10_tune_18 : decode cX10_tune 18 = .ok (.iconst (-1), 1) := by decide +kernel
theorem dX10_tune_19 : decode cX10_tune 19 = .ok (.istore_n 3, 1) := by decide +kernel
theorem dX10_tune_20 : decode cX10_tune 20 = .ok (.iconst (-1), 1) := by decide +kernel
theorem dX10_tune_21 : decode cX10_tune 21 = .ok (.istore 4, 2) := by decide +kernel
theorem dX10_tune_23 : decode cX10_tune 23 = .ok (.iconst 0, 1) := by decide +kernel
theorem dX10_tune_24 : decode cX10_tune 24 = .ok (.istore 5, 2) := by decide +kernel
theorem dX10_tune_26 : decode cX10_tune 26 = .ok (.iload 5, 2) := by decide +kernel
theorem dX10_tune_28 : decode cX10_tune 28 = .ok (.aload_n 0, 1) := by decide +kernel
theorem dX10_tune_29 : decode cX10_tune 29 = .ok (.getfield 19, 3) := by decide +kernel
theorem dX10_tune_32 : decode cX10_tune 32 = .ok (.getfield 135, 3) := by decide +kernel
theorem dX10_tune_35 : decode cX10_tune 35 = .ok (.if_icmp .ge 44, 3) := by decide +kernel
theorem dX10_tune_38 : decode cX10_tune 38 = .ok (.aload_n 0, 1) := by decide +kernel
theorem dX10_tune_39 : decode cX10_tune 39 = .ok (.iload_n 1, 1) := by decide +kernel
theorem dX10_tune_40 : decode cX10_tune 40 = .ok (.iload 5, 2) := by decide +kernel
theorem dX10_tune_42 : decode cX10_tune 42 = .ok (.iload_n 2, 1) := by decide +kernel
theorem dX10_tune_43 : decode cX10_tune 43 = .ok (.invokevirtual 281, 3) := by decide +kernel
theorem dX10_tune_46 : decode cX10_tune 46 = .ok (.istore 6, 2) := by decide +kernel
theorem dX10_tune_48 : decode cX10_tune 48 = .ok (.iload 6, 2) := by decide +kernel
theorem dX10_tune_50 : decode cX10_tune 50 = .ok (.iconst (-1), 1) := by decide +kernel
theorem dX10_tune_51 : decode cX10_tune 51 = .ok (.if_icmp .eq 22, 3) := by decide +kernel
theorem dX10_tune_54 : decode cX10_tune 54 = .ok (.iload_n 3, 1) := by decide +kernel
theorem dX10_tune_55 : decode cX10_tune 55 = .ok (.iconst (-1), 1) := by decide +kernel
theorem dX10_tune_56 : decode cX10_tune 56 = .ok (.if_icmp .eq 10, 3) := by decide +kernel
theorem dX10_tune_59 : decode cX10_tune 59 = .ok (.iload 6, 2) := by decide +kernel
theorem dX10_tune_61 : decode cX10_tune 61 = .ok (.iload 4, 2) := by decide +kernel
theorem dX10_tune_63 : decode cX10_tune 63 = .ok (.if_icmp .ge 10, 3) := by decide +kernel
theorem dX10_tune_66 : decode cX10_tune 66 = .ok (.iload 5, 2) := by decide +kernel
theorem dX10_tune_68 : decode cX10_tune 68 = .ok (.istore_n 3, 1) := by decide +kernel
theorem dX10_tune_69 : decode cX10_tune 69 = .ok (.iload 6, 2) := by decide +kernel
theorem dX10_tune_71 : decode cX10_tune 71 = .ok (.istore 4, 2) := by decide +kernel
theorem dX10_tune_73 : decode cX10_tune 73 = .ok (.iinc 5 1, 3) := by decide +kernel
theorem dX10_tune_76 : decode cX10_tune 76 = .ok (.goto (-50), 3) := by decide +kernel
theorem dX10_tune_79 : decode cX10_tune 79 = .ok (.iload_n 3, 1) := by decide +kernel
theorem dX10_tune_80 : decode cX10_tune 80 = .ok (.ireturn, 1) := by decide +kernel
theorem dX10_unfold_0 : decode cX10_unfold 0 = .ok (.aload_n 0, 1) := by decide +kernel
theorem dX10_unfold_1 : decode cX10_unfold 1 = .ok (.iload_n 1, 1) := by decide +kernel
theorem dX10_unfold_2 : decode cX10_unfold 2 = .ok (.invokevirtual 151, 3) := by decide +kernel
theorem dX10_unfold_5 : decode cX10_unfold 5 = .ok (.ifCond .eq 20, 3) := by decide +kernel
theorem dX10_unfold_8 : decode cX10_unfold 8 = .ok (.aload_n 0, 1) := by decide +kernel
theorem dX10_unfold_9 : decode cX10_unfold 9 = .ok (.iload_n 2, 1) := by decide +kernel
theorem dX10_unfold_10 : decode cX10_unfold 10 = .ok (.invokevirtual 151, 3) := by decide +kernel
theorem dX10_unfold_13 : decode cX10_unfold 13 = .ok (.ifCond .eq 12, 3) := by decide +kernel
theorem dX10_unfold_16 : decode cX10_unfold 16 = .ok (.iload_n 3, 1) := by decide +kernel
theorem dX10_unfold_17 : decode cX10_unfold 17 = .ok (.bipush 60, 2) := by decide +kernel
theorem dX10_unfold_19 : decode cX10_unfold 19 = .ok (.invokestatic 210, 3) := by decide +kernel
theorem dX10_unfold_22 : decode cX10_unfold 22 = .ok (.ifCond .ne 11, 3) := by decide +kernel
theorem dX10_unfold_25 : decode cX10_unfold 25 = .ok (.new 230, 3) := by decide +kernel
theorem dX10_unfold_28 : decode cX10_unfold 28 = .ok (.dup, 1) := by decide +kernel
theorem dX10_unfold_29 : decode cX10_unfold 29 = .ok (.invokespecial 232, 3) := by decide +kernel
theorem dX10_unfold_32 : decode cX10_unfold 32 = .ok (.athrow, 1) := by decide +kernel
theorem dX10_unfold_33 : decode cX10_unfold 33 = .ok (.aload_n 0, 1) := by decide +kernel
theorem dX10_unfold_34 : decode cX10_unfold 34 = .ok (.getfield 19, 3) := by decide +kernel
theorem dX10_unfold_37 : decode cX10_unfold 37 = .ok (.getfield 154, 3) := by decide +kernel
theorem dX10_unfold_40 : decode cX10_unfold 40 = .ok (.iload_n 1, 1) := by decide +kernel
theorem dX10_unfold_41 : decode cX10_unfold 41 = .ok (.aaload, 1) := by decide +kernel
theorem dX10_unfold_42 : decode cX10_unfold 42 = .ok (.astore 4, 2) := by decide +kernel
theorem dX10_unfold_44 : decode cX10_unfold 44 = .ok (.aload_n 0, 1) := by decide +kernel
theorem dX10_unfold_45 : decode cX10_unfold 45 = .ok (.getfield 19, 3) := by decide +kernel
theorem dX10_unfold_48 : decode cX10_unfold 48 = .ok (.getfield 154, 3) := by decide +kernel
theorem dX10_unfold_51 : decode cX10_unfold 51 = .ok (.iload_n 2, 1) := by decide +kernel
theorem dX10_unfold_52 : decode cX10_unfold 52 = .ok (.aaload, 1) := by decide +kernel
theorem dX10_unfold_53 : decode cX10_unfold 53 = .ok (.astore 5, 2) := by decide +kernel
theorem dX10_unfold_55 : decode cX10_unfold 55 = .ok (.aload 4, 2) := by decide +kernel
theorem dX10_unfold_57 : decode cX10_unfold 57 = .ok (.iload_n 3, 1) := by decide +kernel
theorem dX10_unfold_58 : decode cX10_unfold 58 = .ok (.invokevirtual 213, 3) := by decide +kernel
theorem dX10_unfold_61 : decode cX10_unfold 61 = .ok (.aload 5, 2) := by decide +kernel
theorem dX10_unfold_63 : decode cX10_unfold 63 = .ok (.iconst 0, 1) := by decide +kernel
theorem dX10_unfold_64 : decode cX10_unfold 64 = .ok (.invokevirtual 213, 3) := by decide +kernel
theorem dX10_unfold_67 : decode cX10_unfold 67 = .ok (.isub, 1) := by decide +kernel
theorem dX10_unfold_68 : decode cX10_unfold 68 = .ok (.istore 6, 2) := by decide +kernel
theorem dX10_unfold_70 : decode cX10_unfold 70 = .ok (.iconst 1, 1) := by decide +kernel
theorem dX10_unfold_71 : decode cX10_unfold 71 = .ok (.istore 7, 2) := by decide +kernel
theorem dX10_unfold_73 : decode cX10_unfold 73 = .ok (.iload 7, 2) := by decide +kernel
theorem dX10_unfold_75 : decode cX10_unfold 75 = .ok (.bipush 60, 2) := by decide +kernel
theorem dX10_unfold_77 : decode cX10_unfold 77 = .ok (.if_icmp .gt 33, 3) := by decide +kernel
theorem dX10_unfold_80 : decode cX10_unfold 80 = .ok (.iload 6, 2) := by decide +kernel
theorem dX10_unfold_82 : decode cX10_unfold 82 = .ok (.aload 4, 2) := by decide +kernel
theorem dX10_unfold_84 : decode cX10_unfold 84 = .ok (.iload_n 3, 1) := by decide +kernel
theorem dX10_unfold_85 : decode cX10_unfold 85 = .ok (.iload 7, 2) := by decide +kernel
theorem dX10_unfold_87 : decode cX10_unfold 87 = .ok (.iadd, 1) := by decide +kernel
theorem dX10_unfold_88 : decode cX10_unfold 88 = .ok (.invokevirtual 213, 3) := by decide +kernel
theorem dX10_unfold_91 : decode cX10_unfold 91 = .ok (.aload 5, 2) := by decide +kernel
theorem dX10_unfold_93 : decode cX10_unfold 93 = .ok (.iload 7, 2) := by decide +kernel
theorem dX10_unfold_95 : decode cX10_unfold 95 = .ok (.invokevirtual 213, 3) := by decide +kernel
theorem dX10_unfold_98 : decode cX10_unfold 98 = .ok (.isub, 1) := by decide +kernel
theorem dX10_unfold_99 : decode cX10_unfold 99 = .ok (.invokestatic 233, 3) := by decide +kernel
theorem dX10_unfold_102 : decode cX10_unfold 102 = .ok (.istore 6, 2) := by decide +kernel
theorem dX10_unfold_104 : decode cX10_unfold 104 = .ok (.iinc 7 1, 3) := by decide +kernel
theorem dX10_unfold_107 : decode cX10_unfold 107 = .ok (.goto (-34), 3) := by decide +kernel
theorem dX10_unfold_110 : decode cX10_unfold 110 = .ok (.iload 6, 2) := by decide +kernel
theorem dX10_unfold_112 : decode cX10_unfold 112 = .ok (.ireturn, 1) := by decide +kernel
theorem dX10_value_0 : decode cX10_value 0 = .ok (.aload_n 0, 1) := by decide +kernel
theorem dX10_value_1 : decode cX10_value 1 = .ok (.iload_n 1, 1) := by decide +kernel
theorem dX10_value_2 : decode cX10_value 2 = .ok (.invokevirtual 151, 3) := by decide +kernel
theorem dX10_value_5 : decode cX10_value 5 = .ok (.ifCond .eq 28, 3) := by decide +kernel
theorem dX10_value_8 : decode cX10_value 8 = .ok (.iload_n 2, 1) := by decide +kernel
theorem dX10_value_9 : decode cX10_value 9 = .ok (.bipush 120, 2) := by decide +kernel
theorem dX10_value_11 : decode cX10_value 11 = .ok (.invokestatic 210, 3) := by decide +kernel
theorem dX10_value_14 : decode cX10_value 14 = .ok (.ifCond .eq 19, 3) := by decide +kernel
theorem dX10_value_17 : decode cX10_value 17 = .ok (.aload_n 0, 1) := by decide +kernel
theorem dX10_value_18 : decode cX10_value 18 = .ok (.getfield 19, 3) := by decide +kernel
theorem dX10_value_21 : decode cX10_value 21 = .ok (.getfield 154, 3) := by decide +kernel
theorem dX10_value_24 : decode cX10_value 24 = .ok (.iload_n 1, 1) := by decide +kernel
theorem dX10_value_25 : decode cX10_value 25 = .ok (.aaload, 1) := by decide +kernel
theorem dX10_value_26 : decode cX10_value 26 = .ok (.iload_n 2, 1) := by decide +kernel
theorem dX10_value_27 : decode cX10_value 27 = .ok (.invokevirtual 213, 3) := by decide +kernel
theorem dX10_value_30 : decode cX10_value 30 = .ok (.goto 4, 3) := by decide +kernel
theorem dX10_value_33 : decode cX10_value 33 = .ok (.iconst (-1), 1) := by decide +kernel
theorem dX10_value_34 : decode cX10_value 34 = .ok (.ireturn, 1) := by decide +kernel
theorem dX10_way_0 : decode cX10_way 0 = .ok (.aload_n 0, 1) := by decide +kernel
theorem dX10_way_1 : decode cX10_way 1 = .ok (.iload_n 1, 1) := by decide +kernel
theorem dX10_way_2 : decode cX10_way 2 = .ok (.iload_n 2, 1) := by decide +kernel
theorem dX10_way_3 : decode cX10_way 3 = .ok (.invokevirtual 202, 3) := by decide +kernel
theorem dX10_way_6 : decode cX10_way 6 = .ok (.ifCond .eq 17, 3) := by decide +kernel
theorem dX10_way_9 : decode cX10_way 9 = .ok (.aload_n 0, 1) := by decide +kernel
theorem dX10_way_10 : decode cX10_way 10 = .ok (.getfield 19, 3) := by decide +kernel
theorem dX10_way_13 : decode cX10_way 13 = .ok (.getfield 206, 3) := by decide +kernel
theorem dX10_way_16 : decode cX10_way 16 = .ok (.iload_n 1, 1) := by decide +kernel
theorem dX10_way_17 : decode cX10_way 17 = .ok (.aaload, 1) := by decide +kernel
theorem dX10_way_18 : decode cX10_way 18 = .ok (.iload_n 2, 1) := by decide +kernel
theorem dX10_way_19 : decode cX10_way 19 = .ok (.iaload, 1) := by decide +kernel
theorem dX10_way_20 : decode cX10_way 20 = .ok (.goto 4, 3) := by decide +kernel
theorem dX10_way_23 : decode cX10_way 23 = .ok (.iconst (-1), 1) := by decide +kernel
theorem dX10_way_24 : decode cX10_way 24 = .ok (.ireturn, 1) := by decide +kernel
theorem dX10_who_0 : decode cX10_who 0 = .ok (.iconst 0, 1) := by decide +kernel
theorem dX10_who_1 : decode cX10_who 1 = .ok (.istore_n 1, 1) := by decide +kernel
theorem dX10_who_2 : decode cX10_who 2 = .ok (.iconst 0, 1) := by decide +kernel
theorem dX10_who_3 : decode cX10_who 3 = .ok (.istore_n 2, 1) := by decide +kernel
theorem dX10_who_4 : decode cX10_who 4 = .ok (.iload_n 2, 1) := by decide +kernel
theorem dX10_who_5 : decode cX10_who 5 = .ok (.aload_n 0, 1) := by decide +kernel
theorem dX10_who_6 : decode cX10_who 6 = .ok (.getfield 19, 3) := by decide +kernel
theorem dX10_who_9 : decode cX10_who 9 = .ok (.getfield 135, 3) := by decide +kernel
theorem dX10_who_12 : decode cX10_who 12 = .ok (.if_icmp .ge 34, 3) := by decide +kernel
theorem dX10_who_15 : decode cX10_who 15 = .ok (.aload_n 0, 1) := by decide +kernel
theorem dX10_who_16 : decode cX10_who 16 = .ok (.getfield 58, 3) := by decide +kernel
theorem dX10_who_19 : decode cX10_who 19 = .ok (.aload_n 0, 1) := by decide +kernel
theorem dX10_who_20 : decode cX10_who 20 = .ok (.getfield 19, 3) := by decide +kernel
theorem dX10_who_23 : decode cX10_who 23 = .ok (.getfield 154, 3) := by decide +kernel
theorem dX10_who_26 : decode cX10_who 26 = .ok (.iload_n 2, 1) := by decide +kernel
theorem dX10_who_27 : decode cX10_who 27 = .ok (.aaload, 1) := by decide +kernel
theorem dX10_who_28 : decode cX10_who 28 = .ok (.invokevirtual 327, 3) := by decide +kernel
theorem dX10_who_31 : decode cX10_who 31 = .ok (.ifCond .eq 9, 3) := by decide +kernel
theorem dX10_who_34 : decode cX10_who 34 = .ok (.iload_n 1, 1) := by decide +kernel
theorem dX10_who_35 : decode cX10_who 35 = .ok (.iconst 1, 1) := by decide +kernel
theorem dX10_who_36 : decode cX10_who 36 = .ok (.iload_n 2, 1) := by decide +kernel
theorem dX10_who_37 : decode cX10_who 37 = .ok (.ishl, 1) := by decide +kernel
theorem dX10_who_38 : decode cX10_who 38 = .ok (.ior, 1) := by decide +kernel
theorem dX10_who_39 : decode cX10_who 39 = .ok (.istore_n 1, 1) := by decide +kernel
theorem dX10_who_40 : decode cX10_who 40 = .ok (.iinc 2 1, 3) := by decide +kernel
theorem dX10_who_43 : decode cX10_who 43 = .ok (.goto (-39), 3) := by decide +kernel
theorem dX10_who_46 : decode cX10_who 46 = .ok (.iload_n 1, 1) := by decide +kernel
theorem dX10_who_47 : decode cX10_who 47 = .ok (.ireturn, 1) := by decide +kernel
theorem dX10_worst_0 : decode cX10_worst 0 = .ok (.aload_n 0, 1) := by decide +kernel
theorem dX10_worst_1 : decode cX10_worst 1 = .ok (.getfield 19, 3) := by decide +kernel
theorem dX10_worst_4 : decode cX10_worst 4 = .ok (.getfield 141, 3) := by decide +kernel
theorem dX10_worst_7 : decode cX10_worst 7 = .ok (.ifCond .eq 10, 3) := by decide +kernel
theorem dX10_worst_10 : decode cX10_worst 10 = .ok (.aload_n 0, 1) := by decide +kernel
theorem dX10_worst_11 : decode cX10_worst 11 = .ok (.invokevirtual 246, 3) := by decide +kernel
theorem dX10_worst_14 : decode cX10_worst 14 = .ok (.ifCond .eq 5, 3) := by decide +kernel
theorem dX10_worst_17 : decode cX10_worst 17 = .ok (.iconst (-1), 1) := by decide +kernel
theorem dX10_worst_18 : decode cX10_worst 18 = .ok (.ireturn, 1) := by decide +kernel
theorem dX10_worst_19 : decode cX10_worst 19 = .ok (.iconst 0, 1) := by decide +kernel
theorem dX10_worst_20 : decode cX10_worst 20 = .ok (.istore_n 1, 1) := by decide +kernel
theorem dX10_worst_21 : decode cX10_worst 21 = .ok (.iconst 1, 1) := by decide +kernel
theorem dX10_worst_22 : decode cX10_worst 22 = .ok (.istore_n 2, 1) := by decide +kernel
theorem dX10_worst_23 : decode cX10_worst 23 = .ok (.iload_n 2, 1) := by decide +kernel
theorem dX10_worst_24 : decode cX10_worst 24 = .ok (.aload_n 0, 1) := by decide +kernel
theorem dX10_worst_25 : decode cX10_worst 25 = .ok (.getfield 19, 3) := by decide +kernel
theorem dX10_worst_28 : decode cX10_worst 28 = .ok (.getfield 141, 3) := by decide +kernel
theorem dX10_worst_31 : decode cX10_worst 31 = .ok (.if_icmp .ge 30, 3) := by decide +kernel
theorem dX10_worst_34 : decode cX10_worst 34 = .ok (.aload_n 0, 1) := by decide +kernel
theorem dX10_worst_35 : decode cX10_worst 35 = .ok (.getfield 79, 3) := by decide +kernel
theorem dX10_worst_38 : decode cX10_worst 38 = .ok (.iload_n 2, 1) := by decide +kernel
theorem dX10_worst_39 : decode cX10_worst 39 = .ok (.invokevirtual 261, 3) := by decide +kernel
theorem dX10_worst_42 : decode cX10_worst 42 = .ok (.aload_n 0, 1) := by decide +kernel
theorem dX10_worst_43 : decode cX10_worst 43 = .ok (.getfield 79, 3) := by decide +kernel
theorem dX10_worst_46 : decode cX10_worst 46 = .ok (.iload_n 1, 1) := by decide +kernel
theorem dX10_worst_47 : decode cX10_worst 47 = .ok (.invokevirtual 261, 3) := by decide +kernel
theorem dX10_worst_50 : decode cX10_worst 50 = .ok (.if_icmp .le 5, 3) := by decide +kernel
theorem dX10_worst_53 : decode cX10_worst 53 = .ok (.iload_n 2, 1) := by decide +kernel
theorem dX10_worst_54 : decode cX10_worst 54 = .ok (.istore_n 1, 1) := by decide +kernel
theorem dX10_worst_55 : decode cX10_worst 55 = .ok (.iinc 2 1, 3) := by decide +kernel
theorem dX10_worst_58 : decode cX10_worst 58 = .ok (.goto (-35), 3) := by decide +kernel
theorem dX10_worst_61 : decode cX10_worst 61 = .ok (.iload_n 1, 1) := by decide +kernel
theorem dX10_worst_62 : decode cX10_worst 62 = .ok (.ireturn, 1) := by decide +kernel
theorem dX11_above_0 : decode cX11_above 0 = .ok (.aload_n 0, 1) := by decide +kernel
theorem dX11_above_1 : decode cX11_above 1 = .ok (.iconst 0, 1) := by decide +kernel
theorem dX11_above_2 : decode cX11_above 2 = .ok (.putfield 1, 3) := by decide +kernel
theorem dX11_above_5 : decode cX11_above 5 = .ok (.iconst 0, 1) := by decide +kernel
theorem dX11_above_6 : decode cX11_above 6 = .ok (.istore_n 3, 1) := by decide +kernel
theorem dX11_above_7 : decode cX11_above 7 = .ok (.iload_n 3, 1) := by decide +kernel
theorem dX11_above_8 : decode cX11_above 8 = .ok (.bipush 60, 2) := by decide +kernel
theorem dX11_above_10 : decode cX11_above 10 = .ok (.if_icmp .gt 42, 3) := by decide +kernel
theorem dX11_above_13 : decode cX11_above 13 = .ok (.aload_n 0, 1) := by decide +kernel
theorem dX11_above_14 : decode cX11_above 14 = .ok (.iload_n 1, 1) := by decide +kernel
theorem dX11_above_15 : decode cX11_above 15 = .ok (.invokevirtual 297, 3) := by decide +kernel
theorem dX11_above_18 : decode cX11_above 18 = .ok (.ifCond .eq 34, 3) := by decide +kernel
theorem dX11_above_21 : decode cX11_above 21 = .ok (.aload_n 0, 1) := by decide +kernel
theorem dX11_above_22 : decode cX11_above 22 = .ok (.iload_n 2, 1) := by decide +kernel
theorem dX11_above_23 : decode cX11_above 23 = .ok (.invokevirtual 297, 3) := by decide +kernel
theorem dX11_above_26 : decode cX11_above 26 = .ok (.ifCond .eq 26, 3) := by decide +kernel
theorem dX11_above_29 : decode cX11_above 29 = .ok (.aload_n 0, 1) := by decide +kernel
theorem dX11_above_30 : decode cX11_above 30 = .ok (.iload_n 1, 1) := by decide +kernel
theorem dX11_above_31 : decode cX11_above 31 = .ok (.iload_n 3, 1) := by decide +kernel
theorem dX11_above_32 : decode cX11_above 32 = .ok (.invokevirtual 294, 3) := by decide +kernel
theorem dX11_above_35 : decode cX11_above 35 = .ok (.aload_n 0, 1) := by decide +kernel
theorem dX11_above_36 : decode cX11_above 36 = .ok (.iload_n 2, 1) := by decide +kernel
theorem dX11_above_37 : decode cX11_above 37 = .ok (.iload_n 3, 1) := by decide +kernel
theorem dX11_above_38 : decode cX11_above 38 = .ok (.invokevirtual 294, 3) := by decide +kernel
theorem dX11_above_41 : decode cX11_above 41 = .ok (.if_icmp .le 5, 3) := by decide +kernel
theorem dX11_above_44 : decode cX11_above 44 = .ok (.iload_n 3, 1) := by decide +kernel
theorem dX11_above_45 : decode cX11_above 45 = .ok (.ireturn, 1) := by decide +kernel
theorem dX11_above_46 : decode cX11_above 46 = .ok (.iinc 3 1, 3) := by decide +kernel
theorem dX11_above_49 : decode cX11_above 49 = .ok (.goto (-42), 3) := by decide +kernel
theorem dX11_above_52 : decode cX11_above 52 = .ok (.iconst (-1), 1) := by decide +kernel
theorem dX11_above_53 : decode cX11_above 53 = .ok (.ireturn, 1) := by decide +kernel
theorem dX11_aheadOf_0 : decode cX11_aheadOf 0 = .ok (.iconst 0, 1) := by decide +kernel
theorem dX11_aheadOf_1 : decode cX11_aheadOf 1 = .ok (.istore_n 3, 1) := by decide +kernel
theorem dX11_aheadOf_2 : decode cX11_aheadOf 2 = .ok (.iconst 0, 1) := by decide +kernel
theorem dX11_aheadOf_3 : decode cX11_aheadOf 3 = .ok (.istore 4, 2) := by decide +kernel
theorem dX11_aheadOf_5 : decode cX11_aheadOf 5 = .ok (.iload 4, 2) := by decide +kernel
theorem dX11_aheadOf_7 : decode cX11_aheadOf 7 = .ok (.iload_n 2, 1) := by decide +kernel
theorem dX11_aheadOf_8 : decode cX11_aheadOf 8 = .ok (.if_icmp .ge 23, 3) := by decide +kernel
theorem dX11_aheadOf_11 : decode cX11_aheadOf 11 = .ok (.iload_n 3, 1) := by decide +kernel
theorem dX11_aheadOf_12 : decode cX11_aheadOf 12 = .ok (.aload_n 0, 1) := by decide +kernel
theorem dX11_aheadOf_13 : decode cX11_aheadOf 13 = .ok (.getfield 120, 3) := by decide +kernel
theorem dX11_aheadOf_16 : decode cX11_aheadOf 16 = .ok (.iconst 4, 1) := by decide +kernel
theorem dX11_aheadOf_17 : decode cX11_aheadOf 17 = .ok (.iload_n 1, 1) := by decide +kernel
theorem dX11_aheadOf_18 : decode cX11_aheadOf 18 = .ok (.imul, 1) := by decide +kernel
theorem dX11_aheadOf_19 : decode cX11_aheadOf 19 = .ok (.iload 4, 2) := by decide +kernel
theorem dX11_aheadOf_21 : decode cX11_aheadOf 21 = .ok (.iadd, 1) := by decide +kernel
theorem dX11_aheadOf_22 : decode cX11_aheadOf 22 = .ok (.iaload, 1) := by decide +kernel
theorem dX11_aheadOf_23 : decode cX11_aheadOf 23 = .ok (.iadd, 1) := by decide +kernel
theorem dX11_aheadOf_24 : decode cX11_aheadOf 24 = .ok (.istore_n 3, 1) := by decide +kernel
theorem dX11_aheadOf_25 : decode cX11_aheadOf 25 = .ok (.iinc 4 1, 3) := by decide +kernel
theorem dX11_aheadOf_28 : decode cX11_aheadOf 28 = .ok (.goto (-23), 3) := by decide +kernel
theorem dX11_aheadOf_31 : decode cX11_aheadOf 31 = .ok (.iload_n 3, 1) := by decide +kernel
theorem dX11_aheadOf_32 : decode cX11_aheadOf 32 = .ok (.ireturn, 1) := by decide +kernel
theorem dX11_arrives_0 : decode cX11_arrives 0 = .ok (.aload_n 0, 1) := by decide +kernel
theorem dX11_arrives_1 : decode cX11_arrives 1 = .ok (.iconst 0, 1) := by decide +kernel
theorem dX11_arrives_2 : decode cX11_arrives 2 = .ok (.putfield 1, 3) := by decide +kernel
theorem dX11_arrives_5 : decode cX11_arrives 5 = .ok (.aload_n 0, 1) := by decide +kernel
theorem dX11_arrives_6 : decode cX11_arrives 6 = .ok (.iload_n 1, 1) := by decide +kernel
theorem dX11_arrives_7 : decode cX11_arrives 7 = .ok (.iload_n 2, 1) := by decide +kernel
theorem dX11_arrives_8 : decode cX11_arrives 8 = .ok (.invokevirtual 352, 3) := by decide +kernel
theorem dX11_arrives_11 : decode cX11_arrives 11 = .ok (.ifCond .eq 30, 3) := by decide +kernel
theorem dX11_arrives_14 : decode cX11_arrives 14 = .ok (.iload_n 3, 1) := by decide +kernel
theorem dX11_arrives_15 : decode cX11_arrives 15 = .ok (.iconst 0, 1) := by decide +kernel
theorem dX11_arrives_16 : decode cX11_arrives 16 = .ok (.bipush 60, 2) := by decide +kernel
theorem dX11_arrives_18 : decode cX11_arrives 18 = .ok (.invokestatic 300, 3) := by decide +kernel
theorem dX11_arrives_21 : decode cX11_arrives 21 = .ok (.ifCond .eq 20, 3) := by decide +kernel
theorem dX11_arrives_24 : decode cX11_arrives 24 = .ok (.aload_n 0, 1) := by decide +kernel
theorem dX11_arrives_25 : decode cX11_arrives 25 = .ok (.invokevirtual 349, 3) := by decide +kernel
theorem dX11_arrives_28 : decode cX11_arrives 28 = .ok (.ifCond .le 13, 3) := by decide +kernel
theorem dX11_arrives_31 : decode cX11_arrives 31 = .ok (.aload_n 0, 1) := by decide +kernel
theorem dX11_arrives_32 : decode cX11_arrives 32 = .ok (.iload_n 1, 1) := by decide +kernel
theorem dX11_arrives_33 : decode cX11_arrives 33 = .ok (.iload_n 2, 1) := by decide +kernel
theorem dX11_arrives_34 : decode cX11_arrives 34 = .ok (.iload_n 3, 1) := by decide +kernel
theorem dX11_arrives_35 : decode cX11_arrives 35 = .ok (.invokevirtual 322, 3) := by decide +kernel
theorem dX11_arrives_38 : decode cX11_arrives 38 = .ok (.goto 4, 3) := by decide +kernel
theorem dX11_arrives_41 : decode cX11_arrives 41 = .ok (.iconst (-1), 1) := by decide +kernel
theorem dX11_arrives_42 : decode cX11_arrives 42 = .ok (.ireturn, 1) := by decide +kernel
theorem dX11_arrivesAt_0 : decode cX11_arrivesAt 0 = .ok (.aload_n 0, 1) := by decide +kernel
theorem dX11_arrivesAt_1 : decode cX11_arrivesAt 1 = .ok (.aload_n 0, 1) := by decide +kernel
theorem dX11_arrivesAt_2 : decode cX11_arrivesAt 2 = .ok (.iload_n 1, 1) := by decide +kernel
theorem dX11_arrivesAt_3 : decode cX11_arrivesAt 3 = .ok (.invokevirtual 316, 3) := by decide +kernel
theorem dX11_arrivesAt_6 : decode cX11_arrivesAt 6 = .ok (.iload_n 3, 1) := by decide +kernel
theorem dX11_arrivesAt_7 : decode cX11_arrivesAt 7 = .ok (.aload_n 0, 1) := by decide +kernel
theorem dX11_arrivesAt_8 : decode cX11_arrivesAt 8 = .ok (.iload_n 1, 1) := by decide +kernel
theorem dX11_arrivesAt_9 : decode cX11_arrivesAt 9 = .ok (.iload_n 2, 1) := by decide +kernel
theorem dX11_arrivesAt_10 : decode cX11_arrivesAt 10 = .ok (.invokevirtual 319, 3) := by decide +kernel
theorem dX11_arrivesAt_13 : decode cX11_arrivesAt 13 = .ok (.iadd, 1) := by decide +kernel
theorem dX11_arrivesAt_14 : decode cX11_arrivesAt 14 = .ok (.invokevirtual 294, 3) := by decide +kernel
theorem dX11_arrivesAt_17 : decode cX11_arrivesAt 17 = .ok (.ireturn, 1) := by decide +kernel
theorem dX11_arrivesOf_0 : decode cX11_arrivesOf 0 = .ok (.iconst 0, 1) := by decide +kernel
theorem dX11_arrivesOf_1 : decode cX11_arrivesOf 1 = .ok (.istore 4, 2) := by decide +kernel
theorem dX11_arrivesOf_3 : decode cX11_arrivesOf 3 = .ok (.iconst 0, 1) := by decide +kernel
theorem dX11_arrivesOf_4 : decode cX11_arrivesOf 4 = .ok (.istore 5, 2) := by decide +kernel
theorem dX11_arrivesOf_6 : decode cX11_arrivesOf 6 = .ok (.iload 5, 2) := by decide +kernel
theorem dX11_arrivesOf_8 : decode cX11_arrivesOf 8 = .ok (.aload_n 0, 1) := by decide +kernel
theorem dX11_arrivesOf_9 : decode cX11_arrivesOf 9 = .ok (.invokevirtual 245, 3) := by decide +kernel
theorem dX11_arrivesOf_12 : decode cX11_arrivesOf 12 = .ok (.if_icmp .ge 42, 3) := by decide +kernel
theorem dX11_arrivesOf_15 : decode cX11_arrivesOf 15 = .ok (.iload 4, 2) := by decide +kernel
theorem dX11_arrivesOf_17 : decode cX11_arrivesOf 17 = .ok (.iload_n 2, 1) := by decide +kernel
theorem dX11_arrivesOf_18 : decode cX11_arrivesOf 18 = .ok (.iload 5, 2) := by decide +kernel
theorem dX11_arrivesOf_20 : decode cX11_arrivesOf 20 = .ok (.ishr, 1) := by decide +kernel
theorem dX11_arrivesOf_21 : decode cX11_arrivesOf 21 = .ok (.iconst 1, 1) := by decide +kernel
theorem dX11_arrivesOf_22 : decode cX11_arrivesOf 22 = .ok (.iand, 1) := by decide +kernel
theorem dX11_arrivesOf_23 : decode cX11_arrivesOf 23 = .ok (.iconst 1, 1) := by decide +kernel
theorem dX11_arrivesOf_24 : decode cX11_arrivesOf 24 = .ok (.if_icmp .ne 20, 3) := by decide +kernel
theorem dX11_arrivesOf_27 : decode cX11_arrivesOf 27 = .ok (.aload_n 0, 1) := by decide +kernel
theorem dX11_arrivesOf_28 : decode cX11_arrivesOf 28 = .ok (.iload 5, 2) := by decide +kernel
theorem dX11_arrivesOf_30 : decode cX11_arrivesOf 30 = .ok (.aload_n 0, 1) := by decide +kernel
theorem dX11_arrivesOf_31 : decode cX11_arrivesOf 31 = .ok (.iload 5, 2) := by decide +kernel
theorem dX11_arrivesOf_33 : decode cX11_arrivesOf 33 = .ok (.iload_n 1, 1) := by decide +kernel
theorem dX11_arrivesOf_34 : decode cX11_arrivesOf 34 = .ok (.invokevirtual 291, 3) := by decide +kernel
theorem dX11_arrivesOf_37 : decode cX11_arrivesOf 37 = .ok (.iload_n 3, 1) := by decide +kernel
theorem dX11_arrivesOf_38 : decode cX11_arrivesOf 38 = .ok (.invokevirtual 322, 3) := by decide +kernel
theorem dX11_arrivesOf_41 : decode cX11_arrivesOf 41 = .ok (.goto 4, 3) := by decide +kernel
theorem dX11_arrivesOf_44 : decode cX11_arrivesOf 44 = .ok (.iconst 0, 1) := by decide +kernel
theorem dX11_arrivesOf_45 : decode cX11_arrivesOf 45 = .ok (.iadd, 1) := by decide +kernel
theorem dX11_arrivesOf_46 : decode cX11_arrivesOf 46 = .ok (.istore 4, 2) := by decide +kernel
theorem dX11_arrivesOf_48 : decode cX11_arrivesOf 48 = .ok (.iinc 5 1, 3) := by decide +kernel
theorem dX11_arrivesOf_51 : decode cX11_arrivesOf 51 = .ok (.goto (-45), 3) := by decide +kernel
theorem dX11_arrivesOf_54 : decode cX11_arrivesOf 54 = .ok (.iload 4, 2) := by decide +kernel
theorem dX11_arrivesOf_56 : decode cX11_arrivesOf 56 = .ok (.ireturn, 1) := by decide +kernel
theorem dX11_begins_0 : decode cX11_begins 0 = .ok (.aload_n 0, 1) := by decide +kernel
theorem dX11_begins_1 : decode cX11_begins 1 = .ok (.iconst 0, 1) := by decide +kernel
theorem dX11_begins_2 : decode cX11_begins 2 = .ok (.invokevirtual 267, 3) := by decide +kernel
theorem dX11_begins_5 : decode cX11_begins 5 = .ok (.aload_n 0, 1) := by decide +kernel
theorem dX11_begins_6 : decode cX11_begins 6 = .ok (.getfield 101, 3) := by decide +kernel
theorem dX11_begins_9 : decode cX11_begins 9 = .ok (.sipush 382, 3) := by decide +kernel
theorem dX11_begins_12 : decode cX11_begins 12 = .ok (.iconst 0, 1) := by decide +kernel
theorem dX11_begins_13 : decode cX11_begins 13 = .ok (.iastore, 1) := by decide +kernel
theorem dX11_begins_14 : decode cX11_begins 14 = .ok (.aload_n 0, 1) := by decide +kernel
theorem dX11_begins_15 : decode cX11_begins 15 = .ok (.getfield 92, 3) := by decide +kernel
theorem dX11_begins_18 : decode cX11_begins 18 = .ok (.iconst 0, 1) := by decide +kernel
theorem dX11_begins_19 : decode cX11_begins 19 = .ok (.iconst 0, 1) := by decide +kernel
theorem dX11_begins_20 : decode cX11_begins 20 = .ok (.iastore, 1) := by decide +kernel
theorem dX11_begins_21 : decode cX11_begins 21 = .ok (.aload_n 0, 1) := by decide +kernel
theorem dX11_begins_22 : decode cX11_begins 22 = .ok (.iconst (-1), 1) := by decide +kernel
theorem dX11_begins_23 : decode cX11_begins 23 = .ok (.putfield 270, 3) := by decide +kernel
theorem dX11_begins_26 : decode cX11_begins 26 = .ok (.aload_n 0, 1) := by decide +kernel
theorem dX11_begins_27 : decode cX11_begins 27 = .ok (.getfield 104, 3) := by decide +kernel
theorem dX11_begins_30 : decode cX11_begins 30 = .ok (.iconst 0, 1) := by decide +kernel
theorem dX11_begins_31 : decode cX11_begins 31 = .ok (.iconst 0, 1) := by decide +kernel
theorem dX11_begins_32 : decode cX11_begins 32 = .ok (.bastore, 1) := by decide +kernel
theorem dX11_begins_33 : decode cX11_begins 33 = .ok (.aload_n 0, 1) := by decide +kernel
theorem dX11_begins_34 : decode cX11_begins 34 = .ok (.getfield 104, 3) := by decide +kernel
theorem dX11_begins_37 : decode cX11_begins 37 = .ok (.iconst 1, 1) := by decide +kernel
theorem dX11_begins_38 : decode cX11_begins 38 = .ok (.iconst 0, 1) := by decide +kernel
theorem dX11_begins_39 : decode cX11_begins 39 = .ok (.bastore, 1) := by decide +kernel
theorem dX11_begins_40 : decode cX11_begins 40 = .ok (.return_, 1) := by decide +kernel
theorem dX11_behind_0 : decode cX11_behind 0 = .ok (.aload_n 0, 1) := by decide +kernel
theorem dX11_behind_1 : decode cX11_behind 1 = .ok (.aload_n 0, 1) := by decide +kernel
theorem dX11_behind_2 : decode cX11_behind 2 = .ok (.iload_n 1, 1) := by decide +kernel
theorem dX11_behind_3 : decode cX11_behind 3 = .ok (.invokevirtual 297, 3) := by decide +kernel
theorem dX11_behind_6 : decode cX11_behind 6 = .ok (.ifCond .eq 15, 3) := by decide +kernel
theorem dX11_behind_9 : decode cX11_behind 9 = .ok (.aload_n 0, 1) := by decide +kernel
theorem dX11_behind_10 : decode cX11_behind 10 = .ok (.iload_n 2, 1) := by decide +kernel
theorem dX11_behind_11 : decode cX11_behind 11 = .ok (.invokevirtual 297, 3) := by decide +kernel
theorem dX11_behind_14 : decode cX11_behind 14 = .ok (.ifCond .eq 7, 3) := by decide +kernel
theorem dX11_behind_17 : decode cX11_behind 17 = .ok (.iconst 0, 1) := by decide +kernel
theorem dX11_behind_18 : decode cX11_behind 18 = .ok (.goto 4, 3) := by decide +kernel
theorem dX11_behind_21 : decode cX11_behind 21 = .ok (.iconst 1, 1) := by decide +kernel
theorem dX11_behind_22 : decode cX11_behind 22 = .ok (.putfield 1, 3) := by decide +kernel
theorem dX11_behind_25 : decode cX11_behind 25 = .ok (.aload_n 0, 1) := by decide +kernel
theorem dX11_behind_26 : decode cX11_behind 26 = .ok (.getfield 1, 3) := by decide +kernel
theorem dX11_behind_29 : decode cX11_behind 29 = .ok (.ifCond .le 5, 3) := by decide +kernel
theorem dX11_behind_32 : decode cX11_behind 32 = .ok (.iconst 0, 1) := by decide +kernel
theorem dX11_behind_33 : decode cX11_behind 33 = .ok (.ireturn, 1) := by decide +kernel
theorem dX11_behind_34 : decode cX11_behind 34 = .ok (.aload_n 0, 1) := by decide +kernel
theorem dX11_behind_35 : decode cX11_behind 35 = .ok (.iload_n 1, 1) := by decide +kernel
theorem dX11_behind_36 : decode cX11_behind 36 = .ok (.iload_n 2, 1) := by decide +kernel
theorem dX11_behind_37 : decode cX11_behind 37 = .ok (.invokevirtual 307, 3) := by decide +kernel
theorem dX11_behind_40 : decode cX11_behind 40 = .ok (.aload_n 0, 1) := by decide +kernel
theorem dX11_behind_41 : decode cX11_behind 41 = .ok (.invokevirtual 313, 3) := by decide +kernel
theorem dX11_behind_44 : decode cX11_behind 44 = .ok (.ireturn, 1) := by decide +kernel
theorem dX11_behindness_0 : decode cX11_behindness 0 = .ok (.aload_n 0, 1) := by decide +kernel
theorem dX11_behindness_1 : decode cX11_behindness 1 = .ok (.getfield 111, 3) := by decide +kernel
theorem dX11_behindness_4 : decode cX11_behindness 4 = .ok (.iconst 0, 1) := by decide +kernel
theorem dX11_behindness_5 : decode cX11_behindness 5 = .ok (.iaload, 1) := by decide +kernel
theorem dX11_behindness_6 : decode cX11_behindness 6 = .ok (.aload_n 0, 1) := by decide +kernel
theorem dX11_behindness_7 : decode cX11_behindness 7 = .ok (.getfield 114, 3) := by decide +kernel
theorem dX11_behindness_10 : decode cX11_behindness 10 = .ok (.iconst 0, 1) := by decide +kernel
theorem dX11_behindness_11 : decode cX11_behindness 11 = .ok (.iaload, 1) := by decide +kernel
theorem dX11_behindness_12 : decode cX11_behindness 12 = .ok (.isub, 1) := by decide +kernel
theorem dX11_behindness_13 : decode cX11_behindness 13 = .ok (.istore_n 1, 1) := by decide +kernel
theorem dX11_behindness_14 : decode cX11_behindness 14 = .ok (.iconst 1, 1) := by decide +kernel
theorem dX11_behindness_15 : decode cX11_behindness 15 = .ok (.istore_n 2, 1) := by decide +kernel
theorem dX11_behindness_16 : decode cX11_behindness 16 = .ok (.iload_n 2, 1) := by decide +kernel
theorem dX11_behindness_17 : decode cX11_behindness 17 = .ok (.bipush 60, 2) := by decide +kernel
theorem dX11_behindness_19 : decode cX11_behindness 19 = .ok (.if_icmp .gt 44, 3) := by decide +kernel
theorem dX11_behindness_22 : decode cX11_behindness 22 = .ok (.aload_n 0, 1) := by decide +kernel
theorem dX11_behindness_23 : decode cX11_behindness 23 = .ok (.getfield 111, 3) := by decide +kernel
theorem dX11_behindness_26 : decode cX11_behindness 26 = .ok (.iload_n 2, 1) := by decide +kernel
theorem dX11_behindness_27 : decode cX11_behindness 27 = .ok (.iaload, 1) := by decide +kernel
theorem dX11_behindness_28 : decode cX11_behindness 28 = .ok (.aload_n 0, 1) := by decide +kernel
theorem dX11_behindness_29 : decode cX11_behindness 29 = .ok (.getfield 114, 3) := by decide +kernel
theorem dX11_behindness_32 : decode cX11_behindness 32 = .ok (.iload_n 2, 1) := by decide +kernel
theorem dX11_behindness_33 : decode cX11_behindness 33 = .ok (.iaload, 1) := by decide +kernel
theorem dX11_behindness_34 : decode cX11_behindness 34 = .ok (.isub, 1) := by decide +kernel
theorem dX11_behindness_35 : decode cX11_behindness 35 = .ok (.iload_n 1, 1) := by decide +kernel
theorem dX11_behindness_36 : decode cX11_behindness 36 = .ok (.if_icmp .le 19, 3) := by decide +kernel
theorem dX11_behindness_39 : decode cX11_behindness 39 = .ok (.aload_n 0, 1) := by decide +kernel
theorem dX11_behindness_40 : decode cX11_behindness 40 = .ok (.getfield 111, 3) := by decide +kernel
theorem dX11_behindness_43 : decode cX11_behindness 43 = .ok (.iload_n 2, 1) := by decide +kernel
theorem dX11_behindness_44 : decode cX11_behindness 44 = .ok (.iaload, 1) := by decide +kernel
theorem dX11_behindness_45 : decode cX11_behindness 45 = .ok (.aload_n 0, 1) := by decide +kernel
theorem dX11_behindness_46 : decode cX11_behindness 46 = .ok (.getfield 114, 3) := by decide +kernel
theorem dX11_behindness_49 : decode cX11_behindness 49 = .ok (.iload_n 2, 1) := by decide +kernel
theorem dX11_behindness_50 : decode cX11_behindness 50 = .ok (.iaload, 1) := by decide +kernel
theorem dX11_behindness_51 : decode cX11_behindness 51 = .ok (.isub, 1) := by decide +kernel
theorem dX11_behindness_52 : decode cX11_behindness 52 = .ok (.goto 4, 3) := by decide +kernel
theorem dX11_behindness_55 : decode cX11_behindness 55 = .ok (.iload_n 1, 1) := by decide +kernel
theorem dX11_behindness_56 : decode cX11_behindness 56 = .ok (.istore_n 1, 1) := by decide +kernel
theorem dX11_behindness_57 : decode cX11_behindness 57 = .ok (.iinc 2 1, 3) := by decide +kernel
theorem dX11_behindness_60 : decode cX11_behindness 60 = .ok (.goto (-44), 3) := by decide +kernel
theorem dX11_behindness_63 : decode cX11_behindness 63 = .ok (.iload_n 1, 1) := by decide +kernel
theorem dX11_behindness_64 : decode cX11_behindness 64 = .ok (.ireturn, 1) := by decide +kernel
theorem dX11_bendsOf_0 : decode cX11_bendsOf 0 = .ok (.iconst 1, 1) := by decide +kernel
theorem dX11_bendsOf_1 : decode cX11_bendsOf 1 = .ok (.istore_n 2, 1) := by decide +kernel
theorem dX11_bendsOf_2 : decode cX11_bendsOf 2 = .ok (.iconst 1, 1) := by decide +kernel
theorem dX11_bendsOf_3 : decode cX11_bendsOf 3 = .ok (.istore_n 3, 1) := by decide +kernel
theorem dX11_bendsOf_4 : decode cX11_bendsOf 4 = .ok (.iconst 0, 1) := by decide +kernel
theorem dX11_bendsOf_5 : decode cX11_bendsOf 5 = .ok (.istore 4, 2) := by decide +kernel
theorem dX11_bendsOf_7 : decode cX11_bendsOf 7 = .ok (.iload 4, 2) := by decide +kernel
theorem dX11_bendsOf_9 : decode cX11_bendsOf 9 = .ok (.bipush 60, 2) := by decide +kernel
theorem dX11_bendsOf_11 : decode cX11_bendsOf 11 = .ok (.if_icmp .ge 83, 3) := by decide +kernel
theorem dX11_bendsOf_14 : decode cX11_bendsOf 14 = .ok (.aload_n 0, 1) := by decide +kernel
theorem dX11_bendsOf_15 : decode cX11_bendsOf 15 = .ok (.iload_n 1, 1) := by decide +kernel
theorem dX11_bendsOf_16 : decode cX11_bendsOf 16 = .ok (.iload 4, 2) := by decide +kernel
theorem dX11_bendsOf_18 : decode cX11_bendsOf 18 = .ok (.iconst 1, 1) := by decide +kernel
theorem dX11_bendsOf_19 : decode cX11_bendsOf 19 = .ok (.iadd, 1) := by decide +kernel
theorem dX11_bendsOf_20 : decode cX11_bendsOf 20 = .ok (.invokevirtual 294, 3) := by decide +kernel
theorem dX11_bendsOf_23 : decode cX11_bendsOf 23 = .ok (.aload_n 0, 1) := by decide +kernel
theorem dX11_bendsOf_24 : decode cX11_bendsOf 24 = .ok (.iload_n 1, 1) := by decide +kernel
theorem dX11_bendsOf_25 : decode cX11_bendsOf 25 = .ok (.iload 4, 2) := by decide +kernel
theorem dX11_bendsOf_27 : decode cX11_bendsOf 27 = .ok (.invokevirtual 294, 3) := by decide +kernel
theorem dX11_bendsOf_30 : decode cX11_bendsOf 30 = .ok (.isub, 1) := by decide +kernel
theorem dX11_bendsOf_31 : decode cX11_bendsOf 31 = .ok (.istore 5, 2) := by decide +kernel
theorem dX11_bendsOf_33 : decode cX11_bendsOf 33 = .ok (.aload_n 0, 1) := by decide +kernel
theorem dX11_bendsOf_34 : decode cX11_bendsOf 34 = .ok (.iload_n 1, 1) := by decide +kernel
theorem dX11_bendsOf_35 : decode cX11_bendsOf 35 = .ok (.iload 4, 2) := by decide +kernel
theorem dX11_bendsOf_37 : decode cX11_bendsOf 37 = .ok (.iconst 2, 1) := by decide +kernel
theorem dX11_bendsOf_38 : decode cX11_bendsOf 38 = .ok (.iadd, 1) := by decide +kernel
theorem dX11_bendsOf_39 : decode cX11_bendsOf 39 = .ok (.invokevirtual 294, 3) := by decide +kernel
theorem dX11_bendsOf_42 : decode cX11_bendsOf 42 = .ok (.aload_n 0, 1) := by decide +kernel
theorem dX11_bendsOf_43 : decode cX11_bendsOf 43 = .ok (.iload_n 1, 1) := by decide +kernel
theorem dX11_bendsOf_44 : decode cX11_bendsOf 44 = .ok (.iload 4, 2) := by decide +kernel
theorem dX11_bendsOf_46 : decode cX11_bendsOf 46 = .ok (.iconst 1, 1) := by decide +kernel
theorem dX11_bendsOf_47 : decode cX11_bendsOf 47 = .ok (.iadd, 1) := by decide +kernel
theorem dX11_bendsOf_48 : decode cX11_bendsOf 48 = .ok (.invokevirtual 294, 3) := by decide +kernel
theorem dX11_bendsOf_51 : decode cX11_bendsOf 51 = .ok (.isub, 1) := by decide +kernel
theorem dX11_bendsOf_52 : decode cX11_bendsOf 52 = .ok (.istore 6, 2) := by decide +kernel
theorem dX11_bendsOf_54 : decode cX11_bendsOf 54 = .ok (.iload_n 2, 1) := by decide +kernel
theorem dX11_bendsOf_55 : decode cX11_bendsOf 55 = .ok (.ifCond .eq 14, 3) := by decide +kernel
theorem dX11_bendsOf_58 : decode cX11_bendsOf 58 = .ok (.iload 6, 2) := by decide +kernel
theorem dX11_bendsOf_60 : decode cX11_bendsOf 60 = .ok (.iload 5, 2) := by decide +kernel
theorem dX11_bendsOf_62 : decode cX11_bendsOf 62 = .ok (.if_icmp .gt 7, 3) := by decide +kernel
theorem dX11_bendsOf_65 : decode cX11_bendsOf 65 = .ok (.iconst 1, 1) := by decide +kernel
theorem dX11_bendsOf_66 : decode cX11_bendsOf 66 = .ok (.goto 4, 3) := by decide +kernel
theorem dX11_bendsOf_69 : decode cX11_bendsOf 69 = .ok (.iconst 0, 1) := by decide +kernel
theorem dX11_bendsOf_70 : decode cX11_bendsOf 70 = .ok (.istore_n 2, 1) := by decide +kernel
theorem dX11_bendsOf_71 : decode cX11_bendsOf 71 = .ok (.iload_n 3, 1) := by decide +kernel
theorem dX11_bendsOf_72 : decode cX11_bendsOf 72 = .ok (.ifCond .eq 14, 3) := by decide +kernel
theorem dX11_bendsOf_75 : decode cX11_bendsOf 75 = .ok (.iload 6, 2) := by decide +kernel
theorem dX11_bendsOf_77 : decode cX11_bendsOf 77 = .ok (.iload 5, 2) := by decide +kernel
theorem dX11_bendsOf_79 : decode cX11_bendsOf 79 = .ok (.if_icmp .lt 7, 3) := by decide +kernel
theorem dX11_bendsOf_82 : decode cX11_bendsOf 82 = .ok (.iconst 1, 1) := by decide +kernel
theorem dX11_bendsOf_83 : decode cX11_bendsOf 83 = .ok (.goto 4, 3) := by decide +kernel
theorem dX11_bendsOf_86 : decode cX11_bendsOf 86 = .ok (.iconst 0, 1) := by decide +kernel
theorem dX11_bendsOf_87 : decode cX11_bendsOf 87 = .ok (.istore_n 3, 1) := by decide +kernel
theorem dX11_bendsOf_88 : decode cX11_bendsOf 88 = .ok (.iinc 4 1, 3) := by decide +kernel
theorem dX11_bendsOf_91 : decode cX11_bendsOf 91 = .ok (.goto (-84), 3) := by decide +kernel
theorem dX11_bendsOf_94 : decode cX11_bendsOf 94 = .ok (.iload_n 2, 1) := by decide +kernel
theorem dX11_bendsOf_95 : decode cX11_bendsOf 95 = .ok (.ifCond .eq 7, 3) := by decide +kernel
theorem dX11_bendsOf_98 : decode cX11_bendsOf 98 = .ok (.iconst 1, 1) := by decide +kernel
theorem dX11_bendsOf_99 : decode cX11_bendsOf 99 = .ok (.goto 4, 3) := by decide +kernel
theorem dX11_bendsOf_102 : decode cX11_bendsOf 102 = .ok (.iconst 0, 1) := by decide +kernel
theorem dX11_bendsOf_103 : decode cX11_bendsOf 103 = .ok (.iload_n 3, 1) := by decide +kernel
theorem dX11_bendsOf_104 : decode cX11_bendsOf 104 = .ok (.ifCond .eq 7, 3) := by decide +kernel
theorem dX11_bendsOf_107 : decode cX11_bendsOf 107 = .ok (.iconst 2, 1) := by decide +kernel
theorem dX11_bendsOf_108 : decode cX11_bendsOf 108 = .ok (.goto 4, 3) := by decide +kernel
theorem dX11_bendsOf_111 : decode cX11_bendsOf 111 = .ok (.iconst 0, 1) := by decide +kernel
theorem dX11_bendsOf_112 : decode cX11_bendsOf 112 = .ok (.iadd, 1) := by decide +kernel
theorem dX11_bendsOf_113 : decode cX11_bendsOf 113 = .ok (.ireturn, 1) := by decide +kernel
theorem dX11_bits_0 : decode cX11_bits 0 = .ok (.iconst 0, 1) := by decide +kernel
theorem dX11_bits_1 : decode cX11_bits 1 = .ok (.istore_n 1, 1) := by decide +kernel
theorem dX11_bits_2 : decode cX11_bits 2 = .ok (.iconst 0, 1) := by decide +kernel
theorem dX11_bits_3 : decode cX11_bits 3 = .ok (.istore_n 2, 1) := by decide +kernel
theorem dX11_bits_4 : decode cX11_bits 4 = .ok (.iload_n 2, 1) := by decide +kernel
theorem dX11_bits_5 : decode cX11_bits 5 = .ok (.bipush 30, 2) := by decide +kernel
theorem dX11_bits_7 : decode cX11_bits 7 = .ok (.if_icmp .ge 17, 3) := by decide +kernel
theorem dX11_bits_10 : decode cX11_bits 10 = .ok (.iload_n 1, 1) := by decide +kernel
theorem dX11_bits_11 : decode cX11_bits 11 = .ok (.iload_n 0, 1) := by decide +kernel
theorem dX11_bits_12 : decode cX11_bits 12 = .ok (.iload_n 2, 1) := by decide +kernel
theorem dX11_bits_13 : decode cX11_bits 13 = .ok (.ishr, 1) := by decide +kernel
theorem dX11_bits_14 : decode cX11_bits 14 = .ok (.iconst 1, 1) := by decide +kernel
theorem dX11_bits_15 : decode cX11_bits 15 = .ok (.iand, 1) := by decide +kernel
theorem dX11_bits_16 : decode cX11_bits 16 = .ok (.iadd, 1) := by decide +kernel
theorem dX11_bits_17 : decode cX11_bits 17 = .ok (.istore_n 1, 1) := by decide +kernel
theorem dX11_bits_18 : decode cX11_bits 18 = .ok (.iinc 2 1, 3) := by decide +kernel
theorem dX11_bits_21 : decode cX11_bits 21 = .ok (.goto (-17), 3) := by decide +kernel
theorem dX11_bits_24 : decode cX11_bits 24 = .ok (.iload_n 1, 1) := by decide +kernel
theorem dX11_bits_25 : decode cX11_bits 25 = .ok (.ireturn, 1) := by decide +kernel
theorem dX11_comes_0 : decode cX11_comes 0 = .ok (.aload_n 0, 1) := by decide +kernel
theorem dX11_comes_1 : decode cX11_comes 1 = .ok (.iconst 0, 1) := by decide +kernel
theorem dX11_comes_2 : decode cX11_comes 2 = .ok (.putfield 1, 3) := by decide +kernel
theorem dX11_comes_5 : decode cX11_comes 5 = .ok (.aload_n 0, 1) := by decide +kernel
theorem dX11_comes_6 : decode cX11_comes 6 = .ok (.iload_n 1, 1) := by decide +kernel
theorem dX11_comes_7 : decode cX11_comes 7 = .ok (.invokevirtual 363, 3) := by decide +kernel
theorem dX11_comes_10 : decode cX11_comes 10 = .ok (.ifCond .eq 34, 3) := by decide +kernel
theorem dX11_comes_13 : decode cX11_comes 13 = .ok (.iload_n 2, 1) := by decide +kernel
theorem dX11_comes_14 : decode cX11_comes 14 = .ok (.iconst 0, 1) := by decide +kernel
theorem dX11_comes_15 : decode cX11_comes 15 = .ok (.bipush 60, 2) := by decide +kernel
theorem dX11_comes_17 : decode cX11_comes 17 = .ok (.invokestatic 300, 3) := by decide +kernel
theorem dX11_comes_20 : decode cX11_comes 20 = .ok (.ifCond .eq 24, 3) := by decide +kernel
theorem dX11_comes_23 : decode cX11_comes 23 = .ok (.aload_n 0, 1) := by decide +kernel
theorem dX11_comes_24 : decode cX11_comes 24 = .ok (.invokevirtual 349, 3) := by decide +kernel
theorem dX11_comes_27 : decode cX11_comes 27 = .ok (.ifCond .le 17, 3) := by decide +kernel
theorem dX11_comes_30 : decode cX11_comes 30 = .ok (.aload_n 0, 1) := by decide +kernel
theorem dX11_comes_31 : decode cX11_comes 31 = .ok (.iload_n 1, 1) := by decide +kernel
theorem dX11_comes_32 : decode cX11_comes 32 = .ok (.aload_n 0, 1) := by decide +kernel
theorem dX11_comes_33 : decode cX11_comes 33 = .ok (.iload_n 1, 1) := by decide +kernel
theorem dX11_comes_34 : decode cX11_comes 34 = .ok (.invokevirtual 325, 3) := by decide +kernel
theorem dX11_comes_37 : decode cX11_comes 37 = .ok (.iload_n 2, 1) := by decide +kernel
theorem dX11_comes_38 : decode cX11_comes 38 = .ok (.invokevirtual 337, 3) := by decide +kernel
theorem dX11_comes_41 : decode cX11_comes 41 = .ok (.goto 4, 3) := by decide +kernel
theorem dX11_comes_44 : decode cX11_comes 44 = .ok (.iconst (-1), 1) := by decide +kernel
theorem dX11_comes_45 : decode cX11_comes 45 = .ok (.ireturn, 1) := by decide +kernel
theorem dX11_count_0 : decode cX11_count 0 = .ok (.aload_n 0, 1) := by decide +kernel
theorem dX11_count_1 : decode cX11_count 1 = .ok (.iconst 0, 1) := by decide +kernel
theorem dX11_count_2 : decode cX11_count 2 = .ok (.putfield 1, 3) := by decide +kernel
theorem dX11_count_5 : decode cX11_count 5 = .ok (.iload_n 1, 1) := by decide +kernel
theorem dX11_count_6 : decode cX11_count 6 = .ok (.tableswitch 119 0 9 #[54, 59, 64, 69, 76, 83, 90, 98, 105, 114], 54) := by decide +kernel
theorem dX11_count_60 : decode cX11_count 60 = .ok (.aload_n 0, 1) := by decide +kernel
theorem dX11_count_61 : decode cX11_count 61 = .ok (.invokevirtual 273, 3) := by decide +kernel
theorem dX11_count_64 : decode cX11_count 64 = .ok (.ireturn, 1) := by decide +kernel
theorem dX11_count_65 : decode cX11_count 65 = .ok (.aload_n 0, 1) := by decide +kernel
theorem dX11_count_66 : decode cX11_count 66 = .ok (.invokevirtual 276, 3) := by decide +kernel
theorem dX11_count_69 : decode cX11_count 69 = .ok (.ireturn, 1) := by decide +kernel
theorem dX11_count_70 : decode cX11_count 70 = .ok (.aload_n 0, 1) := by decide +kernel
theorem dX11_count_71 : decode cX11_count 71 = .ok (.invokevirtual 245, 3) := by decide +kernel
theorem dX11_count_74 : decode cX11_count 74 = .ok (.ireturn, 1) := by decide +kernel
theorem dX11_count_75 : decode cX11_count 75 = .ok (.aload_n 0, 1) := by decide +kernel
theorem dX11_count_76 : decode cX11_count 76 = .ok (.getfield 101, 3) := by decide +kernel
theorem dX11_count_79 : decode cX11_count 79 = .ok (.iconst 0, 1) := by decide +kernel
theorem dX11_count_80 : decode cX11_count 80 = .ok (.iaload, 1) := by decide +kernel
theorem dX11_count_81 : decode cX11_count 81 = .ok (.ireturn, 1) := by decide +kernel
theorem dX11_count_82 : decode cX11_count 82 = .ok (.aload_n 0, 1) := by decide +kernel
theorem dX11_count_83 : decode cX11_count 83 = .ok (.getfield 101, 3) := by decide +kernel
theorem dX11_count_86 : decode cX11_count 86 = .ok (.iconst 1, 1) := by decide +kernel
theorem dX11_count_87 : decode cX11_count 87 = .ok (.iaload, 1) := by decide +kernel
theorem dX11_count_88 : decode cX11_count 88 = .ok (.ireturn, 1) := by decide +kernel
theorem dX11_count_89 : decode cX11_count 89 = .ok (.aload_n 0, 1) := by decide +kernel
theorem dX11_count_90 : decode cX11_count 90 = .ok (.bipush 126, 2) := by decide +kernel
theorem dX11_count_92 : decode cX11_count 92 = .ok (.invokevirtual 419, 3) := by decide +kernel
theorem dX11_count_95 : decode cX11_count 95 = .ok (.ireturn, 1) := by decide +kernel
theorem dX11_count_96 : decode cX11_count 96 = .ok (.aload_n 0, 1) := by decide +kernel
theorem dX11_count_97 : decode cX11_count 97 = .ok (.sipush 130, 3) := by decide +kernel
theorem dX11_count_100 : decode cX11_count 100 = .ok (.invokevirtual 419, 3) := by decide +kernel
theorem dX11_count_103 : decode cX11_count 103 = .ok (.ireturn, 1) := by decide +kernel
theorem dX11_count_104 : decode cX11_count 104 = .ok (.aload_n 0, 1) := by decide +kernel
theorem dX11_count_105 : decode cX11_count 105 = .ok (.getfield 92, 3) := by decide +kernel
theorem dX11_count_108 : decode cX11_count 108 = .ok (.iconst 0, 1) := by decide +kernel
theorem dX11_count_109 : decode cX11_count 109 = .ok (.iaload, 1) := by decide +kernel
theorem dX11_count_110 : decode cX11_count 110 = .ok (.ireturn, 1) := by decide +kernel
theorem dX11_count_111 : decode cX11_count 111 = .ok (.aload_n 0, 1) := by decide +kernel
theorem dX11_count_112 : decode cX11_count 112 = .ok (.getfield 101, 3) := by decide +kernel
theorem dX11_count_115 : decode cX11_count 115 = .ok (.sipush 382, 3) := by decide +kernel
theorem dX11_count_118 : decode cX11_count 118 = .ok (.iaload, 1) := by decide +kernel
theorem dX11_count_119 : decode cX11_count 119 = .ok (.ireturn, 1) := by decide +kernel
theorem dX11_count_120 : decode cX11_count 120 = .ok (.aload_n 0, 1) := by decide +kernel
theorem dX11_count_121 : decode cX11_count 121 = .ok (.getfield 11, 3) := by decide +kernel
theorem dX11_count_124 : decode cX11_count 124 = .ok (.ireturn, 1) := by decide +kernel
theorem dX11_count_125 : decode cX11_count 125 = .ok (.iconst (-1), 1) := by decide +kernel
theorem dX11_count_126 : decode cX11_count 126 = .ok (.ireturn, 1) := by decide +kernel
theorem dX11_curve_0 : decode cX11_curve 0 = .ok (.aload_n 0, 1) := by decide +kernel
theorem dX11_curve_1 : decode cX11_curve 1 = .ok (.iconst 0, 1) := by decide +kernel
theorem dX11_curve_2 : decode cX11_curve 2 = .ok (.putfield 1, 3) := by decide +kernel
theorem dX11_curve_5 : decode cX11_curve 5 = .ok (.aload_n 0, 1) := by decide +kernel
theorem dX11_curve_6 : decode cX11_curve 6 = .ok (.iload_n 1, 1) := by decide +kernel
theorem dX11_curve_7 : decode cX11_curve 7 = .ok (.invokevirtual 297, 3) := by decide +kernel
theorem dX11_curve_10 : decode cX11_curve 10 = .ok (.ifCond .eq 12, 3) := by decide +kernel
theorem dX11_curve_13 : decode cX11_curve 13 = .ok (.iload_n 2, 1) := by decide +kernel
theorem dX11_curve_14 : decode cX11_curve 14 = .ok (.iconst 0, 1) := by decide +kernel
theorem dX11_curve_15 : decode cX11_curve 15 = .ok (.iconst 4, 1) := by decide +kernel
theorem dX11_curve_16 : decode cX11_curve 16 = .ok (.invokestatic 300, 3) := by decide +kernel
theorem dX11_curve_19 : decode cX11_curve 19 = .ok (.ifCond .ne 5, 3) := by decide +kernel
theorem dX11_curve_22 : decode cX11_curve 22 = .ok (.iconst (-1), 1) := by decide +kernel
theorem dX11_curve_23 : decode cX11_curve 23 = .ok (.ireturn, 1) := by decide +kernel
theorem dX11_curve_24 : decode cX11_curve 24 = .ok (.iconst 4, 1) := by decide +kernel
theorem dX11_curve_25 : decode cX11_curve 25 = .ok (.bipush 11, 2) := by decide +kernel
theorem dX11_curve_27 : decode cX11_curve 27 = .ok (.iload_n 1, 1) := by decide +kernel
theorem dX11_curve_28 : decode cX11_curve 28 = .ok (.imul, 1) := by decide +kernel
theorem dX11_curve_29 : decode cX11_curve 29 = .ok (.iadd, 1) := by decide +kernel
theorem dX11_curve_30 : decode cX11_curve 30 = .ok (.istore_n 3, 1) := by decide +kernel
theorem dX11_curve_31 : decode cX11_curve 31 = .ok (.iload_n 2, 1) := by decide +kernel
theorem dX11_curve_32 : decode cX11_curve 32 = .ok (.iconst 3, 1) := by decide +kernel
theorem dX11_curve_33 : decode cX11_curve 33 = .ok (.if_icmp .ge 14, 3) := by decide +kernel
theorem dX11_curve_36 : decode cX11_curve 36 = .ok (.aload_n 0, 1) := by decide +kernel
theorem dX11_curve_37 : decode cX11_curve 37 = .ok (.getfield 83, 3) := by decide +kernel
theorem dX11_curve_40 : decode cX11_curve 40 = .ok (.iload_n 3, 1) := by decide +kernel
theorem dX11_curve_41 : decode cX11_curve 41 = .ok (.iload_n 2, 1) := by decide +kernel
theorem dX11_curve_42 : decode cX11_curve 42 = .ok (.iadd, 1) := by decide +kernel
theorem dX11_curve_43 : decode cX11_curve 43 = .ok (.iaload, 1) := by decide +kernel
theorem dX11_curve_44 : decode cX11_curve 44 = .ok (.goto 37, 3) := by decide +kernel
theorem dX11_curve_47 : decode cX11_curve 47 = .ok (.iload_n 2, 1) := by decide +kernel
theorem dX11_curve_48 : decode cX11_curve 48 = .ok (.iconst 3, 1) := by decide +kernel
theorem dX11_curve_49 : decode cX11_curve 49 = .ok (.if_icmp .ne 27, 3) := by decide +kernel
theorem dX11_curve_52 : decode cX11_curve 52 = .ok (.aload_n 0, 1) := by decide +kernel
theorem dX11_curve_53 : decode cX11_curve 53 = .ok (.getfield 83, 3) := by decide +kernel
theorem dX11_curve_56 : decode cX11_curve 56 = .ok (.iload_n 3, 1) := by decide +kernel
theorem dX11_curve_57 : decode cX11_curve 57 = .ok (.iconst 2, 1) := by decide +kernel
theorem dX11_curve_58 : decode cX11_curve 58 = .ok (.iadd, 1) := by decide +kernel
theorem dX11_curve_59 : decode cX11_curve 59 = .ok (.iaload, 1) := by decide +kernel
theorem dX11_curve_60 : decode cX11_curve 60 = .ok (.sipush 1000, 3) := by decide +kernel
theorem dX11_curve_63 : decode cX11_curve 63 = .ok (.imul, 1) := by decide +kernel
theorem dX11_curve_64 : decode cX11_curve 64 = .ok (.aload_n 0, 1) := by decide +kernel
theorem dX11_curve_65 : decode cX11_curve 65 = .ok (.getfield 83, 3) := by decide +kernel
theorem dX11_curve_68 : decode cX11_curve 68 = .ok (.iload_n 3, 1) := by decide +kernel
theorem dX11_curve_69 : decode cX11_curve 69 = .ok (.iconst 1, 1) := by decide +kernel
theorem dX11_curve_70 : decode cX11_curve 70 = .ok (.iadd, 1) := by decide +kernel
theorem dX11_curve_71 : decode cX11_curve 71 = .ok (.iaload, 1) := by decide +kernel
theorem dX11_curve_72 : decode cX11_curve 72 = .ok (.idiv, 1) := by decide +kernel
theorem dX11_curve_73 : decode cX11_curve 73 = .ok (.goto 8, 3) := by decide +kernel
theorem dX11_curve_76 : decode cX11_curve 76 = .ok (.aload_n 0, 1) := by decide +kernel
theorem dX11_curve_77 : decode cX11_curve 77 = .ok (.iload_n 1, 1) := by decide +kernel
theorem dX11_curve_78 : decode cX11_curve 78 = .ok (.invokevirtual 304, 3) := by decide +kernel
theorem dX11_curve_81 : decode cX11_curve 81 = .ok (.ireturn, 1) := by decide +kernel
theorem dX11_curveOf_0 : decode cX11_curveOf 0 = .ok (.iload_n 1, 1) := by decide +kernel
theorem dX11_curveOf_1 : decode cX11_curveOf 1 = .ok (.aload_n 0, 1) := by decide +kernel
theorem dX11_curveOf_2 : decode cX11_curveOf 2 = .ok (.getfield 270, 3) := by decide +kernel
theorem dX11_curveOf_5 : decode cX11_curveOf 5 = .ok (.if_icmp .ne 10, 3) := by decide +kernel
theorem dX11_curveOf_8 : decode cX11_curveOf 8 = .ok (.aload_n 0, 1) := by decide +kernel
theorem dX11_curveOf_9 : decode cX11_curveOf 9 = .ok (.getfield 279, 3) := by decide +kernel
theorem dX11_curveOf_12 : decode cX11_curveOf 12 = .ok (.goto 16, 3) := by decide +kernel
theorem dX11_curveOf_15 : decode cX11_curveOf 15 = .ok (.aload_n 0, 1) := by decide +kernel
theorem dX11_curveOf_16 : decode cX11_curveOf 16 = .ok (.getfield 83, 3) := by decide +kernel
theorem dX11_curveOf_19 : decode cX11_curveOf 19 = .ok (.bipush 70, 2) := by decide +kernel
theorem dX11_curveOf_21 : decode cX11_curveOf 21 = .ok (.iconst 2, 1) := by decide +kernel
theorem dX11_curveOf_22 : decode cX11_curveOf 22 = .ok (.iload_n 1, 1) := by decide +kernel
theorem dX11_curveOf_23 : decode cX11_curveOf 23 = .ok (.imul, 1) := by decide +kernel
theorem dX11_curveOf_24 : decode cX11_curveOf 24 = .ok (.iadd, 1) := by decide +kernel
theorem dX11_curveOf_25 : decode cX11_curveOf 25 = .ok (.iconst 1, 1) := by decide +kernel
theorem dX11_curveOf_26 : decode cX11_curveOf 26 = .ok (.iadd, 1) := by decide +kernel
theorem dX11_curveOf_27 : decode cX11_curveOf 27 = .ok (.iaload, 1) := by decide +kernel
theorem dX11_curveOf_28 : decode cX11_curveOf 28 = .ok (.ireturn, 1) := by decide +kernel
theorem dX11_curves_0 : decode cX11_curves 0 = .ok (.aload_n 0, 1) := by decide +kernel
theorem dX11_curves_1 : decode cX11_curves 1 = .ok (.getfield 83, 3) := by decide +kernel
theorem dX11_curves_4 : decode cX11_curves 4 = .ok (.iconst 0, 1) := by decide +kernel
theorem dX11_curves_5 : decode cX11_curves 5 = .ok (.iaload, 1) := by decide +kernel
theorem dX11_curves_6 : decode cX11_curves 6 = .ok (.ireturn, 1) := by decide +kernel
theorem dX11_cutAll_0 : decode cX11_cutAll 0 = .ok (.aload_n 0, 1) := by decide +kernel
theorem dX11_cutAll_1 : decode cX11_cutAll 1 = .ok (.aload_n 0, 1) := by decide +kernel
theorem dX11_cutAll_2 : decode cX11_cutAll 2 = .ok (.getfield 11, 3) := by decide +kernel
theorem dX11_cutAll_5 : decode cX11_cutAll 5 = .ok (.putfield 146, 3) := by decide +kernel
theorem dX11_cutAll_8 : decode cX11_cutAll 8 = .ok (.aload_n 0, 1) := by decide +kernel
theorem dX11_cutAll_9 : decode cX11_cutAll 9 = .ok (.iconst 0, 1) := by decide +kernel
theorem dX11_cutAll_10 : decode cX11_cutAll 10 = .ok (.putfield 11, 3) := by decide +kernel
theorem dX11_cutAll_13 : decode cX11_cutAll 13 = .ok (.iconst 0, 1) := by decide +kernel
theorem dX11_cutAll_14 : decode cX11_cutAll 14 = .ok (.istore_n 1, 1) := by decide +kernel
theorem dX11_cutAll_15 : decode cX11_cutAll 15 = .ok (.iconst 0, 1) := by decide +kernel
theorem dX11_cutAll_16 : decode cX11_cutAll 16 = .ok (.istore_n 2, 1) := by decide +kernel
theorem dX11_cutAll_17 : decode cX11_cutAll 17 = .ok (.iload_n 2, 1) := by decide +kernel
theorem dX11_cutAll_18 : decode cX11_cutAll 18 = .ok (.aload_n 0, 1) := by decide +kernel
theorem dX11_cutAll_19 : decode cX11_cutAll 19 = .ok (.getfield 146, 3) := by decide +kernel
theorem dX11_cutAll_22 : decode cX11_cutAll 22 = .ok (.if_icmp .ge 257, 3) := by decide +kernel
theorem dX11_cutAll_25 : decode cX11_cutAll 25 = .ok (.aload_n 0, 1) := by decide +kernel
theorem dX11_cutAll_26 : decode cX11_cutAll 26 = .ok (.getfield 14, 3) := by decide +kernel
theorem dX11_cutAll_29 : decode cX11_cutAll 29 = .ok (.iload_n 2, 1) := by decide +kernel
theorem dX11_cutAll_30 : decode cX11_cutAll 30 = .ok (.iaload, 1) := by decide +kernel
theorem dX11_cutAll_31 : decode cX11_cutAll 31 = .ok (.istore_n 3, 1) := by decide +kernel
theorem dX11_cutAll_32 : decode cX11_cutAll 32 = .ok (.iload_n 3, 1) := by decide +kernel
theorem dX11_cutAll_33 : decode cX11_cutAll 33 = .ok (.bipush 10, 2) := by decide +kernel
theorem dX11_cutAll_35 : decode cX11_cutAll 35 = .ok (.if_icmp .eq 9, 3) := by decide +kernel
theorem dX11_cutAll_38 : decode cX11_cutAll 38 = .ok (.iload_n 3, 1) := by decide +kernel
theorem dX11_cutAll_39 : decode cX11_cutAll 39 = .ok (.bipush 32, 2) := by decide +kernel
theorem dX11_cutAll_41 : decode cX11_cutAll 41 = .ok (.if_icmp .ne 9, 3) := by decide +kernel
theorem dX11_cutAll_44 : decode cX11_cutAll 44 = .ok (.iinc 2 1, 3) := by decide +kernel
theorem dX11_cutAll_47 : decode cX11_cutAll 47 = .ok (.goto (-30), 3) := by decide +kernel
theorem dX11_cutAll_50 : decode cX11_cutAll 50 = .ok (.iload_n 2, 1) := by decide +kernel
theorem dX11_cutAll_51 : decode cX11_cutAll 51 = .ok (.istore 4, 2) := by decide +kernel
theorem dX11_cutAll_53 : decode cX11_cutAll 53 = .ok (.lconst 0, 1) := by decide +kernel
theorem dX11_cutAll_54 : decode cX11_cutAll 54 = .ok (.lstore 5, 2) := by decide +kernel
theorem dX11_cutAll_56 : decode cX11_cutAll 56 = .ok (.aload_n 0, 1) := by decide +kernel
theorem dX11_cutAll_57 : decode cX11_cutAll 57 = .ok (.getfield 27, 3) := by decide +kernel
theorem dX11_cutAll_60 : decode cX11_cutAll 60 = .ok (.iload_n 1, 1) := by decide +kernel
theorem dX11_cutAll_61 : decode cX11_cutAll 61 = .ok (.iload_n 2, 1) := by decide +kernel
theorem dX11_cutAll_62 : decode cX11_cutAll 62 = .ok (.iastore, 1) := by decide +kernel
theorem dX11_cutAll_63 : decode cX11_cutAll 63 = .ok (.iload_n 3, 1) := by decide +kernel
theorem dX11_cutAll_64 : decode cX11_cutAll 64 = .ok (.invokestatic 142, 3) := by decide +kernel
theorem dX11_cutAll_67 : decode cX11_cutAll 67 = .ok (.ifCond .eq 85, 3) := by decide +kernel
theorem dX11_cutAll_70 : decode cX11_cutAll 70 = .ok (.iload_n 2, 1) := by decide +kernel
theorem dX11_cutAll_71 : decode cX11_cutAll 71 = .ok (.aload_n 0, 1) := by decide +kernel
theorem dX11_cutAll_72 : decode cX11_cutAll 72 = .ok (.getfield 146, 3) := by decide +kernel
theorem dX11_cutAll_75 : decode cX11_cutAll 75 = .ok (.if_icmp .ge 54, 3) := by decide +kernel
theorem dX11_cutAll_78 : decode cX11_cutAll 78 = .ok (.aload_n 0, 1) := by decide +kernel
theorem dX11_cutAll_79 : decode cX11_cutAll 79 = .ok (.getfield 14, 3) := by decide +kernel
theorem dX11_cutAll_82 : decode cX11_cutAll 82 = .ok (.iload_n 2, 1) := by decide +kernel
theorem dX11_cutAll_83 : decode cX11_cutAll 83 = .ok (.iaload, 1) := by decide +kernel
theorem dX11_cutAll_84 : decode cX11_cutAll 84 = .ok (.invokestatic 142, 3) := by decide +kernel
theorem dX11_cutAll_87 : decode cX11_cutAll 87 = .ok (.ifCond .eq 42, 3) := by decide +kernel
theorem dX11_cutAll_90 : decode cX11_cutAll 90 = .ok (.iload_n 2, 1) := by decide +kernel
theorem dX11_cutAll_91 : decode cX11_cutAll 91 = .ok (.iload 4, 2) := by decide +kernel
theorem dX11_cutAll_93 : decode cX11_cutAll 93 = .ok (.isub, 1) := by decide +kernel
theorem dX11_cutAll_94 : decode cX11_cutAll 94 = .ok (.bipush 8, 2) := by decide +kernel
theorem dX11_cutAll_96 : decode cX11_cutAll 96 = .ok (.if_icmp .ge 23, 3) := by decide +kernel
theorem dX11_cutAll_99 : decode cX11_cutAll 99 = .ok (.ldc2_w 149, 3) := by decide +kernel
theorem dX11_cutAll_102 : decode cX11_cutAll 102 = .ok (.lload 5, 2) := by decide +kernel
theorem dX11_cutAll_104 : decode cX11_cutAll 104 = .ok (.lmul, 1) := by decide +kernel
theorem dX11_cutAll_105 : decode cX11_cutAll 105 = .ok (.aload_n 0, 1) := by decide +kernel
theorem dX11_cutAll_106 : decode cX11_cutAll 106 = .ok (.getfield 14, 3) := by decide +kernel
theorem dX11_cutAll_109 : decode cX11_cutAll 109 = .ok (.iload_n 2, 1) := by decide +kernel
theorem dX11_cutAll_110 : decode cX11_cutAll 110 = .ok (.iaload, 1) := by decide +kernel
theorem dX11_cutAll_111 : decode cX11_cutAll 111 = .ok (.invokestatic 151, 3) := by decide +kernel
theorem dX11_cutAll_114 : decode cX11_cutAll 114 = .ok (.i2l, 1) := by decide +kernel
theorem dX11_cutAll_115 : decode cX11_cutAll 115 = .ok (.ladd, 1) := by decide +kernel
theorem dX11_cutAll_116 : decode cX11_cutAll 116 = .ok (.goto 5, 3) := by decide +kernel
theorem dX11_cutAll_119 : decode cX11_cutAll 119 = .ok (.lload 5, 2) := by decide +kernel
theorem dX11_cutAll_121 : decode cX11_cutAll 121 = .ok (.lstore 5, 2) := by decide +kernel
theorem dX11_cutAll_123 : decode cX11_cutAll 123 = .ok (.iinc 2 1, 3) := by decide +kernel
theorem dX11_cutAll_126 : decode cX11_cutAll 126 = .ok (.goto (-56), 3) := by decide +kernel
theorem dX11_cutAll_129 : decode cX11_cutAll 129 = .ok (.aload_n 0, 1) := by decide +kernel
theorem dX11_cutAll_130 : decode cX11_cutAll 130 = .ok (.getfield 24, 3) := by decide +kernel
theorem dX11_cutAll_133 : decode cX11_cutAll 133 = .ok (.iload_n 1, 1) := by decide +kernel
theorem dX11_cutAll_134 : decode cX11_cutAll 134 = .ok (.iload_n 2, 1) := by decide +kernel
theorem dX11_cutAll_135 : decode cX11_cutAll 135 = .ok (.iload 4, 2) := by decide +kernel
theorem dX11_cutAll_137 : decode cX11_cutAll 137 = .ok (.isub, 1) := by decide +kernel
theorem dX11_cutAll_138 : decode cX11_cutAll 138 = .ok (.bipush 8, 2) := by decide +kernel
theorem dX11_cutAll_140 : decode cX11_cutAll 140 = .ok (.if_icmp .le 7, 3) := by decide +kernel
theorem dX11_cutAll_143 : decode cX11_cutAll 143 = .ok (.iconst 4, 1) := by decide +kernel
theorem dX11_cutAll_144 : decode cX11_cutAll 144 = .ok (.goto 4, 3) := by decide +kernel
theorem dX11_cutAll_147 : decode cX11_cutAll 147 = .ok (.iconst 1, 1) := by decide +kernel
theorem dX11_cutAll_148 : decode cX11_cutAll 148 = .ok (.iastore, 1) := by decide +kernel
theorem dX11_cutAll_149 : decode cX11_cutAll 149 = .ok (.goto 116, 3) := by decide +kernel
theorem dX11_cutAll_152 : decode cX11_cutAll 152 = .ok (.iload_n 3, 1) := by decide +kernel
theorem dX11_cutAll_153 : decode cX11_cutAll 153 = .ok (.invokestatic 155, 3) := by decide +kernel
theorem dX11_cutAll_156 : decode cX11_cutAll 156 = .ok (.ifCond .eq 84, 3) := by decide +kernel
theorem dX11_cutAll_159 : decode cX11_cutAll 159 = .ok (.iload_n 2, 1) := by decide +kernel
theorem dX11_cutAll_160 : decode cX11_cutAll 160 = .ok (.aload_n 0, 1) := by decide +kernel
theorem dX11_cutAll_161 : decode cX11_cutAll 161 = .ok (.getfield 146, 3) := by decide +kernel
theorem dX11_cutAll_164 : decode cX11_cutAll 164 = .ok (.if_icmp .ge 54, 3) := by decide +kernel
theorem dX11_cutAll_167 : decode cX11_cutAll 167 = .ok (.aload_n 0, 1) := by decide +kernel
theorem dX11_cutAll_168 : decode cX11_cutAll 168 = .ok (.getfield 14, 3) := by decide +kernel
theorem dX11_cutAll_171 : decode cX11_cutAll 171 = .ok (.iload_n 2, 1) := by decide +kernel
theorem dX11_cutAll_172 : decode cX11_cutAll 172 = .ok (.iaload, 1) := by decide +kernel
theorem dX11_cutAll_173 : decode cX11_cutAll 173 = .ok (.invokestatic 155, 3) := by decide +kernel
theorem dX11_cutAll_176 : decode cX11_cutAll 176 = .ok (.ifCond .eq 42, 3) := by decide +kernel
theorem dX11_cutAll_179 : decode cX11_cutAll 179 = .ok (.iload_n 2, 1) := by decide +kernel
theorem dX11_cutAll_180 : decode cX11_cutAll 180 = .ok (.iload 4, 2) := by decide +kernel
theorem dX11_cutAll_182 : decode cX11_cutAll 182 = .ok (.isub, 1) := by decide +kernel
theorem dX11_cutAll_183 : decode cX11_cutAll 183 = .ok (.iconst 4, 1) := by decide +kernel
theorem dX11_cutAll_184 : decode cX11_cutAll 184 = .ok (.if_icmp .ge 24, 3) := by decide +kernel
theorem dX11_cutAll_187 : decode cX11_cutAll 187 = .ok (.ldc2_w 158, 3) := by decide +kernel
theorem dX11_cutAll_190 : decode cX11_cutAll 190 = .ok (.lload 5, 2) := by decide +kernel
theorem dX11_cutAll_192 : decode cX11_cutAll 192 = .ok (.lmul, 1) := by decide +kernel
theorem dX11_cutAll_193 : decode cX11_cutAll 193 = .ok (.aload_n 0, 1) := by decide +kernel
theorem dX11_cutAll_194 : decode cX11_cutAll 194 = .ok (.getfield 14, 3) := by decide +kernel
theorem dX11_cutAll_197 : decode cX11_cutAll 197 = .ok (.iload_n 2, 1) := by decide +kernel
theorem dX11_cutAll_198 : decode cX11_cutAll 198 = .ok (.iaload, 1) := by decide +kernel
theorem dX11_cutAll_199 : decode cX11_cutAll 199 = .ok (.i2l, 1) := by decide +kernel
theorem dX11_cutAll_200 : decode cX11_cutAll 200 = .ok (.ladd, 1) := by decide +kernel
theorem dX11_cutAll_201 : decode cX11_cutAll 201 = .ok (.ldc2_w 160, 3) := by decide +kernel
theorem dX11_cutAll_204 : decode cX11_cutAll 204 = .ok (.lsub, 1) := by decide +kernel
theorem dX11_cutAll_205 : decode cX11_cutAll 205 = .ok (.goto 5, 3) := by decide +kernel
theorem dX11_cutAll_208 : decode cX11_cutAll 208 = .ok (.lload 5, 2) := by decide +kernel
theorem dX11_cutAll_210 : decode cX11_cutAll 210 = .ok (.lstore 5, 2) := by decide +kernel
theorem dX11_cutAll_212 : decode cX11_cutAll 212 = .ok (.iinc 2 1, 3) := by decide +kernel
theorem dX11_cutAll_215 : decode cX11_cutAll 215 = .ok (.goto (-56), 3) := by decide +kernel
theorem dX11_cutAll_218 : decode cX11_cutAll 218 = .ok (.aload_n 0, 1) := by decide +kernel
theorem dX11_cutAll_219 : decode cX11_cutAll 219 = .ok (.getfield 24, 3) := by decide +kernel
theorem dX11_cutAll_222 : decode cX11_cutAll 222 = .ok (.iload_n 1, 1) := by decide +kernel
theorem dX11_cutAll_223 : decode cX11_cutAll 223 = .ok (.iload_n 2, 1) := by decide +kernel
theorem dX11_cutAll_224 : decode cX11_cutAll 224 = .ok (.iload 4, 2) := by decide +kernel
theorem dX11_cutAll_226 : decode cX11_cutAll 226 = .ok (.isub, 1) := by decide +kernel
theorem dX11_cutAll_227 : decode cX11_cutAll 227 = .ok (.iconst 4, 1) := by decide +kernel
theorem dX11_cutAll_228 : decode cX11_cutAll 228 = .ok (.if_icmp .le 7, 3) := by decide +kernel
theorem dX11_cutAll_231 : decode cX11_cutAll 231 = .ok (.iconst 4, 1) := by decide +kernel
theorem dX11_cutAll_232 : decode cX11_cutAll 232 = .ok (.goto 4, 3) := by decide +kernel
theorem dX11_cutAll_235 : decode cX11_cutAll 235 = .ok (.iconst 2, 1) := by decide +kernel
theorem dX11_cutAll_236 : decode cX11_cutAll 236 = .ok (.iastore, 1) := by decide +kernel
theorem dX11_cutAll_237 : decode cX11_cutAll 237 = .ok (.goto 28, 3) := by decide +kernel
theorem dX11_cutAll_240 : decode cX11_cutAll 240 = .ok (.iload_n 3, 1) := by decide +kernel
theorem dX11_cutAll_241 : decode cX11_cutAll 241 = .ok (.i2l, 1) := by decide +kernel
theorem dX11_cutAll_242 : decode cX11_cutAll 242 = .ok (.lstore 5, 2) := by decide +kernel
theorem dX11_cutAll_244 : decode cX11_cutAll 244 = .ok (.aload_n 0, 1) := by decide +kernel
theorem dX11_cutAll_245 : decode cX11_cutAll 245 = .ok (.getfield 24, 3) := by decide +kernel
theorem dX11_cutAll_248 : decode cX11_cutAll 248 = .ok (.iload_n 1, 1) := by decide +kernel
theorem dX11_cutAll_249 : decode cX11_cutAll 249 = .ok (.iload_n 3, 1) := by decide +kernel
theorem dX11_cutAll_250 : decode cX11_cutAll 250 = .ok (.invokestatic 162, 3) := by decide +kernel
theorem dX11_cutAll_253 : decode cX11_cutAll 253 = .ok (.ifCond .eq 7, 3) := by decide +kernel
theorem dX11_cutAll_256 : decode cX11_cutAll 256 = .ok (.iconst 3, 1) := by decide +kernel
theorem dX11_cutAll_257 : decode cX11_cutAll 257 = .ok (.goto 4, 3) := by decide +kernel
theorem dX11_cutAll_260 : decode cX11_cutAll 260 = .ok (.iconst 4, 1) := by decide +kernel
theorem dX11_cutAll_261 : decode cX11_cutAll 261 = .ok (.iastore, 1) := by decide +kernel
theorem dX11_cutAll_262 : decode cX11_cutAll 262 = .ok (.iinc 2 1, 3) := by decide +kernel
theorem dX11_cutAll_265 : decode cX11_cutAll 265 = .ok (.aload_n 0, 1) := by decide +kernel
theorem dX11_cutAll_266 : decode cX11_cutAll 266 = .ok (.getfield 30, 3) := by decide +kernel
theorem dX11_cutAll_269 : decode cX11_cutAll 269 = .ok (.iload_n 1, 1) := by decide +kernel
theorem dX11_cutAll_270 : decode cX11_cutAll 270 = .ok (.lload 5, 2) := by decide +kernel
theorem dX11_cutAll_272 : decode cX11_cutAll 272 = .ok (.lastore, 1) := by decide +kernel
theorem dX11_cutAll_273 : decode cX11_cutAll 273 = .ok (.iinc 1 1, 3) := by decide +kernel
theorem dX11_cutAll_276 : decode cX11_cutAll 276 = .ok (.goto (-259), 3) := by decide +kernel
theorem dX11_cutAll_279 : decode cX11_cutAll 279 = .ok (.aload_n 0, 1) := by decide +kernel
theorem dX11_cutAll_280 : decode cX11_cutAll 280 = .ok (.getfield 24, 3) := by decide +kernel
theorem dX11_cutAll_283 : decode cX11_cutAll 283 = .ok (.iload_n 1, 1) := by decide +kernel
theorem dX11_cutAll_284 : decode cX11_cutAll 284 = .ok (.iconst 0, 1) := by decide +kernel
theorem dX11_cutAll_285 : decode cX11_cutAll 285 = .ok (.iastore, 1) := by decide +kernel
theorem dX11_cutAll_286 : decode cX11_cutAll 286 = .ok (.aload_n 0, 1) := by decide +kernel
theorem dX11_cutAll_287 : decode cX11_cutAll 287 = .ok (.getfield 27, 3) := by decide +kernel
theorem dX11_cutAll_290 : decode cX11_cutAll 290 = .ok (.iload_n 1, 1) := by decide +kernel
theorem dX11_cutAll_291 : decode cX11_cutAll 291 = .ok (.aload_n 0, 1) := by decide +kernel
theorem dX11_cutAll_292 : decode cX11_cutAll 292 = .ok (.getfield 146, 3) := by decide +kernel
theorem dX11_cutAll_295 : decode cX11_cutAll 295 = .ok (.iastore, 1) := by decide +kernel
theorem dX11_cutAll_296 : decode cX11_cutAll 296 = .ok (.aload_n 0, 1) := by decide +kernel
theorem dX11_cutAll_297 : decode cX11_cutAll 297 = .ok (.iconst 0, 1) := by decide +kernel
theorem dX11_cutAll_298 : decode cX11_cutAll 298 = .ok (.putfield 165, 3) := by decide +kernel
theorem dX11_cutAll_301 : decode cX11_cutAll 301 = .ok (.aload_n 0, 1) := by decide +kernel
theorem dX11_cutAll_302 : decode cX11_cutAll 302 = .ok (.iconst 0, 1) := by decide +kernel
theorem dX11_cutAll_303 : decode cX11_cutAll 303 = .ok (.putfield 168, 3) := by decide +kernel
theorem dX11_cutAll_306 : decode cX11_cutAll 306 = .ok (.return_, 1) := by decide +kernel
theorem dX11_delay_0 : decode cX11_delay 0 = .ok (.aload_n 0, 1) := by decide +kernel
theorem dX11_delay_1 : decode cX11_delay 1 = .ok (.iconst 0, 1) := by decide +kernel
theorem dX11_delay_2 : decode cX11_delay 2 = .ok (.putfield 1, 3) := by decide +kernel
theorem dX11_delay_5 : decode cX11_delay 5 = .ok (.aload_n 0, 1) := by decide +kernel
theorem dX11_delay_6 : decode cX11_delay 6 = .ok (.iload_n 1, 1) := by decide +kernel
theorem dX11_delay_7 : decode cX11_delay 7 = .ok (.iload_n 2, 1) := by decide +kernel
theorem dX11_delay_8 : decode cX11_delay 8 = .ok (.invokevirtual 352, 3) := by decide +kernel
theorem dX11_delay_11 : decode cX11_delay 11 = .ok (.ifCond .eq 23, 3) := by decide +kernel
theorem dX11_delay_14 : decode cX11_delay 14 = .ok (.aload_n 0, 1) := by decide +kernel
theorem dX11_delay_15 : decode cX11_delay 15 = .ok (.invokevirtual 349, 3) := by decide +kernel
theorem dX11_delay_18 : decode cX11_delay 18 = .ok (.ifCond .le 16, 3) := by decide +kernel
theorem dX11_delay_21 : decode cX11_delay 21 = .ok (.aload_n 0, 1) := by decide +kernel
theorem dX11_delay_22 : decode cX11_delay 22 = .ok (.getfield 120, 3) := by decide +kernel
theorem dX11_delay_25 : decode cX11_delay 25 = .ok (.iconst 4, 1) := by decide +kernel
theorem dX11_delay_26 : decode cX11_delay 26 = .ok (.iload_n 1, 1) := by decide +kernel
theorem dX11_delay_27 : decode cX11_delay 27 = .ok (.imul, 1) := by decide +kernel
theorem dX11_delay_28 : decode cX11_delay 28 = .ok (.iload_n 2, 1) := by decide +kernel
theorem dX11_delay_29 : decode cX11_delay 29 = .ok (.iadd, 1) := by decide +kernel
theorem dX11_delay_30 : decode cX11_delay 30 = .ok (.iaload, 1) := by decide +kernel
theorem dX11_delay_31 : decode cX11_delay 31 = .ok (.goto 4, 3) := by decide +kernel
theorem dX11_delay_34 : decode cX11_delay 34 = .ok (.iconst (-1), 1) := by decide +kernel
theorem dX11_delay_35 : decode cX11_delay 35 = .ok (.ireturn, 1) := by decide +kernel
theorem dX11_draw_0 : decode cX11_draw 0 = .ok (.aload_n 0, 1) := by decide +kernel
theorem dX11_draw_1 : decode cX11_draw 1 = .ok (.aload_n 0, 1) := by decide +kernel
theorem dX11_draw_2 : decode cX11_draw 2 = .ok (.getfield 431, 3) := by decide +kernel
theorem dX11_draw_5 : decode cX11_draw 5 = .ok (.ldc2_w 435, 3) := by decide +kernel
theorem dX11_draw_8 : decode cX11_draw 8 = .ok (.lmul, 1) := by decide +kernel
theorem dX11_draw_9 : decode cX11_draw 9 = .ok (.ldc2_w 437, 3) := by decide +kernel
theorem dX11_draw_12 : decode cX11_draw 12 = .ok (.ladd, 1) := by decide +kernel
theorem dX11_draw_13 : decode cX11_draw 13 = .ok (.ldc2_w 439, 3) := by decide +kernel
theorem dX11_draw_16 : decode cX11_draw 16 = .ok (.lrem, 1) := by decide +kernel
theorem dX11_draw_17 : decode cX11_draw 17 = .ok (.putfield 431, 3) := by decide +kernel
theorem dX11_draw_20 : decode cX11_draw 20 = .ok (.aload_n 0, 1) := by decide +kernel
theorem dX11_draw_21 : decode cX11_draw 21 = .ok (.getfield 431, 3) := by decide +kernel
theorem dX11_draw_24 : decode cX11_draw 24 = .ok (.ldc2_w 441, 3) := by decide +kernel
theorem dX11_draw_27 : decode cX11_draw 27 = .ok (.ldiv, 1) := by decide +kernel
theorem dX11_draw_28 : decode cX11_draw 28 = .ok (.iload_n 1, 1) := by decide +kernel
theorem dX11_draw_29 : decode cX11_draw 29 = .ok (.i2l, 1) := by decide +kernel
theorem dX11_draw_30 : decode cX11_draw 30 = .ok (.lrem, 1) := by decide +kernel
theorem dX11_draw_31 : decode cX11_draw 31 = .ok (.l2i, 1) := by decide +kernel
theorem dX11_draw_32 : decode cX11_draw 32 = .ok (.ireturn, 1) := by decide +kernel
theorem dX11_emit_0 : decode cX11_emit 0 = .ok (.aload_n 0, 1) := by decide +kernel
theorem dX11_emit_1 : decode cX11_emit 1 = .ok (.getfield 86, 3) := by decide +kernel
theorem dX11_emit_4 : decode cX11_emit 4 = .ok (.sipush 1100, 3) := by decide +kernel
theorem dX11_emit_7 : decode cX11_emit 7 = .ok (.aload_n 0, 1) := by decide +kernel
theorem dX11_emit_8 : decode cX11_emit 8 = .ok (.getfield 203, 3) := by decide +kernel
theorem dX11_emit_11 : decode cX11_emit 11 = .ok (.iadd, 1) := by decide +kernel
theorem dX11_emit_12 : decode cX11_emit 12 = .ok (.iload_n 1, 1) := by decide +kernel
theorem dX11_emit_13 : decode cX11_emit 13 = .ok (.bipush 16, 2) := by decide +kernel
theorem dX11_emit_15 : decode cX11_emit 15 = .ok (.iload_n 2, 1) := by decide +kernel
theorem dX11_emit_16 : decode cX11_emit 16 = .ok (.imul, 1) := by decide +kernel
theorem dX11_emit_17 : decode cX11_emit 17 = .ok (.iadd, 1) := by decide +kernel
theorem dX11_emit_18 : decode cX11_emit 18 = .ok (.iastore, 1) := by decide +kernel
theorem dX11_emit_19 : decode cX11_emit 19 = .ok (.aload_n 0, 1) := by decide +kernel
theorem dX11_emit_20 : decode cX11_emit 20 = .ok (.dup, 1) := by decide +kernel
theorem dX11_emit_21 : decode cX11_emit 21 = .ok (.getfield 203, 3) := by decide +kernel
theorem dX11_emit_24 : decode cX11_emit 24 = .ok (.iconst 1, 1) := by decide +kernel
theorem dX11_emit_25 : decode cX11_emit 25 = .ok (.iadd, 1) := by decide +kernel
theorem dX11_emit_26 : decode cX11_emit 26 = .ok (.putfield 203, 3) := by decide +kernel
theorem dX11_emit_29 : decode cX11_emit 29 = .ok (.return_, 1) := by decide +kernel
theorem dX11_enters_0 : decode cX11_enters 0 = .ok (.iload_n 1, 1) := by decide +kernel
theorem dX11_enters_1 : decode cX11_enters 1 = .ok (.aload_n 0, 1) := by decide +kernel
theorem dX11_enters_2 : decode cX11_enters 2 = .ok (.getfield 101, 3) := by decide +kernel
theorem dX11_enters_5 : decode cX11_enters 5 = .ok (.iload_n 1, 1) := by decide +kernel
theorem dX11_enters_6 : decode cX11_enters 6 = .ok (.iconst 1, 1) := by decide +kernel
theorem dX11_enters_7 : decode cX11_enters 7 = .ok (.iadd, 1) := by decide +kernel
theorem dX11_enters_8 : decode cX11_enters 8 = .ok (.iaload, 1) := by decide +kernel
theorem dX11_enters_9 : decode cX11_enters 9 = .ok (.invokestatic 369, 3) := by decide +kernel
theorem dX11_enters_12 : decode cX11_enters 12 = .ok (.istore 5, 2) := by decide +kernel
theorem dX11_enters_14 : decode cX11_enters 14 = .ok (.aload_n 0, 1) := by decide +kernel
theorem dX11_enters_15 : decode cX11_enters 15 = .ok (.getfield 101, 3) := by decide +kernel
theorem dX11_enters_18 : decode cX11_enters 18 = .ok (.iload 5, 2) := by decide +kernel
theorem dX11_enters_20 : decode cX11_enters 20 = .ok (.iload_n 2, 1) := by decide +kernel
theorem dX11_enters_21 : decode cX11_enters 21 = .ok (.iastore, 1) := by decide +kernel
theorem dX11_enters_22 : decode cX11_enters 22 = .ok (.aload_n 0, 1) := by decide +kernel
theorem dX11_enters_23 : decode cX11_enters 23 = .ok (.getfield 101, 3) := by decide +kernel
theorem dX11_enters_26 : decode cX11_enters 26 = .ok (.iload 5, 2) := by decide +kernel
theorem dX11_enters_28 : decode cX11_enters 28 = .ok (.iconst 1, 1) := by decide +kernel
theorem dX11_enters_29 : decode cX11_enters 29 = .ok (.iadd, 1) := by decide +kernel
theorem dX11_enters_30 : decode cX11_enters 30 = .ok (.iload_n 3, 1) := by decide +kernel
theorem dX11_enters_31 : decode cX11_enters 31 = .ok (.iastore, 1) := by decide +kernel
theorem dX11_enters_32 : decode cX11_enters 32 = .ok (.aload_n 0, 1) := by decide +kernel
theorem dX11_enters_33 : decode cX11_enters 33 = .ok (.getfield 101, 3) := by decide +kernel
theorem dX11_enters_36 : decode cX11_enters 36 = .ok (.iload 5, 2) := by decide +kernel
theorem dX11_enters_38 : decode cX11_enters 38 = .ok (.iconst 2, 1) := by decide +kernel
theorem dX11_enters_39 : decode cX11_enters 39 = .ok (.iadd, 1) := by decide +kernel
theorem dX11_enters_40 : decode cX11_enters 40 = .ok (.iload 4, 2) := by decide +kernel
theorem dX11_enters_42 : decode cX11_enters 42 = .ok (.iastore, 1) := by decide +kernel
theorem dX11_enters_43 : decode cX11_enters 43 = .ok (.aload_n 0, 1) := by decide +kernel
theorem dX11_enters_44 : decode cX11_enters 44 = .ok (.getfield 101, 3) := by decide +kernel
theorem dX11_enters_47 : decode cX11_enters 47 = .ok (.iload_n 1, 1) := by decide +kernel
theorem dX11_enters_48 : decode cX11_enters 48 = .ok (.iconst 1, 1) := by decide +kernel
theorem dX11_enters_49 : decode cX11_enters 49 = .ok (.iadd, 1) := by decide +kernel
theorem dX11_enters_50 : decode cX11_enters 50 = .ok (.dup2, 1) := by decide +kernel
theorem dX11_enters_51 : decode cX11_enters 51 = .ok (.iaload, 1) := by decide +kernel
theorem dX11_enters_52 : decode cX11_enters 52 = .ok (.iconst 1, 1) := by decide +kernel
theorem dX11_enters_53 : decode cX11_enters 53 = .ok (.iadd, 1) := by decide +kernel
theorem dX11_enters_54 : decode cX11_enters 54 = .ok (.iastore, 1) := by decide +kernel
theorem dX11_enters_55 : decode cX11_enters 55 = .ok (.return_, 1) := by decide +kernel
theorem dX11_feed_0 : decode cX11_feed 0 = .ok (.aload_n 0, 1) := by decide +kernel
theorem dX11_feed_1 : decode cX11_feed 1 = .ok (.iconst 0, 1) := by decide +kernel
theorem dX11_feed_2 : decode cX11_feed 2 = .ok (.putfield 1, 3) := by decide +kernel
theorem dX11_feed_5 : decode cX11_feed 5 = .ok (.aload_n 0, 1) := by decide +kernel
theorem dX11_feed_6 : decode cX11_feed 6 = .ok (.lload_n 1, 1) := by decide +kernel
theorem dX11_feed_7 : decode cX11_feed 7 = .ok (.invokevirtual 7, 3) := by decide +kernel
theorem dX11_feed_10 : decode cX11_feed 10 = .ok (.aload_n 0, 1) := by decide +kernel
theorem dX11_feed_11 : decode cX11_feed 11 = .ok (.lload_n 3, 1) := by decide +kernel
theorem dX11_feed_12 : decode cX11_feed 12 = .ok (.invokevirtual 7, 3) := by decide +kernel
theorem dX11_feed_15 : decode cX11_feed 15 = .ok (.aload_n 0, 1) := by decide +kernel
theorem dX11_feed_16 : decode cX11_feed 16 = .ok (.lload 5, 2) := by decide +kernel
theorem dX11_feed_18 : decode cX11_feed 18 = .ok (.invokevirtual 7, 3) := by decide +kernel
theorem dX11_feed_21 : decode cX11_feed 21 = .ok (.aload_n 0, 1) := by decide +kernel
theorem dX11_feed_22 : decode cX11_feed 22 = .ok (.getfield 11, 3) := by decide +kernel
theorem dX11_feed_25 : decode cX11_feed 25 = .ok (.ireturn, 1) := by decide +kernel
theorem dX11_fits_0 : decode cX11_fits 0 = .ok (.aload_n 0, 1) := by decide +kernel
theorem dX11_fits_1 : decode cX11_fits 1 = .ok (.iconst 0, 1) := by decide +kernel
theorem dX11_fits_2 : decode cX11_fits 2 = .ok (.putfield 1, 3) := by decide +kernel
theorem dX11_fits_5 : decode cX11_fits 5 = .ok (.aload_n 0, 1) := by decide +kernel
theorem dX11_fits_6 : decode cX11_fits 6 = .ok (.iload_n 1, 1) := by decide +kernel
theorem dX11_fits_7 : decode cX11_fits 7 = .ok (.invokevirtual 282, 3) := by decide +kernel
theorem dX11_fits_10 : decode cX11_fits 10 = .ok (.ifCond .ne 5, 3) := by decide +kernel
theorem dX11_fits_13 : decode cX11_fits 13 = .ok (.iconst 0, 1) := by decide +kernel
theorem dX11_fits_14 : decode cX11_fits 14 = .ok (.ireturn, 1) := by decide +kernel
theorem dX11_fits_15 : decode cX11_fits 15 = .ok (.iconst 1, 1) := by decide +kernel
theorem dX11_fits_16 : decode cX11_fits 16 = .ok (.istore_n 2, 1) := by decide +kernel
theorem dX11_fits_17 : decode cX11_fits 17 = .ok (.iconst 0, 1) := by decide +kernel
theorem dX11_fits_18 : decode cX11_fits 18 = .ok (.istore_n 3, 1) := by decide +kernel
theorem dX11_fits_19 : decode cX11_fits 19 = .ok (.iload_n 3, 1) := by decide +kernel
theorem dX11_fits_20 : decode cX11_fits 20 = .ok (.aload_n 0, 1) := by decide +kernel
theorem dX11_fits_21 : decode cX11_fits 21 = .ok (.getfield 101, 3) := by decide +kernel
theorem dX11_fits_24 : decode cX11_fits 24 = .ok (.iconst 0, 1) := by decide +kernel
theorem dX11_fits_25 : decode cX11_fits 25 = .ok (.iaload, 1) := by decide +kernel
theorem dX11_fits_26 : decode cX11_fits 26 = .ok (.if_icmp .gt 87, 3) := by decide +kernel
theorem dX11_fits_29 : decode cX11_fits 29 = .ok (.iconst 0, 1) := by decide +kernel
theorem dX11_fits_30 : decode cX11_fits 30 = .ok (.istore 4, 2) := by decide +kernel
theorem dX11_fits_32 : decode cX11_fits 32 = .ok (.iload_n 3, 1) := by decide +kernel
theorem dX11_fits_33 : decode cX11_fits 33 = .ok (.iconst 1, 1) := by decide +kernel
theorem dX11_fits_34 : decode cX11_fits 34 = .ok (.iadd, 1) := by decide +kernel
theorem dX11_fits_35 : decode cX11_fits 35 = .ok (.istore 5, 2) := by decide +kernel
theorem dX11_fits_37 : decode cX11_fits 37 = .ok (.iload 5, 2) := by decide +kernel
theorem dX11_fits_39 : decode cX11_fits 39 = .ok (.aload_n 0, 1) := by decide +kernel
theorem dX11_fits_40 : decode cX11_fits 40 = .ok (.getfield 101, 3) := by decide +kernel
theorem dX11_fits_43 : decode cX11_fits 43 = .ok (.iconst 0, 1) := by decide +kernel
theorem dX11_fits_44 : decode cX11_fits 44 = .ok (.iaload, 1) := by decide +kernel
theorem dX11_fits_45 : decode cX11_fits 45 = .ok (.iconst 1, 1) := by decide +kernel
theorem dX11_fits_46 : decode cX11_fits 46 = .ok (.iadd, 1) := by decide +kernel
theorem dX11_fits_47 : decode cX11_fits 47 = .ok (.if_icmp .gt 60, 3) := by decide +kernel
theorem dX11_fits_50 : decode cX11_fits 50 = .ok (.iload 4, 2) := by decide +kernel
theorem dX11_fits_52 : decode cX11_fits 52 = .ok (.aload_n 0, 1) := by decide +kernel
theorem dX11_fits_53 : decode cX11_fits 53 = .ok (.getfield 101, 3) := by decide +kernel
theorem dX11_fits_56 : decode cX11_fits 56 = .ok (.sipush 138, 3) := by decide +kernel
theorem dX11_fits_59 : decode cX11_fits 59 = .ok (.bipush 61, 2) := by decide +kernel
theorem dX11_fits_61 : decode cX11_fits 61 = .ok (.iload_n 1, 1) := by decide +kernel
theorem dX11_fits_62 : decode cX11_fits 62 = .ok (.imul, 1) := by decide +kernel
theorem dX11_fits_63 : decode cX11_fits 63 = .ok (.iadd, 1) := by decide +kernel
theorem dX11_fits_64 : decode cX11_fits 64 = .ok (.iload 5, 2) := by decide +kernel
theorem dX11_fits_66 : decode cX11_fits 66 = .ok (.iadd, 1) := by decide +kernel
theorem dX11_fits_67 : decode cX11_fits 67 = .ok (.iconst 1, 1) := by decide +kernel
theorem dX11_fits_68 : decode cX11_fits 68 = .ok (.isub, 1) := by decide +kernel
theorem dX11_fits_69 : decode cX11_fits 69 = .ok (.iaload, 1) := by decide +kernel
theorem dX11_fits_70 : decode cX11_fits 70 = .ok (.iadd, 1) := by decide +kernel
theorem dX11_fits_71 : decode cX11_fits 71 = .ok (.istore 4, 2) := by decide +kernel
theorem dX11_fits_73 : decode cX11_fits 73 = .ok (.iload_n 2, 1) := by decide +kernel
theorem dX11_fits_74 : decode cX11_fits 74 = .ok (.ifCond .eq 25, 3) := by decide +kernel
theorem dX11_fits_77 : decode cX11_fits 77 = .ok (.iload 4, 2) := by decide +kernel
theorem dX11_fits_79 : decode cX11_fits 79 = .ok (.aload_n 0, 1) := by decide +kernel
theorem dX11_fits_80 : decode cX11_fits 80 = .ok (.aload_n 0, 1) := by decide +kernel
theorem dX11_fits_81 : decode cX11_fits 81 = .ok (.iload_n 1, 1) := by decide +kernel
theorem dX11_fits_82 : decode cX11_fits 82 = .ok (.invokevirtual 316, 3) := by decide +kernel
theorem dX11_fits_85 : decode cX11_fits 85 = .ok (.iload 5, 2) := by decide +kernel
theorem dX11_fits_87 : decode cX11_fits 87 = .ok (.iload_n 3, 1) := by decide +kernel
theorem dX11_fits_88 : decode cX11_fits 88 = .ok (.isub, 1) := by decide +kernel
theorem dX11_fits_89 : decode cX11_fits 89 = .ok (.invokevirtual 294, 3) := by decide +kernel
theorem dX11_fits_92 : decode cX11_fits 92 = .ok (.if_icmp .gt 7, 3) := by decide +kernel
theorem dX11_fits_95 : decode cX11_fits 95 = .ok (.iconst 1, 1) := by decide +kernel
theorem dX11_fits_96 : decode cX11_fits 96 = .ok (.goto 4, 3) := by decide +kernel
theorem dX11_fits_99 : decode cX11_fits 99 = .ok (.iconst 0, 1) := by decide +kernel
theorem dX11_fits_100 : decode cX11_fits 100 = .ok (.istore_n 2, 1) := by decide +kernel
theorem dX11_fits_101 : decode cX11_fits 101 = .ok (.iinc 5 1, 3) := by decide +kernel
theorem dX11_fits_104 : decode cX11_fits 104 = .ok (.goto (-67), 3) := by decide +kernel
theorem dX11_fits_107 : decode cX11_fits 107 = .ok (.iinc 3 1, 3) := by decide +kernel
theorem dX11_fits_110 : decode cX11_fits 110 = .ok (.goto (-91), 3) := by decide +kernel
theorem dX11_fits_113 : decode cX11_fits 113 = .ok (.iload_n 2, 1) := by decide +kernel
theorem dX11_fits_114 : decode cX11_fits 114 = .ok (.ireturn, 1) := by decide +kernel
theorem dX11_flow_0 : decode cX11_flow 0 = .ok (.aload_n 0, 1) := by decide +kernel
theorem dX11_flow_1 : decode cX11_flow 1 = .ok (.iconst 0, 1) := by decide +kernel
theorem dX11_flow_2 : decode cX11_flow 2 = .ok (.putfield 1, 3) := by decide +kernel
theorem dX11_flow_5 : decode cX11_flow 5 = .ok (.aload_n 0, 1) := by decide +kernel
theorem dX11_flow_6 : decode cX11_flow 6 = .ok (.iload_n 1, 1) := by decide +kernel
theorem dX11_flow_7 : decode cX11_flow 7 = .ok (.invokevirtual 282, 3) := by decide +kernel
theorem dX11_flow_10 : decode cX11_flow 10 = .ok (.ifCond .ne 5, 3) := by decide +kernel
theorem dX11_flow_13 : decode cX11_flow 13 = .ok (.iconst (-1), 1) := by decide +kernel
theorem dX11_flow_14 : decode cX11_flow 14 = .ok (.ireturn, 1) := by decide +kernel
theorem dX11_flow_15 : decode cX11_flow 15 = .ok (.iload_n 2, 1) := by decide +kernel
theorem dX11_flow_16 : decode cX11_flow 16 = .ok (.tableswitch 76 0 4 #[36, 42, 48, 55, 65], 36) := by decide +kernel
theorem dX11_flow_52 : decode cX11_flow 52 = .ok (.aload_n 0, 1) := by decide +kernel
theorem dX11_flow_53 : decode cX11_flow 53 = .ok (.iload_n 1, 1) := by decide +kernel
theorem dX11_flow_54 : decode cX11_flow 54 = .ok (.invokevirtual 316, 3) := by decide +kernel
theorem dX11_flow_57 : decode cX11_flow 57 = .ok (.ireturn, 1) := by decide +kernel
theorem dX11_flow_58 : decode cX11_flow 58 = .ok (.aload_n 0, 1) := by decide +kernel
theorem dX11_flow_59 : decode cX11_flow 59 = .ok (.iload_n 1, 1) := by decide +kernel
theorem dX11_flow_60 : decode cX11_flow 60 = .ok (.invokevirtual 285, 3) := by decide +kernel
theorem dX11_flow_63 : decode cX11_flow 63 = .ok (.ireturn, 1) := by decide +kernel
theorem dX11_flow_64 : decode cX11_flow 64 = .ok (.aload_n 0, 1) := by decide +kernel
theorem dX11_flow_65 : decode cX11_flow 65 = .ok (.iconst 0, 1) := by decide +kernel
theorem dX11_flow_66 : decode cX11_flow 66 = .ok (.iload_n 1, 1) := by decide +kernel
theorem dX11_flow_67 : decode cX11_flow 67 = .ok (.invokevirtual 425, 3) := by decide +kernel
theorem dX11_flow_70 : decode cX11_flow 70 = .ok (.ireturn, 1) := by decide +kernel
theorem dX11_flow_71 : decode cX11_flow 71 = .ok (.aload_n 0, 1) := by decide +kernel
theorem dX11_flow_72 : decode cX11_flow 72 = .ok (.getfield 101, 3) := by decide +kernel
theorem dX11_flow_75 : decode cX11_flow 75 = .ok (.bipush 126, 2) := by decide +kernel
theorem dX11_flow_77 : decode cX11_flow 77 = .ok (.iload_n 1, 1) := by decide +kernel
theorem dX11_flow_78 : decode cX11_flow 78 = .ok (.iadd, 1) := by decide +kernel
theorem dX11_flow_79 : decode cX11_flow 79 = .ok (.iaload, 1) := by decide +kernel
theorem dX11_flow_80 : decode cX11_flow 80 = .ok (.ireturn, 1) := by decide +kernel
theorem dX11_flow_81 : decode cX11_flow 81 = .ok (.aload_n 0, 1) := by decide +kernel
theorem dX11_flow_82 : decode cX11_flow 82 = .ok (.getfield 101, 3) := by decide +kernel
theorem dX11_flow_85 : decode cX11_flow 85 = .ok (.sipush 130, 3) := by decide +kernel
theorem dX11_flow_88 : decode cX11_flow 88 = .ok (.iload_n 1, 1) := by decide +kernel
theorem dX11_flow_89 : decode cX11_flow 89 = .ok (.iadd, 1) := by decide +kernel
theorem dX11_flow_90 : decode cX11_flow 90 = .ok (.iaload, 1) := by decide +kernel
theorem dX11_flow_91 : decode cX11_flow 91 = .ok (.ireturn, 1) := by decide +kernel
theorem dX11_flow_92 : decode cX11_flow 92 = .ok (.iconst (-1), 1) := by decide +kernel
theorem dX11_flow_93 : decode cX11_flow 93 = .ok (.ireturn, 1) := by decide +kernel
theorem dX11_flows_0 : decode cX11_flows 0 = .ok (.aload_n 0, 1) := by decide +kernel
theorem dX11_flows_1 : decode cX11_flows 1 = .ok (.getfield 83, 3) := by decide +kernel
theorem dX11_flows_4 : decode cX11_flows 4 = .ok (.iconst 2, 1) := by decide +kernel
theorem dX11_flows_5 : decode cX11_flows 5 = .ok (.iaload, 1) := by decide +kernel
theorem dX11_flows_6 : decode cX11_flows 6 = .ok (.ireturn, 1) := by decide +kernel
theorem dX11_flowsOver_0 : decode cX11_flowsOver 0 = .ok (.iconst 0, 1) := by decide +kernel
theorem dX11_flowsOver_1 : decode cX11_flowsOver 1 = .ok (.istore_n 2, 1) := by decide +kernel
theorem dX11_flowsOver_2 : decode cX11_flowsOver 2 = .ok (.iconst 0, 1) := by decide +kernel
theorem dX11_flowsOver_3 : decode cX11_flowsOver 3 = .ok (.istore_n 3, 1) := by decide +kernel
theorem dX11_flowsOver_4 : decode cX11_flowsOver 4 = .ok (.iload_n 3, 1) := by decide +kernel
theorem dX11_flowsOver_5 : decode cX11_flowsOver 5 = .ok (.aload_n 0, 1) := by decide +kernel
theorem dX11_flowsOver_6 : decode cX11_flowsOver 6 = .ok (.invokevirtual 245, 3) := by decide +kernel
theorem dX11_flowsOver_9 : decode cX11_flowsOver 9 = .ok (.if_icmp .ge 28, 3) := by decide +kernel
theorem dX11_flowsOver_12 : decode cX11_flowsOver 12 = .ok (.iload_n 2, 1) := by decide +kernel
theorem dX11_flowsOver_13 : decode cX11_flowsOver 13 = .ok (.aload_n 0, 1) := by decide +kernel
theorem dX11_flowsOver_14 : decode cX11_flowsOver 14 = .ok (.iload_n 3, 1) := by decide +kernel
theorem dX11_flowsOver_15 : decode cX11_flowsOver 15 = .ok (.iload_n 1, 1) := by decide +kernel
theorem dX11_flowsOver_16 : decode cX11_flowsOver 16 = .ok (.invokevirtual 291, 3) := by decide +kernel
theorem dX11_flowsOver_19 : decode cX11_flowsOver 19 = .ok (.ifCond .lt 9, 3) := by decide +kernel
theorem dX11_flowsOver_22 : decode cX11_flowsOver 22 = .ok (.iconst 1, 1) := by decide +kernel
theorem dX11_flowsOver_23 : decode cX11_flowsOver 23 = .ok (.iload_n 3, 1) := by decide +kernel
theorem dX11_flowsOver_24 : decode cX11_flowsOver 24 = .ok (.ishl, 1) := by decide +kernel
theorem dX11_flowsOver_25 : decode cX11_flowsOver 25 = .ok (.goto 4, 3) := by decide +kernel
theorem dX11_flowsOver_28 : decode cX11_flowsOver 28 = .ok (.iconst 0, 1) := by decide +kernel
theorem dX11_flowsOver_29 : decode cX11_flowsOver 29 = .ok (.ior, 1) := by decide +kernel
theorem dX11_flowsOver_30 : decode cX11_flowsOver 30 = .ok (.istore_n 2, 1) := by decide +kernel
theorem dX11_flowsOver_31 : decode cX11_flowsOver 31 = .ok (.iinc 3 1, 3) := by decide +kernel
theorem dX11_flowsOver_34 : decode cX11_flowsOver 34 = .ok (.goto (-30), 3) := by decide +kernel
theorem dX11_flowsOver_37 : decode cX11_flowsOver 37 = .ok (.iload_n 2, 1) := by decide +kernel
theorem dX11_flowsOver_38 : decode cX11_flowsOver 38 = .ok (.ireturn, 1) := by decide +kernel
theorem dX11_fold_0 : decode cX11_fold 0 = .ok (.aload_n 0, 1) := by decide +kernel
theorem dX11_fold_1 : decode cX11_fold 1 = .ok (.iconst 0, 1) := by decide +kernel
theorem dX11_fold_2 : decode cX11_fold 2 = .ok (.putfield 1, 3) := by decide +kernel
theorem dX11_fold_5 : decode cX11_fold 5 = .ok (.aload_n 0, 1) := by decide +kernel
theorem dX11_fold_6 : decode cX11_fold 6 = .ok (.iload_n 1, 1) := by decide +kernel
theorem dX11_fold_7 : decode cX11_fold 7 = .ok (.invokevirtual 297, 3) := by decide +kernel
theorem dX11_fold_10 : decode cX11_fold 10 = .ok (.ifCond .eq 21, 3) := by decide +kernel
theorem dX11_fold_13 : decode cX11_fold 13 = .ok (.aload_n 0, 1) := by decide +kernel
theorem dX11_fold_14 : decode cX11_fold 14 = .ok (.iload_n 2, 1) := by decide +kernel
theorem dX11_fold_15 : decode cX11_fold 15 = .ok (.invokevirtual 297, 3) := by decide +kernel
theorem dX11_fold_18 : decode cX11_fold 18 = .ok (.ifCond .eq 13, 3) := by decide +kernel
theorem dX11_fold_21 : decode cX11_fold 21 = .ok (.iload_n 3, 1) := by decide +kernel
theorem dX11_fold_22 : decode cX11_fold 22 = .ok (.iconst 0, 1) := by decide +kernel
theorem dX11_fold_23 : decode cX11_fold 23 = .ok (.bipush 120, 2) := by decide +kernel
theorem dX11_fold_25 : decode cX11_fold 25 = .ok (.invokestatic 300, 3) := by decide +kernel
theorem dX11_fold_28 : decode cX11_fold 28 = .ok (.ifCond .ne 5, 3) := by decide +kernel
theorem dX11_fold_31 : decode cX11_fold 31 = .ok (.iconst (-1), 1) := by decide +kernel
theorem dX11_fold_32 : decode cX11_fold 32 = .ok (.ireturn, 1) := by decide +kernel
theorem dX11_fold_33 : decode cX11_fold 33 = .ok (.aload_n 0, 1) := by decide +kernel
theorem dX11_fold_34 : decode cX11_fold 34 = .ok (.iload_n 1, 1) := by decide +kernel
theorem dX11_fold_35 : decode cX11_fold 35 = .ok (.iconst 0, 1) := by decide +kernel
theorem dX11_fold_36 : decode cX11_fold 36 = .ok (.invokevirtual 294, 3) := by decide +kernel
theorem dX11_fold_39 : decode cX11_fold 39 = .ok (.aload_n 0, 1) := by decide +kernel
theorem dX11_fold_40 : decode cX11_fold 40 = .ok (.iload_n 2, 1) := by decide +kernel
theorem dX11_fold_41 : decode cX11_fold 41 = .ok (.iload_n 3, 1) := by decide +kernel
theorem dX11_fold_42 : decode cX11_fold 42 = .ok (.invokevirtual 294, 3) := by decide +kernel
theorem dX11_fold_45 : decode cX11_fold 45 = .ok (.iadd, 1) := by decide +kernel
theorem dX11_fold_46 : decode cX11_fold 46 = .ok (.istore 4, 2) := by decide +kernel
theorem dX11_fold_48 : decode cX11_fold 48 = .ok (.iconst 1, 1) := by decide +kernel
theorem dX11_fold_49 : decode cX11_fold 49 = .ok (.istore 5, 2) := by decide +kernel
theorem dX11_fold_51 : decode cX11_fold 51 = .ok (.iload 5, 2) := by decide +kernel
theorem dX11_fold_53 : decode cX11_fold 53 = .ok (.iload_n 3, 1) := by decide +kernel
theorem dX11_fold_54 : decode cX11_fold 54 = .ok (.if_icmp .gt 44, 3) := by decide +kernel
theorem dX11_fold_57 : decode cX11_fold 57 = .ok (.aload_n 0, 1) := by decide +kernel
theorem dX11_fold_58 : decode cX11_fold 58 = .ok (.iload_n 1, 1) := by decide +kernel
theorem dX11_fold_59 : decode cX11_fold 59 = .ok (.iload 5, 2) := by decide +kernel
theorem dX11_fold_61 : decode cX11_fold 61 = .ok (.invokevirtual 294, 3) := by decide +kernel
theorem dX11_fold_64 : decode cX11_fold 64 = .ok (.aload_n 0, 1) := by decide +kernel
theorem dX11_fold_65 : decode cX11_fold 65 = .ok (.iload_n 2, 1) := by decide +kernel
theorem dX11_fold_66 : decode cX11_fold 66 = .ok (.iload_n 3, 1) := by decide +kernel
theorem dX11_fold_67 : decode cX11_fold 67 = .ok (.iload 5, 2) := by decide +kernel
theorem dX11_fold_69 : decode cX11_fold 69 = .ok (.isub, 1) := by decide +kernel
theorem dX11_fold_70 : decode cX11_fold 70 = .ok (.invokevirtual 294, 3) := by decide +kernel
theorem dX11_fold_73 : decode cX11_fold 73 = .ok (.iadd, 1) := by decide +kernel
theorem dX11_fold_74 : decode cX11_fold 74 = .ok (.istore 6, 2) := by decide +kernel
theorem dX11_fold_76 : decode cX11_fold 76 = .ok (.iload 6, 2) := by decide +kernel
theorem dX11_fold_78 : decode cX11_fold 78 = .ok (.iload 4, 2) := by decide +kernel
theorem dX11_fold_80 : decode cX11_fold 80 = .ok (.if_icmp .ge 8, 3) := by decide +kernel
theorem dX11_fold_83 : decode cX11_fold 83 = .ok (.iload 6, 2) := by decide +kernel
theorem dX11_fold_85 : decode cX11_fold 85 = .ok (.goto 5, 3) := by decide +kernel
theorem dX11_fold_88 : decode cX11_fold 88 = .ok (.iload 4, 2) := by decide +kernel
theorem dX11_fold_90 : decode cX11_fold 90 = .ok (.istore 4, 2) := by decide +kernel
theorem dX11_fold_92 : decode cX11_fold 92 = .ok (.iinc 5 1, 3) := by decide +kernel
theorem dX11_fold_95 : decode cX11_fold 95 = .ok (.goto (-44), 3) := by decide +kernel
theorem dX11_fold_98 : decode cX11_fold 98 = .ok (.iload 4, 2) := by decide +kernel
theorem dX11_fold_100 : decode cX11_fold 100 = .ok (.ireturn, 1) := by decide +kernel
theorem dX11_folds_0 : decode cX11_folds 0 = .ok (.bipush 120, 2) := by decide +kernel
theorem dX11_folds_2 : decode cX11_folds 2 = .ok (.istore_n 2, 1) := by decide +kernel
theorem dX11_folds_3 : decode cX11_folds 3 = .ok (.iload_n 2, 1) := by decide +kernel
theorem dX11_folds_4 : decode cX11_folds 4 = .ok (.ifCond .lt 89, 3) := by decide +kernel
theorem dX11_folds_7 : decode cX11_folds 7 = .ok (.aload_n 0, 1) := by decide +kernel
theorem dX11_folds_8 : decode cX11_folds 8 = .ok (.getfield 114, 3) := by decide +kernel
theorem dX11_folds_11 : decode cX11_folds 11 = .ok (.iload_n 2, 1) := by decide +kernel
theorem dX11_folds_12 : decode cX11_folds 12 = .ok (.iaload, 1) := by decide +kernel
theorem dX11_folds_13 : decode cX11_folds 13 = .ok (.iload_n 1, 1) := by decide +kernel
theorem dX11_folds_14 : decode cX11_folds 14 = .ok (.ifCond .eq 12, 3) := by decide +kernel
theorem dX11_folds_17 : decode cX11_folds 17 = .ok (.aload_n 0, 1) := by decide +kernel
theorem dX11_folds_18 : decode cX11_folds 18 = .ok (.getfield 117, 3) := by decide +kernel
theorem dX11_folds_21 : decode cX11_folds 21 = .ok (.iconst 0, 1) := by decide +kernel
theorem dX11_folds_22 : decode cX11_folds 22 = .ok (.iaload, 1) := by decide +kernel
theorem dX11_folds_23 : decode cX11_folds 23 = .ok (.goto 4, 3) := by decide +kernel
theorem dX11_folds_26 : decode cX11_folds 26 = .ok (.iconst 0, 1) := by decide +kernel
theorem dX11_folds_27 : decode cX11_folds 27 = .ok (.iadd, 1) := by decide +kernel
theorem dX11_folds_28 : decode cX11_folds 28 = .ok (.istore_n 3, 1) := by decide +kernel
theorem dX11_folds_29 : decode cX11_folds 29 = .ok (.iconst 0, 1) := by decide +kernel
theorem dX11_folds_30 : decode cX11_folds 30 = .ok (.istore 4, 2) := by decide +kernel
theorem dX11_folds_32 : decode cX11_folds 32 = .ok (.iload 4, 2) := by decide +kernel
theorem dX11_folds_34 : decode cX11_folds 34 = .ok (.iload_n 2, 1) := by decide +kernel
theorem dX11_folds_35 : decode cX11_folds 35 = .ok (.if_icmp .gt 45, 3) := by decide +kernel
theorem dX11_folds_38 : decode cX11_folds 38 = .ok (.iload_n 1, 1) := by decide +kernel
theorem dX11_folds_39 : decode cX11_folds 39 = .ok (.ifCond .eq 41, 3) := by decide +kernel
theorem dX11_folds_42 : decode cX11_folds 42 = .ok (.aload_n 0, 1) := by decide +kernel
theorem dX11_folds_43 : decode cX11_folds 43 = .ok (.getfield 117, 3) := by decide +kernel
theorem dX11_folds_46 : decode cX11_folds 46 = .ok (.iload 4, 2) := by decide +kernel
theorem dX11_folds_48 : decode cX11_folds 48 = .ok (.iaload, 1) := by decide +kernel
theorem dX11_folds_49 : decode cX11_folds 49 = .ok (.aload_n 0, 1) := by decide +kernel
theorem dX11_folds_50 : decode cX11_folds 50 = .ok (.getfield 114, 3) := by decide +kernel
theorem dX11_folds_53 : decode cX11_folds 53 = .ok (.iload_n 2, 1) := by decide +kernel
theorem dX11_folds_54 : decode cX11_folds 54 = .ok (.iload 4, 2) := by decide +kernel
theorem dX11_folds_56 : decode cX11_folds 56 = .ok (.isub, 1) := by decide +kernel
theorem dX11_folds_57 : decode cX11_folds 57 = .ok (.iaload, 1) := by decide +kernel
theorem dX11_folds_58 : decode cX11_folds 58 = .ok (.iadd, 1) := by decide +kernel
theorem dX11_folds_59 : decode cX11_folds 59 = .ok (.istore 5, 2) := by decide +kernel
theorem dX11_folds_61 : decode cX11_folds 61 = .ok (.iload 5, 2) := by decide +kernel
theorem dX11_folds_63 : decode cX11_folds 63 = .ok (.iload_n 3, 1) := by decide +kernel
theorem dX11_folds_64 : decode cX11_folds 64 = .ok (.if_icmp .ge 8, 3) := by decide +kernel
theorem dX11_folds_67 : decode cX11_folds 67 = .ok (.iload 5, 2) := by decide +kernel
theorem dX11_folds_69 : decode cX11_folds 69 = .ok (.goto 4, 3) := by decide +kernel
theorem dX11_folds_72 : decode cX11_folds 72 = .ok (.iload_n 3, 1) := by decide +kernel
theorem dX11_folds_73 : decode cX11_folds 73 = .ok (.istore_n 3, 1) := by decide +kernel
theorem dX11_folds_74 : decode cX11_folds 74 = .ok (.iinc 4 1, 3) := by decide +kernel
theorem dX11_folds_77 : decode cX11_folds 77 = .ok (.goto (-45), 3) := by decide +kernel
theorem dX11_folds_80 : decode cX11_folds 80 = .ok (.aload_n 0, 1) := by decide +kernel
theorem dX11_folds_81 : decode cX11_folds 81 = .ok (.getfield 117, 3) := by decide +kernel
theorem dX11_folds_84 : decode cX11_folds 84 = .ok (.iload_n 2, 1) := by decide +kernel
theorem dX11_folds_85 : decode cX11_folds 85 = .ok (.iload_n 3, 1) := by decide +kernel
theorem dX11_folds_86 : decode cX11_folds 86 = .ok (.iastore, 1) := by decide +kernel
theorem dX11_folds_87 : decode cX11_folds 87 = .ok (.iinc 2 (-1), 3) := by decide +kernel
theorem dX11_folds_90 : decode cX11_folds 90 = .ok (.goto (-87), 3) := by decide +kernel
theorem dX11_folds_93 : decode cX11_folds 93 = .ok (.return_, 1) := by decide +kernel
theorem dX11_full_0 : decode cX11_full 0 = .ok (.aload_n 0, 1) := by decide +kernel
theorem dX11_full_1 : decode cX11_full 1 = .ok (.iconst 0, 1) := by decide +kernel
theorem dX11_full_2 : decode cX11_full 2 = .ok (.putfield 1, 3) := by decide +kernel
theorem dX11_full_5 : decode cX11_full 5 = .ok (.aload_n 0, 1) := by decide +kernel
theorem dX11_full_6 : decode cX11_full 6 = .ok (.iload_n 1, 1) := by decide +kernel
theorem dX11_full_7 : decode cX11_full 7 = .ok (.invokevirtual 363, 3) := by decide +kernel
theorem dX11_full_10 : decode cX11_full 10 = .ok (.ifCond .eq 10, 3) := by decide +kernel
theorem dX11_full_13 : decode cX11_full 13 = .ok (.aload_n 0, 1) := by decide +kernel
theorem dX11_full_14 : decode cX11_full 14 = .ok (.invokevirtual 349, 3) := by decide +kernel
theorem dX11_full_17 : decode cX11_full 17 = .ok (.ifCond .ge 5, 3) := by decide +kernel
theorem dX11_full_20 : decode cX11_full 20 = .ok (.iconst (-1), 1) := by decide +kernel
theorem dX11_full_21 : decode cX11_full 21 = .ok (.ireturn, 1) := by decide +kernel
theorem dX11_full_22 : decode cX11_full 22 = .ok (.iconst 0, 1) := by decide +kernel
theorem dX11_full_23 : decode cX11_full 23 = .ok (.istore_n 2, 1) := by decide +kernel
theorem dX11_full_24 : decode cX11_full 24 = .ok (.iload_n 2, 1) := by decide +kernel
theorem dX11_full_25 : decode cX11_full 25 = .ok (.bipush 120, 2) := by decide +kernel
theorem dX11_full_27 : decode cX11_full 27 = .ok (.if_icmp .gt 42, 3) := by decide +kernel
theorem dX11_full_30 : decode cX11_full 30 = .ok (.aload_n 0, 1) := by decide +kernel
theorem dX11_full_31 : decode cX11_full 31 = .ok (.getfield 111, 3) := by decide +kernel
theorem dX11_full_34 : decode cX11_full 34 = .ok (.iload_n 2, 1) := by decide +kernel
theorem dX11_full_35 : decode cX11_full 35 = .ok (.aload_n 0, 1) := by decide +kernel
theorem dX11_full_36 : decode cX11_full 36 = .ok (.iload_n 1, 1) := by decide +kernel
theorem dX11_full_37 : decode cX11_full 37 = .ok (.aload_n 0, 1) := by decide +kernel
theorem dX11_full_38 : decode cX11_full 38 = .ok (.iload_n 1, 1) := by decide +kernel
theorem dX11_full_39 : decode cX11_full 39 = .ok (.invokevirtual 325, 3) := by decide +kernel
theorem dX11_full_42 : decode cX11_full 42 = .ok (.iload_n 2, 1) := by decide +kernel
theorem dX11_full_43 : decode cX11_full 43 = .ok (.invokevirtual 337, 3) := by decide +kernel
theorem dX11_full_46 : decode cX11_full 46 = .ok (.iastore, 1) := by decide +kernel
theorem dX11_full_47 : decode cX11_full 47 = .ok (.aload_n 0, 1) := by decide +kernel
theorem dX11_full_48 : decode cX11_full 48 = .ok (.getfield 114, 3) := by decide +kernel
theorem dX11_full_51 : decode cX11_full 51 = .ok (.iload_n 2, 1) := by decide +kernel
theorem dX11_full_52 : decode cX11_full 52 = .ok (.aload_n 0, 1) := by decide +kernel
theorem dX11_full_53 : decode cX11_full 53 = .ok (.aload_n 0, 1) := by decide +kernel
theorem dX11_full_54 : decode cX11_full 54 = .ok (.iload_n 1, 1) := by decide +kernel
theorem dX11_full_55 : decode cX11_full 55 = .ok (.invokevirtual 331, 3) := by decide +kernel
theorem dX11_full_58 : decode cX11_full 58 = .ok (.iload_n 2, 1) := by decide +kernel
theorem dX11_full_59 : decode cX11_full 59 = .ok (.invokevirtual 294, 3) := by decide +kernel
theorem dX11_full_62 : decode cX11_full 62 = .ok (.iastore, 1) := by decide +kernel
theorem dX11_full_63 : decode cX11_full 63 = .ok (.iinc 2 1, 3) := by decide +kernel
theorem dX11_full_66 : decode cX11_full 66 = .ok (.goto (-42), 3) := by decide +kernel
theorem dX11_full_69 : decode cX11_full 69 = .ok (.aload_n 0, 1) := by decide +kernel
theorem dX11_full_70 : decode cX11_full 70 = .ok (.invokevirtual 313, 3) := by decide +kernel
theorem dX11_full_73 : decode cX11_full 73 = .ok (.istore_n 2, 1) := by decide +kernel
theorem dX11_full_74 : decode cX11_full 74 = .ok (.iload_n 2, 1) := by decide +kernel
theorem dX11_full_75 : decode cX11_full 75 = .ok (.ifCond .ge 7, 3) := by decide +kernel
theorem dX11_full_78 : decode cX11_full 78 = .ok (.iconst 0, 1) := by decide +kernel
theorem dX11_full_79 : decode cX11_full 79 = .ok (.goto 4, 3) := by decide +kernel
theorem dX11_full_82 : decode cX11_full 82 = .ok (.iload_n 2, 1) := by decide +kernel
theorem dX11_full_83 : decode cX11_full 83 = .ok (.ireturn, 1) := by decide +kernel
theorem dX11_goes_0 : decode cX11_goes 0 = .ok (.aload_n 0, 1) := by decide +kernel
theorem dX11_goes_1 : decode cX11_goes 1 = .ok (.getfield 101, 3) := by decide +kernel
theorem dX11_goes_4 : decode cX11_goes 4 = .ok (.iload_n 1, 1) := by decide +kernel
theorem dX11_goes_5 : decode cX11_goes 5 = .ok (.bipush 126, 2) := by decide +kernel
theorem dX11_goes_7 : decode cX11_goes 7 = .ok (.iadd, 1) := by decide +kernel
theorem dX11_goes_8 : decode cX11_goes 8 = .ok (.iload_n 2, 1) := by decide +kernel
theorem dX11_goes_9 : decode cX11_goes 9 = .ok (.iadd, 1) := by decide +kernel
theorem dX11_goes_10 : decode cX11_goes 10 = .ok (.dup2, 1) := by decide +kernel
theorem dX11_goes_11 : decode cX11_goes 11 = .ok (.iaload, 1) := by decide +kernel
theorem dX11_goes_12 : decode cX11_goes 12 = .ok (.iconst 1, 1) := by decide +kernel
theorem dX11_goes_13 : decode cX11_goes 13 = .ok (.iadd, 1) := by decide +kernel
theorem dX11_goes_14 : decode cX11_goes 14 = .ok (.iastore, 1) := by decide +kernel
theorem dX11_goes_15 : decode cX11_goes 15 = .ok (.iload_n 1, 1) := by decide +kernel
theorem dX11_goes_16 : decode cX11_goes 16 = .ok (.sipush 134, 3) := by decide +kernel
theorem dX11_goes_19 : decode cX11_goes 19 = .ok (.iadd, 1) := by decide +kernel
theorem dX11_goes_20 : decode cX11_goes 20 = .ok (.iload_n 2, 1) := by decide +kernel
theorem dX11_goes_21 : decode cX11_goes 21 = .ok (.iadd, 1) := by decide +kernel
theorem dX11_goes_22 : decode cX11_goes 22 = .ok (.istore 4, 2) := by decide +kernel
theorem dX11_goes_24 : decode cX11_goes 24 = .ok (.aload_n 0, 1) := by decide +kernel
theorem dX11_goes_25 : decode cX11_goes 25 = .ok (.getfield 101, 3) := by decide +kernel
theorem dX11_goes_28 : decode cX11_goes 28 = .ok (.iload 4, 2) := by decide +kernel
theorem dX11_goes_30 : decode cX11_goes 30 = .ok (.iload_n 3, 1) := by decide +kernel
theorem dX11_goes_31 : decode cX11_goes 31 = .ok (.aload_n 0, 1) := by decide +kernel
theorem dX11_goes_32 : decode cX11_goes 32 = .ok (.getfield 101, 3) := by decide +kernel
theorem dX11_goes_35 : decode cX11_goes 35 = .ok (.iload 4, 2) := by decide +kernel
theorem dX11_goes_37 : decode cX11_goes 37 = .ok (.iaload, 1) := by decide +kernel
theorem dX11_goes_38 : decode cX11_goes 38 = .ok (.if_icmp .le 7, 3) := by decide +kernel
theorem dX11_goes_41 : decode cX11_goes 41 = .ok (.iload_n 3, 1) := by decide +kernel
theorem dX11_goes_42 : decode cX11_goes 42 = .ok (.goto 10, 3) := by decide +kernel
theorem dX11_goes_45 : decode cX11_goes 45 = .ok (.aload_n 0, 1) := by decide +kernel
theorem dX11_goes_46 : decode cX11_goes 46 = .ok (.getfield 101, 3) := by decide +kernel
theorem dX11_goes_49 : decode cX11_goes 49 = .ok (.iload 4, 2) := by decide +kernel
theorem dX11_goes_51 : decode cX11_goes 51 = .ok (.iaload, 1) := by decide +kernel
theorem dX11_goes_52 : decode cX11_goes 52 = .ok (.iastore, 1) := by decide +kernel
theorem dX11_goes_53 : decode cX11_goes 53 = .ok (.return_, 1) := by decide +kernel
theorem dX11_hasSign_0 : decode cX11_hasSign 0 = .ok (.aload_n 0, 1) := by decide +kernel
theorem dX11_hasSign_1 : decode cX11_hasSign 1 = .ok (.iload_n 1, 1) := by decide +kernel
theorem dX11_hasSign_2 : decode cX11_hasSign 2 = .ok (.invokevirtual 171, 3) := by decide +kernel
theorem dX11_hasSign_5 : decode cX11_hasSign 5 = .ok (.istore_n 2, 1) := by decide +kernel
theorem dX11_hasSign_6 : decode cX11_hasSign 6 = .ok (.aload_n 0, 1) := by decide +kernel
theorem dX11_hasSign_7 : decode cX11_hasSign 7 = .ok (.dup, 1) := by decide +kernel
theorem dX11_hasSign_8 : decode cX11_hasSign 8 = .ok (.getfield 165, 3) := by decide +kernel
theorem dX11_hasSign_11 : decode cX11_hasSign 11 = .ok (.iload_n 2, 1) := by decide +kernel
theorem dX11_hasSign_12 : decode cX11_hasSign 12 = .ok (.ifCond .eq 7, 3) := by decide +kernel
theorem dX11_hasSign_15 : decode cX11_hasSign 15 = .ok (.iconst 1, 1) := by decide +kernel
theorem dX11_hasSign_16 : decode cX11_hasSign 16 = .ok (.goto 4, 3) := by decide +kernel
theorem dX11_hasSign_19 : decode cX11_hasSign 19 = .ok (.iconst 0, 1) := by decide +kernel
theorem dX11_hasSign_20 : decode cX11_hasSign 20 = .ok (.iadd, 1) := by decide +kernel
theorem dX11_hasSign_21 : decode cX11_hasSign 21 = .ok (.putfield 165, 3) := by decide +kernel
theorem dX11_hasSign_24 : decode cX11_hasSign 24 = .ok (.iload_n 2, 1) := by decide +kernel
theorem dX11_hasSign_25 : decode cX11_hasSign 25 = .ok (.ireturn, 1) := by decide +kernel
theorem dX11_hasWord_0 : decode cX11_hasWord 0 = .ok (.aload_n 0, 1) := by decide +kernel
theorem dX11_hasWord_1 : decode cX11_hasWord 1 = .ok (.iload_n 1, 1) := by decide +kernel
theorem dX11_hasWord_2 : decode cX11_hasWord 2 = .ok (.invokevirtual 177, 3) := by decide +kernel
theorem dX11_hasWord_5 : decode cX11_hasWord 5 = .ok (.istore_n 2, 1) := by decide +kernel
theorem dX11_hasWord_6 : decode cX11_hasWord 6 = .ok (.aload_n 0, 1) := by decide +kernel
theorem dX11_hasWord_7 : decode cX11_hasWord 7 = .ok (.dup, 1) := by decide +kernel
theorem dX11_hasWord_8 : decode cX11_hasWord 8 = .ok (.getfield 165, 3) := by decide +kernel
theorem dX11_hasWord_11 : decode cX11_hasWord 11 = .ok (.iload_n 2, 1) := by decide +kernel
theorem dX11_hasWord_12 : decode cX11_hasWord 12 = .ok (.ifCond .eq 7, 3) := by decide +kernel
theorem dX11_hasWord_15 : decode cX11_hasWord 15 = .ok (.iconst 1, 1) := by decide +kernel
theorem dX11_hasWord_16 : decode cX11_hasWord 16 = .ok (.goto 4, 3) := by decide +kernel
theorem dX11_hasWord_19 : decode cX11_hasWord 19 = .ok (.iconst 0, 1) := by decide +kernel
theorem dX11_hasWord_20 : decode cX11_hasWord 20 = .ok (.iadd, 1) := by decide +kernel
theorem dX11_hasWord_21 : decode cX11_hasWord 21 = .ok (.putfield 165, 3) := by decide +kernel
theorem dX11_hasWord_24 : decode cX11_hasWord 24 = .ok (.iload_n 2, 1) := by decide +kernel
theorem dX11_hasWord_25 : decode cX11_hasWord 25 = .ok (.ireturn, 1) := by decide +kernel
theorem dX11_holds_0 : decode cX11_holds 0 = .ok (.aload_n 0, 1) := by decide +kernel
theorem dX11_holds_1 : decode cX11_holds 1 = .ok (.iconst 0, 1) := by decide +kernel
theorem dX11_holds_2 : decode cX11_holds 2 = .ok (.putfield 1, 3) := by decide +kernel
theorem dX11_holds_5 : decode cX11_holds 5 = .ok (.aload_n 0, 1) := by decide +kernel
theorem dX11_holds_6 : decode cX11_holds 6 = .ok (.iload_n 1, 1) := by decide +kernel
theorem dX11_holds_7 : decode cX11_holds 7 = .ok (.invokevirtual 282, 3) := by decide +kernel
theorem dX11_holds_10 : decode cX11_holds 10 = .ok (.ifCond .eq 37, 3) := by decide +kernel
theorem dX11_holds_13 : decode cX11_holds 13 = .ok (.aload_n 0, 1) := by decide +kernel
theorem dX11_holds_14 : decode cX11_holds 14 = .ok (.invokevirtual 349, 3) := by decide +kernel
theorem dX11_holds_17 : decode cX11_holds 17 = .ok (.ifCond .lt 26, 3) := by decide +kernel
theorem dX11_holds_20 : decode cX11_holds 20 = .ok (.aload_n 0, 1) := by decide +kernel
theorem dX11_holds_21 : decode cX11_holds 21 = .ok (.getfield 101, 3) := by decide +kernel
theorem dX11_holds_24 : decode cX11_holds 24 = .ok (.sipush 134, 3) := by decide +kernel
theorem dX11_holds_27 : decode cX11_holds 27 = .ok (.iload_n 1, 1) := by decide +kernel
theorem dX11_holds_28 : decode cX11_holds 28 = .ok (.iadd, 1) := by decide +kernel
theorem dX11_holds_29 : decode cX11_holds 29 = .ok (.iaload, 1) := by decide +kernel
theorem dX11_holds_30 : decode cX11_holds 30 = .ok (.aload_n 0, 1) := by decide +kernel
theorem dX11_holds_31 : decode cX11_holds 31 = .ok (.iload_n 1, 1) := by decide +kernel
theorem dX11_holds_32 : decode cX11_holds 32 = .ok (.aload_n 0, 1) := by decide +kernel
theorem dX11_holds_33 : decode cX11_holds 33 = .ok (.iload_n 1, 1) := by decide +kernel
theorem dX11_holds_34 : decode cX11_holds 34 = .ok (.invokevirtual 285, 3) := by decide +kernel
theorem dX11_holds_37 : decode cX11_holds 37 = .ok (.invokevirtual 319, 3) := by decide +kernel
theorem dX11_holds_40 : decode cX11_holds 40 = .ok (.if_icmp .gt 7, 3) := by decide +kernel
theorem dX11_holds_43 : decode cX11_holds 43 = .ok (.iconst 1, 1) := by decide +kernel
theorem dX11_holds_44 : decode cX11_holds 44 = .ok (.goto 4, 3) := by decide +kernel
theorem dX11_holds_47 : decode cX11_holds 47 = .ok (.iconst 0, 1) := by decide +kernel
theorem dX11_holds_48 : decode cX11_holds 48 = .ok (.ireturn, 1) := by decide +kernel
theorem dX11_hopAt_0 : decode cX11_hopAt 0 = .ok (.iconst (-1), 1) := by decide +kernel
theorem dX11_hopAt_1 : decode cX11_hopAt 1 = .ok (.istore_n 3, 1) := by decide +kernel
theorem dX11_hopAt_2 : decode cX11_hopAt 2 = .ok (.iconst 0, 1) := by decide +kernel
theorem dX11_hopAt_3 : decode cX11_hopAt 3 = .ok (.istore 4, 2) := by decide +kernel
theorem dX11_hopAt_5 : decode cX11_hopAt 5 = .ok (.iload 4, 2) := by decide +kernel
theorem dX11_hopAt_7 : decode cX11_hopAt 7 = .ok (.aload_n 0, 1) := by decide +kernel
theorem dX11_hopAt_8 : decode cX11_hopAt 8 = .ok (.iload_n 1, 1) := by decide +kernel
theorem dX11_hopAt_9 : decode cX11_hopAt 9 = .ok (.invokevirtual 285, 3) := by decide +kernel
theorem dX11_hopAt_12 : decode cX11_hopAt 12 = .ok (.if_icmp .ge 27, 3) := by decide +kernel
theorem dX11_hopAt_15 : decode cX11_hopAt 15 = .ok (.aload_n 0, 1) := by decide +kernel
theorem dX11_hopAt_16 : decode cX11_hopAt 16 = .ok (.iload_n 1, 1) := by decide +kernel
theorem dX11_hopAt_17 : decode cX11_hopAt 17 = .ok (.iload 4, 2) := by decide +kernel
theorem dX11_hopAt_19 : decode cX11_hopAt 19 = .ok (.invokevirtual 288, 3) := by decide +kernel
theorem dX11_hopAt_22 : decode cX11_hopAt 22 = .ok (.iload_n 2, 1) := by decide +kernel
theorem dX11_hopAt_23 : decode cX11_hopAt 23 = .ok (.if_icmp .ne 8, 3) := by decide +kernel
theorem dX11_hopAt_26 : decode cX11_hopAt 26 = .ok (.iload 4, 2) := by decide +kernel
theorem dX11_hopAt_28 : decode cX11_hopAt 28 = .ok (.goto 4, 3) := by decide +kernel
theorem dX11_hopAt_31 : decode cX11_hopAt 31 = .ok (.iload_n 3, 1) := by decide +kernel
theorem dX11_hopAt_32 : decode cX11_hopAt 32 = .ok (.istore_n 3, 1) := by decide +kernel
theorem dX11_hopAt_33 : decode cX11_hopAt 33 = .ok (.iinc 4 1, 3) := by decide +kernel
theorem dX11_hopAt_36 : decode cX11_hopAt 36 = .ok (.goto (-31), 3) := by decide +kernel
theorem dX11_hopAt_39 : decode cX11_hopAt 39 = .ok (.iload_n 3, 1) := by decide +kernel
theorem dX11_hopAt_40 : decode cX11_hopAt 40 = .ok (.ireturn, 1) := by decide +kernel
theorem dX11_hopsOf_0 : decode cX11_hopsOf 0 = .ok (.aload_n 0, 1) := by decide +kernel
theorem dX11_hopsOf_1 : decode cX11_hopsOf 1 = .ok (.getfield 83, 3) := by decide +kernel
theorem dX11_hopsOf_4 : decode cX11_hopsOf 4 = .ok (.bipush 78, 2) := by decide +kernel
theorem dX11_hopsOf_6 : decode cX11_hopsOf 6 = .ok (.bipush 6, 2) := by decide +kernel
theorem dX11_hopsOf_8 : decode cX11_hopsOf 8 = .ok (.iload_n 1, 1) := by decide +kernel
theorem dX11_hopsOf_9 : decode cX11_hopsOf 9 = .ok (.imul, 1) := by decide +kernel
theorem dX11_hopsOf_10 : decode cX11_hopsOf 10 = .ok (.iadd, 1) := by decide +kernel
theorem dX11_hopsOf_11 : decode cX11_hopsOf 11 = .ok (.iconst 1, 1) := by decide +kernel
theorem dX11_hopsOf_12 : decode cX11_hopsOf 12 = .ok (.iadd, 1) := by decide +kernel
theorem dX11_hopsOf_13 : decode cX11_hopsOf 13 = .ok (.iaload, 1) := by decide +kernel
theorem dX11_hopsOf_14 : decode cX11_hopsOf 14 = .ok (.ireturn, 1) := by decide +kernel
theorem dX11_init_0 : decode cX11_init 0 = .ok (.aload_n 0, 1) := by decide +kernel
theorem dX11_init_1 : decode cX11_init 1 = .ok (.invokespecial 18, 3) := by decide +kernel
theorem dX11_init_4 : decode cX11_init 4 = .ok (.aload_n 0, 1) := by decide +kernel
theorem dX11_init_5 : decode cX11_init 5 = .ok (.sipush 1000, 3) := by decide +kernel
theorem dX11_init_8 : decode cX11_init 8 = .ok (.newarray .int, 2) := by decide +kernel
theorem dX11_init_10 : decode cX11_init 10 = .ok (.putfield 14, 3) := by decide +kernel
theorem dX11_init_13 : decode cX11_init 13 = .ok (.aload_n 0, 1) := by decide +kernel
theorem dX11_init_14 : decode cX11_init 14 = .ok (.sipush 1002, 3) := by decide +kernel
theorem dX11_init_17 : decode cX11_init 17 = .ok (.newarray .int, 2) := by decide +kernel
theorem dX11_init_19 : decode cX11_init 19 = .ok (.putfield 24, 3) := by decide +kernel
theorem dX11_init_22 : decode cX11_init 22 = .ok (.aload_n 0, 1) := by decide +kernel
theorem dX11_init_23 : decode cX11_init 23 = .ok (.sipush 1002, 3) := by decide +kernel
theorem dX11_init_26 : decode cX11_init 26 = .ok (.newarray .int, 2) := by decide +kernel
theorem dX11_init_28 : decode cX11_init 28 = .ok (.putfield 27, 3) := by decide +kernel
theorem dX11_init_31 : decode cX11_init 31 = .ok (.aload_n 0, 1) := by decide +kernel
theorem dX11_init_32 : decode cX11_init 32 = .ok (.sipush 1002, 3) := by decide +kernel
theorem dX11_init_35 : decode cX11_init 35 = .ok (.newarray .long, 2) := by decide +kernel
theorem dX11_init_37 : decode cX11_init 37 = .ok (.putfield 30, 3) := by decide +kernel
theorem dX11_init_40 : decode cX11_init 40 = .ok (.aload_n 0, 1) := by decide +kernel
theorem dX11_init_41 : decode cX11_init 41 = .ok (.bipush 23, 2) := by decide +kernel
theorem dX11_init_43 : decode cX11_init 43 = .ok (.newarray .long, 2) := by decide +kernel
theorem dX11_init_45 : decode cX11_init 45 = .ok (.dup, 1) := by decide +kernel
theorem dX11_init_46 : decode cX11_init 46 = .ok (.iconst 0, 1) := by decide +kernel
theorem dX11_init_47 : decode cX11_init 47 = .ok (.ldc2_w 34, 3) := by decide +kernel
theorem dX11_init_50 : decode cX11_init 50 = .ok (.lastore, 1) := by decide +kernel
theorem dX11_init_51 : decode cX11_init 51 = .ok (.dup, 1) := by decide +kernel
theorem dX11_init_52 : decode cX11_init 52 = .ok (.iconst 1, 1) := by decide +kernel
theorem dX11_init_53 : decode cX11_init 53 = .ok (.ldc2_w 36, 3) := by decide +kernel
theorem dX11_init_56 : decode cX11_init 56 = .ok (.lastore, 1) := by decide +kernel
theorem dX11_init_57 : decode cX11_init 57 = .ok (.dup, 1) := by decide +kernel
theorem dX11_init_58 : decode cX11_init 58 = .ok (.iconst 2, 1) := by decide +kernel
theorem dX11_init_59 : decode cX11_init 59 = .ok (.ldc2_w 38, 3) := by decide +kernel
theorem dX11_init_62 : decode cX11_init 62 = .ok (.lastore, 1) := by decide +kernel
theorem dX11_init_63 : decode cX11_init 63 = .ok (.dup, 1) := by decide +kernel
theorem dX11_init_64 : decode cX11_init 64 = .ok (.iconst 3, 1) := by decide +kernel
theorem dX11_init_65 : decode cX11_init 65 = .ok (.ldc2_w 40, 3) := by decide +kernel
theorem dX11_init_68 : decode cX11_init 68 = .ok (.lastore, 1) := by decide +kernel
theorem dX11_init_69 : decode cX11_init 69 = .ok (.dup, 1) := by decide +kernel
theorem dX11_init_70 : decode cX11_init 70 = .ok (.iconst 4, 1) := by decide +kernel
theorem dX11_init_71 : decode cX11_init 71 = .ok (.ldc2_w 42, 3) := by decide +kernel
theorem dX11_init_74 : decode cX11_init 74 = .ok (.lastore, 1) := by decide +kernel
theorem dX11_init_75 : decode cX11_init 75 = .ok (.dup, 1) := by decide +kernel
theorem dX11_init_76 : decode cX11_init 76 = .ok (.iconst 5, 1) := by decide +kernel
theorem dX11_init_77 : decode cX11_init 77 = .ok (.ldc2_w 44, 3) := by decide +kernel
theorem dX11_init_80 : decode cX11_init 80 = .ok (.lastore, 1) := by decide +kernel
theorem dX11_init_81 : decode cX11_init 81 = .ok (.dup, 1) := by decide +kernel
theorem dX11_init_82 : decode cX11_init 82 = .ok (.bipush 6, 2) := by decide +kernel
theorem dX11_init_84 : decode cX11_init 84 = .ok (.ldc2_w 46, 3) := by decide +kernel
theorem dX11_init_87 : decode cX11_init 87 = .ok (.lastore, 1) := by decide +kernel
theorem dX11_init_88 : decode cX11_init 88 = .ok (.dup, 1) := by decide +kernel
theorem dX11_init_89 : decode cX11_init 89 = .ok (.bipush 7, 2) := by decide +kernel
theorem dX11_init_91 : decode cX11_init 91 = .ok (.ldc2_w 48, 3) := by decide +kernel
theorem dX11_init_94 : decode cX11_init 94 = .ok (.lastore, 1) := by decide +kernel
theorem dX11_init_95 : decode cX11_init 95 = .ok (.dup, 1) := by decide +kernel
theorem dX11_init_96 : decode cX11_init 96 = .ok (.bipush 8, 2) := by decide +kernel
theorem dX11_init_98 : decode cX11_init 98 = .ok (.ldc2_w 50, 3) := by decide +kernel
theorem dX11_init_101 : decode cX11_init 101 = .ok (.lastore, 1) := by decide +kernel
theorem dX11_init_102 : decode cX11_init 102 = .ok (.dup, 1) := by decide +kernel
theorem dX11_init_103 : decode cX11_init 103 = .ok (.bipush 9, 2) := by decide +kernel
theorem dX11_init_105 : decode cX11_init 105 = .ok (.ldc2_w 52, 3) := by decide +kernel
theorem dX11_init_108 : decode cX11_init 108 = .ok (.lastore, 1) := by decide +kernel
theorem dX11_init_109 : decode cX11_init 109 = .ok (.dup, 1) := by decide +kernel
theorem dX11_init_110 : decode cX11_init 110 = .ok (.bipush 10, 2) := by decide +kernel
theorem dX11_init_112 : decode cX11_init 112 = .ok (.ldc2_w 54, 3) := by decide +kernel
theorem dX11_init_115 : decode cX11_init 115 = .ok (.lastore, 1) := by decide +kernel
theorem dX11_init_116 : decode cX11_init 116 = .ok (.dup, 1) := by decide +kernel
theorem dX11_init_117 : decode cX11_init 117 = .ok (.bipush 11, 2) := by decide +kernel
theorem dX11_init_119 : decode cX11_init 119 = .ok (.ldc2_w 56, 3) := by decide +kernel
theorem dX11_init_122 : decode cX11_init 122 = .ok (.lastore, 1) := by decide +kernel
theorem dX11_init_123 : decode cX11_init 123 = .ok (.dup, 1) := by decide +kernel
theorem dX11_init_124 : decode cX11_init 124 = .ok (.bipush 12, 2) := by decide +kernel
theorem dX11_init_126 : decode cX11_init 126 = .ok (.ldc2_w 58, 3) := by decide +kernel
theorem dX11_init_129 : decode cX11_init 129 = .ok (.lastore, 1) := by decide +kernel
theorem dX11_init_130 : decode cX11_init 130 = .ok (.dup, 1) := by decide +kernel
theorem dX11_init_131 : decode cX11_init 131 = .ok (.bipush 13, 2) := by decide +kernel
theorem dX11_init_133 : decode cX11_init 133 = .ok (.ldc2_w 60, 3) := by decide +kernel
theorem dX11_init_136 : decode cX11_init 136 = .ok (.lastore, 1) := by decide +kernel
theorem dX11_init_137 : decode cX11_init 137 = .ok (.dup, 1) := by decide +kernel
theorem dX11_init_138 : decode cX11_init 138 = .ok (.bipush 14, 2) := by decide +kernel
theorem dX11_init_140 : decode cX11_init 140 = .ok (.ldc2_w 62, 3) := by decide +kernel
theorem dX11_init_143 : decode cX11_init 143 = .ok (.lastore, 1) := by decide +kernel
theorem dX11_init_144 : decode cX11_init 144 = .ok (.dup, 1) := by decide +kernel
theorem dX11_init_145 : decode cX11_init 145 = .ok (.bipush 15, 2) := by decide +kernel
theorem dX11_init_147 : decode cX11_init 147 = .ok (.ldc2_w 64, 3) := by decide +kernel
theorem dX11_init_150 : decode cX11_init 150 = .ok (.lastore, 1) := by decide +kernel
theorem dX11_init_151 : decode cX11_init 151 = .ok (.dup, 1) := by decide +kernel
theorem dX11_init_152 : decode cX11_init 152 = .ok (.bipush 16, 2) := by decide +kernel
theorem dX11_init_154 : decode cX11_init 154 = .ok (.ldc2_w 66, 3) := by decide +kernel
theorem dX11_init_157 : decode cX11_init 157 = .ok (.lastore, 1) := by decide +kernel
theorem dX11_init_158 : decode cX11_init 158 = .ok (.dup, 1) := by decide +kernel
theorem dX11_init_159 : decode cX11_init 159 = .ok (.bipush 17, 2) := by decide +kernel
theorem dX11_init_161 : decode cX11_init 161 = .ok (.ldc2_w 68, 3) := by decide +kernel
theorem dX11_init_164 : decode cX11_init 164 = .ok (.lastore, 1) := by decide +kernel
theorem dX11_init_165 : decode cX11_init 165 = .ok (.dup, 1) := by decide +kernel
theorem dX11_init_166 : decode cX11_init 166 = .ok (.bipush 18, 2) := by decide +kernel
theorem dX11_init_168 : decode cX11_init 168 = .ok (.ldc2_w 70, 3) := by decide +kernel
theorem dX11_init_171 : decode cX11_init 171 = .ok (.lastore, 1) := by decide +kernel
theorem dX11_init_172 : decode cX11_init 172 = .ok (.dup, 1) := by decide +kernel
theorem dX11_init_173 : decode cX11_init 173 = .ok (.bipush 19, 2) := by decide +kernel
theorem dX11_init_175 : decode cX11_init 175 = .ok (.ldc2_w 72, 3) := by decide +kernel
theorem dX11_init_178 : decode cX11_init 178 = .ok (.lastore, 1) := by decide +kernel
theorem dX11_init_179 : decode cX11_init 179 = .ok (.dup, 1) := by decide +kernel
theorem dX11_init_180 : decode cX11_init 180 = .ok (.bipush 20, 2) := by decide +kernel
theorem dX11_init_182 : decode cX11_init 182 = .ok (.ldc2_w 74, 3) := by decide +kernel
theorem dX11_init_185 : decode cX11_init 185 = .ok (.lastore, 1) := by decide +kernel
theorem dX11_init_186 : decode cX11_init 186 = .ok (.dup, 1) := by decide +kernel
theorem dX11_init_187 : decode cX11_init 187 = .ok (.bipush 21, 2) := by decide +kernel
theorem dX11_init_189 : decode cX11_init 189 = .ok (.ldc2_w 76, 3) := by decide +kernel
theorem dX11_init_192 : decode cX11_init 192 = .ok (.lastore, 1) := by decide +kernel
theorem dX11_init_193 : decode cX11_init 193 = .ok (.dup, 1) := by decide +kernel
theorem dX11_init_194 : decode cX11_init 194 = .ok (.bipush 22, 2) := by decide +kernel
theorem dX11_init_196 : decode cX11_init 196 = .ok (.ldc2_w 78, 3) := by decide +kernel
theorem dX11_init_199 : decode cX11_init 199 = .ok (.lastore, 1) := by decide +kernel
theorem dX11_init_200 : decode cX11_init 200 = .ok (.putfield 80, 3) := by decide +kernel
theorem dX11_init_203 : decode cX11_init 203 = .ok (.aload_n 0, 1) := by decide +kernel
theorem dX11_init_204 : decode cX11_init 204 = .ok (.sipush 220, 3) := by decide +kernel
theorem dX11_init_207 : decode cX11_init 207 = .ok (.newarray .int, 2) := by decide +kernel
theorem dX11_init_209 : decode cX11_init 209 = .ok (.putfield 83, 3) := by decide +kernel
theorem dX11_init_212 : decode cX11_init 212 = .ok (.aload_n 0, 1) := by decide +kernel
theorem dX11_init_213 : decode cX11_init 213 = .ok (.sipush 2200, 3) := by decide +kernel
theorem dX11_init_216 : decode cX11_init 216 = .ok (.newarray .int, 2) := by decide +kernel
theorem dX11_init_218 : decode cX11_init 218 = .ok (.putfield 86, 3) := by decide +kernel
theorem dX11_init_221 : decode cX11_init 221 = .ok (.aload_n 0, 1) := by decide +kernel
theorem dX11_init_222 : decode cX11_init 222 = .ok (.bipush 28, 2) := by decide +kernel
theorem dX11_init_224 : decode cX11_init 224 = .ok (.newarray .long, 2) := by decide +kernel
theorem dX11_init_226 : decode cX11_init 226 = .ok (.putfield 89, 3) := by decide +kernel
theorem dX11_init_229 : decode cX11_init 229 = .ok (.aload_n 0, 1) := by decide +kernel
theorem dX11_init_230 : decode cX11_init 230 = .ok (.sipush 170, 3) := by decide +kernel
theorem dX11_init_233 : decode cX11_init 233 = .ok (.newarray .int, 2) := by decide +kernel
theorem dX11_init_235 : decode cX11_init 235 = .ok (.putfield 92, 3) := by decide +kernel
theorem dX11_init_238 : decode cX11_init 238 = .ok (.aload_n 0, 1) := by decide +kernel
theorem dX11_init_239 : decode cX11_init 239 = .ok (.iconst 4, 1) := by decide +kernel
theorem dX11_init_240 : decode cX11_init 240 = .ok (.newarray .int, 2) := by decide +kernel
theorem dX11_init_242 : decode cX11_init 242 = .ok (.putfield 95, 3) := by decide +kernel
theorem dX11_init_245 : decode cX11_init 245 = .ok (.aload_n 0, 1) := by decide +kernel
theorem dX11_init_246 : decode cX11_init 246 = .ok (.bipush 64, 2) := by decide +kernel
theorem dX11_init_248 : decode cX11_init 248 = .ok (.newarray .int, 2) := by decide +kernel
theorem dX11_init_250 : decode cX11_init 250 = .ok (.putfield 98, 3) := by decide +kernel
theorem dX11_init_253 : decode cX11_init 253 = .ok (.aload_n 0, 1) := by decide +kernel
theorem dX11_init_254 : decode cX11_init 254 = .ok (.sipush 1628, 3) := by decide +kernel
theorem dX11_init_257 : decode cX11_init 257 = .ok (.newarray .int, 2) := by decide +kernel
theorem dX11_init_259 : decode cX11_init 259 = .ok (.putfield 101, 3) := by decide +kernel
theorem dX11_init_262 : decode cX11_init 262 = .ok (.aload_n 0, 1) := by decide +kernel
theorem dX11_init_263 : decode cX11_init 263 = .ok (.iconst 2, 1) := by decide +kernel
theorem dX11_init_264 : decode cX11_init 264 = .ok (.newarray .boolean, 2) := by decide +kernel
theorem dX11_init_266 : decode cX11_init 266 = .ok (.putfield 104, 3) := by decide +kernel
theorem dX11_init_269 : decode cX11_init 269 = .ok (.aload_n 0, 1) := by decide +kernel
theorem dX11_init_270 : decode cX11_init 270 = .ok (.bipush 61, 2) := by decide +kernel
theorem dX11_init_272 : decode cX11_init 272 = .ok (.newarray .int, 2) := by decide +kernel
theorem dX11_init_274 : decode cX11_init 274 = .ok (.putfield 108, 3) := by decide +kernel
theorem dX11_init_277 : decode cX11_init 277 = .ok (.aload_n 0, 1) := by decide +kernel
theorem dX11_init_278 : decode cX11_init 278 = .ok (.bipush 121, 2) := by decide +kernel
theorem dX11_init_280 : decode cX11_init 280 = .ok (.newarray .int, 2) := by decide +kernel
theorem dX11_init_282 : decode cX11_init 282 = .ok (.putfield 111, 3) := by decide +kernel
theorem dX11_init_285 : decode cX11_init 285 = .ok (.aload_n 0, 1) := by decide +kernel
theorem dX11_init_286 : decode cX11_init 286 = .ok (.bipush 121, 2) := by decide +kernel
theorem dX11_init_288 : decode cX11_init 288 = .ok (.newarray .int, 2) := by decide +kernel
theorem dX11_init_290 : decode cX11_init 290 = .ok (.putfield 114, 3) := by decide +kernel
theorem dX11_init_293 : decode cX11_init 293 = .ok (.aload_n 0, 1) := by decide +kernel
theorem dX11_init_294 : decode cX11_init 294 = .ok (.bipush 121, 2) := by decide +kernel
theorem dX11_init_296 : decode cX11_init 296 = .ok (.newarray .int, 2) := by decide +kernel
theorem dX11_init_298 : decode cX11_init 298 = .ok (.putfield 117, 3) := by decide +kernel
theorem dX11_init_301 : decode cX11_init 301 = .ok (.aload_n 0, 1) := by decide +kernel
theorem dX11_init_302 : decode cX11_init 302 = .ok (.bipush 16, 2) := by decide +kernel
theorem dX11_init_304 : decode cX11_init 304 = .ok (.newarray .int, 2) := by decide +kernel
theorem dX11_init_306 : decode cX11_init 306 = .ok (.putfield 120, 3) := by decide +kernel
theorem dX11_init_309 : decode cX11_init 309 = .ok (.aload_n 0, 1) := by decide +kernel
theorem dX11_init_310 : decode cX11_init 310 = .ok (.bipush 16, 2) := by decide +kernel
theorem dX11_init_312 : decode cX11_init 312 = .ok (.newarray .int, 2) := by decide +kernel
theorem dX11_init_314 : decode cX11_init 314 = .ok (.putfield 123, 3) := by decide +kernel
theorem dX11_init_317 : decode cX11_init 317 = .ok (.aload_n 0, 1) := by decide +kernel
theorem dX11_init_318 : decode cX11_init 318 = .ok (.bipush 40, 2) := by decide +kernel
theorem dX11_init_320 : decode cX11_init 320 = .ok (.newarray .int, 2) := by decide +kernel
theorem dX11_init_322 : decode cX11_init 322 = .ok (.putfield 126, 3) := by decide +kernel
theorem dX11_init_325 : decode cX11_init 325 = .ok (.aload_n 0, 1) := by decide +kernel
theorem dX11_init_326 : decode cX11_init 326 = .ok (.bipush 40, 2) := by decide +kernel
theorem dX11_init_328 : decode cX11_init 328 = .ok (.newarray .boolean, 2) := by decide +kernel
theorem dX11_init_330 : decode cX11_init 330 = .ok (.putfield 129, 3) := by decide +kernel
theorem dX11_init_333 : decode cX11_init 333 = .ok (.aload_n 0, 1) := by decide +kernel
theorem dX11_init_334 : decode cX11_init 334 = .ok (.bipush 120, 2) := by decide +kernel
theorem dX11_init_336 : decode cX11_init 336 = .ok (.newarray .int, 2) := by decide +kernel
theorem dX11_init_338 : decode cX11_init 338 = .ok (.putfield 132, 3) := by decide +kernel
theorem dX11_init_341 : decode cX11_init 341 = .ok (.aload_n 0, 1) := by decide +kernel
theorem dX11_init_342 : decode cX11_init 342 = .ok (.iconst 0, 1) := by decide +kernel
theorem dX11_init_343 : decode cX11_init 343 = .ok (.invokevirtual 135, 3) := by decide +kernel
theorem dX11_init_346 : decode cX11_init 346 = .ok (.aload_n 0, 1) := by decide +kernel
theorem dX11_init_347 : decode cX11_init 347 = .ok (.invokevirtual 139, 3) := by decide +kernel
theorem dX11_init_350 : decode cX11_init 350 = .ok (.return_, 1) := by decide +kernel
theorem dX11_isCurve_0 : decode cX11_isCurve 0 = .ok (.iload_n 1, 1) := by decide +kernel
theorem dX11_isCurve_1 : decode cX11_isCurve 1 = .ok (.ifCond .lt 15, 3) := by decide +kernel
theorem dX11_isCurve_4 : decode cX11_isCurve 4 = .ok (.iload_n 1, 1) := by decide +kernel
theorem dX11_isCurve_5 : decode cX11_isCurve 5 = .ok (.aload_n 0, 1) := by decide +kernel
theorem dX11_isCurve_6 : decode cX11_isCurve 6 = .ok (.invokevirtual 273, 3) := by decide +kernel
theorem dX11_isCurve_9 : decode cX11_isCurve 9 = .ok (.if_icmp .ge 7, 3) := by decide +kernel
theorem dX11_isCurve_12 : decode cX11_isCurve 12 = .ok (.iconst 1, 1) := by decide +kernel
theorem dX11_isCurve_13 : decode cX11_isCurve 13 = .ok (.goto 4, 3) := by decide +kernel
theorem dX11_isCurve_16 : decode cX11_isCurve 16 = .ok (.iconst 0, 1) := by decide +kernel
theorem dX11_isCurve_17 : decode cX11_isCurve 17 = .ok (.ireturn, 1) := by decide +kernel
theorem dX11_isDigit_0 : decode cX11_isDigit 0 = .ok (.iload_n 0, 1) := by decide +kernel
theorem dX11_isDigit_1 : decode cX11_isDigit 1 = .ok (.bipush 48, 2) := by decide +kernel
theorem dX11_isDigit_3 : decode cX11_isDigit 3 = .ok (.if_icmp .lt 13, 3) := by decide +kernel
theorem dX11_isDigit_6 : decode cX11_isDigit 6 = .ok (.iload_n 0, 1) := by decide +kernel
theorem dX11_isDigit_7 : decode cX11_isDigit 7 = .ok (.bipush 57, 2) := by decide +kernel
theorem dX11_isDigit_9 : decode cX11_isDigit 9 = .ok (.if_icmp .gt 7, 3) := by decide +kernel
theorem dX11_isDigit_12 : decode cX11_isDigit 12 = .ok (.iconst 1, 1) := by decide +kernel
theorem dX11_isDigit_13 : decode cX11_isDigit 13 = .ok (.goto 4, 3) := by decide +kernel
theorem dX11_isDigit_16 : decode cX11_isDigit 16 = .ok (.iconst 0, 1) := by decide +kernel
theorem dX11_isDigit_17 : decode cX11_isDigit 17 = .ok (.ireturn, 1) := by decide +kernel
theorem dX11_isFlow_0 : decode cX11_isFlow 0 = .ok (.iload_n 1, 1) := by decide +kernel
theorem dX11_isFlow_1 : decode cX11_isFlow 1 = .ok (.ifCond .lt 15, 3) := by decide +kernel
theorem dX11_isFlow_4 : decode cX11_isFlow 4 = .ok (.iload_n 1, 1) := by decide +kernel
theorem dX11_isFlow_5 : decode cX11_isFlow 5 = .ok (.aload_n 0, 1) := by decide +kernel
theorem dX11_isFlow_6 : decode cX11_isFlow 6 = .ok (.invokevirtual 245, 3) := by decide +kernel
theorem dX11_isFlow_9 : decode cX11_isFlow 9 = .ok (.if_icmp .ge 7, 3) := by decide +kernel
theorem dX11_isFlow_12 : decode cX11_isFlow 12 = .ok (.iconst 1, 1) := by decide +kernel
theorem dX11_isFlow_13 : decode cX11_isFlow 13 = .ok (.goto 4, 3) := by decide +kernel
theorem dX11_isFlow_16 : decode cX11_isFlow 16 = .ok (.iconst 0, 1) := by decide +kernel
theorem dX11_isFlow_17 : decode cX11_isFlow 17 = .ok (.ireturn, 1) := by decide +kernel
theorem dX11_isHop_0 : decode cX11_isHop 0 = .ok (.aload_n 0, 1) := by decide +kernel
theorem dX11_isHop_1 : decode cX11_isHop 1 = .ok (.iload_n 1, 1) := by decide +kernel
theorem dX11_isHop_2 : decode cX11_isHop 2 = .ok (.invokevirtual 282, 3) := by decide +kernel
theorem dX11_isHop_5 : decode cX11_isHop 5 = .ok (.ifCond .eq 20, 3) := by decide +kernel
theorem dX11_isHop_8 : decode cX11_isHop 8 = .ok (.iload_n 2, 1) := by decide +kernel
theorem dX11_isHop_9 : decode cX11_isHop 9 = .ok (.ifCond .lt 16, 3) := by decide +kernel
theorem dX11_isHop_12 : decode cX11_isHop 12 = .ok (.iload_n 2, 1) := by decide +kernel
theorem dX11_isHop_13 : decode cX11_isHop 13 = .ok (.aload_n 0, 1) := by decide +kernel
theorem dX11_isHop_14 : decode cX11_isHop 14 = .ok (.iload_n 1, 1) := by decide +kernel
theorem dX11_isHop_15 : decode cX11_isHop 15 = .ok (.invokevirtual 285, 3) := by decide +kernel
theorem dX11_isHop_18 : decode cX11_isHop 18 = .ok (.if_icmp .ge 7, 3) := by decide +kernel
theorem dX11_isHop_21 : decode cX11_isHop 21 = .ok (.iconst 1, 1) := by decide +kernel
theorem dX11_isHop_22 : decode cX11_isHop 22 = .ok (.goto 4, 3) := by decide +kernel
theorem dX11_isHop_25 : decode cX11_isHop 25 = .ok (.iconst 0, 1) := by decide +kernel
theorem dX11_isHop_26 : decode cX11_isHop 26 = .ok (.ireturn, 1) := by decide +kernel
theorem dX11_isLetter_0 : decode cX11_isLetter 0 = .ok (.iload_n 0, 1) := by decide +kernel
theorem dX11_isLetter_1 : decode cX11_isLetter 1 = .ok (.bipush 97, 2) := by decide +kernel
theorem dX11_isLetter_3 : decode cX11_isLetter 3 = .ok (.if_icmp .lt 13, 3) := by decide +kernel
theorem dX11_isLetter_6 : decode cX11_isLetter 6 = .ok (.iload_n 0, 1) := by decide +kernel
theorem dX11_isLetter_7 : decode cX11_isLetter 7 = .ok (.bipush 122, 2) := by decide +kernel
theorem dX11_isLetter_9 : decode cX11_isLetter 9 = .ok (.if_icmp .gt 7, 3) := by decide +kernel
theorem dX11_isLetter_12 : decode cX11_isLetter 12 = .ok (.iconst 1, 1) := by decide +kernel
theorem dX11_isLetter_13 : decode cX11_isLetter 13 = .ok (.goto 4, 3) := by decide +kernel
theorem dX11_isLetter_16 : decode cX11_isLetter 16 = .ok (.iconst 0, 1) := by decide +kernel
theorem dX11_isLetter_17 : decode cX11_isLetter 17 = .ok (.ireturn, 1) := by decide +kernel
theorem dX11_isName_0 : decode cX11_isName 0 = .ok (.aload_n 0, 1) := by decide +kernel
theorem dX11_isName_1 : decode cX11_isName 1 = .ok (.getfield 168, 3) := by decide +kernel
theorem dX11_isName_4 : decode cX11_isName 4 = .ok (.ifCond .ne 30, 3) := by decide +kernel
theorem dX11_isName_7 : decode cX11_isName 7 = .ok (.aload_n 0, 1) := by decide +kernel
theorem dX11_isName_8 : decode cX11_isName 8 = .ok (.getfield 24, 3) := by decide +kernel
theorem dX11_isName_11 : decode cX11_isName 11 = .ok (.aload_n 0, 1) := by decide +kernel
theorem dX11_isName_12 : decode cX11_isName 12 = .ok (.getfield 165, 3) := by decide +kernel
theorem dX11_isName_15 : decode cX11_isName 15 = .ok (.iaload, 1) := by decide +kernel
theorem dX11_isName_16 : decode cX11_isName 16 = .ok (.iconst 1, 1) := by decide +kernel
theorem dX11_isName_17 : decode cX11_isName 17 = .ok (.if_icmp .ne 17, 3) := by decide +kernel
theorem dX11_isName_20 : decode cX11_isName 20 = .ok (.aload_n 0, 1) := by decide +kernel
theorem dX11_isName_21 : decode cX11_isName 21 = .ok (.iconst 0, 1) := by decide +kernel
theorem dX11_isName_22 : decode cX11_isName 22 = .ok (.bipush 19, 2) := by decide +kernel
theorem dX11_isName_24 : decode cX11_isName 24 = .ok (.invokevirtual 190, 3) := by decide +kernel
theorem dX11_isName_27 : decode cX11_isName 27 = .ok (.ifCond .ge 7, 3) := by decide +kernel
theorem dX11_isName_30 : decode cX11_isName 30 = .ok (.iconst 1, 1) := by decide +kernel
theorem dX11_isName_31 : decode cX11_isName 31 = .ok (.goto 4, 3) := by decide +kernel
theorem dX11_isName_34 : decode cX11_isName 34 = .ok (.iconst 0, 1) := by decide +kernel
theorem dX11_isName_35 : decode cX11_isName 35 = .ok (.ireturn, 1) := by decide +kernel
theorem dX11_isNode_0 : decode cX11_isNode 0 = .ok (.iload_n 1, 1) := by decide +kernel
theorem dX11_isNode_1 : decode cX11_isNode 1 = .ok (.ifCond .lt 15, 3) := by decide +kernel
theorem dX11_isNode_4 : decode cX11_isNode 4 = .ok (.iload_n 1, 1) := by decide +kernel
theorem dX11_isNode_5 : decode cX11_isNode 5 = .ok (.aload_n 0, 1) := by decide +kernel
theorem dX11_isNode_6 : decode cX11_isNode 6 = .ok (.invokevirtual 276, 3) := by decide +kernel
theorem dX11_isNode_9 : decode cX11_isNode 9 = .ok (.if_icmp .ge 7, 3) := by decide +kernel
theorem dX11_isNode_12 : decode cX11_isNode 12 = .ok (.iconst 1, 1) := by decide +kernel
theorem dX11_isNode_13 : decode cX11_isNode 13 = .ok (.goto 4, 3) := by decide +kernel
theorem dX11_isNode_16 : decode cX11_isNode 16 = .ok (.iconst 0, 1) := by decide +kernel
theorem dX11_isNode_17 : decode cX11_isNode 17 = .ok (.ireturn, 1) := by decide +kernel
theorem dX11_isSign_0 : decode cX11_isSign 0 = .ok (.aload_n 0, 1) := by decide +kernel
theorem dX11_isSign_1 : decode cX11_isSign 1 = .ok (.getfield 168, 3) := by decide +kernel
theorem dX11_isSign_4 : decode cX11_isSign 4 = .ok (.ifCond .ne 35, 3) := by decide +kernel
theorem dX11_isSign_7 : decode cX11_isSign 7 = .ok (.aload_n 0, 1) := by decide +kernel
theorem dX11_isSign_8 : decode cX11_isSign 8 = .ok (.getfield 24, 3) := by decide +kernel
theorem dX11_isSign_11 : decode cX11_isSign 11 = .ok (.aload_n 0, 1) := by decide +kernel
theorem dX11_isSign_12 : decode cX11_isSign 12 = .ok (.getfield 165, 3) := by decide +kernel
theorem dX11_isSign_15 : decode cX11_isSign 15 = .ok (.iaload, 1) := by decide +kernel
theorem dX11_isSign_16 : decode cX11_isSign 16 = .ok (.iconst 3, 1) := by decide +kernel
theorem dX11_isSign_17 : decode cX11_isSign 17 = .ok (.if_icmp .ne 22, 3) := by decide +kernel
theorem dX11_isSign_20 : decode cX11_isSign 20 = .ok (.aload_n 0, 1) := by decide +kernel
theorem dX11_isSign_21 : decode cX11_isSign 21 = .ok (.getfield 30, 3) := by decide +kernel
theorem dX11_isSign_24 : decode cX11_isSign 24 = .ok (.aload_n 0, 1) := by decide +kernel
theorem dX11_isSign_25 : decode cX11_isSign 25 = .ok (.getfield 165, 3) := by decide +kernel
theorem dX11_isSign_28 : decode cX11_isSign 28 = .ok (.laload, 1) := by decide +kernel
theorem dX11_isSign_29 : decode cX11_isSign 29 = .ok (.iload_n 1, 1) := by decide +kernel
theorem dX11_isSign_30 : decode cX11_isSign 30 = .ok (.i2l, 1) := by decide +kernel
theorem dX11_isSign_31 : decode cX11_isSign 31 = .ok (.lcmp, 1) := by decide +kernel
theorem dX11_isSign_32 : decode cX11_isSign 32 = .ok (.ifCond .ne 7, 3) := by decide +kernel
theorem dX11_isSign_35 : decode cX11_isSign 35 = .ok (.iconst 1, 1) := by decide +kernel
theorem dX11_isSign_36 : decode cX11_isSign 36 = .ok (.goto 4, 3) := by decide +kernel
theorem dX11_isSign_39 : decode cX11_isSign 39 = .ok (.iconst 0, 1) := by decide +kernel
theorem dX11_isSign_40 : decode cX11_isSign 40 = .ok (.ireturn, 1) := by decide +kernel
theorem dX11_isSignOf_0 : decode cX11_isSignOf 0 = .ok (.iload_n 0, 1) := by decide +kernel
theorem dX11_isSignOf_1 : decode cX11_isSignOf 1 = .ok (.bipush 40, 2) := by decide +kernel
theorem dX11_isSignOf_3 : decode cX11_isSignOf 3 = .ok (.if_icmp .eq 45, 3) := by decide +kernel
theorem dX11_isSignOf_6 : decode cX11_isSignOf 6 = .ok (.iload_n 0, 1) := by decide +kernel
theorem dX11_isSignOf_7 : decode cX11_isSignOf 7 = .ok (.bipush 41, 2) := by decide +kernel
theorem dX11_isSignOf_9 : decode cX11_isSignOf 9 = .ok (.if_icmp .eq 39, 3) := by decide +kernel
theorem dX11_isSignOf_12 : decode cX11_isSignOf 12 = .ok (.iload_n 0, 1) := by decide +kernel
theorem dX11_isSignOf_13 : decode cX11_isSignOf 13 = .ok (.bipush 59, 2) := by decide +kernel
theorem dX11_isSignOf_15 : decode cX11_isSignOf 15 = .ok (.if_icmp .eq 33, 3) := by decide +kernel
theorem dX11_isSignOf_18 : decode cX11_isSignOf 18 = .ok (.iload_n 0, 1) := by decide +kernel
theorem dX11_isSignOf_19 : decode cX11_isSignOf 19 = .ok (.bipush 61, 2) := by decide +kernel
theorem dX11_isSignOf_21 : decode cX11_isSignOf 21 = .ok (.if_icmp .eq 27, 3) := by decide +kernel
theorem dX11_isSignOf_24 : decode cX11_isSignOf 24 = .ok (.iload_n 0, 1) := by decide +kernel
theorem dX11_isSignOf_25 : decode cX11_isSignOf 25 = .ok (.bipush 60, 2) := by decide +kernel
theorem dX11_isSignOf_27 : decode cX11_isSignOf 27 = .ok (.if_icmp .eq 21, 3) := by decide +kernel
theorem dX11_isSignOf_30 : decode cX11_isSignOf 30 = .ok (.iload_n 0, 1) := by decide +kernel
theorem dX11_isSignOf_31 : decode cX11_isSignOf 31 = .ok (.bipush 43, 2) := by decide +kernel
theorem dX11_isSignOf_33 : decode cX11_isSignOf 33 = .ok (.if_icmp .eq 15, 3) := by decide +kernel
theorem dX11_isSignOf_36 : decode cX11_isSignOf 36 = .ok (.iload_n 0, 1) := by decide +kernel
theorem dX11_isSignOf_37 : decode cX11_isSignOf 37 = .ok (.bipush 45, 2) := by decide +kernel
theorem dX11_isSignOf_39 : decode cX11_isSignOf 39 = .ok (.if_icmp .eq 9, 3) := by decide +kernel
theorem dX11_isSignOf_42 : decode cX11_isSignOf 42 = .ok (.iload_n 0, 1) := by decide +kernel
theorem dX11_isSignOf_43 : decode cX11_isSignOf 43 = .ok (.bipush 42, 2) := by decide +kernel
theorem dX11_isSignOf_45 : decode cX11_isSignOf 45 = .ok (.if_icmp .ne 7, 3) := by decide +kernel
theorem dX11_isSignOf_48 : decode cX11_isSignOf 48 = .ok (.iconst 1, 1) := by decide +kernel
theorem dX11_isSignOf_49 : decode cX11_isSignOf 49 = .ok (.goto 4, 3) := by decide +kernel
theorem dX11_isSignOf_52 : decode cX11_isSignOf 52 = .ok (.iconst 0, 1) := by decide +kernel
theorem dX11_isSignOf_53 : decode cX11_isSignOf 53 = .ok (.ireturn, 1) := by decide +kernel
theorem dX11_isWord_0 : decode cX11_isWord 0 = .ok (.aload_n 0, 1) := by decide +kernel
theorem dX11_isWord_1 : decode cX11_isWord 1 = .ok (.getfield 168, 3) := by decide +kernel
theorem dX11_isWord_4 : decode cX11_isWord 4 = .ok (.ifCond .ne 39, 3) := by decide +kernel
theorem dX11_isWord_7 : decode cX11_isWord 7 = .ok (.aload_n 0, 1) := by decide +kernel
theorem dX11_isWord_8 : decode cX11_isWord 8 = .ok (.getfield 24, 3) := by decide +kernel
theorem dX11_isWord_11 : decode cX11_isWord 11 = .ok (.aload_n 0, 1) := by decide +kernel
theorem dX11_isWord_12 : decode cX11_isWord 12 = .ok (.getfield 165, 3) := by decide +kernel
theorem dX11_isWord_15 : decode cX11_isWord 15 = .ok (.iaload, 1) := by decide +kernel
theorem dX11_isWord_16 : decode cX11_isWord 16 = .ok (.iconst 1, 1) := by decide +kernel
theorem dX11_isWord_17 : decode cX11_isWord 17 = .ok (.if_icmp .ne 26, 3) := by decide +kernel
theorem dX11_isWord_20 : decode cX11_isWord 20 = .ok (.aload_n 0, 1) := by decide +kernel
theorem dX11_isWord_21 : decode cX11_isWord 21 = .ok (.getfield 30, 3) := by decide +kernel
theorem dX11_isWord_24 : decode cX11_isWord 24 = .ok (.aload_n 0, 1) := by decide +kernel
theorem dX11_isWord_25 : decode cX11_isWord 25 = .ok (.getfield 165, 3) := by decide +kernel
theorem dX11_isWord_28 : decode cX11_isWord 28 = .ok (.laload, 1) := by decide +kernel
theorem dX11_isWord_29 : decode cX11_isWord 29 = .ok (.aload_n 0, 1) := by decide +kernel
theorem dX11_isWord_30 : decode cX11_isWord 30 = .ok (.getfield 80, 3) := by decide +kernel
theorem dX11_isWord_33 : decode cX11_isWord 33 = .ok (.iload_n 1, 1) := by decide +kernel
theorem dX11_isWord_34 : decode cX11_isWord 34 = .ok (.laload, 1) := by decide +kernel
theorem dX11_isWord_35 : decode cX11_isWord 35 = .ok (.lcmp, 1) := by decide +kernel
theorem dX11_isWord_36 : decode cX11_isWord 36 = .ok (.ifCond .ne 7, 3) := by decide +kernel
theorem dX11_isWord_39 : decode cX11_isWord 39 = .ok (.iconst 1, 1) := by decide +kernel
theorem dX11_isWord_40 : decode cX11_isWord 40 = .ok (.goto 4, 3) := by decide +kernel
theorem dX11_isWord_43 : decode cX11_isWord 43 = .ok (.iconst 0, 1) := by decide +kernel
theorem dX11_isWord_44 : decode cX11_isWord 44 = .ok (.ireturn, 1) := by decide +kernel
theorem dX11_judged_0 : decode cX11_judged 0 = .ok (.aload_n 0, 1) := by decide +kernel
theorem dX11_judged_1 : decode cX11_judged 1 = .ok (.iconst 0, 1) := by decide +kernel
theorem dX11_judged_2 : decode cX11_judged 2 = .ok (.putfield 1, 3) := by decide +kernel
theorem dX11_judged_5 : decode cX11_judged 5 = .ok (.iload_n 1, 1) := by decide +kernel
theorem dX11_judged_6 : decode cX11_judged 6 = .ok (.iconst 0, 1) := by decide +kernel
theorem dX11_judged_7 : decode cX11_judged 7 = .ok (.iconst 3, 1) := by decide +kernel
theorem dX11_judged_8 : decode cX11_judged 8 = .ok (.invokestatic 300, 3) := by decide +kernel
theorem dX11_judged_11 : decode cX11_judged 11 = .ok (.ifCond .ne 6, 3) := by decide +kernel
theorem dX11_judged_14 : decode cX11_judged 14 = .ok (.bipush (-2), 2) := by decide +kernel
theorem dX11_judged_16 : decode cX11_judged 16 = .ok (.ireturn, 1) := by decide +kernel
theorem dX11_judged_17 : decode cX11_judged 17 = .ok (.aload_n 0, 1) := by decide +kernel
theorem dX11_judged_18 : decode cX11_judged 18 = .ok (.sipush 1221, 3) := by decide +kernel
theorem dX11_judged_21 : decode cX11_judged 21 = .ok (.invokevirtual 267, 3) := by decide +kernel
theorem dX11_judged_24 : decode cX11_judged 24 = .ok (.iconst (-1), 1) := by decide +kernel
theorem dX11_judged_25 : decode cX11_judged 25 = .ok (.istore_n 2, 1) := by decide +kernel
theorem dX11_judged_26 : decode cX11_judged 26 = .ok (.iconst 0, 1) := by decide +kernel
theorem dX11_judged_27 : decode cX11_judged 27 = .ok (.istore_n 3, 1) := by decide +kernel
theorem dX11_judged_28 : decode cX11_judged 28 = .ok (.iload_n 3, 1) := by decide +kernel
theorem dX11_judged_29 : decode cX11_judged 29 = .ok (.aload_n 0, 1) := by decide +kernel
theorem dX11_judged_30 : decode cX11_judged 30 = .ok (.getfield 92, 3) := by decide +kernel
theorem dX11_judged_33 : decode cX11_judged 33 = .ok (.iconst 0, 1) := by decide +kernel
theorem dX11_judged_34 : decode cX11_judged 34 = .ok (.iaload, 1) := by decide +kernel
theorem dX11_judged_35 : decode cX11_judged 35 = .ok (.if_icmp .ge 112, 3) := by decide +kernel
theorem dX11_judged_38 : decode cX11_judged 38 = .ok (.aload_n 0, 1) := by decide +kernel
theorem dX11_judged_39 : decode cX11_judged 39 = .ok (.getfield 92, 3) := by decide +kernel
theorem dX11_judged_42 : decode cX11_judged 42 = .ok (.iconst 1, 1) := by decide +kernel
theorem dX11_judged_43 : decode cX11_judged 43 = .ok (.iconst 2, 1) := by decide +kernel
theorem dX11_judged_44 : decode cX11_judged 44 = .ok (.iload_n 3, 1) := by decide +kernel
theorem dX11_judged_45 : decode cX11_judged 45 = .ok (.imul, 1) := by decide +kernel
theorem dX11_judged_46 : decode cX11_judged 46 = .ok (.iadd, 1) := by decide +kernel
theorem dX11_judged_47 : decode cX11_judged 47 = .ok (.iaload, 1) := by decide +kernel
theorem dX11_judged_48 : decode cX11_judged 48 = .ok (.istore 4, 2) := by decide +kernel
theorem dX11_judged_50 : decode cX11_judged 50 = .ok (.aload_n 0, 1) := by decide +kernel
theorem dX11_judged_51 : decode cX11_judged 51 = .ok (.getfield 92, 3) := by decide +kernel
theorem dX11_judged_54 : decode cX11_judged 54 = .ok (.iconst 2, 1) := by decide +kernel
theorem dX11_judged_55 : decode cX11_judged 55 = .ok (.iconst 2, 1) := by decide +kernel
theorem dX11_judged_56 : decode cX11_judged 56 = .ok (.iload_n 3, 1) := by decide +kernel
theorem dX11_judged_57 : decode cX11_judged 57 = .ok (.imul, 1) := by decide +kernel
theorem dX11_judged_58 : decode cX11_judged 58 = .ok (.iadd, 1) := by decide +kernel
theorem dX11_judged_59 : decode cX11_judged 59 = .ok (.iaload, 1) := by decide +kernel
theorem dX11_judged_60 : decode cX11_judged 60 = .ok (.istore 5, 2) := by decide +kernel
theorem dX11_judged_62 : decode cX11_judged 62 = .ok (.iload 4, 2) := by decide +kernel
theorem dX11_judged_64 : decode cX11_judged 64 = .ok (.ifCond .ge 13, 3) := by decide +kernel
theorem dX11_judged_67 : decode cX11_judged 67 = .ok (.aload_n 0, 1) := by decide +kernel
theorem dX11_judged_68 : decode cX11_judged 68 = .ok (.sipush 1221, 3) := by decide +kernel
theorem dX11_judged_71 : decode cX11_judged 71 = .ok (.invokevirtual 413, 3) := by decide +kernel
theorem dX11_judged_74 : decode cX11_judged 74 = .ok (.goto 12, 3) := by decide +kernel
theorem dX11_judged_77 : decode cX11_judged 77 = .ok (.aload_n 0, 1) := by decide +kernel
theorem dX11_judged_78 : decode cX11_judged 78 = .ok (.sipush 1221, 3) := by decide +kernel
theorem dX11_judged_81 : decode cX11_judged 81 = .ok (.iload 5, 2) := by decide +kernel
theorem dX11_judged_83 : decode cX11_judged 83 = .ok (.invokevirtual 385, 3) := by decide +kernel
theorem dX11_judged_86 : decode cX11_judged 86 = .ok (.istore 6, 2) := by decide +kernel
theorem dX11_judged_88 : decode cX11_judged 88 = .ok (.iload 6, 2) := by decide +kernel
theorem dX11_judged_90 : decode cX11_judged 90 = .ok (.ifCond .ne 11, 3) := by decide +kernel
theorem dX11_judged_93 : decode cX11_judged 93 = .ok (.iload_n 2, 1) := by decide +kernel
theorem dX11_judged_94 : decode cX11_judged 94 = .ok (.ifCond .ge 7, 3) := by decide +kernel
theorem dX11_judged_97 : decode cX11_judged 97 = .ok (.iload_n 3, 1) := by decide +kernel
theorem dX11_judged_98 : decode cX11_judged 98 = .ok (.goto 4, 3) := by decide +kernel
theorem dX11_judged_101 : decode cX11_judged 101 = .ok (.iload_n 2, 1) := by decide +kernel
theorem dX11_judged_102 : decode cX11_judged 102 = .ok (.istore_n 2, 1) := by decide +kernel
theorem dX11_judged_103 : decode cX11_judged 103 = .ok (.iload 6, 2) := by decide +kernel
theorem dX11_judged_105 : decode cX11_judged 105 = .ok (.ifCond .eq 19, 3) := by decide +kernel
theorem dX11_judged_108 : decode cX11_judged 108 = .ok (.iload 4, 2) := by decide +kernel
theorem dX11_judged_110 : decode cX11_judged 110 = .ok (.ifCond .ge 14, 3) := by decide +kernel
theorem dX11_judged_113 : decode cX11_judged 113 = .ok (.aload_n 0, 1) := by decide +kernel
theorem dX11_judged_114 : decode cX11_judged 114 = .ok (.sipush 1221, 3) := by decide +kernel
theorem dX11_judged_117 : decode cX11_judged 117 = .ok (.invokevirtual 416, 3) := by decide +kernel
theorem dX11_judged_120 : decode cX11_judged 120 = .ok (.pop, 1) := by decide +kernel
theorem dX11_judged_121 : decode cX11_judged 121 = .ok (.goto 20, 3) := by decide +kernel
theorem dX11_judged_124 : decode cX11_judged 124 = .ok (.iload 6, 2) := by decide +kernel
theorem dX11_judged_126 : decode cX11_judged 126 = .ok (.ifCond .eq 15, 3) := by decide +kernel
theorem dX11_judged_129 : decode cX11_judged 129 = .ok (.aload_n 0, 1) := by decide +kernel
theorem dX11_judged_130 : decode cX11_judged 130 = .ok (.sipush 1221, 3) := by decide +kernel
theorem dX11_judged_133 : decode cX11_judged 133 = .ok (.iload 4, 2) := by decide +kernel
theorem dX11_judged_135 : decode cX11_judged 135 = .ok (.iload 5, 2) := by decide +kernel
theorem dX11_judged_137 : decode cX11_judged 137 = .ok (.invokevirtual 388, 3) := by decide +kernel
theorem dX11_judged_140 : decode cX11_judged 140 = .ok (.pop, 1) := by decide +kernel
theorem dX11_judged_141 : decode cX11_judged 141 = .ok (.iinc 3 1, 3) := by decide +kernel
theorem dX11_judged_144 : decode cX11_judged 144 = .ok (.goto (-116), 3) := by decide +kernel
theorem dX11_judged_147 : decode cX11_judged 147 = .ok (.iload_n 1, 1) := by decide +kernel
theorem dX11_judged_148 : decode cX11_judged 148 = .ok (.ifCond .ne 7, 3) := by decide +kernel
theorem dX11_judged_151 : decode cX11_judged 151 = .ok (.iload_n 2, 1) := by decide +kernel
theorem dX11_judged_152 : decode cX11_judged 152 = .ok (.goto 41, 3) := by decide +kernel
theorem dX11_judged_155 : decode cX11_judged 155 = .ok (.iload_n 1, 1) := by decide +kernel
theorem dX11_judged_156 : decode cX11_judged 156 = .ok (.iconst 1, 1) := by decide +kernel
theorem dX11_judged_157 : decode cX11_judged 157 = .ok (.if_icmp .ne 13, 3) := by decide +kernel
theorem dX11_judged_160 : decode cX11_judged 160 = .ok (.aload_n 0, 1) := by decide +kernel
theorem dX11_judged_161 : decode cX11_judged 161 = .ok (.sipush 1347, 3) := by decide +kernel
theorem dX11_judged_164 : decode cX11_judged 164 = .ok (.invokevirtual 419, 3) := by decide +kernel
theorem dX11_judged_167 : decode cX11_judged 167 = .ok (.goto 26, 3) := by decide +kernel
theorem dX11_judged_170 : decode cX11_judged 170 = .ok (.iload_n 1, 1) := by decide +kernel
theorem dX11_judged_171 : decode cX11_judged 171 = .ok (.iconst 2, 1) := by decide +kernel
theorem dX11_judged_172 : decode cX11_judged 172 = .ok (.if_icmp .ne 13, 3) := by decide +kernel
theorem dX11_judged_175 : decode cX11_judged 175 = .ok (.aload_n 0, 1) := by decide +kernel
theorem dX11_judged_176 : decode cX11_judged 176 = .ok (.sipush 1221, 3) := by decide +kernel
theorem dX11_judged_179 : decode cX11_judged 179 = .ok (.invokevirtual 422, 3) := by decide +kernel
theorem dX11_judged_182 : decode cX11_judged 182 = .ok (.goto 11, 3) := by decide +kernel
theorem dX11_judged_185 : decode cX11_judged 185 = .ok (.aload_n 0, 1) := by decide +kernel
theorem dX11_judged_186 : decode cX11_judged 186 = .ok (.getfield 101, 3) := by decide +kernel
theorem dX11_judged_189 : decode cX11_judged 189 = .ok (.sipush 1222, 3) := by decide +kernel
theorem dX11_judged_192 : decode cX11_judged 192 = .ok (.iaload, 1) := by decide +kernel
theorem dX11_judged_193 : decode cX11_judged 193 = .ok (.ireturn, 1) := by decide +kernel
theorem dX11_kindOf_0 : decode cX11_kindOf 0 = .ok (.aload_n 0, 1) := by decide +kernel
theorem dX11_kindOf_1 : decode cX11_kindOf 1 = .ok (.getfield 83, 3) := by decide +kernel
theorem dX11_kindOf_4 : decode cX11_kindOf 4 = .ok (.bipush 70, 2) := by decide +kernel
theorem dX11_kindOf_6 : decode cX11_kindOf 6 = .ok (.iconst 2, 1) := by decide +kernel
theorem dX11_kindOf_7 : decode cX11_kindOf 7 = .ok (.iload_n 1, 1) := by decide +kernel
theorem dX11_kindOf_8 : decode cX11_kindOf 8 = .ok (.imul, 1) := by decide +kernel
theorem dX11_kindOf_9 : decode cX11_kindOf 9 = .ok (.iadd, 1) := by decide +kernel
theorem dX11_kindOf_10 : decode cX11_kindOf 10 = .ok (.iaload, 1) := by decide +kernel
theorem dX11_kindOf_11 : decode cX11_kindOf 11 = .ok (.ireturn, 1) := by decide +kernel
theorem dX11_late_0 : decode cX11_late 0 = .ok (.aload_n 0, 1) := by decide +kernel
theorem dX11_late_1 : decode cX11_late 1 = .ok (.iconst 0, 1) := by decide +kernel
theorem dX11_late_2 : decode cX11_late 2 = .ok (.putfield 1, 3) := by decide +kernel
theorem dX11_late_5 : decode cX11_late 5 = .ok (.aload_n 0, 1) := by decide +kernel
theorem dX11_late_6 : decode cX11_late 6 = .ok (.iload_n 1, 1) := by decide +kernel
theorem dX11_late_7 : decode cX11_late 7 = .ok (.invokevirtual 297, 3) := by decide +kernel
theorem dX11_late_10 : decode cX11_late 10 = .ok (.ifCond .eq 11, 3) := by decide +kernel
theorem dX11_late_13 : decode cX11_late 13 = .ok (.aload_n 0, 1) := by decide +kernel
theorem dX11_late_14 : decode cX11_late 14 = .ok (.iload_n 2, 1) := by decide +kernel
theorem dX11_late_15 : decode cX11_late 15 = .ok (.invokevirtual 297, 3) := by decide +kernel
theorem dX11_late_18 : decode cX11_late 18 = .ok (.ifCond .ne 5, 3) := by decide +kernel
theorem dX11_late_21 : decode cX11_late 21 = .ok (.iconst (-1), 1) := by decide +kernel
theorem dX11_late_22 : decode cX11_late 22 = .ok (.ireturn, 1) := by decide +kernel
theorem dX11_late_23 : decode cX11_late 23 = .ok (.aload_n 0, 1) := by decide +kernel
theorem dX11_late_24 : decode cX11_late 24 = .ok (.iload_n 1, 1) := by decide +kernel
theorem dX11_late_25 : decode cX11_late 25 = .ok (.iload_n 2, 1) := by decide +kernel
theorem dX11_late_26 : decode cX11_late 26 = .ok (.invokevirtual 307, 3) := by decide +kernel
theorem dX11_late_29 : decode cX11_late 29 = .ok (.aload_n 0, 1) := by decide +kernel
theorem dX11_late_30 : decode cX11_late 30 = .ok (.invokevirtual 310, 3) := by decide +kernel
theorem dX11_late_33 : decode cX11_late 33 = .ok (.ireturn, 1) := by decide +kernel
theorem dX11_lateness_0 : decode cX11_lateness 0 = .ok (.iconst 0, 1) := by decide +kernel
theorem dX11_lateness_1 : decode cX11_lateness 1 = .ok (.istore_n 1, 1) := by decide +kernel
theorem dX11_lateness_2 : decode cX11_lateness 2 = .ok (.iconst 0, 1) := by decide +kernel
theorem dX11_lateness_3 : decode cX11_lateness 3 = .ok (.istore_n 2, 1) := by decide +kernel
theorem dX11_lateness_4 : decode cX11_lateness 4 = .ok (.iload_n 2, 1) := by decide +kernel
theorem dX11_lateness_5 : decode cX11_lateness 5 = .ok (.bipush 60, 2) := by decide +kernel
theorem dX11_lateness_7 : decode cX11_lateness 7 = .ok (.if_icmp .gt 46, 3) := by decide +kernel
theorem dX11_lateness_10 : decode cX11_lateness 10 = .ok (.iload_n 1, 1) := by decide +kernel
theorem dX11_lateness_11 : decode cX11_lateness 11 = .ok (.bipush 60, 2) := by decide +kernel
theorem dX11_lateness_13 : decode cX11_lateness 13 = .ok (.if_icmp .gt 26, 3) := by decide +kernel
theorem dX11_lateness_16 : decode cX11_lateness 16 = .ok (.aload_n 0, 1) := by decide +kernel
theorem dX11_lateness_17 : decode cX11_lateness 17 = .ok (.getfield 111, 3) := by decide +kernel
theorem dX11_lateness_20 : decode cX11_lateness 20 = .ok (.iload_n 2, 1) := by decide +kernel
theorem dX11_lateness_21 : decode cX11_lateness 21 = .ok (.iaload, 1) := by decide +kernel
theorem dX11_lateness_22 : decode cX11_lateness 22 = .ok (.aload_n 0, 1) := by decide +kernel
theorem dX11_lateness_23 : decode cX11_lateness 23 = .ok (.getfield 114, 3) := by decide +kernel
theorem dX11_lateness_26 : decode cX11_lateness 26 = .ok (.iload_n 2, 1) := by decide +kernel
theorem dX11_lateness_27 : decode cX11_lateness 27 = .ok (.iload_n 1, 1) := by decide +kernel
theorem dX11_lateness_28 : decode cX11_lateness 28 = .ok (.iadd, 1) := by decide +kernel
theorem dX11_lateness_29 : decode cX11_lateness 29 = .ok (.iaload, 1) := by decide +kernel
theorem dX11_lateness_30 : decode cX11_lateness 30 = .ok (.if_icmp .le 9, 3) := by decide +kernel
theorem dX11_lateness_33 : decode cX11_lateness 33 = .ok (.iinc 1 1, 3) := by decide +kernel
theorem dX11_lateness_36 : decode cX11_lateness 36 = .ok (.goto (-26), 3) := by decide +kernel
theorem dX11_lateness_39 : decode cX11_lateness 39 = .ok (.iload_n 1, 1) := by decide +kernel
theorem dX11_lateness_40 : decode cX11_lateness 40 = .ok (.bipush 60, 2) := by decide +kernel
theorem dX11_lateness_42 : decode cX11_lateness 42 = .ok (.if_icmp .le 5, 3) := by decide +kernel
theorem dX11_lateness_45 : decode cX11_lateness 45 = .ok (.iconst (-1), 1) := by decide +kernel
theorem dX11_lateness_46 : decode cX11_lateness 46 = .ok (.ireturn, 1) := by decide +kernel
theorem dX11_lateness_47 : decode cX11_lateness 47 = .ok (.iinc 2 1, 3) := by decide +kernel
theorem dX11_lateness_50 : decode cX11_lateness 50 = .ok (.goto (-46), 3) := by decide +kernel
theorem dX11_lateness_53 : decode cX11_lateness 53 = .ok (.iload_n 1, 1) := by decide +kernel
theorem dX11_lateness_54 : decode cX11_lateness 54 = .ok (.ireturn, 1) := by decide +kernel
theorem dX11_latest_0 : decode cX11_latest 0 = .ok (.aload_n 0, 1) := by decide +kernel
theorem dX11_latest_1 : decode cX11_latest 1 = .ok (.iconst 0, 1) := by decide +kernel
theorem dX11_latest_2 : decode cX11_latest 2 = .ok (.putfield 1, 3) := by decide +kernel
theorem dX11_latest_5 : decode cX11_latest 5 = .ok (.aload_n 0, 1) := by decide +kernel
theorem dX11_latest_6 : decode cX11_latest 6 = .ok (.iload_n 1, 1) := by decide +kernel
theorem dX11_latest_7 : decode cX11_latest 7 = .ok (.invokevirtual 282, 3) := by decide +kernel
theorem dX11_latest_10 : decode cX11_latest 10 = .ok (.ifCond .eq 16, 3) := by decide +kernel
theorem dX11_latest_13 : decode cX11_latest 13 = .ok (.aload_n 0, 1) := by decide +kernel
theorem dX11_latest_14 : decode cX11_latest 14 = .ok (.getfield 101, 3) := by decide +kernel
theorem dX11_latest_17 : decode cX11_latest 17 = .ok (.sipush 134, 3) := by decide +kernel
theorem dX11_latest_20 : decode cX11_latest 20 = .ok (.iload_n 1, 1) := by decide +kernel
theorem dX11_latest_21 : decode cX11_latest 21 = .ok (.iadd, 1) := by decide +kernel
theorem dX11_latest_22 : decode cX11_latest 22 = .ok (.iaload, 1) := by decide +kernel
theorem dX11_latest_23 : decode cX11_latest 23 = .ok (.goto 4, 3) := by decide +kernel
theorem dX11_latest_26 : decode cX11_latest 26 = .ok (.iconst (-1), 1) := by decide +kernel
theorem dX11_latest_27 : decode cX11_latest 27 = .ok (.ireturn, 1) := by decide +kernel
theorem dX11_latestOfAll_0 : decode cX11_latestOfAll 0 = .ok (.iconst (-1), 1) := by decide +kernel
theorem dX11_latestOfAll_1 : decode cX11_latestOfAll 1 = .ok (.istore_n 2, 1) := by decide +kernel
theorem dX11_latestOfAll_2 : decode cX11_latestOfAll 2 = .ok (.iconst 0, 1) := by decide +kernel
theorem dX11_latestOfAll_3 : decode cX11_latestOfAll 3 = .ok (.istore_n 3, 1) := by decide +kernel
theorem dX11_latestOfAll_4 : decode cX11_latestOfAll 4 = .ok (.iload_n 3, 1) := by decide +kernel
theorem dX11_latestOfAll_5 : decode cX11_latestOfAll 5 = .ok (.iconst 4, 1) := by decide +kernel
theorem dX11_latestOfAll_6 : decode cX11_latestOfAll 6 = .ok (.if_icmp .ge 42, 3) := by decide +kernel
theorem dX11_latestOfAll_9 : decode cX11_latestOfAll 9 = .ok (.aload_n 0, 1) := by decide +kernel
theorem dX11_latestOfAll_10 : decode cX11_latestOfAll 10 = .ok (.getfield 101, 3) := by decide +kernel
theorem dX11_latestOfAll_13 : decode cX11_latestOfAll 13 = .ok (.iload_n 1, 1) := by decide +kernel
theorem dX11_latestOfAll_14 : decode cX11_latestOfAll 14 = .ok (.sipush 134, 3) := by decide +kernel
theorem dX11_latestOfAll_17 : decode cX11_latestOfAll 17 = .ok (.iadd, 1) := by decide +kernel
theorem dX11_latestOfAll_18 : decode cX11_latestOfAll 18 = .ok (.iload_n 3, 1) := by decide +kernel
theorem dX11_latestOfAll_19 : decode cX11_latestOfAll 19 = .ok (.iadd, 1) := by decide +kernel
theorem dX11_latestOfAll_20 : decode cX11_latestOfAll 20 = .ok (.iaload, 1) := by decide +kernel
theorem dX11_latestOfAll_21 : decode cX11_latestOfAll 21 = .ok (.iload_n 2, 1) := by decide +kernel
theorem dX11_latestOfAll_22 : decode cX11_latestOfAll 22 = .ok (.if_icmp .le 18, 3) := by decide +kernel
theorem dX11_latestOfAll_25 : decode cX11_latestOfAll 25 = .ok (.aload_n 0, 1) := by decide +kernel
theorem dX11_latestOfAll_26 : decode cX11_latestOfAll 26 = .ok (.getfield 101, 3) := by decide +kernel
theorem dX11_latestOfAll_29 : decode cX11_latestOfAll 29 = .ok (.iload_n 1, 1) := by decide +kernel
theorem dX11_latestOfAll_30 : decode cX11_latestOfAll 30 = .ok (.sipush 134, 3) := by decide +kernel
theorem dX11_latestOfAll_33 : decode cX11_latestOfAll 33 = .ok (.iadd, 1) := by decide +kernel
theorem dX11_latestOfAll_34 : decode cX11_latestOfAll 34 = .ok (.iload_n 3, 1) := by decide +kernel
theorem dX11_latestOfAll_35 : decode cX11_latestOfAll 35 = .ok (.iadd, 1) := by decide +kernel
theorem dX11_latestOfAll_36 : decode cX11_latestOfAll 36 = .ok (.iaload, 1) := by decide +kernel
theorem dX11_latestOfAll_37 : decode cX11_latestOfAll 37 = .ok (.goto 4, 3) := by decide +kernel
theorem dX11_latestOfAll_40 : decode cX11_latestOfAll 40 = .ok (.iload_n 2, 1) := by decide +kernel
theorem dX11_latestOfAll_41 : decode cX11_latestOfAll 41 = .ok (.istore_n 2, 1) := by decide +kernel
theorem dX11_latestOfAll_42 : decode cX11_latestOfAll 42 = .ok (.iinc 3 1, 3) := by decide +kernel
theorem dX11_latestOfAll_45 : decode cX11_latestOfAll 45 = .ok (.goto (-41), 3) := by decide +kernel
theorem dX11_latestOfAll_48 : decode cX11_latestOfAll 48 = .ok (.iload_n 2, 1) := by decide +kernel
theorem dX11_latestOfAll_49 : decode cX11_latestOfAll 49 = .ok (.ireturn, 1) := by decide +kernel
theorem dX11_lay_0 : decode cX11_lay 0 = .ok (.bipush 56, 2) := by decide +kernel
theorem dX11_lay_2 : decode cX11_lay 2 = .ok (.istore_n 3, 1) := by decide +kernel
theorem dX11_lay_3 : decode cX11_lay 3 = .ok (.iload_n 3, 1) := by decide +kernel
theorem dX11_lay_4 : decode cX11_lay 4 = .ok (.ifCond .lt 71, 3) := by decide +kernel
theorem dX11_lay_7 : decode cX11_lay 7 = .ok (.lload_n 1, 1) := by decide +kernel
theorem dX11_lay_8 : decode cX11_lay 8 = .ok (.iload_n 3, 1) := by decide +kernel
theorem dX11_lay_9 : decode cX11_lay 9 = .ok (.lshr, 1) := by decide +kernel
theorem dX11_lay_10 : decode cX11_lay 10 = .ok (.l2i, 1) := by decide +kernel
theorem dX11_lay_11 : decode cX11_lay 11 = .ok (.sipush 255, 3) := by decide +kernel
theorem dX11_lay_14 : decode cX11_lay 14 = .ok (.iand, 1) := by decide +kernel
theorem dX11_lay_15 : decode cX11_lay 15 = .ok (.istore 4, 2) := by decide +kernel
theorem dX11_lay_17 : decode cX11_lay 17 = .ok (.iload 4, 2) := by decide +kernel
theorem dX11_lay_19 : decode cX11_lay 19 = .ok (.bipush 10, 2) := by decide +kernel
theorem dX11_lay_21 : decode cX11_lay 21 = .ok (.if_icmp .eq 17, 3) := by decide +kernel
theorem dX11_lay_24 : decode cX11_lay 24 = .ok (.iload 4, 2) := by decide +kernel
theorem dX11_lay_26 : decode cX11_lay 26 = .ok (.bipush 32, 2) := by decide +kernel
theorem dX11_lay_28 : decode cX11_lay 28 = .ok (.if_icmp .lt 41, 3) := by decide +kernel
theorem dX11_lay_31 : decode cX11_lay 31 = .ok (.iload 4, 2) := by decide +kernel
theorem dX11_lay_33 : decode cX11_lay 33 = .ok (.bipush 126, 2) := by decide +kernel
theorem dX11_lay_35 : decode cX11_lay 35 = .ok (.if_icmp .gt 34, 3) := by decide +kernel
theorem dX11_lay_38 : decode cX11_lay 38 = .ok (.aload_n 0, 1) := by decide +kernel
theorem dX11_lay_39 : decode cX11_lay 39 = .ok (.getfield 11, 3) := by decide +kernel
theorem dX11_lay_42 : decode cX11_lay 42 = .ok (.sipush 1000, 3) := by decide +kernel
theorem dX11_lay_45 : decode cX11_lay 45 = .ok (.if_icmp .ge 24, 3) := by decide +kernel
theorem dX11_lay_48 : decode cX11_lay 48 = .ok (.aload_n 0, 1) := by decide +kernel
theorem dX11_lay_49 : decode cX11_lay 49 = .ok (.getfield 14, 3) := by decide +kernel
theorem dX11_lay_52 : decode cX11_lay 52 = .ok (.aload_n 0, 1) := by decide +kernel
theorem dX11_lay_53 : decode cX11_lay 53 = .ok (.getfield 11, 3) := by decide +kernel
theorem dX11_lay_56 : decode cX11_lay 56 = .ok (.iload 4, 2) := by decide +kernel
theorem dX11_lay_58 : decode cX11_lay 58 = .ok (.iastore, 1) := by decide +kernel
theorem dX11_lay_59 : decode cX11_lay 59 = .ok (.aload_n 0, 1) := by decide +kernel
theorem dX11_lay_60 : decode cX11_lay 60 = .ok (.dup, 1) := by decide +kernel
theorem dX11_lay_61 : decode cX11_lay 61 = .ok (.getfield 11, 3) := by decide +kernel
theorem dX11_lay_64 : decode cX11_lay 64 = .ok (.iconst 1, 1) := by decide +kernel
theorem dX11_lay_65 : decode cX11_lay 65 = .ok (.iadd, 1) := by decide +kernel
theorem dX11_lay_66 : decode cX11_lay 66 = .ok (.putfield 11, 3) := by decide +kernel
theorem dX11_lay_69 : decode cX11_lay 69 = .ok (.iinc 3 (-8), 3) := by decide +kernel
theorem dX11_lay_72 : decode cX11_lay 72 = .ok (.goto (-69), 3) := by decide +kernel
theorem dX11_lay_75 : decode cX11_lay 75 = .ok (.return_, 1) := by decide +kernel
theorem dX11_laysArriving_0 : decode cX11_laysArriving 0 = .ok (.aload_n 0, 1) := by decide +kernel
theorem dX11_laysArriving_1 : decode cX11_laysArriving 1 = .ok (.iload_n 1, 1) := by decide +kernel
theorem dX11_laysArriving_2 : decode cX11_laysArriving 2 = .ok (.iload_n 2, 1) := by decide +kernel
theorem dX11_laysArriving_3 : decode cX11_laysArriving 3 = .ok (.invokevirtual 288, 3) := by decide +kernel
theorem dX11_laysArriving_6 : decode cX11_laysArriving 6 = .ok (.istore_n 3, 1) := by decide +kernel
theorem dX11_laysArriving_7 : decode cX11_laysArriving 7 = .ok (.iconst 0, 1) := by decide +kernel
theorem dX11_laysArriving_8 : decode cX11_laysArriving 8 = .ok (.istore 4, 2) := by decide +kernel
theorem dX11_laysArriving_10 : decode cX11_laysArriving 10 = .ok (.iload 4, 2) := by decide +kernel
theorem dX11_laysArriving_12 : decode cX11_laysArriving 12 = .ok (.bipush 120, 2) := by decide +kernel
theorem dX11_laysArriving_14 : decode cX11_laysArriving 14 = .ok (.if_icmp .gt 48, 3) := by decide +kernel
theorem dX11_laysArriving_17 : decode cX11_laysArriving 17 = .ok (.aload_n 0, 1) := by decide +kernel
theorem dX11_laysArriving_18 : decode cX11_laysArriving 18 = .ok (.getfield 111, 3) := by decide +kernel
theorem dX11_laysArriving_21 : decode cX11_laysArriving 21 = .ok (.iload 4, 2) := by decide +kernel
theorem dX11_laysArriving_23 : decode cX11_laysArriving 23 = .ok (.aload_n 0, 1) := by decide +kernel
theorem dX11_laysArriving_24 : decode cX11_laysArriving 24 = .ok (.iload_n 3, 1) := by decide +kernel
theorem dX11_laysArriving_25 : decode cX11_laysArriving 25 = .ok (.invokevirtual 328, 3) := by decide +kernel
theorem dX11_laysArriving_28 : decode cX11_laysArriving 28 = .ok (.iconst 2, 1) := by decide +kernel
theorem dX11_laysArriving_29 : decode cX11_laysArriving 29 = .ok (.if_icmp .ne 18, 3) := by decide +kernel
theorem dX11_laysArriving_32 : decode cX11_laysArriving 32 = .ok (.aload_n 0, 1) := by decide +kernel
theorem dX11_laysArriving_33 : decode cX11_laysArriving 33 = .ok (.iload_n 3, 1) := by decide +kernel
theorem dX11_laysArriving_34 : decode cX11_laysArriving 34 = .ok (.aload_n 0, 1) := by decide +kernel
theorem dX11_laysArriving_35 : decode cX11_laysArriving 35 = .ok (.iload_n 3, 1) := by decide +kernel
theorem dX11_laysArriving_36 : decode cX11_laysArriving 36 = .ok (.invokevirtual 325, 3) := by decide +kernel
theorem dX11_laysArriving_39 : decode cX11_laysArriving 39 = .ok (.iload 4, 2) := by decide +kernel
theorem dX11_laysArriving_41 : decode cX11_laysArriving 41 = .ok (.invokevirtual 337, 3) := by decide +kernel
theorem dX11_laysArriving_44 : decode cX11_laysArriving 44 = .ok (.goto 11, 3) := by decide +kernel
theorem dX11_laysArriving_47 : decode cX11_laysArriving 47 = .ok (.aload_n 0, 1) := by decide +kernel
theorem dX11_laysArriving_48 : decode cX11_laysArriving 48 = .ok (.iload_n 1, 1) := by decide +kernel
theorem dX11_laysArriving_49 : decode cX11_laysArriving 49 = .ok (.iload_n 2, 1) := by decide +kernel
theorem dX11_laysArriving_50 : decode cX11_laysArriving 50 = .ok (.iload 4, 2) := by decide +kernel
theorem dX11_laysArriving_52 : decode cX11_laysArriving 52 = .ok (.invokevirtual 322, 3) := by decide +kernel
theorem dX11_laysArriving_55 : decode cX11_laysArriving 55 = .ok (.iastore, 1) := by decide +kernel
theorem dX11_laysArriving_56 : decode cX11_laysArriving 56 = .ok (.iinc 4 1, 3) := by decide +kernel
theorem dX11_laysArriving_59 : decode cX11_laysArriving 59 = .ok (.goto (-49), 3) := by decide +kernel
theorem dX11_laysArriving_62 : decode cX11_laysArriving 62 = .ok (.return_, 1) := by decide +kernel
theorem dX11_laysCurves_0 : decode cX11_laysCurves 0 = .ok (.iconst 0, 1) := by decide +kernel
theorem dX11_laysCurves_1 : decode cX11_laysCurves 1 = .ok (.istore_n 3, 1) := by decide +kernel
theorem dX11_laysCurves_2 : decode cX11_laysCurves 2 = .ok (.iload_n 3, 1) := by decide +kernel
theorem dX11_laysCurves_3 : decode cX11_laysCurves 3 = .ok (.bipush 120, 2) := by decide +kernel
theorem dX11_laysCurves_5 : decode cX11_laysCurves 5 = .ok (.if_icmp .gt 33, 3) := by decide +kernel
theorem dX11_laysCurves_8 : decode cX11_laysCurves 8 = .ok (.aload_n 0, 1) := by decide +kernel
theorem dX11_laysCurves_9 : decode cX11_laysCurves 9 = .ok (.getfield 111, 3) := by decide +kernel
theorem dX11_laysCurves_12 : decode cX11_laysCurves 12 = .ok (.iload_n 3, 1) := by decide +kernel
theorem dX11_laysCurves_13 : decode cX11_laysCurves 13 = .ok (.aload_n 0, 1) := by decide +kernel
theorem dX11_laysCurves_14 : decode cX11_laysCurves 14 = .ok (.iload_n 1, 1) := by decide +kernel
theorem dX11_laysCurves_15 : decode cX11_laysCurves 15 = .ok (.iload_n 3, 1) := by decide +kernel
theorem dX11_laysCurves_16 : decode cX11_laysCurves 16 = .ok (.invokevirtual 294, 3) := by decide +kernel
theorem dX11_laysCurves_19 : decode cX11_laysCurves 19 = .ok (.iastore, 1) := by decide +kernel
theorem dX11_laysCurves_20 : decode cX11_laysCurves 20 = .ok (.aload_n 0, 1) := by decide +kernel
theorem dX11_laysCurves_21 : decode cX11_laysCurves 21 = .ok (.getfield 114, 3) := by decide +kernel
theorem dX11_laysCurves_24 : decode cX11_laysCurves 24 = .ok (.iload_n 3, 1) := by decide +kernel
theorem dX11_laysCurves_25 : decode cX11_laysCurves 25 = .ok (.aload_n 0, 1) := by decide +kernel
theorem dX11_laysCurves_26 : decode cX11_laysCurves 26 = .ok (.iload_n 2, 1) := by decide +kernel
theorem dX11_laysCurves_27 : decode cX11_laysCurves 27 = .ok (.iload_n 3, 1) := by decide +kernel
theorem dX11_laysCurves_28 : decode cX11_laysCurves 28 = .ok (.invokevirtual 294, 3) := by decide +kernel
theorem dX11_laysCurves_31 : decode cX11_laysCurves 31 = .ok (.iastore, 1) := by decide +kernel
theorem dX11_laysCurves_32 : decode cX11_laysCurves 32 = .ok (.iinc 3 1, 3) := by decide +kernel
theorem dX11_laysCurves_35 : decode cX11_laysCurves 35 = .ok (.goto (-33), 3) := by decide +kernel
theorem dX11_laysCurves_38 : decode cX11_laysCurves 38 = .ok (.return_, 1) := by decide +kernel
theorem dX11_laysLeft_0 : decode cX11_laysLeft 0 = .ok (.aload_n 0, 1) := by decide +kernel
theorem dX11_laysLeft_1 : decode cX11_laysLeft 1 = .ok (.iload_n 2, 1) := by decide +kernel
theorem dX11_laysLeft_2 : decode cX11_laysLeft 2 = .ok (.invokevirtual 325, 3) := by decide +kernel
theorem dX11_laysLeft_5 : decode cX11_laysLeft 5 = .ok (.istore_n 3, 1) := by decide +kernel
theorem dX11_laysLeft_6 : decode cX11_laysLeft 6 = .ok (.aload_n 0, 1) := by decide +kernel
theorem dX11_laysLeft_7 : decode cX11_laysLeft 7 = .ok (.iload_n 2, 1) := by decide +kernel
theorem dX11_laysLeft_8 : decode cX11_laysLeft 8 = .ok (.invokevirtual 328, 3) := by decide +kernel
theorem dX11_laysLeft_11 : decode cX11_laysLeft 11 = .ok (.ifCond .ne 13, 3) := by decide +kernel
theorem dX11_laysLeft_14 : decode cX11_laysLeft 14 = .ok (.iload_n 3, 1) := by decide +kernel
theorem dX11_laysLeft_15 : decode cX11_laysLeft 15 = .ok (.iconst 1, 1) := by decide +kernel
theorem dX11_laysLeft_16 : decode cX11_laysLeft 16 = .ok (.iload_n 1, 1) := by decide +kernel
theorem dX11_laysLeft_17 : decode cX11_laysLeft 17 = .ok (.ishl, 1) := by decide +kernel
theorem dX11_laysLeft_18 : decode cX11_laysLeft 18 = .ok (.iconst (-1), 1) := by decide +kernel
theorem dX11_laysLeft_19 : decode cX11_laysLeft 19 = .ok (.ixor, 1) := by decide +kernel
theorem dX11_laysLeft_20 : decode cX11_laysLeft 20 = .ok (.iand, 1) := by decide +kernel
theorem dX11_laysLeft_21 : decode cX11_laysLeft 21 = .ok (.goto 10, 3) := by decide +kernel
theorem dX11_laysLeft_24 : decode cX11_laysLeft 24 = .ok (.iload_n 3, 1) := by decide +kernel
theorem dX11_laysLeft_25 : decode cX11_laysLeft 25 = .ok (.iconst 1, 1) := by decide +kernel
theorem dX11_laysLeft_26 : decode cX11_laysLeft 26 = .ok (.iload_n 1, 1) := by decide +kernel
theorem dX11_laysLeft_27 : decode cX11_laysLeft 27 = .ok (.ishl, 1) := by decide +kernel
theorem dX11_laysLeft_28 : decode cX11_laysLeft 28 = .ok (.iconst 1, 1) := by decide +kernel
theorem dX11_laysLeft_29 : decode cX11_laysLeft 29 = .ok (.isub, 1) := by decide +kernel
theorem dX11_laysLeft_30 : decode cX11_laysLeft 30 = .ok (.iand, 1) := by decide +kernel
theorem dX11_laysLeft_31 : decode cX11_laysLeft 31 = .ok (.istore 4, 2) := by decide +kernel
theorem dX11_laysLeft_33 : decode cX11_laysLeft 33 = .ok (.iconst 0, 1) := by decide +kernel
theorem dX11_laysLeft_34 : decode cX11_laysLeft 34 = .ok (.istore 5, 2) := by decide +kernel
theorem dX11_laysLeft_36 : decode cX11_laysLeft 36 = .ok (.iconst 0, 1) := by decide +kernel
theorem dX11_laysLeft_37 : decode cX11_laysLeft 37 = .ok (.istore 6, 2) := by decide +kernel
theorem dX11_laysLeft_39 : decode cX11_laysLeft 39 = .ok (.iload 6, 2) := by decide +kernel
theorem dX11_laysLeft_41 : decode cX11_laysLeft 41 = .ok (.bipush 120, 2) := by decide +kernel
theorem dX11_laysLeft_43 : decode cX11_laysLeft 43 = .ok (.if_icmp .gt 108, 3) := by decide +kernel
theorem dX11_laysLeft_46 : decode cX11_laysLeft 46 = .ok (.aload_n 0, 1) := by decide +kernel
theorem dX11_laysLeft_47 : decode cX11_laysLeft 47 = .ok (.aload_n 0, 1) := by decide +kernel
theorem dX11_laysLeft_48 : decode cX11_laysLeft 48 = .ok (.iload_n 2, 1) := by decide +kernel
theorem dX11_laysLeft_49 : decode cX11_laysLeft 49 = .ok (.invokevirtual 331, 3) := by decide +kernel
theorem dX11_laysLeft_52 : decode cX11_laysLeft 52 = .ok (.iload 6, 2) := by decide +kernel
theorem dX11_laysLeft_54 : decode cX11_laysLeft 54 = .ok (.invokevirtual 294, 3) := by decide +kernel
theorem dX11_laysLeft_57 : decode cX11_laysLeft 57 = .ok (.istore 7, 2) := by decide +kernel
theorem dX11_laysLeft_59 : decode cX11_laysLeft 59 = .ok (.aload_n 0, 1) := by decide +kernel
theorem dX11_laysLeft_60 : decode cX11_laysLeft 60 = .ok (.iload_n 2, 1) := by decide +kernel
theorem dX11_laysLeft_61 : decode cX11_laysLeft 61 = .ok (.invokevirtual 328, 3) := by decide +kernel
theorem dX11_laysLeft_64 : decode cX11_laysLeft 64 = .ok (.iconst 3, 1) := by decide +kernel
theorem dX11_laysLeft_65 : decode cX11_laysLeft 65 = .ok (.if_icmp .ne 20, 3) := by decide +kernel
theorem dX11_laysLeft_68 : decode cX11_laysLeft 68 = .ok (.aload_n 0, 1) := by decide +kernel
theorem dX11_laysLeft_69 : decode cX11_laysLeft 69 = .ok (.getfield 114, 3) := by decide +kernel
theorem dX11_laysLeft_72 : decode cX11_laysLeft 72 = .ok (.iload 6, 2) := by decide +kernel
theorem dX11_laysLeft_74 : decode cX11_laysLeft 74 = .ok (.iload 7, 2) := by decide +kernel
theorem dX11_laysLeft_76 : decode cX11_laysLeft 76 = .ok (.iload_n 3, 1) := by decide +kernel
theorem dX11_laysLeft_77 : decode cX11_laysLeft 77 = .ok (.invokestatic 334, 3) := by decide +kernel
theorem dX11_laysLeft_80 : decode cX11_laysLeft 80 = .ok (.idiv, 1) := by decide +kernel
theorem dX11_laysLeft_81 : decode cX11_laysLeft 81 = .ok (.iastore, 1) := by decide +kernel
theorem dX11_laysLeft_82 : decode cX11_laysLeft 82 = .ok (.goto 63, 3) := by decide +kernel
theorem dX11_laysLeft_85 : decode cX11_laysLeft 85 = .ok (.aload_n 0, 1) := by decide +kernel
theorem dX11_laysLeft_86 : decode cX11_laysLeft 86 = .ok (.iload_n 2, 1) := by decide +kernel
theorem dX11_laysLeft_87 : decode cX11_laysLeft 87 = .ok (.invokevirtual 328, 3) := by decide +kernel
theorem dX11_laysLeft_90 : decode cX11_laysLeft 90 = .ok (.iconst 2, 1) := by decide +kernel
theorem dX11_laysLeft_91 : decode cX11_laysLeft 91 = .ok (.if_icmp .ne 15, 3) := by decide +kernel
theorem dX11_laysLeft_94 : decode cX11_laysLeft 94 = .ok (.aload_n 0, 1) := by decide +kernel
theorem dX11_laysLeft_95 : decode cX11_laysLeft 95 = .ok (.getfield 114, 3) := by decide +kernel
theorem dX11_laysLeft_98 : decode cX11_laysLeft 98 = .ok (.iload 6, 2) := by decide +kernel
theorem dX11_laysLeft_100 : decode cX11_laysLeft 100 = .ok (.iload 7, 2) := by decide +kernel
theorem dX11_laysLeft_102 : decode cX11_laysLeft 102 = .ok (.iastore, 1) := by decide +kernel
theorem dX11_laysLeft_103 : decode cX11_laysLeft 103 = .ok (.goto 42, 3) := by decide +kernel
theorem dX11_laysLeft_106 : decode cX11_laysLeft 106 = .ok (.iload 7, 2) := by decide +kernel
theorem dX11_laysLeft_108 : decode cX11_laysLeft 108 = .ok (.aload_n 0, 1) := by decide +kernel
theorem dX11_laysLeft_109 : decode cX11_laysLeft 109 = .ok (.iload_n 2, 1) := by decide +kernel
theorem dX11_laysLeft_110 : decode cX11_laysLeft 110 = .ok (.iload 4, 2) := by decide +kernel
theorem dX11_laysLeft_112 : decode cX11_laysLeft 112 = .ok (.iload 6, 2) := by decide +kernel
theorem dX11_laysLeft_114 : decode cX11_laysLeft 114 = .ok (.invokevirtual 337, 3) := by decide +kernel
theorem dX11_laysLeft_117 : decode cX11_laysLeft 117 = .ok (.isub, 1) := by decide +kernel
theorem dX11_laysLeft_118 : decode cX11_laysLeft 118 = .ok (.istore 8, 2) := by decide +kernel
theorem dX11_laysLeft_120 : decode cX11_laysLeft 120 = .ok (.iload 8, 2) := by decide +kernel
theorem dX11_laysLeft_122 : decode cX11_laysLeft 122 = .ok (.iload 5, 2) := by decide +kernel
theorem dX11_laysLeft_124 : decode cX11_laysLeft 124 = .ok (.if_icmp .le 8, 3) := by decide +kernel
theorem dX11_laysLeft_127 : decode cX11_laysLeft 127 = .ok (.iload 8, 2) := by decide +kernel
theorem dX11_laysLeft_129 : decode cX11_laysLeft 129 = .ok (.goto 5, 3) := by decide +kernel
theorem dX11_laysLeft_132 : decode cX11_laysLeft 132 = .ok (.iload 5, 2) := by decide +kernel
theorem dX11_laysLeft_134 : decode cX11_laysLeft 134 = .ok (.istore 5, 2) := by decide +kernel
theorem dX11_laysLeft_136 : decode cX11_laysLeft 136 = .ok (.aload_n 0, 1) := by decide +kernel
theorem dX11_laysLeft_137 : decode cX11_laysLeft 137 = .ok (.getfield 114, 3) := by decide +kernel
theorem dX11_laysLeft_140 : decode cX11_laysLeft 140 = .ok (.iload 6, 2) := by decide +kernel
theorem dX11_laysLeft_142 : decode cX11_laysLeft 142 = .ok (.iload 5, 2) := by decide +kernel
theorem dX11_laysLeft_144 : decode cX11_laysLeft 144 = .ok (.iastore, 1) := by decide +kernel
theorem dX11_laysLeft_145 : decode cX11_laysLeft 145 = .ok (.iinc 6 1, 3) := by decide +kernel
theorem dX11_laysLeft_148 : decode cX11_laysLeft 148 = .ok (.goto (-109), 3) := by decide +kernel
theorem dX11_laysLeft_151 : decode cX11_laysLeft 151 = .ok (.return_, 1) := by decide +kernel
theorem dX11_left_0 : decode cX11_left 0 = .ok (.aload_n 0, 1) := by decide +kernel
theorem dX11_left_1 : decode cX11_left 1 = .ok (.iconst 0, 1) := by decide +kernel
theorem dX11_left_2 : decode cX11_left 2 = .ok (.putfield 1, 3) := by decide +kernel
theorem dX11_left_5 : decode cX11_left 5 = .ok (.aload_n 0, 1) := by decide +kernel
theorem dX11_left_6 : decode cX11_left 6 = .ok (.iload_n 1, 1) := by decide +kernel
theorem dX11_left_7 : decode cX11_left 7 = .ok (.iload_n 2, 1) := by decide +kernel
theorem dX11_left_8 : decode cX11_left 8 = .ok (.invokevirtual 352, 3) := by decide +kernel
theorem dX11_left_11 : decode cX11_left 11 = .ok (.ifCond .eq 20, 3) := by decide +kernel
theorem dX11_left_14 : decode cX11_left 14 = .ok (.iload_n 3, 1) := by decide +kernel
theorem dX11_left_15 : decode cX11_left 15 = .ok (.iconst 0, 1) := by decide +kernel
theorem dX11_left_16 : decode cX11_left 16 = .ok (.bipush 60, 2) := by decide +kernel
theorem dX11_left_18 : decode cX11_left 18 = .ok (.invokestatic 300, 3) := by decide +kernel
theorem dX11_left_21 : decode cX11_left 21 = .ok (.ifCond .eq 10, 3) := by decide +kernel
theorem dX11_left_24 : decode cX11_left 24 = .ok (.aload_n 0, 1) := by decide +kernel
theorem dX11_left_25 : decode cX11_left 25 = .ok (.invokevirtual 349, 3) := by decide +kernel
theorem dX11_left_28 : decode cX11_left 28 = .ok (.ifCond .ge 5, 3) := by decide +kernel
theorem dX11_left_31 : decode cX11_left 31 = .ok (.iconst (-1), 1) := by decide +kernel
theorem dX11_left_32 : decode cX11_left 32 = .ok (.ireturn, 1) := by decide +kernel
theorem dX11_left_33 : decode cX11_left 33 = .ok (.aload_n 0, 1) := by decide +kernel
theorem dX11_left_34 : decode cX11_left 34 = .ok (.iload_n 1, 1) := by decide +kernel
theorem dX11_left_35 : decode cX11_left 35 = .ok (.aload_n 0, 1) := by decide +kernel
theorem dX11_left_36 : decode cX11_left 36 = .ok (.iload_n 1, 1) := by decide +kernel
theorem dX11_left_37 : decode cX11_left 37 = .ok (.iload_n 2, 1) := by decide +kernel
theorem dX11_left_38 : decode cX11_left 38 = .ok (.invokevirtual 288, 3) := by decide +kernel
theorem dX11_left_41 : decode cX11_left 41 = .ok (.invokevirtual 343, 3) := by decide +kernel
theorem dX11_left_44 : decode cX11_left 44 = .ok (.aload_n 0, 1) := by decide +kernel
theorem dX11_left_45 : decode cX11_left 45 = .ok (.getfield 114, 3) := by decide +kernel
theorem dX11_left_48 : decode cX11_left 48 = .ok (.iload_n 3, 1) := by decide +kernel
theorem dX11_left_49 : decode cX11_left 49 = .ok (.iaload, 1) := by decide +kernel
theorem dX11_left_50 : decode cX11_left 50 = .ok (.ireturn, 1) := by decide +kernel
theorem dX11_loads_0 : decode cX11_loads 0 = .ok (.aload_n 0, 1) := by decide +kernel
theorem dX11_loads_1 : decode cX11_loads 1 = .ok (.iconst 0, 1) := by decide +kernel
theorem dX11_loads_2 : decode cX11_loads 2 = .ok (.putfield 1, 3) := by decide +kernel
theorem dX11_loads_5 : decode cX11_loads 5 = .ok (.iload_n 1, 1) := by decide +kernel
theorem dX11_loads_6 : decode cX11_loads 6 = .ok (.iconst 0, 1) := by decide +kernel
theorem dX11_loads_7 : decode cX11_loads 7 = .ok (.sipush 9999, 3) := by decide +kernel
theorem dX11_loads_10 : decode cX11_loads 10 = .ok (.invokestatic 300, 3) := by decide +kernel
theorem dX11_loads_13 : decode cX11_loads 13 = .ok (.ifCond .eq 22, 3) := by decide +kernel
theorem dX11_loads_16 : decode cX11_loads 16 = .ok (.iload_n 2, 1) := by decide +kernel
theorem dX11_loads_17 : decode cX11_loads 17 = .ok (.iconst 1, 1) := by decide +kernel
theorem dX11_loads_18 : decode cX11_loads 18 = .ok (.bipush 60, 2) := by decide +kernel
theorem dX11_loads_20 : decode cX11_loads 20 = .ok (.invokestatic 300, 3) := by decide +kernel
theorem dX11_loads_23 : decode cX11_loads 23 = .ok (.ifCond .eq 12, 3) := by decide +kernel
theorem dX11_loads_26 : decode cX11_loads 26 = .ok (.iload_n 3, 1) := by decide +kernel
theorem dX11_loads_27 : decode cX11_loads 27 = .ok (.iconst 0, 1) := by decide +kernel
theorem dX11_loads_28 : decode cX11_loads 28 = .ok (.iconst 2, 1) := by decide +kernel
theorem dX11_loads_29 : decode cX11_loads 29 = .ok (.invokestatic 300, 3) := by decide +kernel
theorem dX11_loads_32 : decode cX11_loads 32 = .ok (.ifCond .ne 6, 3) := by decide +kernel
theorem dX11_loads_35 : decode cX11_loads 35 = .ok (.bipush (-2), 2) := by decide +kernel
theorem dX11_loads_37 : decode cX11_loads 37 = .ok (.ireturn, 1) := by decide +kernel
theorem dX11_loads_38 : decode cX11_loads 38 = .ok (.aload_n 0, 1) := by decide +kernel
theorem dX11_loads_39 : decode cX11_loads 39 = .ok (.iconst 0, 1) := by decide +kernel
theorem dX11_loads_40 : decode cX11_loads 40 = .ok (.sipush 1221, 3) := by decide +kernel
theorem dX11_loads_43 : decode cX11_loads 43 = .ok (.sipush 382, 3) := by decide +kernel
theorem dX11_loads_46 : decode cX11_loads 46 = .ok (.invokevirtual 443, 3) := by decide +kernel
theorem dX11_loads_49 : decode cX11_loads 49 = .ok (.aload_n 0, 1) := by decide +kernel
theorem dX11_loads_50 : decode cX11_loads 50 = .ok (.iload_n 1, 1) := by decide +kernel
theorem dX11_loads_51 : decode cX11_loads 51 = .ok (.i2l, 1) := by decide +kernel
theorem dX11_loads_52 : decode cX11_loads 52 = .ok (.putfield 431, 3) := by decide +kernel
theorem dX11_loads_55 : decode cX11_loads 55 = .ok (.iconst 0, 1) := by decide +kernel
theorem dX11_loads_56 : decode cX11_loads 56 = .ok (.istore 4, 2) := by decide +kernel
theorem dX11_loads_58 : decode cX11_loads 58 = .ok (.iconst 0, 1) := by decide +kernel
theorem dX11_loads_59 : decode cX11_loads 59 = .ok (.istore 5, 2) := by decide +kernel
theorem dX11_loads_61 : decode cX11_loads 61 = .ok (.iload 5, 2) := by decide +kernel
theorem dX11_loads_63 : decode cX11_loads 63 = .ok (.iload_n 2, 1) := by decide +kernel
theorem dX11_loads_64 : decode cX11_loads 64 = .ok (.if_icmp .ge 84, 3) := by decide +kernel
theorem dX11_loads_67 : decode cX11_loads 67 = .ok (.aload_n 0, 1) := by decide +kernel
theorem dX11_loads_68 : decode cX11_loads 68 = .ok (.sipush 1221, 3) := by decide +kernel
theorem dX11_loads_71 : decode cX11_loads 71 = .ok (.invokevirtual 413, 3) := by decide +kernel
theorem dX11_loads_74 : decode cX11_loads 74 = .ok (.ifCond .eq 74, 3) := by decide +kernel
theorem dX11_loads_77 : decode cX11_loads 77 = .ok (.aload_n 0, 1) := by decide +kernel
theorem dX11_loads_78 : decode cX11_loads 78 = .ok (.invokevirtual 245, 3) := by decide +kernel
theorem dX11_loads_81 : decode cX11_loads 81 = .ok (.ifCond .le 49, 3) := by decide +kernel
theorem dX11_loads_84 : decode cX11_loads 84 = .ok (.aload_n 0, 1) := by decide +kernel
theorem dX11_loads_85 : decode cX11_loads 85 = .ok (.aload_n 0, 1) := by decide +kernel
theorem dX11_loads_86 : decode cX11_loads 86 = .ok (.invokevirtual 245, 3) := by decide +kernel
theorem dX11_loads_89 : decode cX11_loads 89 = .ok (.invokevirtual 446, 3) := by decide +kernel
theorem dX11_loads_92 : decode cX11_loads 92 = .ok (.istore 6, 2) := by decide +kernel
theorem dX11_loads_94 : decode cX11_loads 94 = .ok (.aload_n 0, 1) := by decide +kernel
theorem dX11_loads_95 : decode cX11_loads 95 = .ok (.iconst 4, 1) := by decide +kernel
theorem dX11_loads_96 : decode cX11_loads 96 = .ok (.invokevirtual 446, 3) := by decide +kernel
theorem dX11_loads_99 : decode cX11_loads 99 = .ok (.istore 7, 2) := by decide +kernel
theorem dX11_loads_101 : decode cX11_loads 101 = .ok (.iload 7, 2) := by decide +kernel
theorem dX11_loads_103 : decode cX11_loads 103 = .ok (.ifCond .le 27, 3) := by decide +kernel
theorem dX11_loads_106 : decode cX11_loads 106 = .ok (.aload_n 0, 1) := by decide +kernel
theorem dX11_loads_107 : decode cX11_loads 107 = .ok (.sipush 1221, 3) := by decide +kernel
theorem dX11_loads_110 : decode cX11_loads 110 = .ok (.iload 7, 2) := by decide +kernel
theorem dX11_loads_112 : decode cX11_loads 112 = .ok (.invokevirtual 385, 3) := by decide +kernel
theorem dX11_loads_115 : decode cX11_loads 115 = .ok (.ifCond .eq 15, 3) := by decide +kernel
theorem dX11_loads_118 : decode cX11_loads 118 = .ok (.aload_n 0, 1) := by decide +kernel
theorem dX11_loads_119 : decode cX11_loads 119 = .ok (.sipush 1221, 3) := by decide +kernel
theorem dX11_loads_122 : decode cX11_loads 122 = .ok (.iload 6, 2) := by decide +kernel
theorem dX11_loads_124 : decode cX11_loads 124 = .ok (.iload 7, 2) := by decide +kernel
theorem dX11_loads_126 : decode cX11_loads 126 = .ok (.invokevirtual 388, 3) := by decide +kernel
theorem dX11_loads_129 : decode cX11_loads 129 = .ok (.pop, 1) := by decide +kernel
theorem dX11_loads_130 : decode cX11_loads 130 = .ok (.iload 4, 2) := by decide +kernel
theorem dX11_loads_132 : decode cX11_loads 132 = .ok (.aload_n 0, 1) := by decide +kernel
theorem dX11_loads_133 : decode cX11_loads 133 = .ok (.sipush 1221, 3) := by decide +kernel
theorem dX11_loads_136 : decode cX11_loads 136 = .ok (.invokevirtual 416, 3) := by decide +kernel
theorem dX11_loads_139 : decode cX11_loads 139 = .ok (.iadd, 1) := by decide +kernel
theorem dX11_loads_140 : decode cX11_loads 140 = .ok (.istore 4, 2) := by decide +kernel
theorem dX11_loads_142 : decode cX11_loads 142 = .ok (.iinc 5 1, 3) := by decide +kernel
theorem dX11_loads_145 : decode cX11_loads 145 = .ok (.goto (-84), 3) := by decide +kernel
theorem dX11_loads_148 : decode cX11_loads 148 = .ok (.iload_n 3, 1) := by decide +kernel
theorem dX11_loads_149 : decode cX11_loads 149 = .ok (.ifCond .ne 8, 3) := by decide +kernel
theorem dX11_loads_152 : decode cX11_loads 152 = .ok (.iload 4, 2) := by decide +kernel
theorem dX11_loads_154 : decode cX11_loads 154 = .ok (.goto 26, 3) := by decide +kernel
theorem dX11_loads_157 : decode cX11_loads 157 = .ok (.iload_n 3, 1) := by decide +kernel
theorem dX11_loads_158 : decode cX11_loads 158 = .ok (.iconst 1, 1) := by decide +kernel
theorem dX11_loads_159 : decode cX11_loads 159 = .ok (.if_icmp .ne 14, 3) := by decide +kernel
theorem dX11_loads_162 : decode cX11_loads 162 = .ok (.aload_n 0, 1) := by decide +kernel
theorem dX11_loads_163 : decode cX11_loads 163 = .ok (.getfield 101, 3) := by decide +kernel
theorem dX11_loads_166 : decode cX11_loads 166 = .ok (.sipush 1222, 3) := by decide +kernel
theorem dX11_loads_169 : decode cX11_loads 169 = .ok (.iaload, 1) := by decide +kernel
theorem dX11_loads_170 : decode cX11_loads 170 = .ok (.goto 10, 3) := by decide +kernel
theorem dX11_loads_173 : decode cX11_loads 173 = .ok (.aload_n 0, 1) := by decide +kernel
theorem dX11_loads_174 : decode cX11_loads 174 = .ok (.sipush 1221, 3) := by decide +kernel
theorem dX11_loads_177 : decode cX11_loads 177 = .ok (.invokevirtual 422, 3) := by decide +kernel
theorem dX11_loads_180 : decode cX11_loads 180 = .ok (.ireturn, 1) := by decide +kernel
theorem dX11_look_0 : decode cX11_look 0 = .ok (.aload_n 0, 1) := by decide +kernel
theorem dX11_look_1 : decode cX11_look 1 = .ok (.iconst 0, 1) := by decide +kernel
theorem dX11_look_2 : decode cX11_look 2 = .ok (.putfield 1, 3) := by decide +kernel
theorem dX11_look_5 : decode cX11_look 5 = .ok (.aload_n 0, 1) := by decide +kernel
theorem dX11_look_6 : decode cX11_look 6 = .ok (.invokevirtual 428, 3) := by decide +kernel
theorem dX11_look_9 : decode cX11_look 9 = .ok (.istore_n 1, 1) := by decide +kernel
theorem dX11_look_10 : decode cX11_look 10 = .ok (.iconst (-1), 1) := by decide +kernel
theorem dX11_look_11 : decode cX11_look 11 = .ok (.istore_n 2, 1) := by decide +kernel
theorem dX11_look_12 : decode cX11_look 12 = .ok (.iload_n 1, 1) := by decide +kernel
theorem dX11_look_13 : decode cX11_look 13 = .ok (.invokestatic 334, 3) := by decide +kernel
theorem dX11_look_16 : decode cX11_look 16 = .ok (.istore_n 3, 1) := by decide +kernel
theorem dX11_look_17 : decode cX11_look 17 = .ok (.iconst 0, 1) := by decide +kernel
theorem dX11_look_18 : decode cX11_look 18 = .ok (.istore 4, 2) := by decide +kernel
theorem dX11_look_20 : decode cX11_look 20 = .ok (.iload 4, 2) := by decide +kernel
theorem dX11_look_22 : decode cX11_look 22 = .ok (.bipush 60, 2) := by decide +kernel
theorem dX11_look_24 : decode cX11_look 24 = .ok (.if_icmp .gt 142, 3) := by decide +kernel
theorem dX11_look_27 : decode cX11_look 27 = .ok (.iconst 0, 1) := by decide +kernel
theorem dX11_look_28 : decode cX11_look 28 = .ok (.istore 5, 2) := by decide +kernel
theorem dX11_look_30 : decode cX11_look 30 = .ok (.iconst 0, 1) := by decide +kernel
theorem dX11_look_31 : decode cX11_look 31 = .ok (.istore 6, 2) := by decide +kernel
theorem dX11_look_33 : decode cX11_look 33 = .ok (.iload 6, 2) := by decide +kernel
theorem dX11_look_35 : decode cX11_look 35 = .ok (.aload_n 0, 1) := by decide +kernel
theorem dX11_look_36 : decode cX11_look 36 = .ok (.invokevirtual 273, 3) := by decide +kernel
theorem dX11_look_39 : decode cX11_look 39 = .ok (.if_icmp .ge 95, 3) := by decide +kernel
theorem dX11_look_42 : decode cX11_look 42 = .ok (.iconst 0, 1) := by decide +kernel
theorem dX11_look_43 : decode cX11_look 43 = .ok (.istore 7, 2) := by decide +kernel
theorem dX11_look_45 : decode cX11_look 45 = .ok (.iconst 0, 1) := by decide +kernel
theorem dX11_look_46 : decode cX11_look 46 = .ok (.istore 8, 2) := by decide +kernel
theorem dX11_look_48 : decode cX11_look 48 = .ok (.iload 8, 2) := by decide +kernel
theorem dX11_look_50 : decode cX11_look 50 = .ok (.aload_n 0, 1) := by decide +kernel
theorem dX11_look_51 : decode cX11_look 51 = .ok (.invokevirtual 273, 3) := by decide +kernel
theorem dX11_look_54 : decode cX11_look 54 = .ok (.if_icmp .ge 58, 3) := by decide +kernel
theorem dX11_look_57 : decode cX11_look 57 = .ok (.iload 7, 2) := by decide +kernel
theorem dX11_look_59 : decode cX11_look 59 = .ok (.iload_n 1, 1) := by decide +kernel
theorem dX11_look_60 : decode cX11_look 60 = .ok (.iload 6, 2) := by decide +kernel
theorem dX11_look_62 : decode cX11_look 62 = .ok (.ishr, 1) := by decide +kernel
theorem dX11_look_63 : decode cX11_look 63 = .ok (.iconst 1, 1) := by decide +kernel
theorem dX11_look_64 : decode cX11_look 64 = .ok (.iand, 1) := by decide +kernel
theorem dX11_look_65 : decode cX11_look 65 = .ok (.iconst 1, 1) := by decide +kernel
theorem dX11_look_66 : decode cX11_look 66 = .ok (.if_icmp .ne 36, 3) := by decide +kernel
theorem dX11_look_69 : decode cX11_look 69 = .ok (.iload_n 1, 1) := by decide +kernel
theorem dX11_look_70 : decode cX11_look 70 = .ok (.iload 8, 2) := by decide +kernel
theorem dX11_look_72 : decode cX11_look 72 = .ok (.ishr, 1) := by decide +kernel
theorem dX11_look_73 : decode cX11_look 73 = .ok (.iconst 1, 1) := by decide +kernel
theorem dX11_look_74 : decode cX11_look 74 = .ok (.iand, 1) := by decide +kernel
theorem dX11_look_75 : decode cX11_look 75 = .ok (.iconst 1, 1) := by decide +kernel
theorem dX11_look_76 : decode cX11_look 76 = .ok (.if_icmp .ne 26, 3) := by decide +kernel
theorem dX11_look_79 : decode cX11_look 79 = .ok (.aload_n 0, 1) := by decide +kernel
theorem dX11_look_80 : decode cX11_look 80 = .ok (.iload 8, 2) := by decide +kernel
theorem dX11_look_82 : decode cX11_look 82 = .ok (.iload 4, 2) := by decide +kernel
theorem dX11_look_84 : decode cX11_look 84 = .ok (.invokevirtual 294, 3) := by decide +kernel
theorem dX11_look_87 : decode cX11_look 87 = .ok (.aload_n 0, 1) := by decide +kernel
theorem dX11_look_88 : decode cX11_look 88 = .ok (.iload 6, 2) := by decide +kernel
theorem dX11_look_90 : decode cX11_look 90 = .ok (.iload 4, 2) := by decide +kernel
theorem dX11_look_92 : decode cX11_look 92 = .ok (.invokevirtual 294, 3) := by decide +kernel
theorem dX11_look_95 : decode cX11_look 95 = .ok (.if_icmp .ne 7, 3) := by decide +kernel
theorem dX11_look_98 : decode cX11_look 98 = .ok (.iconst 1, 1) := by decide +kernel
theorem dX11_look_99 : decode cX11_look 99 = .ok (.goto 4, 3) := by decide +kernel
theorem dX11_look_102 : decode cX11_look 102 = .ok (.iconst 0, 1) := by decide +kernel
theorem dX11_look_103 : decode cX11_look 103 = .ok (.iadd, 1) := by decide +kernel
theorem dX11_look_104 : decode cX11_look 104 = .ok (.istore 7, 2) := by decide +kernel
theorem dX11_look_106 : decode cX11_look 106 = .ok (.iinc 8 1, 3) := by decide +kernel
theorem dX11_look_109 : decode cX11_look 109 = .ok (.goto (-61), 3) := by decide +kernel
theorem dX11_look_112 : decode cX11_look 112 = .ok (.iload 7, 2) := by decide +kernel
theorem dX11_look_114 : decode cX11_look 114 = .ok (.iload 5, 2) := by decide +kernel
theorem dX11_look_116 : decode cX11_look 116 = .ok (.if_icmp .le 8, 3) := by decide +kernel
theorem dX11_look_119 : decode cX11_look 119 = .ok (.iload 7, 2) := by decide +kernel
theorem dX11_look_121 : decode cX11_look 121 = .ok (.goto 5, 3) := by decide +kernel
theorem dX11_look_124 : decode cX11_look 124 = .ok (.iload 5, 2) := by decide +kernel
theorem dX11_look_126 : decode cX11_look 126 = .ok (.istore 5, 2) := by decide +kernel
theorem dX11_look_128 : decode cX11_look 128 = .ok (.iinc 6 1, 3) := by decide +kernel
theorem dX11_look_131 : decode cX11_look 131 = .ok (.goto (-98), 3) := by decide +kernel
theorem dX11_look_134 : decode cX11_look 134 = .ok (.iload 5, 2) := by decide +kernel
theorem dX11_look_136 : decode cX11_look 136 = .ok (.iload_n 3, 1) := by decide +kernel
theorem dX11_look_137 : decode cX11_look 137 = .ok (.if_icmp .ge 8, 3) := by decide +kernel
theorem dX11_look_140 : decode cX11_look 140 = .ok (.iload 4, 2) := by decide +kernel
theorem dX11_look_142 : decode cX11_look 142 = .ok (.goto 4, 3) := by decide +kernel
theorem dX11_look_145 : decode cX11_look 145 = .ok (.iload_n 2, 1) := by decide +kernel
theorem dX11_look_146 : decode cX11_look 146 = .ok (.istore_n 2, 1) := by decide +kernel
theorem dX11_look_147 : decode cX11_look 147 = .ok (.iload 5, 2) := by decide +kernel
theorem dX11_look_149 : decode cX11_look 149 = .ok (.iload_n 3, 1) := by decide +kernel
theorem dX11_look_150 : decode cX11_look 150 = .ok (.if_icmp .ge 8, 3) := by decide +kernel
theorem dX11_look_153 : decode cX11_look 153 = .ok (.iload 5, 2) := by decide +kernel
theorem dX11_look_155 : decode cX11_look 155 = .ok (.goto 4, 3) := by decide +kernel
theorem dX11_look_158 : decode cX11_look 158 = .ok (.iload_n 3, 1) := by decide +kernel
theorem dX11_look_159 : decode cX11_look 159 = .ok (.istore_n 3, 1) := by decide +kernel
theorem dX11_look_160 : decode cX11_look 160 = .ok (.iinc 4 1, 3) := by decide +kernel
theorem dX11_look_163 : decode cX11_look 163 = .ok (.goto (-143), 3) := by decide +kernel
theorem dX11_look_166 : decode cX11_look 166 = .ok (.iload_n 2, 1) := by decide +kernel
theorem dX11_look_167 : decode cX11_look 167 = .ok (.ireturn, 1) := by decide +kernel
theorem dX11_mark_0 : decode cX11_mark 0 = .ok (.aload_n 0, 1) := by decide +kernel
theorem dX11_mark_1 : decode cX11_mark 1 = .ok (.iconst 0, 1) := by decide +kernel
theorem dX11_mark_2 : decode cX11_mark 2 = .ok (.putfield 1, 3) := by decide +kernel
theorem dX11_mark_5 : decode cX11_mark 5 = .ok (.iload_n 1, 1) := by decide +kernel
theorem dX11_mark_6 : decode cX11_mark 6 = .ok (.iconst 0, 1) := by decide +kernel
theorem dX11_mark_7 : decode cX11_mark 7 = .ok (.iconst 1, 1) := by decide +kernel
theorem dX11_mark_8 : decode cX11_mark 8 = .ok (.invokestatic 300, 3) := by decide +kernel
theorem dX11_mark_11 : decode cX11_mark 11 = .ok (.ifCond .eq 16, 3) := by decide +kernel
theorem dX11_mark_14 : decode cX11_mark 14 = .ok (.iload_n 2, 1) := by decide +kernel
theorem dX11_mark_15 : decode cX11_mark 15 = .ok (.ifCond .eq 14, 3) := by decide +kernel
theorem dX11_mark_18 : decode cX11_mark 18 = .ok (.aload_n 0, 1) := by decide +kernel
theorem dX11_mark_19 : decode cX11_mark 19 = .ok (.getfield 104, 3) := by decide +kernel
theorem dX11_mark_22 : decode cX11_mark 22 = .ok (.iload_n 1, 1) := by decide +kernel
theorem dX11_mark_23 : decode cX11_mark 23 = .ok (.baload, 1) := by decide +kernel
theorem dX11_mark_24 : decode cX11_mark 24 = .ok (.ifCond .ne 5, 3) := by decide +kernel
theorem dX11_mark_27 : decode cX11_mark 27 = .ok (.iconst 0, 1) := by decide +kernel
theorem dX11_mark_28 : decode cX11_mark 28 = .ok (.ireturn, 1) := by decide +kernel
theorem dX11_mark_29 : decode cX11_mark 29 = .ok (.aload_n 0, 1) := by decide +kernel
theorem dX11_mark_30 : decode cX11_mark 30 = .ok (.getfield 104, 3) := by decide +kernel
theorem dX11_mark_33 : decode cX11_mark 33 = .ok (.iload_n 1, 1) := by decide +kernel
theorem dX11_mark_34 : decode cX11_mark 34 = .ok (.iconst 1, 1) := by decide +kernel
theorem dX11_mark_35 : decode cX11_mark 35 = .ok (.bastore, 1) := by decide +kernel
theorem dX11_mark_36 : decode cX11_mark 36 = .ok (.aload_n 0, 1) := by decide +kernel
theorem dX11_mark_37 : decode cX11_mark 37 = .ok (.iload_n 2, 1) := by decide +kernel
theorem dX11_mark_38 : decode cX11_mark 38 = .ok (.ifCond .eq 13, 3) := by decide +kernel
theorem dX11_mark_41 : decode cX11_mark 41 = .ok (.sipush 407, 3) := by decide +kernel
theorem dX11_mark_44 : decode cX11_mark 44 = .ok (.iconst 1, 1) := by decide +kernel
theorem dX11_mark_45 : decode cX11_mark 45 = .ok (.iload_n 1, 1) := by decide +kernel
theorem dX11_mark_46 : decode cX11_mark 46 = .ok (.iadd, 1) := by decide +kernel
theorem dX11_mark_47 : decode cX11_mark 47 = .ok (.imul, 1) := by decide +kernel
theorem dX11_mark_48 : decode cX11_mark 48 = .ok (.goto 4, 3) := by decide +kernel
theorem dX11_mark_51 : decode cX11_mark 51 = .ok (.iconst 0, 1) := by decide +kernel
theorem dX11_mark_52 : decode cX11_mark 52 = .ok (.iload_n 2, 1) := by decide +kernel
theorem dX11_mark_53 : decode cX11_mark 53 = .ok (.ifCond .eq 7, 3) := by decide +kernel
theorem dX11_mark_56 : decode cX11_mark 56 = .ok (.iconst 0, 1) := by decide +kernel
theorem dX11_mark_57 : decode cX11_mark 57 = .ok (.goto 10, 3) := by decide +kernel
theorem dX11_mark_60 : decode cX11_mark 60 = .ok (.sipush 407, 3) := by decide +kernel
theorem dX11_mark_63 : decode cX11_mark 63 = .ok (.iconst 1, 1) := by decide +kernel
theorem dX11_mark_64 : decode cX11_mark 64 = .ok (.iload_n 1, 1) := by decide +kernel
theorem dX11_mark_65 : decode cX11_mark 65 = .ok (.iadd, 1) := by decide +kernel
theorem dX11_mark_66 : decode cX11_mark 66 = .ok (.imul, 1) := by decide +kernel
theorem dX11_mark_67 : decode cX11_mark 67 = .ok (.sipush 407, 3) := by decide +kernel
theorem dX11_mark_70 : decode cX11_mark 70 = .ok (.invokevirtual 443, 3) := by decide +kernel
theorem dX11_mark_73 : decode cX11_mark 73 = .ok (.iconst 1, 1) := by decide +kernel
theorem dX11_mark_74 : decode cX11_mark 74 = .ok (.ireturn, 1) := by decide +kernel
theorem dX11_mayPut_0 : decode cX11_mayPut 0 = .ok (.aload_n 0, 1) := by decide +kernel
theorem dX11_mayPut_1 : decode cX11_mayPut 1 = .ok (.getfield 101, 3) := by decide +kernel
theorem dX11_mayPut_4 : decode cX11_mayPut 4 = .ok (.iload_n 1, 1) := by decide +kernel
theorem dX11_mayPut_5 : decode cX11_mayPut 5 = .ok (.iconst 0, 1) := by decide +kernel
theorem dX11_mayPut_6 : decode cX11_mayPut 6 = .ok (.iadd, 1) := by decide +kernel
theorem dX11_mayPut_7 : decode cX11_mayPut 7 = .ok (.iaload, 1) := by decide +kernel
theorem dX11_mayPut_8 : decode cX11_mayPut 8 = .ok (.bipush 60, 2) := by decide +kernel
theorem dX11_mayPut_10 : decode cX11_mayPut 10 = .ok (.if_icmp .ge 22, 3) := by decide +kernel
theorem dX11_mayPut_13 : decode cX11_mayPut 13 = .ok (.aload_n 0, 1) := by decide +kernel
theorem dX11_mayPut_14 : decode cX11_mayPut 14 = .ok (.getfield 101, 3) := by decide +kernel
theorem dX11_mayPut_17 : decode cX11_mayPut 17 = .ok (.iload_n 1, 1) := by decide +kernel
theorem dX11_mayPut_18 : decode cX11_mayPut 18 = .ok (.iconst 1, 1) := by decide +kernel
theorem dX11_mayPut_19 : decode cX11_mayPut 19 = .ok (.iadd, 1) := by decide +kernel
theorem dX11_mayPut_20 : decode cX11_mayPut 20 = .ok (.iaload, 1) := by decide +kernel
theorem dX11_mayPut_21 : decode cX11_mayPut 21 = .ok (.iload_n 2, 1) := by decide +kernel
theorem dX11_mayPut_22 : decode cX11_mayPut 22 = .ok (.iadd, 1) := by decide +kernel
theorem dX11_mayPut_23 : decode cX11_mayPut 23 = .ok (.bipush 40, 2) := by decide +kernel
theorem dX11_mayPut_25 : decode cX11_mayPut 25 = .ok (.if_icmp .gt 7, 3) := by decide +kernel
theorem dX11_mayPut_28 : decode cX11_mayPut 28 = .ok (.iconst 1, 1) := by decide +kernel
theorem dX11_mayPut_29 : decode cX11_mayPut 29 = .ok (.goto 4, 3) := by decide +kernel
theorem dX11_mayPut_32 : decode cX11_mayPut 32 = .ok (.iconst 0, 1) := by decide +kernel
theorem dX11_mayPut_33 : decode cX11_mayPut 33 = .ok (.ireturn, 1) := by decide +kernel
theorem dX11_mayTick_0 : decode cX11_mayTick 0 = .ok (.aload_n 0, 1) := by decide +kernel
theorem dX11_mayTick_1 : decode cX11_mayTick 1 = .ok (.getfield 101, 3) := by decide +kernel
theorem dX11_mayTick_4 : decode cX11_mayTick 4 = .ok (.iload_n 1, 1) := by decide +kernel
theorem dX11_mayTick_5 : decode cX11_mayTick 5 = .ok (.iconst 0, 1) := by decide +kernel
theorem dX11_mayTick_6 : decode cX11_mayTick 6 = .ok (.iadd, 1) := by decide +kernel
theorem dX11_mayTick_7 : decode cX11_mayTick 7 = .ok (.iaload, 1) := by decide +kernel
theorem dX11_mayTick_8 : decode cX11_mayTick 8 = .ok (.bipush 60, 2) := by decide +kernel
theorem dX11_mayTick_10 : decode cX11_mayTick 10 = .ok (.if_icmp .ge 7, 3) := by decide +kernel
theorem dX11_mayTick_13 : decode cX11_mayTick 13 = .ok (.iconst 1, 1) := by decide +kernel
theorem dX11_mayTick_14 : decode cX11_mayTick 14 = .ok (.goto 4, 3) := by decide +kernel
theorem dX11_mayTick_17 : decode cX11_mayTick 17 = .ok (.iconst 0, 1) := by decide +kernel
theorem dX11_mayTick_18 : decode cX11_mayTick 18 = .ok (.ireturn, 1) := by decide +kernel
theorem dX11_moves_0 : decode cX11_moves 0 = .ok (.iconst 0, 1) := by decide +kernel
theorem dX11_moves_1 : decode cX11_moves 1 = .ok (.istore 4, 2) := by decide +kernel
theorem dX11_moves_3 : decode cX11_moves 3 = .ok (.iload 4, 2) := by decide +kernel
theorem dX11_moves_5 : decode cX11_moves 5 = .ok (.iload_n 3, 1) := by decide +kernel
theorem dX11_moves_6 : decode cX11_moves 6 = .ok (.if_icmp .ge 27, 3) := by decide +kernel
theorem dX11_moves_9 : decode cX11_moves 9 = .ok (.aload_n 0, 1) := by decide +kernel
theorem dX11_moves_10 : decode cX11_moves 10 = .ok (.getfield 101, 3) := by decide +kernel
theorem dX11_moves_13 : decode cX11_moves 13 = .ok (.iload_n 2, 1) := by decide +kernel
theorem dX11_moves_14 : decode cX11_moves 14 = .ok (.iload 4, 2) := by decide +kernel
theorem dX11_moves_16 : decode cX11_moves 16 = .ok (.iadd, 1) := by decide +kernel
theorem dX11_moves_17 : decode cX11_moves 17 = .ok (.aload_n 0, 1) := by decide +kernel
theorem dX11_moves_18 : decode cX11_moves 18 = .ok (.getfield 101, 3) := by decide +kernel
theorem dX11_moves_21 : decode cX11_moves 21 = .ok (.iload_n 1, 1) := by decide +kernel
theorem dX11_moves_22 : decode cX11_moves 22 = .ok (.iload 4, 2) := by decide +kernel
theorem dX11_moves_24 : decode cX11_moves 24 = .ok (.iadd, 1) := by decide +kernel
theorem dX11_moves_25 : decode cX11_moves 25 = .ok (.iaload, 1) := by decide +kernel
theorem dX11_moves_26 : decode cX11_moves 26 = .ok (.iastore, 1) := by decide +kernel
theorem dX11_moves_27 : decode cX11_moves 27 = .ok (.iinc 4 1, 3) := by decide +kernel
theorem dX11_moves_30 : decode cX11_moves 30 = .ok (.goto (-27), 3) := by decide +kernel
theorem dX11_moves_33 : decode cX11_moves 33 = .ok (.return_, 1) := by decide +kernel
theorem dX11_nameAt_0 : decode cX11_nameAt 0 = .ok (.iconst (-1), 1) := by decide +kernel
theorem dX11_nameAt_1 : decode cX11_nameAt 1 = .ok (.istore_n 3, 1) := by decide +kernel
theorem dX11_nameAt_2 : decode cX11_nameAt 2 = .ok (.iconst 0, 1) := by decide +kernel
theorem dX11_nameAt_3 : decode cX11_nameAt 3 = .ok (.istore 4, 2) := by decide +kernel
theorem dX11_nameAt_5 : decode cX11_nameAt 5 = .ok (.iload 4, 2) := by decide +kernel
theorem dX11_nameAt_7 : decode cX11_nameAt 7 = .ok (.iload_n 2, 1) := by decide +kernel
theorem dX11_nameAt_8 : decode cX11_nameAt 8 = .ok (.if_icmp .ge 38, 3) := by decide +kernel
theorem dX11_nameAt_11 : decode cX11_nameAt 11 = .ok (.aload_n 0, 1) := by decide +kernel
theorem dX11_nameAt_12 : decode cX11_nameAt 12 = .ok (.getfield 89, 3) := by decide +kernel
theorem dX11_nameAt_15 : decode cX11_nameAt 15 = .ok (.iload_n 1, 1) := by decide +kernel
theorem dX11_nameAt_16 : decode cX11_nameAt 16 = .ok (.iload 4, 2) := by decide +kernel
theorem dX11_nameAt_18 : decode cX11_nameAt 18 = .ok (.iadd, 1) := by decide +kernel
theorem dX11_nameAt_19 : decode cX11_nameAt 19 = .ok (.laload, 1) := by decide +kernel
theorem dX11_nameAt_20 : decode cX11_nameAt 20 = .ok (.aload_n 0, 1) := by decide +kernel
theorem dX11_nameAt_21 : decode cX11_nameAt 21 = .ok (.getfield 30, 3) := by decide +kernel
theorem dX11_nameAt_24 : decode cX11_nameAt 24 = .ok (.aload_n 0, 1) := by decide +kernel
theorem dX11_nameAt_25 : decode cX11_nameAt 25 = .ok (.getfield 165, 3) := by decide +kernel
theorem dX11_nameAt_28 : decode cX11_nameAt 28 = .ok (.laload, 1) := by decide +kernel
theorem dX11_nameAt_29 : decode cX11_nameAt 29 = .ok (.lcmp, 1) := by decide +kernel
theorem dX11_nameAt_30 : decode cX11_nameAt 30 = .ok (.ifCond .ne 8, 3) := by decide +kernel
theorem dX11_nameAt_33 : decode cX11_nameAt 33 = .ok (.iload 4, 2) := by decide +kernel
theorem dX11_nameAt_35 : decode cX11_nameAt 35 = .ok (.goto 4, 3) := by decide +kernel
theorem dX11_nameAt_38 : decode cX11_nameAt 38 = .ok (.iload_n 3, 1) := by decide +kernel
theorem dX11_nameAt_39 : decode cX11_nameAt 39 = .ok (.istore_n 3, 1) := by decide +kernel
theorem dX11_nameAt_40 : decode cX11_nameAt 40 = .ok (.iinc 4 1, 3) := by decide +kernel
theorem dX11_nameAt_43 : decode cX11_nameAt 43 = .ok (.goto (-38), 3) := by decide +kernel
theorem dX11_nameAt_46 : decode cX11_nameAt 46 = .ok (.iload_n 3, 1) := by decide +kernel
theorem dX11_nameAt_47 : decode cX11_nameAt 47 = .ok (.ireturn, 1) := by decide +kernel
theorem dX11_net_0 : decode cX11_net 0 = .ok (.aload_n 0, 1) := by decide +kernel
theorem dX11_net_1 : decode cX11_net 1 = .ok (.iconst 0, 1) := by decide +kernel
theorem dX11_net_2 : decode cX11_net 2 = .ok (.putfield 1, 3) := by decide +kernel
theorem dX11_net_5 : decode cX11_net 5 = .ok (.aload_n 0, 1) := by decide +kernel
theorem dX11_net_6 : decode cX11_net 6 = .ok (.invokevirtual 200, 3) := by decide +kernel
theorem dX11_net_9 : decode cX11_net 9 = .ok (.aload_n 0, 1) := by decide +kernel
theorem dX11_net_10 : decode cX11_net 10 = .ok (.iconst 0, 1) := by decide +kernel
theorem dX11_net_11 : decode cX11_net 11 = .ok (.putfield 203, 3) := by decide +kernel
theorem dX11_net_14 : decode cX11_net 14 = .ok (.aload_n 0, 1) := by decide +kernel
theorem dX11_net_15 : decode cX11_net 15 = .ok (.bipush 110, 2) := by decide +kernel
theorem dX11_net_17 : decode cX11_net 17 = .ok (.invokevirtual 135, 3) := by decide +kernel
theorem dX11_net_20 : decode cX11_net 20 = .ok (.aload_n 0, 1) := by decide +kernel
theorem dX11_net_21 : decode cX11_net 21 = .ok (.getfield 168, 3) := by decide +kernel
theorem dX11_net_24 : decode cX11_net 24 = .ok (.ifCond .ne 28, 3) := by decide +kernel
theorem dX11_net_27 : decode cX11_net 27 = .ok (.aload_n 0, 1) := by decide +kernel
theorem dX11_net_28 : decode cX11_net 28 = .ok (.getfield 24, 3) := by decide +kernel
theorem dX11_net_31 : decode cX11_net 31 = .ok (.aload_n 0, 1) := by decide +kernel
theorem dX11_net_32 : decode cX11_net 32 = .ok (.getfield 165, 3) := by decide +kernel
theorem dX11_net_35 : decode cX11_net 35 = .ok (.iaload, 1) := by decide +kernel
theorem dX11_net_36 : decode cX11_net 36 = .ok (.ifCond .eq 16, 3) := by decide +kernel
theorem dX11_net_39 : decode cX11_net 39 = .ok (.aload_n 0, 1) := by decide +kernel
theorem dX11_net_40 : decode cX11_net 40 = .ok (.invokevirtual 206, 3) := by decide +kernel
theorem dX11_net_43 : decode cX11_net 43 = .ok (.aload_n 0, 1) := by decide +kernel
theorem dX11_net_44 : decode cX11_net 44 = .ok (.bipush 59, 2) := by decide +kernel
theorem dX11_net_46 : decode cX11_net 46 = .ok (.invokevirtual 209, 3) := by decide +kernel
theorem dX11_net_49 : decode cX11_net 49 = .ok (.goto (-29), 3) := by decide +kernel
theorem dX11_net_52 : decode cX11_net 52 = .ok (.aload_n 0, 1) := by decide +kernel
theorem dX11_net_53 : decode cX11_net 53 = .ok (.getfield 168, 3) := by decide +kernel
theorem dX11_net_56 : decode cX11_net 56 = .ok (.ifCond .le 8, 3) := by decide +kernel
theorem dX11_net_59 : decode cX11_net 59 = .ok (.aload_n 0, 1) := by decide +kernel
theorem dX11_net_60 : decode cX11_net 60 = .ok (.getfield 168, 3) := by decide +kernel
theorem dX11_net_63 : decode cX11_net 63 = .ok (.ireturn, 1) := by decide +kernel
theorem dX11_net_64 : decode cX11_net 64 = .ok (.iconst 0, 1) := by decide +kernel
theorem dX11_net_65 : decode cX11_net 65 = .ok (.istore_n 1, 1) := by decide +kernel
theorem dX11_net_66 : decode cX11_net 66 = .ok (.iload_n 1, 1) := by decide +kernel
theorem dX11_net_67 : decode cX11_net 67 = .ok (.bipush 110, 2) := by decide +kernel
theorem dX11_net_69 : decode cX11_net 69 = .ok (.if_icmp .ge 24, 3) := by decide +kernel
theorem dX11_net_72 : decode cX11_net 72 = .ok (.aload_n 0, 1) := by decide +kernel
theorem dX11_net_73 : decode cX11_net 73 = .ok (.getfield 83, 3) := by decide +kernel
theorem dX11_net_76 : decode cX11_net 76 = .ok (.iload_n 1, 1) := by decide +kernel
theorem dX11_net_77 : decode cX11_net 77 = .ok (.aload_n 0, 1) := by decide +kernel
theorem dX11_net_78 : decode cX11_net 78 = .ok (.getfield 83, 3) := by decide +kernel
theorem dX11_net_81 : decode cX11_net 81 = .ok (.bipush 110, 2) := by decide +kernel
theorem dX11_net_83 : decode cX11_net 83 = .ok (.iload_n 1, 1) := by decide +kernel
theorem dX11_net_84 : decode cX11_net 84 = .ok (.iadd, 1) := by decide +kernel
theorem dX11_net_85 : decode cX11_net 85 = .ok (.iaload, 1) := by decide +kernel
theorem dX11_net_86 : decode cX11_net 86 = .ok (.iastore, 1) := by decide +kernel
theorem dX11_net_87 : decode cX11_net 87 = .ok (.iinc 1 1, 3) := by decide +kernel
theorem dX11_net_90 : decode cX11_net 90 = .ok (.goto (-24), 3) := by decide +kernel
theorem dX11_net_93 : decode cX11_net 93 = .ok (.iconst 0, 1) := by decide +kernel
theorem dX11_net_94 : decode cX11_net 94 = .ok (.istore_n 1, 1) := by decide +kernel
theorem dX11_net_95 : decode cX11_net 95 = .ok (.iload_n 1, 1) := by decide +kernel
theorem dX11_net_96 : decode cX11_net 96 = .ok (.aload_n 0, 1) := by decide +kernel
theorem dX11_net_97 : decode cX11_net 97 = .ok (.getfield 203, 3) := by decide +kernel
theorem dX11_net_100 : decode cX11_net 100 = .ok (.if_icmp .ge 25, 3) := by decide +kernel
theorem dX11_net_103 : decode cX11_net 103 = .ok (.aload_n 0, 1) := by decide +kernel
theorem dX11_net_104 : decode cX11_net 104 = .ok (.getfield 86, 3) := by decide +kernel
theorem dX11_net_107 : decode cX11_net 107 = .ok (.iload_n 1, 1) := by decide +kernel
theorem dX11_net_108 : decode cX11_net 108 = .ok (.aload_n 0, 1) := by decide +kernel
theorem dX11_net_109 : decode cX11_net 109 = .ok (.getfield 86, 3) := by decide +kernel
theorem dX11_net_112 : decode cX11_net 112 = .ok (.sipush 1100, 3) := by decide +kernel
theorem dX11_net_115 : decode cX11_net 115 = .ok (.iload_n 1, 1) := by decide +kernel
theorem dX11_net_116 : decode cX11_net 116 = .ok (.iadd, 1) := by decide +kernel
theorem dX11_net_117 : decode cX11_net 117 = .ok (.iaload, 1) := by decide +kernel
theorem dX11_net_118 : decode cX11_net 118 = .ok (.iastore, 1) := by decide +kernel
theorem dX11_net_119 : decode cX11_net 119 = .ok (.iinc 1 1, 3) := by decide +kernel
theorem dX11_net_122 : decode cX11_net 122 = .ok (.goto (-27), 3) := by decide +kernel
theorem dX11_net_125 : decode cX11_net 125 = .ok (.iconst 0, 1) := by decide +kernel
theorem dX11_net_126 : decode cX11_net 126 = .ok (.istore_n 1, 1) := by decide +kernel
theorem dX11_net_127 : decode cX11_net 127 = .ok (.iload_n 1, 1) := by decide +kernel
theorem dX11_net_128 : decode cX11_net 128 = .ok (.bipush 14, 2) := by decide +kernel
theorem dX11_net_130 : decode cX11_net 130 = .ok (.if_icmp .ge 24, 3) := by decide +kernel
theorem dX11_net_133 : decode cX11_net 133 = .ok (.aload_n 0, 1) := by decide +kernel
theorem dX11_net_134 : decode cX11_net 134 = .ok (.getfield 89, 3) := by decide +kernel
theorem dX11_net_137 : decode cX11_net 137 = .ok (.iload_n 1, 1) := by decide +kernel
theorem dX11_net_138 : decode cX11_net 138 = .ok (.aload_n 0, 1) := by decide +kernel
theorem dX11_net_139 : decode cX11_net 139 = .ok (.getfield 89, 3) := by decide +kernel
theorem dX11_net_142 : decode cX11_net 142 = .ok (.bipush 14, 2) := by decide +kernel
theorem dX11_net_144 : decode cX11_net 144 = .ok (.iload_n 1, 1) := by decide +kernel
theorem dX11_net_145 : decode cX11_net 145 = .ok (.iadd, 1) := by decide +kernel
theorem dX11_net_146 : decode cX11_net 146 = .ok (.laload, 1) := by decide +kernel
theorem dX11_net_147 : decode cX11_net 147 = .ok (.lastore, 1) := by decide +kernel
theorem dX11_net_148 : decode cX11_net 148 = .ok (.iinc 1 1, 3) := by decide +kernel
theorem dX11_net_151 : decode cX11_net 151 = .ok (.goto (-24), 3) := by decide +kernel
theorem dX11_net_154 : decode cX11_net 154 = .ok (.aload_n 0, 1) := by decide +kernel
theorem dX11_net_155 : decode cX11_net 155 = .ok (.invokevirtual 139, 3) := by decide +kernel
theorem dX11_net_158 : decode cX11_net 158 = .ok (.iconst 0, 1) := by decide +kernel
theorem dX11_net_159 : decode cX11_net 159 = .ok (.ireturn, 1) := by decide +kernel
theorem dX11_nextUnit_0 : decode cX11_nextUnit 0 = .ok (.aload_n 0, 1) := by decide +kernel
theorem dX11_nextUnit_1 : decode cX11_nextUnit 1 = .ok (.iload_n 2, 1) := by decide +kernel
theorem dX11_nextUnit_2 : decode cX11_nextUnit 2 = .ok (.invokevirtual 328, 3) := by decide +kernel
theorem dX11_nextUnit_5 : decode cX11_nextUnit 5 = .ok (.istore_n 3, 1) := by decide +kernel
theorem dX11_nextUnit_6 : decode cX11_nextUnit 6 = .ok (.iload_n 3, 1) := by decide +kernel
theorem dX11_nextUnit_7 : decode cX11_nextUnit 7 = .ok (.iconst 2, 1) := by decide +kernel
theorem dX11_nextUnit_8 : decode cX11_nextUnit 8 = .ok (.if_icmp .eq 7, 3) := by decide +kernel
theorem dX11_nextUnit_11 : decode cX11_nextUnit 11 = .ok (.iload_n 3, 1) := by decide +kernel
theorem dX11_nextUnit_12 : decode cX11_nextUnit 12 = .ok (.ifCond .ne 20, 3) := by decide +kernel
theorem dX11_nextUnit_15 : decode cX11_nextUnit 15 = .ok (.aload_n 0, 1) := by decide +kernel
theorem dX11_nextUnit_16 : decode cX11_nextUnit 16 = .ok (.iload_n 1, 1) := by decide +kernel
theorem dX11_nextUnit_17 : decode cX11_nextUnit 17 = .ok (.iload_n 2, 1) := by decide +kernel
theorem dX11_nextUnit_18 : decode cX11_nextUnit 18 = .ok (.iconst (-1), 1) := by decide +kernel
theorem dX11_nextUnit_19 : decode cX11_nextUnit 19 = .ok (.iload_n 3, 1) := by decide +kernel
theorem dX11_nextUnit_20 : decode cX11_nextUnit 20 = .ok (.ifCond .ne 7, 3) := by decide +kernel
theorem dX11_nextUnit_23 : decode cX11_nextUnit 23 = .ok (.iconst 1, 1) := by decide +kernel
theorem dX11_nextUnit_24 : decode cX11_nextUnit 24 = .ok (.goto 4, 3) := by decide +kernel
theorem dX11_nextUnit_27 : decode cX11_nextUnit 27 = .ok (.iconst 0, 1) := by decide +kernel
theorem dX11_nextUnit_28 : decode cX11_nextUnit 28 = .ok (.invokevirtual 391, 3) := by decide +kernel
theorem dX11_nextUnit_31 : decode cX11_nextUnit 31 = .ok (.ireturn, 1) := by decide +kernel
theorem dX11_nextUnit_32 : decode cX11_nextUnit 32 = .ok (.iload_n 3, 1) := by decide +kernel
theorem dX11_nextUnit_33 : decode cX11_nextUnit 33 = .ok (.iconst 3, 1) := by decide +kernel
theorem dX11_nextUnit_34 : decode cX11_nextUnit 34 = .ok (.if_icmp .ne 12, 3) := by decide +kernel
theorem dX11_nextUnit_37 : decode cX11_nextUnit 37 = .ok (.aload_n 0, 1) := by decide +kernel
theorem dX11_nextUnit_38 : decode cX11_nextUnit 38 = .ok (.getfield 395, 3) := by decide +kernel
theorem dX11_nextUnit_41 : decode cX11_nextUnit 41 = .ok (.iconst 1, 1) := by decide +kernel
theorem dX11_nextUnit_42 : decode cX11_nextUnit 42 = .ok (.iadd, 1) := by decide +kernel
theorem dX11_nextUnit_43 : decode cX11_nextUnit 43 = .ok (.goto 4, 3) := by decide +kernel
theorem dX11_nextUnit_46 : decode cX11_nextUnit 46 = .ok (.iconst 0, 1) := by decide +kernel
theorem dX11_nextUnit_47 : decode cX11_nextUnit 47 = .ok (.istore 4, 2) := by decide +kernel
theorem dX11_nextUnit_49 : decode cX11_nextUnit 49 = .ok (.iconst 0, 1) := by decide +kernel
theorem dX11_nextUnit_50 : decode cX11_nextUnit 50 = .ok (.istore 5, 2) := by decide +kernel
theorem dX11_nextUnit_52 : decode cX11_nextUnit 52 = .ok (.iload 5, 2) := by decide +kernel
theorem dX11_nextUnit_54 : decode cX11_nextUnit 54 = .ok (.aload_n 0, 1) := by decide +kernel
theorem dX11_nextUnit_55 : decode cX11_nextUnit 55 = .ok (.invokevirtual 245, 3) := by decide +kernel
theorem dX11_nextUnit_58 : decode cX11_nextUnit 58 = .ok (.if_icmp .ge 46, 3) := by decide +kernel
theorem dX11_nextUnit_61 : decode cX11_nextUnit 61 = .ok (.iload 4, 2) := by decide +kernel
theorem dX11_nextUnit_63 : decode cX11_nextUnit 63 = .ok (.iload 5, 2) := by decide +kernel
theorem dX11_nextUnit_65 : decode cX11_nextUnit 65 = .ok (.iadd, 1) := by decide +kernel
theorem dX11_nextUnit_66 : decode cX11_nextUnit 66 = .ok (.aload_n 0, 1) := by decide +kernel
theorem dX11_nextUnit_67 : decode cX11_nextUnit 67 = .ok (.invokevirtual 245, 3) := by decide +kernel
theorem dX11_nextUnit_70 : decode cX11_nextUnit 70 = .ok (.irem, 1) := by decide +kernel
theorem dX11_nextUnit_71 : decode cX11_nextUnit 71 = .ok (.istore 6, 2) := by decide +kernel
theorem dX11_nextUnit_73 : decode cX11_nextUnit 73 = .ok (.aload_n 0, 1) := by decide +kernel
theorem dX11_nextUnit_74 : decode cX11_nextUnit 74 = .ok (.iload_n 1, 1) := by decide +kernel
theorem dX11_nextUnit_75 : decode cX11_nextUnit 75 = .ok (.iload_n 2, 1) := by decide +kernel
theorem dX11_nextUnit_76 : decode cX11_nextUnit 76 = .ok (.iload 6, 2) := by decide +kernel
theorem dX11_nextUnit_78 : decode cX11_nextUnit 78 = .ok (.iconst 0, 1) := by decide +kernel
theorem dX11_nextUnit_79 : decode cX11_nextUnit 79 = .ok (.invokevirtual 391, 3) := by decide +kernel
theorem dX11_nextUnit_82 : decode cX11_nextUnit 82 = .ok (.istore 7, 2) := by decide +kernel
theorem dX11_nextUnit_84 : decode cX11_nextUnit 84 = .ok (.iload 7, 2) := by decide +kernel
theorem dX11_nextUnit_86 : decode cX11_nextUnit 86 = .ok (.ifCond .lt 12, 3) := by decide +kernel
theorem dX11_nextUnit_89 : decode cX11_nextUnit 89 = .ok (.aload_n 0, 1) := by decide +kernel
theorem dX11_nextUnit_90 : decode cX11_nextUnit 90 = .ok (.iload 6, 2) := by decide +kernel
theorem dX11_nextUnit_92 : decode cX11_nextUnit 92 = .ok (.putfield 395, 3) := by decide +kernel
theorem dX11_nextUnit_95 : decode cX11_nextUnit 95 = .ok (.iload 7, 2) := by decide +kernel
theorem dX11_nextUnit_97 : decode cX11_nextUnit 97 = .ok (.ireturn, 1) := by decide +kernel
theorem dX11_nextUnit_98 : decode cX11_nextUnit 98 = .ok (.iinc 5 1, 3) := by decide +kernel
theorem dX11_nextUnit_101 : decode cX11_nextUnit 101 = .ok (.goto (-49), 3) := by decide +kernel
theorem dX11_nextUnit_104 : decode cX11_nextUnit 104 = .ok (.iconst (-1), 1) := by decide +kernel
theorem dX11_nextUnit_105 : decode cX11_nextUnit 105 = .ok (.ireturn, 1) := by decide +kernel
theorem dX11_node_0 : decode cX11_node 0 = .ok (.aload_n 0, 1) := by decide +kernel
theorem dX11_node_1 : decode cX11_node 1 = .ok (.iconst 0, 1) := by decide +kernel
theorem dX11_node_2 : decode cX11_node 2 = .ok (.putfield 1, 3) := by decide +kernel
theorem dX11_node_5 : decode cX11_node 5 = .ok (.aload_n 0, 1) := by decide +kernel
theorem dX11_node_6 : decode cX11_node 6 = .ok (.iload_n 1, 1) := by decide +kernel
theorem dX11_node_7 : decode cX11_node 7 = .ok (.invokevirtual 363, 3) := by decide +kernel
theorem dX11_node_10 : decode cX11_node 10 = .ok (.ifCond .ne 5, 3) := by decide +kernel
theorem dX11_node_13 : decode cX11_node 13 = .ok (.iconst (-1), 1) := by decide +kernel
theorem dX11_node_14 : decode cX11_node 14 = .ok (.ireturn, 1) := by decide +kernel
theorem dX11_node_15 : decode cX11_node 15 = .ok (.iload_n 2, 1) := by decide +kernel
theorem dX11_node_16 : decode cX11_node 16 = .ok (.tableswitch 79 0 4 #[36, 42, 56, 62, 69], 36) := by decide +kernel
theorem dX11_node_52 : decode cX11_node 52 = .ok (.aload_n 0, 1) := by decide +kernel
theorem dX11_node_53 : decode cX11_node 53 = .ok (.iload_n 1, 1) := by decide +kernel
theorem dX11_node_54 : decode cX11_node 54 = .ok (.invokevirtual 328, 3) := by decide +kernel
theorem dX11_node_57 : decode cX11_node 57 = .ok (.ireturn, 1) := by decide +kernel
theorem dX11_node_58 : decode cX11_node 58 = .ok (.aload_n 0, 1) := by decide +kernel
theorem dX11_node_59 : decode cX11_node 59 = .ok (.getfield 83, 3) := by decide +kernel
theorem dX11_node_62 : decode cX11_node 62 = .ok (.bipush 70, 2) := by decide +kernel
theorem dX11_node_64 : decode cX11_node 64 = .ok (.iconst 2, 1) := by decide +kernel
theorem dX11_node_65 : decode cX11_node 65 = .ok (.iload_n 1, 1) := by decide +kernel
theorem dX11_node_66 : decode cX11_node 66 = .ok (.imul, 1) := by decide +kernel
theorem dX11_node_67 : decode cX11_node 67 = .ok (.iadd, 1) := by decide +kernel
theorem dX11_node_68 : decode cX11_node 68 = .ok (.iconst 1, 1) := by decide +kernel
theorem dX11_node_69 : decode cX11_node 69 = .ok (.iadd, 1) := by decide +kernel
theorem dX11_node_70 : decode cX11_node 70 = .ok (.iaload, 1) := by decide +kernel
theorem dX11_node_71 : decode cX11_node 71 = .ok (.ireturn, 1) := by decide +kernel
theorem dX11_node_72 : decode cX11_node 72 = .ok (.aload_n 0, 1) := by decide +kernel
theorem dX11_node_73 : decode cX11_node 73 = .ok (.iload_n 1, 1) := by decide +kernel
theorem dX11_node_74 : decode cX11_node 74 = .ok (.invokevirtual 325, 3) := by decide +kernel
theorem dX11_node_77 : decode cX11_node 77 = .ok (.ireturn, 1) := by decide +kernel
theorem dX11_node_78 : decode cX11_node 78 = .ok (.aload_n 0, 1) := by decide +kernel
theorem dX11_node_79 : decode cX11_node 79 = .ok (.iconst 0, 1) := by decide +kernel
theorem dX11_node_80 : decode cX11_node 80 = .ok (.iload_n 1, 1) := by decide +kernel
theorem dX11_node_81 : decode cX11_node 81 = .ok (.invokevirtual 375, 3) := by decide +kernel
theorem dX11_node_84 : decode cX11_node 84 = .ok (.ireturn, 1) := by decide +kernel
theorem dX11_node_85 : decode cX11_node 85 = .ok (.aload_n 0, 1) := by decide +kernel
theorem dX11_node_86 : decode cX11_node 86 = .ok (.getfield 101, 3) := by decide +kernel
theorem dX11_node_89 : decode cX11_node 89 = .ok (.bipush 122, 2) := by decide +kernel
theorem dX11_node_91 : decode cX11_node 91 = .ok (.iload_n 1, 1) := by decide +kernel
theorem dX11_node_92 : decode cX11_node 92 = .ok (.iadd, 1) := by decide +kernel
theorem dX11_node_93 : decode cX11_node 93 = .ok (.iaload, 1) := by decide +kernel
theorem dX11_node_94 : decode cX11_node 94 = .ok (.ireturn, 1) := by decide +kernel
theorem dX11_node_95 : decode cX11_node 95 = .ok (.iconst (-1), 1) := by decide +kernel
theorem dX11_node_96 : decode cX11_node 96 = .ok (.ireturn, 1) := by decide +kernel
theorem dX11_nodeAt_0 : decode cX11_nodeAt 0 = .ok (.aload_n 0, 1) := by decide +kernel
theorem dX11_nodeAt_1 : decode cX11_nodeAt 1 = .ok (.aload_n 0, 1) := by decide +kernel
theorem dX11_nodeAt_2 : decode cX11_nodeAt 2 = .ok (.getfield 101, 3) := by decide +kernel
theorem dX11_nodeAt_5 : decode cX11_nodeAt 5 = .ok (.iload_n 1, 1) := by decide +kernel
theorem dX11_nodeAt_6 : decode cX11_nodeAt 6 = .ok (.iload_n 2, 1) := by decide +kernel
theorem dX11_nodeAt_7 : decode cX11_nodeAt 7 = .ok (.invokestatic 369, 3) := by decide +kernel
theorem dX11_nodeAt_10 : decode cX11_nodeAt 10 = .ok (.iaload, 1) := by decide +kernel
theorem dX11_nodeAt_11 : decode cX11_nodeAt 11 = .ok (.aload_n 0, 1) := by decide +kernel
theorem dX11_nodeAt_12 : decode cX11_nodeAt 12 = .ok (.getfield 101, 3) := by decide +kernel
theorem dX11_nodeAt_15 : decode cX11_nodeAt 15 = .ok (.iload_n 1, 1) := by decide +kernel
theorem dX11_nodeAt_16 : decode cX11_nodeAt 16 = .ok (.iload_n 2, 1) := by decide +kernel
theorem dX11_nodeAt_17 : decode cX11_nodeAt 17 = .ok (.invokestatic 369, 3) := by decide +kernel
theorem dX11_nodeAt_20 : decode cX11_nodeAt 20 = .ok (.iconst 1, 1) := by decide +kernel
theorem dX11_nodeAt_21 : decode cX11_nodeAt 21 = .ok (.iadd, 1) := by decide +kernel
theorem dX11_nodeAt_22 : decode cX11_nodeAt 22 = .ok (.iaload, 1) := by decide +kernel
theorem dX11_nodeAt_23 : decode cX11_nodeAt 23 = .ok (.invokevirtual 288, 3) := by decide +kernel
theorem dX11_nodeAt_26 : decode cX11_nodeAt 26 = .ok (.ireturn, 1) := by decide +kernel
theorem dX11_nodeOf_0 : decode cX11_nodeOf 0 = .ok (.aload_n 0, 1) := by decide +kernel
theorem dX11_nodeOf_1 : decode cX11_nodeOf 1 = .ok (.getfield 83, 3) := by decide +kernel
theorem dX11_nodeOf_4 : decode cX11_nodeOf 4 = .ok (.bipush 78, 2) := by decide +kernel
theorem dX11_nodeOf_6 : decode cX11_nodeOf 6 = .ok (.bipush 6, 2) := by decide +kernel
theorem dX11_nodeOf_8 : decode cX11_nodeOf 8 = .ok (.iload_n 1, 1) := by decide +kernel
theorem dX11_nodeOf_9 : decode cX11_nodeOf 9 = .ok (.imul, 1) := by decide +kernel
theorem dX11_nodeOf_10 : decode cX11_nodeOf 10 = .ok (.iadd, 1) := by decide +kernel
theorem dX11_nodeOf_11 : decode cX11_nodeOf 11 = .ok (.iconst 2, 1) := by decide +kernel
theorem dX11_nodeOf_12 : decode cX11_nodeOf 12 = .ok (.iadd, 1) := by decide +kernel
theorem dX11_nodeOf_13 : decode cX11_nodeOf 13 = .ok (.iload_n 2, 1) := by decide +kernel
theorem dX11_nodeOf_14 : decode cX11_nodeOf 14 = .ok (.iadd, 1) := by decide +kernel
theorem dX11_nodeOf_15 : decode cX11_nodeOf 15 = .ok (.iaload, 1) := by decide +kernel
theorem dX11_nodeOf_16 : decode cX11_nodeOf 16 = .ok (.ireturn, 1) := by decide +kernel
theorem dX11_nodes_0 : decode cX11_nodes 0 = .ok (.aload_n 0, 1) := by decide +kernel
theorem dX11_nodes_1 : decode cX11_nodes 1 = .ok (.getfield 83, 3) := by decide +kernel
theorem dX11_nodes_4 : decode cX11_nodes 4 = .ok (.iconst 1, 1) := by decide +kernel
theorem dX11_nodes_5 : decode cX11_nodes 5 = .ok (.iaload, 1) := by decide +kernel
theorem dX11_nodes_6 : decode cX11_nodes 6 = .ok (.ireturn, 1) := by decide +kernel
theorem dX11_oldest_0 : decode cX11_oldest 0 = .ok (.aload_n 0, 1) := by decide +kernel
theorem dX11_oldest_1 : decode cX11_oldest 1 = .ok (.iconst 0, 1) := by decide +kernel
theorem dX11_oldest_2 : decode cX11_oldest 2 = .ok (.putfield 1, 3) := by decide +kernel
theorem dX11_oldest_5 : decode cX11_oldest 5 = .ok (.iconst (-1), 1) := by decide +kernel
theorem dX11_oldest_6 : decode cX11_oldest 6 = .ok (.istore_n 2, 1) := by decide +kernel
theorem dX11_oldest_7 : decode cX11_oldest 7 = .ok (.iconst 0, 1) := by decide +kernel
theorem dX11_oldest_8 : decode cX11_oldest 8 = .ok (.istore_n 3, 1) := by decide +kernel
theorem dX11_oldest_9 : decode cX11_oldest 9 = .ok (.iload_n 3, 1) := by decide +kernel
theorem dX11_oldest_10 : decode cX11_oldest 10 = .ok (.aload_n 0, 1) := by decide +kernel
theorem dX11_oldest_11 : decode cX11_oldest 11 = .ok (.getfield 101, 3) := by decide +kernel
theorem dX11_oldest_14 : decode cX11_oldest 14 = .ok (.iconst 1, 1) := by decide +kernel
theorem dX11_oldest_15 : decode cX11_oldest 15 = .ok (.iaload, 1) := by decide +kernel
theorem dX11_oldest_16 : decode cX11_oldest 16 = .ok (.if_icmp .ge 58, 3) := by decide +kernel
theorem dX11_oldest_19 : decode cX11_oldest 19 = .ok (.iconst 0, 1) := by decide +kernel
theorem dX11_oldest_20 : decode cX11_oldest 20 = .ok (.iload_n 3, 1) := by decide +kernel
theorem dX11_oldest_21 : decode cX11_oldest 21 = .ok (.invokestatic 369, 3) := by decide +kernel
theorem dX11_oldest_24 : decode cX11_oldest 24 = .ok (.istore 4, 2) := by decide +kernel
theorem dX11_oldest_26 : decode cX11_oldest 26 = .ok (.aload_n 0, 1) := by decide +kernel
theorem dX11_oldest_27 : decode cX11_oldest 27 = .ok (.getfield 101, 3) := by decide +kernel
theorem dX11_oldest_30 : decode cX11_oldest 30 = .ok (.iload 4, 2) := by decide +kernel
theorem dX11_oldest_32 : decode cX11_oldest 32 = .ok (.iaload, 1) := by decide +kernel
theorem dX11_oldest_33 : decode cX11_oldest 33 = .ok (.iload_n 1, 1) := by decide +kernel
theorem dX11_oldest_34 : decode cX11_oldest 34 = .ok (.if_icmp .ne 32, 3) := by decide +kernel
theorem dX11_oldest_37 : decode cX11_oldest 37 = .ok (.iload_n 2, 1) := by decide +kernel
theorem dX11_oldest_38 : decode cX11_oldest 38 = .ok (.ifCond .lt 16, 3) := by decide +kernel
theorem dX11_oldest_41 : decode cX11_oldest 41 = .ok (.aload_n 0, 1) := by decide +kernel
theorem dX11_oldest_42 : decode cX11_oldest 42 = .ok (.getfield 101, 3) := by decide +kernel
theorem dX11_oldest_45 : decode cX11_oldest 45 = .ok (.iload 4, 2) := by decide +kernel
theorem dX11_oldest_47 : decode cX11_oldest 47 = .ok (.iconst 2, 1) := by decide +kernel
theorem dX11_oldest_48 : decode cX11_oldest 48 = .ok (.iadd, 1) := by decide +kernel
theorem dX11_oldest_49 : decode cX11_oldest 49 = .ok (.iaload, 1) := by decide +kernel
theorem dX11_oldest_50 : decode cX11_oldest 50 = .ok (.iload_n 2, 1) := by decide +kernel
theorem dX11_oldest_51 : decode cX11_oldest 51 = .ok (.if_icmp .ge 15, 3) := by decide +kernel
theorem dX11_oldest_54 : decode cX11_oldest 54 = .ok (.aload_n 0, 1) := by decide +kernel
theorem dX11_oldest_55 : decode cX11_oldest 55 = .ok (.getfield 101, 3) := by decide +kernel
theorem dX11_oldest_58 : decode cX11_oldest 58 = .ok (.iload 4, 2) := by decide +kernel
theorem dX11_oldest_60 : decode cX11_oldest 60 = .ok (.iconst 2, 1) := by decide +kernel
theorem dX11_oldest_61 : decode cX11_oldest 61 = .ok (.iadd, 1) := by decide +kernel
theorem dX11_oldest_62 : decode cX11_oldest 62 = .ok (.iaload, 1) := by decide +kernel
theorem dX11_oldest_63 : decode cX11_oldest 63 = .ok (.goto 4, 3) := by decide +kernel
theorem dX11_oldest_66 : decode cX11_oldest 66 = .ok (.iload_n 2, 1) := by decide +kernel
theorem dX11_oldest_67 : decode cX11_oldest 67 = .ok (.istore_n 2, 1) := by decide +kernel
theorem dX11_oldest_68 : decode cX11_oldest 68 = .ok (.iinc 3 1, 3) := by decide +kernel
theorem dX11_oldest_71 : decode cX11_oldest 71 = .ok (.goto (-62), 3) := by decide +kernel
theorem dX11_oldest_74 : decode cX11_oldest 74 = .ok (.iload_n 2, 1) := by decide +kernel
theorem dX11_oldest_75 : decode cX11_oldest 75 = .ok (.ireturn, 1) := by decide +kernel
theorem dX11_once_0 : decode cX11_once 0 = .ok (.aload_n 0, 1) := by decide +kernel
theorem dX11_once_1 : decode cX11_once 1 = .ok (.iconst 0, 1) := by decide +kernel
theorem dX11_once_2 : decode cX11_once 2 = .ok (.putfield 1, 3) := by decide +kernel
theorem dX11_once_5 : decode cX11_once 5 = .ok (.aload_n 0, 1) := by decide +kernel
theorem dX11_once_6 : decode cX11_once 6 = .ok (.iload_n 1, 1) := by decide +kernel
theorem dX11_once_7 : decode cX11_once 7 = .ok (.invokevirtual 282, 3) := by decide +kernel
theorem dX11_once_10 : decode cX11_once 10 = .ok (.ifCond .eq 18, 3) := by decide +kernel
theorem dX11_once_13 : decode cX11_once 13 = .ok (.aload_n 0, 1) := by decide +kernel
theorem dX11_once_14 : decode cX11_once 14 = .ok (.invokevirtual 349, 3) := by decide +kernel
theorem dX11_once_17 : decode cX11_once 17 = .ok (.ifCond .le 11, 3) := by decide +kernel
theorem dX11_once_20 : decode cX11_once 20 = .ok (.aload_n 0, 1) := by decide +kernel
theorem dX11_once_21 : decode cX11_once 21 = .ok (.iload_n 1, 1) := by decide +kernel
theorem dX11_once_22 : decode cX11_once 22 = .ok (.invokevirtual 360, 3) := by decide +kernel
theorem dX11_once_25 : decode cX11_once 25 = .ok (.goto 4, 3) := by decide +kernel
theorem dX11_once_28 : decode cX11_once 28 = .ok (.iconst (-1), 1) := by decide +kernel
theorem dX11_once_29 : decode cX11_once 29 = .ok (.ireturn, 1) := by decide +kernel
theorem dX11_onceOf_0 : decode cX11_onceOf 0 = .ok (.iconst 0, 1) := by decide +kernel
theorem dX11_onceOf_1 : decode cX11_onceOf 1 = .ok (.istore_n 2, 1) := by decide +kernel
theorem dX11_onceOf_2 : decode cX11_onceOf 2 = .ok (.iconst 0, 1) := by decide +kernel
theorem dX11_onceOf_3 : decode cX11_onceOf 3 = .ok (.istore_n 3, 1) := by decide +kernel
theorem dX11_onceOf_4 : decode cX11_onceOf 4 = .ok (.iconst 0, 1) := by decide +kernel
theorem dX11_onceOf_5 : decode cX11_onceOf 5 = .ok (.istore 4, 2) := by decide +kernel
theorem dX11_onceOf_7 : decode cX11_onceOf 7 = .ok (.iload 4, 2) := by decide +kernel
theorem dX11_onceOf_9 : decode cX11_onceOf 9 = .ok (.aload_n 0, 1) := by decide +kernel
theorem dX11_onceOf_10 : decode cX11_onceOf 10 = .ok (.iload_n 1, 1) := by decide +kernel
theorem dX11_onceOf_11 : decode cX11_onceOf 11 = .ok (.invokevirtual 285, 3) := by decide +kernel
theorem dX11_onceOf_14 : decode cX11_onceOf 14 = .ok (.if_icmp .ge 60, 3) := by decide +kernel
theorem dX11_onceOf_17 : decode cX11_onceOf 17 = .ok (.aload_n 0, 1) := by decide +kernel
theorem dX11_onceOf_18 : decode cX11_onceOf 18 = .ok (.aload_n 0, 1) := by decide +kernel
theorem dX11_onceOf_19 : decode cX11_onceOf 19 = .ok (.iload_n 1, 1) := by decide +kernel
theorem dX11_onceOf_20 : decode cX11_onceOf 20 = .ok (.iload 4, 2) := by decide +kernel
theorem dX11_onceOf_22 : decode cX11_onceOf 22 = .ok (.invokevirtual 288, 3) := by decide +kernel
theorem dX11_onceOf_25 : decode cX11_onceOf 25 = .ok (.invokevirtual 328, 3) := by decide +kernel
theorem dX11_onceOf_28 : decode cX11_onceOf 28 = .ok (.iconst 2, 1) := by decide +kernel
theorem dX11_onceOf_29 : decode cX11_onceOf 29 = .ok (.if_icmp .ne 20, 3) := by decide +kernel
theorem dX11_onceOf_32 : decode cX11_onceOf 32 = .ok (.iload_n 2, 1) := by decide +kernel
theorem dX11_onceOf_33 : decode cX11_onceOf 33 = .ok (.aload_n 0, 1) := by decide +kernel
theorem dX11_onceOf_34 : decode cX11_onceOf 34 = .ok (.getfield 120, 3) := by decide +kernel
theorem dX11_onceOf_37 : decode cX11_onceOf 37 = .ok (.iconst 4, 1) := by decide +kernel
theorem dX11_onceOf_38 : decode cX11_onceOf 38 = .ok (.iload_n 1, 1) := by decide +kernel
theorem dX11_onceOf_39 : decode cX11_onceOf 39 = .ok (.imul, 1) := by decide +kernel
theorem dX11_onceOf_40 : decode cX11_onceOf 40 = .ok (.iload 4, 2) := by decide +kernel
theorem dX11_onceOf_42 : decode cX11_onceOf 42 = .ok (.iadd, 1) := by decide +kernel
theorem dX11_onceOf_43 : decode cX11_onceOf 43 = .ok (.iaload, 1) := by decide +kernel
theorem dX11_onceOf_44 : decode cX11_onceOf 44 = .ok (.iadd, 1) := by decide +kernel
theorem dX11_onceOf_45 : decode cX11_onceOf 45 = .ok (.istore_n 2, 1) := by decide +kernel
theorem dX11_onceOf_46 : decode cX11_onceOf 46 = .ok (.goto 22, 3) := by decide +kernel
theorem dX11_onceOf_49 : decode cX11_onceOf 49 = .ok (.aload_n 0, 1) := by decide +kernel
theorem dX11_onceOf_50 : decode cX11_onceOf 50 = .ok (.iload_n 1, 1) := by decide +kernel
theorem dX11_onceOf_51 : decode cX11_onceOf 51 = .ok (.aload_n 0, 1) := by decide +kernel
theorem dX11_onceOf_52 : decode cX11_onceOf 52 = .ok (.iload_n 1, 1) := by decide +kernel
theorem dX11_onceOf_53 : decode cX11_onceOf 53 = .ok (.iload 4, 2) := by decide +kernel
theorem dX11_onceOf_55 : decode cX11_onceOf 55 = .ok (.invokevirtual 288, 3) := by decide +kernel
theorem dX11_onceOf_58 : decode cX11_onceOf 58 = .ok (.invokevirtual 343, 3) := by decide +kernel
theorem dX11_onceOf_61 : decode cX11_onceOf 61 = .ok (.aload_n 0, 1) := by decide +kernel
theorem dX11_onceOf_62 : decode cX11_onceOf 62 = .ok (.iload_n 3, 1) := by decide +kernel
theorem dX11_onceOf_63 : decode cX11_onceOf 63 = .ok (.invokevirtual 356, 3) := by decide +kernel
theorem dX11_onceOf_66 : decode cX11_onceOf 66 = .ok (.iconst 1, 1) := by decide +kernel
theorem dX11_onceOf_67 : decode cX11_onceOf 67 = .ok (.istore_n 3, 1) := by decide +kernel
theorem dX11_onceOf_68 : decode cX11_onceOf 68 = .ok (.iinc 4 1, 3) := by decide +kernel
theorem dX11_onceOf_71 : decode cX11_onceOf 71 = .ok (.goto (-64), 3) := by decide +kernel
theorem dX11_onceOf_74 : decode cX11_onceOf 74 = .ok (.iload_n 3, 1) := by decide +kernel
theorem dX11_onceOf_75 : decode cX11_onceOf 75 = .ok (.ifCond .ne 5, 3) := by decide +kernel
theorem dX11_onceOf_78 : decode cX11_onceOf 78 = .ok (.iload_n 2, 1) := by decide +kernel
theorem dX11_onceOf_79 : decode cX11_onceOf 79 = .ok (.ireturn, 1) := by decide +kernel
theorem dX11_onceOf_80 : decode cX11_onceOf 80 = .ok (.iconst 0, 1) := by decide +kernel
theorem dX11_onceOf_81 : decode cX11_onceOf 81 = .ok (.istore 4, 2) := by decide +kernel
theorem dX11_onceOf_83 : decode cX11_onceOf 83 = .ok (.iload 4, 2) := by decide +kernel
theorem dX11_onceOf_85 : decode cX11_onceOf 85 = .ok (.bipush 120, 2) := by decide +kernel
theorem dX11_onceOf_87 : decode cX11_onceOf 87 = .ok (.if_icmp .gt 41, 3) := by decide +kernel
theorem dX11_onceOf_90 : decode cX11_onceOf 90 = .ok (.aload_n 0, 1) := by decide +kernel
theorem dX11_onceOf_91 : decode cX11_onceOf 91 = .ok (.getfield 111, 3) := by decide +kernel
theorem dX11_onceOf_94 : decode cX11_onceOf 94 = .ok (.iload 4, 2) := by decide +kernel
theorem dX11_onceOf_96 : decode cX11_onceOf 96 = .ok (.aload_n 0, 1) := by decide +kernel
theorem dX11_onceOf_97 : decode cX11_onceOf 97 = .ok (.aload_n 0, 1) := by decide +kernel
theorem dX11_onceOf_98 : decode cX11_onceOf 98 = .ok (.iload_n 1, 1) := by decide +kernel
theorem dX11_onceOf_99 : decode cX11_onceOf 99 = .ok (.invokevirtual 316, 3) := by decide +kernel
theorem dX11_onceOf_102 : decode cX11_onceOf 102 = .ok (.iload 4, 2) := by decide +kernel
theorem dX11_onceOf_104 : decode cX11_onceOf 104 = .ok (.invokevirtual 294, 3) := by decide +kernel
theorem dX11_onceOf_107 : decode cX11_onceOf 107 = .ok (.iastore, 1) := by decide +kernel
theorem dX11_onceOf_108 : decode cX11_onceOf 108 = .ok (.aload_n 0, 1) := by decide +kernel
theorem dX11_onceOf_109 : decode cX11_onceOf 109 = .ok (.getfield 114, 3) := by decide +kernel
theorem dX11_onceOf_112 : decode cX11_onceOf 112 = .ok (.iload 4, 2) := by decide +kernel
theorem dX11_onceOf_114 : decode cX11_onceOf 114 = .ok (.aload_n 0, 1) := by decide +kernel
theorem dX11_onceOf_115 : decode cX11_onceOf 115 = .ok (.getfield 117, 3) := by decide +kernel
theorem dX11_onceOf_118 : decode cX11_onceOf 118 = .ok (.iload 4, 2) := by decide +kernel
theorem dX11_onceOf_120 : decode cX11_onceOf 120 = .ok (.iaload, 1) := by decide +kernel
theorem dX11_onceOf_121 : decode cX11_onceOf 121 = .ok (.iastore, 1) := by decide +kernel
theorem dX11_onceOf_122 : decode cX11_onceOf 122 = .ok (.iinc 4 1, 3) := by decide +kernel
theorem dX11_onceOf_125 : decode cX11_onceOf 125 = .ok (.goto (-42), 3) := by decide +kernel
theorem dX11_onceOf_128 : decode cX11_onceOf 128 = .ok (.aload_n 0, 1) := by decide +kernel
theorem dX11_onceOf_129 : decode cX11_onceOf 129 = .ok (.invokevirtual 310, 3) := by decide +kernel
theorem dX11_onceOf_132 : decode cX11_onceOf 132 = .ok (.istore 4, 2) := by decide +kernel
theorem dX11_onceOf_134 : decode cX11_onceOf 134 = .ok (.iload 4, 2) := by decide +kernel
theorem dX11_onceOf_136 : decode cX11_onceOf 136 = .ok (.ifCond .ge 7, 3) := by decide +kernel
theorem dX11_onceOf_139 : decode cX11_onceOf 139 = .ok (.iconst (-1), 1) := by decide +kernel
theorem dX11_onceOf_140 : decode cX11_onceOf 140 = .ok (.goto 7, 3) := by decide +kernel
theorem dX11_onceOf_143 : decode cX11_onceOf 143 = .ok (.iload 4, 2) := by decide +kernel
theorem dX11_onceOf_145 : decode cX11_onceOf 145 = .ok (.iload_n 2, 1) := by decide +kernel
theorem dX11_onceOf_146 : decode cX11_onceOf 146 = .ok (.iadd, 1) := by decide +kernel
theorem dX11_onceOf_147 : decode cX11_onceOf 147 = .ok (.ireturn, 1) := by decide +kernel
theorem dX11_products_0 : decode cX11_products 0 = .ok (.aload_n 0, 1) := by decide +kernel
theorem dX11_products_1 : decode cX11_products 1 = .ok (.iload_n 1, 1) := by decide +kernel
theorem dX11_products_2 : decode cX11_products 2 = .ok (.invokevirtual 261, 3) := by decide +kernel
theorem dX11_products_5 : decode cX11_products 5 = .ok (.aload_n 0, 1) := by decide +kernel
theorem dX11_products_6 : decode cX11_products 6 = .ok (.bipush 42, 2) := by decide +kernel
theorem dX11_products_8 : decode cX11_products 8 = .ok (.invokevirtual 255, 3) := by decide +kernel
theorem dX11_products_11 : decode cX11_products 11 = .ok (.ifCond .eq 18, 3) := by decide +kernel
theorem dX11_products_14 : decode cX11_products 14 = .ok (.aload_n 0, 1) := by decide +kernel
theorem dX11_products_15 : decode cX11_products 15 = .ok (.iload_n 1, 1) := by decide +kernel
theorem dX11_products_16 : decode cX11_products 16 = .ok (.invokevirtual 261, 3) := by decide +kernel
theorem dX11_products_19 : decode cX11_products 19 = .ok (.aload_n 0, 1) := by decide +kernel
theorem dX11_products_20 : decode cX11_products 20 = .ok (.bipush 6, 2) := by decide +kernel
theorem dX11_products_22 : decode cX11_products 22 = .ok (.iconst 0, 1) := by decide +kernel
theorem dX11_products_23 : decode cX11_products 23 = .ok (.invokevirtual 227, 3) := by decide +kernel
theorem dX11_products_26 : decode cX11_products 26 = .ok (.goto (-21), 3) := by decide +kernel
theorem dX11_products_29 : decode cX11_products 29 = .ok (.return_, 1) := by decide +kernel
theorem dX11_put_0 : decode cX11_put 0 = .ok (.aload_n 0, 1) := by decide +kernel
theorem dX11_put_1 : decode cX11_put 1 = .ok (.iconst 0, 1) := by decide +kernel
theorem dX11_put_2 : decode cX11_put 2 = .ok (.putfield 1, 3) := by decide +kernel
theorem dX11_put_5 : decode cX11_put 5 = .ok (.aload_n 0, 1) := by decide +kernel
theorem dX11_put_6 : decode cX11_put 6 = .ok (.iload_n 1, 1) := by decide +kernel
theorem dX11_put_7 : decode cX11_put 7 = .ok (.invokevirtual 282, 3) := by decide +kernel
theorem dX11_put_10 : decode cX11_put 10 = .ok (.ifCond .eq 32, 3) := by decide +kernel
theorem dX11_put_13 : decode cX11_put 13 = .ok (.iload_n 2, 1) := by decide +kernel
theorem dX11_put_14 : decode cX11_put 14 = .ok (.iconst 1, 1) := by decide +kernel
theorem dX11_put_15 : decode cX11_put 15 = .ok (.bipush 9, 2) := by decide +kernel
theorem dX11_put_17 : decode cX11_put 17 = .ok (.invokestatic 300, 3) := by decide +kernel
theorem dX11_put_20 : decode cX11_put 20 = .ok (.ifCond .eq 22, 3) := by decide +kernel
theorem dX11_put_23 : decode cX11_put 23 = .ok (.aload_n 0, 1) := by decide +kernel
theorem dX11_put_24 : decode cX11_put 24 = .ok (.iconst 0, 1) := by decide +kernel
theorem dX11_put_25 : decode cX11_put 25 = .ok (.iload_n 2, 1) := by decide +kernel
theorem dX11_put_26 : decode cX11_put 26 = .ok (.invokevirtual 385, 3) := by decide +kernel
theorem dX11_put_29 : decode cX11_put 29 = .ok (.ifCond .eq 13, 3) := by decide +kernel
theorem dX11_put_32 : decode cX11_put 32 = .ok (.aload_n 0, 1) := by decide +kernel
theorem dX11_put_33 : decode cX11_put 33 = .ok (.iconst 0, 1) := by decide +kernel
theorem dX11_put_34 : decode cX11_put 34 = .ok (.iload_n 1, 1) := by decide +kernel
theorem dX11_put_35 : decode cX11_put 35 = .ok (.iload_n 2, 1) := by decide +kernel
