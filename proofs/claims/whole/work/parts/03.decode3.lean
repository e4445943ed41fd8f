theorem dX7_worth_11 : decode cX7_worth 11 = .ok (.ifCond .lt 8, 3) := by decide +kernel
theorem dX7_worth_14 : decode cX7_worth 14 = .ok (.iload_n 2, 1) := by decide +kernel
theorem dX7_worth_15 : decode cX7_worth 15 = .ok (.iconst 4, 1) := by decide +kernel
theorem dX7_worth_16 : decode cX7_worth 16 = .ok (.if_icmp .lt 7, 3) := by decide +kernel
theorem dX7_worth_19 : decode cX7_worth 19 = .ok (.sipush (-10000), 3) := by decide +kernel
theorem dX7_worth_22 : decode cX7_worth 22 = .ok (.ireturn, 1) := by decide +kernel
theorem dX7_worth_23 : decode cX7_worth 23 = .ok (.iload_n 3, 1) := by decide +kernel
theorem dX7_worth_24 : decode cX7_worth 24 = .ok (.sipush (-1000), 3) := by decide +kernel
theorem dX7_worth_27 : decode cX7_worth 27 = .ok (.if_icmp .lt 10, 3) := by decide +kernel
theorem dX7_worth_30 : decode cX7_worth 30 = .ok (.iload_n 3, 1) := by decide +kernel
theorem dX7_worth_31 : decode cX7_worth 31 = .ok (.sipush 1000, 3) := by decide +kernel
theorem dX7_worth_34 : decode cX7_worth 34 = .ok (.if_icmp .le 7, 3) := by decide +kernel
theorem dX7_worth_37 : decode cX7_worth 37 = .ok (.sipush (-10000), 3) := by decide +kernel
theorem dX7_worth_40 : decode cX7_worth 40 = .ok (.ireturn, 1) := by decide +kernel
theorem dX7_worth_41 : decode cX7_worth 41 = .ok (.aload_n 0, 1) := by decide +kernel
theorem dX7_worth_42 : decode cX7_worth 42 = .ok (.getfield 51, 3) := by decide +kernel
theorem dX7_worth_45 : decode cX7_worth 45 = .ok (.iload_n 1, 1) := by decide +kernel
theorem dX7_worth_46 : decode cX7_worth 46 = .ok (.iload_n 2, 1) := by decide +kernel
theorem dX7_worth_47 : decode cX7_worth 47 = .ok (.iload_n 3, 1) := by decide +kernel
theorem dX7_worth_48 : decode cX7_worth 48 = .ok (.invokevirtual 268, 3) := by decide +kernel
theorem dX7_worth_51 : decode cX7_worth 51 = .ok (.ireturn, 1) := by decide +kernel
theorem dX7_buy_0 : decode cX7_buy 0 = .ok (.iload_n 1, 1) := by decide +kernel
theorem dX7_buy_1 : decode cX7_buy 1 = .ok (.iconst 1, 1) := by decide +kernel
theorem dX7_buy_2 : decode cX7_buy 2 = .ok (.if_icmp .lt 29, 3) := by decide +kernel
theorem dX7_buy_5 : decode cX7_buy 5 = .ok (.iload_n 1, 1) := by decide +kernel
theorem dX7_buy_6 : decode cX7_buy 6 = .ok (.bipush 6, 2) := by decide +kernel
theorem dX7_buy_8 : decode cX7_buy 8 = .ok (.if_icmp .gt 23, 3) := by decide +kernel
theorem dX7_buy_11 : decode cX7_buy 11 = .ok (.iload_n 2, 1) := by decide +kernel
theorem dX7_buy_12 : decode cX7_buy 12 = .ok (.iconst 1, 1) := by decide +kernel
theorem dX7_buy_13 : decode cX7_buy 13 = .ok (.if_icmp .lt 18, 3) := by decide +kernel
theorem dX7_buy_16 : decode cX7_buy 16 = .ok (.iload_n 2, 1) := by decide +kernel
theorem dX7_buy_17 : decode cX7_buy 17 = .ok (.bipush 16, 2) := by decide +kernel
theorem dX7_buy_19 : decode cX7_buy 19 = .ok (.if_icmp .ge 12, 3) := by decide +kernel
theorem dX7_buy_22 : decode cX7_buy 22 = .ok (.iload_n 3, 1) := by decide +kernel
theorem dX7_buy_23 : decode cX7_buy 23 = .ok (.ifCond .lt 8, 3) := by decide +kernel
theorem dX7_buy_26 : decode cX7_buy 26 = .ok (.iload_n 3, 1) := by decide +kernel
theorem dX7_buy_27 : decode cX7_buy 27 = .ok (.iconst 3, 1) := by decide +kernel
theorem dX7_buy_28 : decode cX7_buy 28 = .ok (.if_icmp .le 7, 3) := by decide +kernel
theorem dX7_buy_31 : decode cX7_buy 31 = .ok (.sipush (-10000), 3) := by decide +kernel
theorem dX7_buy_34 : decode cX7_buy 34 = .ok (.ireturn, 1) := by decide +kernel
theorem dX7_buy_35 : decode cX7_buy 35 = .ok (.iload_n 3, 1) := by decide +kernel
theorem dX7_buy_36 : decode cX7_buy 36 = .ok (.iconst 2, 1) := by decide +kernel
theorem dX7_buy_37 : decode cX7_buy 37 = .ok (.if_icmp .ge 34, 3) := by decide +kernel
theorem dX7_buy_40 : decode cX7_buy 40 = .ok (.aload_n 0, 1) := by decide +kernel
theorem dX7_buy_41 : decode cX7_buy 41 = .ok (.getfield 51, 3) := by decide +kernel
theorem dX7_buy_44 : decode cX7_buy 44 = .ok (.iload_n 1, 1) := by decide +kernel
theorem dX7_buy_45 : decode cX7_buy 45 = .ok (.iload_n 2, 1) := by decide +kernel
theorem dX7_buy_46 : decode cX7_buy 46 = .ok (.invokevirtual 271, 3) := by decide +kernel
theorem dX7_buy_49 : decode cX7_buy 49 = .ok (.istore 4, 2) := by decide +kernel
theorem dX7_buy_51 : decode cX7_buy 51 = .ok (.iload_n 3, 1) := by decide +kernel
theorem dX7_buy_52 : decode cX7_buy 52 = .ok (.ifCond .ne 8, 3) := by decide +kernel
theorem dX7_buy_55 : decode cX7_buy 55 = .ok (.iload 4, 2) := by decide +kernel
theorem dX7_buy_57 : decode cX7_buy 57 = .ok (.goto 13, 3) := by decide +kernel
theorem dX7_buy_60 : decode cX7_buy 60 = .ok (.aload_n 0, 1) := by decide +kernel
theorem dX7_buy_61 : decode cX7_buy 61 = .ok (.getfield 51, 3) := by decide +kernel
theorem dX7_buy_64 : decode cX7_buy 64 = .ok (.iload 4, 2) := by decide +kernel
theorem dX7_buy_66 : decode cX7_buy 66 = .ok (.iload_n 2, 1) := by decide +kernel
theorem dX7_buy_67 : decode cX7_buy 67 = .ok (.invokevirtual 274, 3) := by decide +kernel
theorem dX7_buy_70 : decode cX7_buy 70 = .ok (.ireturn, 1) := by decide +kernel
theorem dX7_buy_71 : decode cX7_buy 71 = .ok (.aload_n 0, 1) := by decide +kernel
theorem dX7_buy_72 : decode cX7_buy 72 = .ok (.getfield 51, 3) := by decide +kernel
theorem dX7_buy_75 : decode cX7_buy 75 = .ok (.iload_n 1, 1) := by decide +kernel
theorem dX7_buy_76 : decode cX7_buy 76 = .ok (.iload_n 2, 1) := by decide +kernel
theorem dX7_buy_77 : decode cX7_buy 77 = .ok (.invokevirtual 277, 3) := by decide +kernel
theorem dX7_buy_80 : decode cX7_buy 80 = .ok (.istore 4, 2) := by decide +kernel
theorem dX7_buy_82 : decode cX7_buy 82 = .ok (.iload_n 3, 1) := by decide +kernel
theorem dX7_buy_83 : decode cX7_buy 83 = .ok (.iconst 2, 1) := by decide +kernel
theorem dX7_buy_84 : decode cX7_buy 84 = .ok (.if_icmp .ne 8, 3) := by decide +kernel
theorem dX7_buy_87 : decode cX7_buy 87 = .ok (.iload 4, 2) := by decide +kernel
theorem dX7_buy_89 : decode cX7_buy 89 = .ok (.goto 14, 3) := by decide +kernel
theorem dX7_buy_92 : decode cX7_buy 92 = .ok (.aload_n 0, 1) := by decide +kernel
theorem dX7_buy_93 : decode cX7_buy 93 = .ok (.getfield 51, 3) := by decide +kernel
theorem dX7_buy_96 : decode cX7_buy 96 = .ok (.iload 4, 2) := by decide +kernel
theorem dX7_buy_98 : decode cX7_buy 98 = .ok (.iload_n 1, 1) := by decide +kernel
theorem dX7_buy_99 : decode cX7_buy 99 = .ok (.iload_n 2, 1) := by decide +kernel
theorem dX7_buy_100 : decode cX7_buy 100 = .ok (.invokevirtual 280, 3) := by decide +kernel
theorem dX7_buy_103 : decode cX7_buy 103 = .ok (.ireturn, 1) := by decide +kernel
theorem dX7_keep_0 : decode cX7_keep 0 = .ok (.aload_n 0, 1) := by decide +kernel
theorem dX7_keep_1 : decode cX7_keep 1 = .ok (.getfield 65, 3) := by decide +kernel
theorem dX7_keep_4 : decode cX7_keep 4 = .ok (.iconst 2, 1) := by decide +kernel
theorem dX7_keep_5 : decode cX7_keep 5 = .ok (.if_icmp .lt 6, 3) := by decide +kernel
theorem dX7_keep_8 : decode cX7_keep 8 = .ok (.bipush (-3), 2) := by decide +kernel
theorem dX7_keep_10 : decode cX7_keep 10 = .ok (.ireturn, 1) := by decide +kernel
theorem dX7_keep_11 : decode cX7_keep 11 = .ok (.aload_n 0, 1) := by decide +kernel
theorem dX7_keep_12 : decode cX7_keep 12 = .ok (.getfield 23, 3) := by decide +kernel
theorem dX7_keep_15 : decode cX7_keep 15 = .ok (.aload_n 0, 1) := by decide +kernel
theorem dX7_keep_16 : decode cX7_keep 16 = .ok (.getfield 65, 3) := by decide +kernel
theorem dX7_keep_19 : decode cX7_keep 19 = .ok (.aaload, 1) := by decide +kernel
theorem dX7_keep_20 : decode cX7_keep 20 = .ok (.aload_n 0, 1) := by decide +kernel
theorem dX7_keep_21 : decode cX7_keep 21 = .ok (.getfield 19, 3) := by decide +kernel
theorem dX7_keep_24 : decode cX7_keep 24 = .ok (.invokevirtual 283, 3) := by decide +kernel
theorem dX7_keep_27 : decode cX7_keep 27 = .ok (.aload_n 0, 1) := by decide +kernel
theorem dX7_keep_28 : decode cX7_keep 28 = .ok (.dup, 1) := by decide +kernel
theorem dX7_keep_29 : decode cX7_keep 29 = .ok (.getfield 65, 3) := by decide +kernel
theorem dX7_keep_32 : decode cX7_keep 32 = .ok (.iconst 1, 1) := by decide +kernel
theorem dX7_keep_33 : decode cX7_keep 33 = .ok (.iadd, 1) := by decide +kernel
theorem dX7_keep_34 : decode cX7_keep 34 = .ok (.putfield 65, 3) := by decide +kernel
theorem dX7_keep_37 : decode cX7_keep 37 = .ok (.aload_n 0, 1) := by decide +kernel
theorem dX7_keep_38 : decode cX7_keep 38 = .ok (.getfield 65, 3) := by decide +kernel
theorem dX7_keep_41 : decode cX7_keep 41 = .ok (.ireturn, 1) := by decide +kernel
theorem dX7_back_0 : decode cX7_back 0 = .ok (.aload_n 0, 1) := by decide +kernel
theorem dX7_back_1 : decode cX7_back 1 = .ok (.getfield 65, 3) := by decide +kernel
theorem dX7_back_4 : decode cX7_back 4 = .ok (.iconst 1, 1) := by decide +kernel
theorem dX7_back_5 : decode cX7_back 5 = .ok (.if_icmp .ge 6, 3) := by decide +kernel
theorem dX7_back_8 : decode cX7_back 8 = .ok (.bipush (-2), 2) := by decide +kernel
theorem dX7_back_10 : decode cX7_back 10 = .ok (.ireturn, 1) := by decide +kernel
theorem dX7_back_11 : decode cX7_back 11 = .ok (.aload_n 0, 1) := by decide +kernel
theorem dX7_back_12 : decode cX7_back 12 = .ok (.dup, 1) := by decide +kernel
theorem dX7_back_13 : decode cX7_back 13 = .ok (.getfield 65, 3) := by decide +kernel
theorem dX7_back_16 : decode cX7_back 16 = .ok (.iconst 1, 1) := by decide +kernel
theorem dX7_back_17 : decode cX7_back 17 = .ok (.isub, 1) := by decide +kernel
theorem dX7_back_18 : decode cX7_back 18 = .ok (.putfield 65, 3) := by decide +kernel
theorem dX7_back_21 : decode cX7_back 21 = .ok (.aload_n 0, 1) := by decide +kernel
theorem dX7_back_22 : decode cX7_back 22 = .ok (.getfield 19, 3) := by decide +kernel
theorem dX7_back_25 : decode cX7_back 25 = .ok (.aload_n 0, 1) := by decide +kernel
theorem dX7_back_26 : decode cX7_back 26 = .ok (.getfield 23, 3) := by decide +kernel
theorem dX7_back_29 : decode cX7_back 29 = .ok (.aload_n 0, 1) := by decide +kernel
theorem dX7_back_30 : decode cX7_back 30 = .ok (.getfield 65, 3) := by decide +kernel
theorem dX7_back_33 : decode cX7_back 33 = .ok (.aaload, 1) := by decide +kernel
theorem dX7_back_34 : decode cX7_back 34 = .ok (.invokevirtual 283, 3) := by decide +kernel
theorem dX7_back_37 : decode cX7_back 37 = .ok (.aload_n 0, 1) := by decide +kernel
theorem dX7_back_38 : decode cX7_back 38 = .ok (.iconst 0, 1) := by decide +kernel
theorem dX7_back_39 : decode cX7_back 39 = .ok (.putfield 75, 3) := by decide +kernel
theorem dX7_back_42 : decode cX7_back 42 = .ok (.aload_n 0, 1) := by decide +kernel
theorem dX7_back_43 : decode cX7_back 43 = .ok (.getfield 65, 3) := by decide +kernel
theorem dX7_back_46 : decode cX7_back 46 = .ok (.ireturn, 1) := by decide +kernel
theorem dX7_count_0 : decode cX7_count 0 = .ok (.iload_n 1, 1) := by decide +kernel
theorem dX7_count_1 : decode cX7_count 1 = .ok (.tableswitch 126 0 8 #[51, 59, 67, 78, 86, 97, 105, 113, 118], 51) := by decide +kernel
theorem dX7_count_52 : decode cX7_count 52 = .ok (.aload_n 0, 1) := by decide +kernel
theorem dX7_count_53 : decode cX7_count 53 = .ok (.getfield 19, 3) := by decide +kernel
theorem dX7_count_56 : decode cX7_count 56 = .ok (.getfield 83, 3) := by decide +kernel
theorem dX7_count_59 : decode cX7_count 59 = .ok (.ireturn, 1) := by decide +kernel
theorem dX7_count_60 : decode cX7_count 60 = .ok (.aload_n 0, 1) := by decide +kernel
theorem dX7_count_61 : decode cX7_count 61 = .ok (.getfield 19, 3) := by decide +kernel
theorem dX7_count_64 : decode cX7_count 64 = .ok (.getfield 121, 3) := by decide +kernel
theorem dX7_count_67 : decode cX7_count 67 = .ok (.ireturn, 1) := by decide +kernel
theorem dX7_count_68 : decode cX7_count 68 = .ok (.aload_n 0, 1) := by decide +kernel
theorem dX7_count_69 : decode cX7_count 69 = .ok (.getfield 19, 3) := by decide +kernel
theorem dX7_count_72 : decode cX7_count 72 = .ok (.getfield 142, 3) := by decide +kernel
theorem dX7_count_75 : decode cX7_count 75 = .ok (.invokestatic 287, 3) := by decide +kernel
theorem dX7_count_78 : decode cX7_count 78 = .ok (.ireturn, 1) := by decide +kernel
theorem dX7_count_79 : decode cX7_count 79 = .ok (.aload_n 0, 1) := by decide +kernel
theorem dX7_count_80 : decode cX7_count 80 = .ok (.getfield 19, 3) := by decide +kernel
theorem dX7_count_83 : decode cX7_count 83 = .ok (.getfield 159, 3) := by decide +kernel
theorem dX7_count_86 : decode cX7_count 86 = .ok (.ireturn, 1) := by decide +kernel
theorem dX7_count_87 : decode cX7_count 87 = .ok (.aload_n 0, 1) := by decide +kernel
theorem dX7_count_88 : decode cX7_count 88 = .ok (.getfield 19, 3) := by decide +kernel
theorem dX7_count_91 : decode cX7_count 91 = .ok (.getfield 244, 3) := by decide +kernel
theorem dX7_count_94 : decode cX7_count 94 = .ok (.invokestatic 287, 3) := by decide +kernel
theorem dX7_count_97 : decode cX7_count 97 = .ok (.ireturn, 1) := by decide +kernel
theorem dX7_count_98 : decode cX7_count 98 = .ok (.aload_n 0, 1) := by decide +kernel
theorem dX7_count_99 : decode cX7_count 99 = .ok (.getfield 44, 3) := by decide +kernel
theorem dX7_count_102 : decode cX7_count 102 = .ok (.getfield 208, 3) := by decide +kernel
theorem dX7_count_105 : decode cX7_count 105 = .ok (.ireturn, 1) := by decide +kernel
theorem dX7_count_106 : decode cX7_count 106 = .ok (.aload_n 0, 1) := by decide +kernel
theorem dX7_count_107 : decode cX7_count 107 = .ok (.getfield 58, 3) := by decide +kernel
theorem dX7_count_110 : decode cX7_count 110 = .ok (.getfield 219, 3) := by decide +kernel
theorem dX7_count_113 : decode cX7_count 113 = .ok (.ireturn, 1) := by decide +kernel
theorem dX7_count_114 : decode cX7_count 114 = .ok (.aload_n 0, 1) := by decide +kernel
theorem dX7_count_115 : decode cX7_count 115 = .ok (.getfield 65, 3) := by decide +kernel
theorem dX7_count_118 : decode cX7_count 118 = .ok (.ireturn, 1) := by decide +kernel
theorem dX7_count_119 : decode cX7_count 119 = .ok (.aload_n 0, 1) := by decide +kernel
theorem dX7_count_120 : decode cX7_count 120 = .ok (.getfield 10, 3) := by decide +kernel
theorem dX7_count_123 : decode cX7_count 123 = .ok (.getfield 291, 3) := by decide +kernel
theorem dX7_count_126 : decode cX7_count 126 = .ok (.ireturn, 1) := by decide +kernel
theorem dX7_count_127 : decode cX7_count 127 = .ok (.iconst (-1), 1) := by decide +kernel
theorem dX7_count_128 : decode cX7_count 128 = .ok (.ireturn, 1) := by decide +kernel
theorem dX7_isTown_0 : decode cX7_isTown 0 = .ok (.iload_n 0, 1) := by decide +kernel
theorem dX7_isTown_1 : decode cX7_isTown 1 = .ok (.ifCond .lt 13, 3) := by decide +kernel
theorem dX7_isTown_4 : decode cX7_isTown 4 = .ok (.iload_n 0, 1) := by decide +kernel
theorem dX7_isTown_5 : decode cX7_isTown 5 = .ok (.bipush 6, 2) := by decide +kernel
theorem dX7_isTown_7 : decode cX7_isTown 7 = .ok (.if_icmp .ge 7, 3) := by decide +kernel
theorem dX7_isTown_10 : decode cX7_isTown 10 = .ok (.iconst 1, 1) := by decide +kernel
theorem dX7_isTown_11 : decode cX7_isTown 11 = .ok (.goto 4, 3) := by decide +kernel
theorem dX7_isTown_14 : decode cX7_isTown 14 = .ok (.iconst 0, 1) := by decide +kernel
theorem dX7_isTown_15 : decode cX7_isTown 15 = .ok (.ireturn, 1) := by decide +kernel
theorem dX7_isWriter_0 : decode cX7_isWriter 0 = .ok (.iload_n 0, 1) := by decide +kernel
theorem dX7_isWriter_1 : decode cX7_isWriter 1 = .ok (.ifCond .lt 13, 3) := by decide +kernel
theorem dX7_isWriter_4 : decode cX7_isWriter 4 = .ok (.iload_n 0, 1) := by decide +kernel
theorem dX7_isWriter_5 : decode cX7_isWriter 5 = .ok (.bipush 8, 2) := by decide +kernel
theorem dX7_isWriter_7 : decode cX7_isWriter 7 = .ok (.if_icmp .ge 7, 3) := by decide +kernel
theorem dX7_isWriter_10 : decode cX7_isWriter 10 = .ok (.iconst 1, 1) := by decide +kernel
theorem dX7_isWriter_11 : decode cX7_isWriter 11 = .ok (.goto 4, 3) := by decide +kernel
theorem dX7_isWriter_14 : decode cX7_isWriter 14 = .ok (.iconst 0, 1) := by decide +kernel
theorem dX7_isWriter_15 : decode cX7_isWriter 15 = .ok (.ireturn, 1) := by decide +kernel
theorem dX7_isThing_0 : decode cX7_isThing 0 = .ok (.iload_n 0, 1) := by decide +kernel
theorem dX7_isThing_1 : decode cX7_isThing 1 = .ok (.ifCond .lt 13, 3) := by decide +kernel
theorem dX7_isThing_4 : decode cX7_isThing 4 = .ok (.iload_n 0, 1) := by decide +kernel
theorem dX7_isThing_5 : decode cX7_isThing 5 = .ok (.bipush 10, 2) := by decide +kernel
theorem dX7_isThing_7 : decode cX7_isThing 7 = .ok (.if_icmp .ge 7, 3) := by decide +kernel
theorem dX7_isThing_10 : decode cX7_isThing 10 = .ok (.iconst 1, 1) := by decide +kernel
theorem dX7_isThing_11 : decode cX7_isThing 11 = .ok (.goto 4, 3) := by decide +kernel
theorem dX7_isThing_14 : decode cX7_isThing 14 = .ok (.iconst 0, 1) := by decide +kernel
theorem dX7_isThing_15 : decode cX7_isThing 15 = .ok (.ireturn, 1) := by decide +kernel
theorem dX7_isDay_0 : decode cX7_isDay 0 = .ok (.iload_n 0, 1) := by decide +kernel
theorem dX7_isDay_1 : decode cX7_isDay 1 = .ok (.ifCond .lt 14, 3) := by decide +kernel
theorem dX7_isDay_4 : decode cX7_isDay 4 = .ok (.iload_n 0, 1) := by decide +kernel
theorem dX7_isDay_5 : decode cX7_isDay 5 = .ok (.sipush 999, 3) := by decide +kernel
theorem dX7_isDay_8 : decode cX7_isDay 8 = .ok (.if_icmp .gt 7, 3) := by decide +kernel
theorem dX7_isDay_11 : decode cX7_isDay 11 = .ok (.iconst 1, 1) := by decide +kernel
theorem dX7_isDay_12 : decode cX7_isDay 12 = .ok (.goto 4, 3) := by decide +kernel
theorem dX7_isDay_15 : decode cX7_isDay 15 = .ok (.iconst 0, 1) := by decide +kernel
theorem dX7_isDay_16 : decode cX7_isDay 16 = .ok (.ireturn, 1) := by decide +kernel
theorem dX7_isDayOrNone_0 : decode cX7_isDayOrNone 0 = .ok (.iload_n 0, 1) := by decide +kernel
theorem dX7_isDayOrNone_1 : decode cX7_isDayOrNone 1 = .ok (.iconst (-1), 1) := by decide +kernel
theorem dX7_isDayOrNone_2 : decode cX7_isDayOrNone 2 = .ok (.if_icmp .eq 10, 3) := by decide +kernel
theorem dX7_isDayOrNone_5 : decode cX7_isDayOrNone 5 = .ok (.iload_n 0, 1) := by decide +kernel
theorem dX7_isDayOrNone_6 : decode cX7_isDayOrNone 6 = .ok (.invokestatic 130, 3) := by decide +kernel
theorem dX7_isDayOrNone_9 : decode cX7_isDayOrNone 9 = .ok (.ifCond .eq 7, 3) := by decide +kernel
theorem dX7_isDayOrNone_12 : decode cX7_isDayOrNone 12 = .ok (.iconst 1, 1) := by decide +kernel
theorem dX7_isDayOrNone_13 : decode cX7_isDayOrNone 13 = .ok (.goto 4, 3) := by decide +kernel
theorem dX7_isDayOrNone_16 : decode cX7_isDayOrNone 16 = .ok (.iconst 0, 1) := by decide +kernel
theorem dX7_isDayOrNone_17 : decode cX7_isDayOrNone 17 = .ok (.ireturn, 1) := by decide +kernel
theorem dX7_isSheet_0 : decode cX7_isSheet 0 = .ok (.iload_n 1, 1) := by decide +kernel
theorem dX7_isSheet_1 : decode cX7_isSheet 1 = .ok (.ifCond .lt 18, 3) := by decide +kernel
theorem dX7_isSheet_4 : decode cX7_isSheet 4 = .ok (.iload_n 1, 1) := by decide +kernel
theorem dX7_isSheet_5 : decode cX7_isSheet 5 = .ok (.aload_n 0, 1) := by decide +kernel
theorem dX7_isSheet_6 : decode cX7_isSheet 6 = .ok (.getfield 19, 3) := by decide +kernel
theorem dX7_isSheet_9 : decode cX7_isSheet 9 = .ok (.getfield 83, 3) := by decide +kernel
theorem dX7_isSheet_12 : decode cX7_isSheet 12 = .ok (.if_icmp .ge 7, 3) := by decide +kernel
theorem dX7_isSheet_15 : decode cX7_isSheet 15 = .ok (.iconst 1, 1) := by decide +kernel
theorem dX7_isSheet_16 : decode cX7_isSheet 16 = .ok (.goto 4, 3) := by decide +kernel
theorem dX7_isSheet_19 : decode cX7_isSheet 19 = .ok (.iconst 0, 1) := by decide +kernel
theorem dX7_isSheet_20 : decode cX7_isSheet 20 = .ok (.ireturn, 1) := by decide +kernel
theorem dX7_isSaying_0 : decode cX7_isSaying 0 = .ok (.iload_n 1, 1) := by decide +kernel
theorem dX7_isSaying_1 : decode cX7_isSaying 1 = .ok (.ifCond .lt 18, 3) := by decide +kernel
theorem dX7_isSaying_4 : decode cX7_isSaying 4 = .ok (.iload_n 1, 1) := by decide +kernel
theorem dX7_isSaying_5 : decode cX7_isSaying 5 = .ok (.aload_n 0, 1) := by decide +kernel
theorem dX7_isSaying_6 : decode cX7_isSaying 6 = .ok (.getfield 19, 3) := by decide +kernel
theorem dX7_isSaying_9 : decode cX7_isSaying 9 = .ok (.getfield 159, 3) := by decide +kernel
theorem dX7_isSaying_12 : decode cX7_isSaying 12 = .ok (.if_icmp .ge 7, 3) := by decide +kernel
theorem dX7_isSaying_15 : decode cX7_isSaying 15 = .ok (.iconst 1, 1) := by decide +kernel
theorem dX7_isSaying_16 : decode cX7_isSaying 16 = .ok (.goto 4, 3) := by decide +kernel
theorem dX7_isSaying_19 : decode cX7_isSaying 19 = .ok (.iconst 0, 1) := by decide +kernel
theorem dX7_isSaying_20 : decode cX7_isSaying 20 = .ok (.ireturn, 1) := by decide +kernel
theorem dX7_isRule_0 : decode cX7_isRule 0 = .ok (.iload_n 0, 1) := by decide +kernel
theorem dX7_isRule_1 : decode cX7_isRule 1 = .ok (.ifCond .ne 8, 3) := by decide +kernel
theorem dX7_isRule_4 : decode cX7_isRule 4 = .ok (.iload_n 1, 1) := by decide +kernel
theorem dX7_isRule_5 : decode cX7_isRule 5 = .ok (.invokestatic 79, 3) := by decide +kernel
theorem dX7_isRule_8 : decode cX7_isRule 8 = .ok (.ireturn, 1) := by decide +kernel
theorem dX7_isRule_9 : decode cX7_isRule 9 = .ok (.iload_n 0, 1) := by decide +kernel
theorem dX7_isRule_10 : decode cX7_isRule 10 = .ok (.iconst 1, 1) := by decide +kernel
theorem dX7_isRule_11 : decode cX7_isRule 11 = .ok (.if_icmp .ne 8, 3) := by decide +kernel
theorem dX7_isRule_14 : decode cX7_isRule 14 = .ok (.iload_n 1, 1) := by decide +kernel
theorem dX7_isRule_15 : decode cX7_isRule 15 = .ok (.invokestatic 101, 3) := by decide +kernel
theorem dX7_isRule_18 : decode cX7_isRule 18 = .ok (.ireturn, 1) := by decide +kernel
theorem dX7_isRule_19 : decode cX7_isRule 19 = .ok (.iload_n 0, 1) := by decide +kernel
theorem dX7_isRule_20 : decode cX7_isRule 20 = .ok (.iconst 1, 1) := by decide +kernel
theorem dX7_isRule_21 : decode cX7_isRule 21 = .ok (.if_icmp .le 12, 3) := by decide +kernel
theorem dX7_isRule_24 : decode cX7_isRule 24 = .ok (.iload_n 0, 1) := by decide +kernel
theorem dX7_isRule_25 : decode cX7_isRule 25 = .ok (.iconst 5, 1) := by decide +kernel
theorem dX7_isRule_26 : decode cX7_isRule 26 = .ok (.if_icmp .ge 7, 3) := by decide +kernel
theorem dX7_isRule_29 : decode cX7_isRule 29 = .ok (.iconst 1, 1) := by decide +kernel
theorem dX7_isRule_30 : decode cX7_isRule 30 = .ok (.goto 4, 3) := by decide +kernel
theorem dX7_isRule_33 : decode cX7_isRule 33 = .ok (.iconst 0, 1) := by decide +kernel
theorem dX7_isRule_34 : decode cX7_isRule 34 = .ok (.ireturn, 1) := by decide +kernel
theorem dX7_isIn_0 : decode cX7_isIn 0 = .ok (.iload_n 0, 1) := by decide +kernel
theorem dX7_isIn_1 : decode cX7_isIn 1 = .ok (.iload_n 1, 1) := by decide +kernel
theorem dX7_isIn_2 : decode cX7_isIn 2 = .ok (.ishr, 1) := by decide +kernel
theorem dX7_isIn_3 : decode cX7_isIn 3 = .ok (.iconst 1, 1) := by decide +kernel
theorem dX7_isIn_4 : decode cX7_isIn 4 = .ok (.iand, 1) := by decide +kernel
theorem dX7_isIn_5 : decode cX7_isIn 5 = .ok (.iconst 1, 1) := by decide +kernel
theorem dX7_isIn_6 : decode cX7_isIn 6 = .ok (.if_icmp .ne 7, 3) := by decide +kernel
theorem dX7_isIn_9 : decode cX7_isIn 9 = .ok (.iconst 1, 1) := by decide +kernel
theorem dX7_isIn_10 : decode cX7_isIn 10 = .ok (.goto 4, 3) := by decide +kernel
theorem dX7_isIn_13 : decode cX7_isIn 13 = .ok (.iconst 0, 1) := by decide +kernel
theorem dX7_isIn_14 : decode cX7_isIn 14 = .ok (.ireturn, 1) := by decide +kernel
theorem dX7_with_0 : decode cX7_with 0 = .ok (.iload_n 2, 1) := by decide +kernel
theorem dX7_with_1 : decode cX7_with 1 = .ok (.ifCond .eq 11, 3) := by decide +kernel
theorem dX7_with_4 : decode cX7_with 4 = .ok (.iload_n 0, 1) := by decide +kernel
theorem dX7_with_5 : decode cX7_with 5 = .ok (.iconst 1, 1) := by decide +kernel
theorem dX7_with_6 : decode cX7_with 6 = .ok (.iload_n 1, 1) := by decide +kernel
theorem dX7_with_7 : decode cX7_with 7 = .ok (.ishl, 1) := by decide +kernel
theorem dX7_with_8 : decode cX7_with 8 = .ok (.ior, 1) := by decide +kernel
theorem dX7_with_9 : decode cX7_with 9 = .ok (.goto 10, 3) := by decide +kernel
theorem dX7_with_12 : decode cX7_with 12 = .ok (.iload_n 0, 1) := by decide +kernel
theorem dX7_with_13 : decode cX7_with 13 = .ok (.iconst 1, 1) := by decide +kernel
theorem dX7_with_14 : decode cX7_with 14 = .ok (.iload_n 1, 1) := by decide +kernel
theorem dX7_with_15 : decode cX7_with 15 = .ok (.ishl, 1) := by decide +kernel
theorem dX7_with_16 : decode cX7_with 16 = .ok (.iconst (-1), 1) := by decide +kernel
theorem dX7_with_17 : decode cX7_with 17 = .ok (.ixor, 1) := by decide +kernel
theorem dX7_with_18 : decode cX7_with 18 = .ok (.iand, 1) := by decide +kernel
theorem dX7_with_19 : decode cX7_with 19 = .ok (.ireturn, 1) := by decide +kernel
theorem dX7_toldIn_0 : decode cX7_toldIn 0 = .ok (.iconst 0, 1) := by decide +kernel
theorem dX7_toldIn_1 : decode cX7_toldIn 1 = .ok (.istore_n 1, 1) := by decide +kernel
theorem dX7_toldIn_2 : decode cX7_toldIn 2 = .ok (.aload_n 0, 1) := by decide +kernel
theorem dX7_toldIn_3 : decode cX7_toldIn 3 = .ok (.astore_n 2, 1) := by decide +kernel
theorem dX7_toldIn_4 : decode cX7_toldIn 4 = .ok (.aload_n 2, 1) := by decide +kernel
theorem dX7_toldIn_5 : decode cX7_toldIn 5 = .ok (.arraylength, 1) := by decide +kernel
theorem dX7_toldIn_6 : decode cX7_toldIn 6 = .ok (.istore_n 3, 1) := by decide +kernel
theorem dX7_toldIn_7 : decode cX7_toldIn 7 = .ok (.iconst 0, 1) := by decide +kernel
theorem dX7_toldIn_8 : decode cX7_toldIn 8 = .ok (.istore 4, 2) := by decide +kernel
theorem dX7_toldIn_10 : decode cX7_toldIn 10 = .ok (.iload 4, 2) := by decide +kernel
theorem dX7_toldIn_12 : decode cX7_toldIn 12 = .ok (.iload_n 3, 1) := by decide +kernel
theorem dX7_toldIn_13 : decode cX7_toldIn 13 = .ok (.if_icmp .ge 24, 3) := by decide +kernel
theorem dX7_toldIn_16 : decode cX7_toldIn 16 = .ok (.aload_n 2, 1) := by decide +kernel
theorem dX7_toldIn_17 : decode cX7_toldIn 17 = .ok (.iload 4, 2) := by decide +kernel
theorem dX7_toldIn_19 : decode cX7_toldIn 19 = .ok (.iaload, 1) := by decide +kernel
theorem dX7_toldIn_20 : decode cX7_toldIn 20 = .ok (.istore 5, 2) := by decide +kernel
theorem dX7_toldIn_22 : decode cX7_toldIn 22 = .ok (.iload 5, 2) := by decide +kernel
theorem dX7_toldIn_24 : decode cX7_toldIn 24 = .ok (.iconst (-1), 1) := by decide +kernel
theorem dX7_toldIn_25 : decode cX7_toldIn 25 = .ok (.if_icmp .eq 6, 3) := by decide +kernel
theorem dX7_toldIn_28 : decode cX7_toldIn 28 = .ok (.iinc 1 1, 3) := by decide +kernel
theorem dX7_toldIn_31 : decode cX7_toldIn 31 = .ok (.iinc 4 1, 3) := by decide +kernel
theorem dX7_toldIn_34 : decode cX7_toldIn 34 = .ok (.goto (-24), 3) := by decide +kernel
theorem dX7_toldIn_37 : decode cX7_toldIn 37 = .ok (.iload_n 1, 1) := by decide +kernel
theorem dX7_toldIn_38 : decode cX7_toldIn 38 = .ok (.ireturn, 1) := by decide +kernel
theorem dX7_isQuarrel_0 : decode cX7_isQuarrel 0 = .ok (.aload_n 0, 1) := by decide +kernel
theorem dX7_isQuarrel_1 : decode cX7_isQuarrel 1 = .ok (.getfield 75, 3) := by decide +kernel
theorem dX7_isQuarrel_4 : decode cX7_isQuarrel 4 = .ok (.ifCond .ne 56, 3) := by decide +kernel
theorem dX7_isQuarrel_7 : decode cX7_isQuarrel 7 = .ok (.aload_n 0, 1) := by decide +kernel
theorem dX7_isQuarrel_8 : decode cX7_isQuarrel 8 = .ok (.getfield 30, 3) := by decide +kernel
theorem dX7_isQuarrel_11 : decode cX7_isQuarrel 11 = .ok (.aload_n 0, 1) := by decide +kernel
theorem dX7_isQuarrel_12 : decode cX7_isQuarrel 12 = .ok (.getfield 19, 3) := by decide +kernel
theorem dX7_isQuarrel_15 : decode cX7_isQuarrel 15 = .ok (.aload_n 0, 1) := by decide +kernel
theorem dX7_isQuarrel_16 : decode cX7_isQuarrel 16 = .ok (.getfield 10, 3) := by decide +kernel
theorem dX7_isQuarrel_19 : decode cX7_isQuarrel 19 = .ok (.invokevirtual 294, 3) := by decide +kernel
theorem dX7_isQuarrel_22 : decode cX7_isQuarrel 22 = .ok (.aload_n 0, 1) := by decide +kernel
theorem dX7_isQuarrel_23 : decode cX7_isQuarrel 23 = .ok (.getfield 30, 3) := by decide +kernel
theorem dX7_isQuarrel_26 : decode cX7_isQuarrel 26 = .ok (.getfield 298, 3) := by decide +kernel
theorem dX7_isQuarrel_29 : decode cX7_isQuarrel 29 = .ok (.ifCond .ne 26, 3) := by decide +kernel
theorem dX7_isQuarrel_32 : decode cX7_isQuarrel 32 = .ok (.aload_n 0, 1) := by decide +kernel
theorem dX7_isQuarrel_33 : decode cX7_isQuarrel 33 = .ok (.getfield 37, 3) := by decide +kernel
theorem dX7_isQuarrel_36 : decode cX7_isQuarrel 36 = .ok (.aload_n 0, 1) := by decide +kernel
theorem dX7_isQuarrel_37 : decode cX7_isQuarrel 37 = .ok (.getfield 19, 3) := by decide +kernel
theorem dX7_isQuarrel_40 : decode cX7_isQuarrel 40 = .ok (.aload_n 0, 1) := by decide +kernel
theorem dX7_isQuarrel_41 : decode cX7_isQuarrel 41 = .ok (.getfield 10, 3) := by decide +kernel
theorem dX7_isQuarrel_44 : decode cX7_isQuarrel 44 = .ok (.aload_n 0, 1) := by decide +kernel
theorem dX7_isQuarrel_45 : decode cX7_isQuarrel 45 = .ok (.getfield 30, 3) := by decide +kernel
theorem dX7_isQuarrel_48 : decode cX7_isQuarrel 48 = .ok (.aload_n 0, 1) := by decide +kernel
theorem dX7_isQuarrel_49 : decode cX7_isQuarrel 49 = .ok (.getfield 69, 3) := by decide +kernel
theorem dX7_isQuarrel_52 : decode cX7_isQuarrel 52 = .ok (.invokevirtual 301, 3) := by decide +kernel
theorem dX7_isQuarrel_55 : decode cX7_isQuarrel 55 = .ok (.aload_n 0, 1) := by decide +kernel
theorem dX7_isQuarrel_56 : decode cX7_isQuarrel 56 = .ok (.iconst 1, 1) := by decide +kernel
theorem dX7_isQuarrel_57 : decode cX7_isQuarrel 57 = .ok (.putfield 75, 3) := by decide +kernel
theorem dX7_isQuarrel_60 : decode cX7_isQuarrel 60 = .ok (.aload_n 0, 1) := by decide +kernel
theorem dX7_isQuarrel_61 : decode cX7_isQuarrel 61 = .ok (.getfield 30, 3) := by decide +kernel
theorem dX7_isQuarrel_64 : decode cX7_isQuarrel 64 = .ok (.getfield 298, 3) := by decide +kernel
theorem dX7_isQuarrel_67 : decode cX7_isQuarrel 67 = .ok (.ireturn, 1) := by decide +kernel
theorem dX7_reachesAllThatSay_0 : decode cX7_reachesAllThatSay 0 = .ok (.iconst 0, 1) := by decide +kernel
theorem dX7_reachesAllThatSay_1 : decode cX7_reachesAllThatSay 1 = .ok (.istore_n 3, 1) := by decide +kernel
theorem dX7_reachesAllThatSay_2 : decode cX7_reachesAllThatSay 2 = .ok (.iload_n 3, 1) := by decide +kernel
theorem dX7_reachesAllThatSay_3 : decode cX7_reachesAllThatSay 3 = .ok (.aload_n 0, 1) := by decide +kernel
theorem dX7_reachesAllThatSay_4 : decode cX7_reachesAllThatSay 4 = .ok (.getfield 19, 3) := by decide +kernel
theorem dX7_reachesAllThatSay_7 : decode cX7_reachesAllThatSay 7 = .ok (.getfield 159, 3) := by decide +kernel
theorem dX7_reachesAllThatSay_10 : decode cX7_reachesAllThatSay 10 = .ok (.if_icmp .ge 43, 3) := by decide +kernel
theorem dX7_reachesAllThatSay_13 : decode cX7_reachesAllThatSay 13 = .ok (.aload_n 0, 1) := by decide +kernel
theorem dX7_reachesAllThatSay_14 : decode cX7_reachesAllThatSay 14 = .ok (.getfield 19, 3) := by decide +kernel
theorem dX7_reachesAllThatSay_17 : decode cX7_reachesAllThatSay 17 = .ok (.getfield 173, 3) := by decide +kernel
theorem dX7_reachesAllThatSay_20 : decode cX7_reachesAllThatSay 20 = .ok (.iload_n 3, 1) := by decide +kernel
theorem dX7_reachesAllThatSay_21 : decode cX7_reachesAllThatSay 21 = .ok (.iaload, 1) := by decide +kernel
theorem dX7_reachesAllThatSay_22 : decode cX7_reachesAllThatSay 22 = .ok (.iload_n 1, 1) := by decide +kernel
theorem dX7_reachesAllThatSay_23 : decode cX7_reachesAllThatSay 23 = .ok (.if_icmp .ne 24, 3) := by decide +kernel
theorem dX7_reachesAllThatSay_26 : decode cX7_reachesAllThatSay 26 = .ok (.aload_n 0, 1) := by decide +kernel
theorem dX7_reachesAllThatSay_27 : decode cX7_reachesAllThatSay 27 = .ok (.getfield 10, 3) := by decide +kernel
theorem dX7_reachesAllThatSay_30 : decode cX7_reachesAllThatSay 30 = .ok (.iload_n 2, 1) := by decide +kernel
theorem dX7_reachesAllThatSay_31 : decode cX7_reachesAllThatSay 31 = .ok (.aload_n 0, 1) := by decide +kernel
theorem dX7_reachesAllThatSay_32 : decode cX7_reachesAllThatSay 32 = .ok (.getfield 19, 3) := by decide +kernel
theorem dX7_reachesAllThatSay_35 : decode cX7_reachesAllThatSay 35 = .ok (.iload_n 3, 1) := by decide +kernel
theorem dX7_reachesAllThatSay_36 : decode cX7_reachesAllThatSay 36 = .ok (.invokevirtual 305, 3) := by decide +kernel
theorem dX7_reachesAllThatSay_39 : decode cX7_reachesAllThatSay 39 = .ok (.invokevirtual 90, 3) := by decide +kernel
theorem dX7_reachesAllThatSay_42 : decode cX7_reachesAllThatSay 42 = .ok (.ifCond .ne 5, 3) := by decide +kernel
theorem dX7_reachesAllThatSay_45 : decode cX7_reachesAllThatSay 45 = .ok (.iconst 0, 1) := by decide +kernel
theorem dX7_reachesAllThatSay_46 : decode cX7_reachesAllThatSay 46 = .ok (.ireturn, 1) := by decide +kernel
theorem dX7_reachesAllThatSay_47 : decode cX7_reachesAllThatSay 47 = .ok (.iinc 3 1, 3) := by decide +kernel
theorem dX7_reachesAllThatSay_50 : decode cX7_reachesAllThatSay 50 = .ok (.goto (-48), 3) := by decide +kernel
theorem dX7_reachesAllThatSay_53 : decode cX7_reachesAllThatSay 53 = .ok (.iconst 1, 1) := by decide +kernel
theorem dX7_reachesAllThatSay_54 : decode cX7_reachesAllThatSay 54 = .ok (.ireturn, 1) := by decide +kernel
theorem dX7_followers_0 : decode cX7_followers 0 = .ok (.iconst 0, 1) := by decide +kernel
theorem dX7_followers_1 : decode cX7_followers 1 = .ok (.istore_n 2, 1) := by decide +kernel
theorem dX7_followers_2 : decode cX7_followers 2 = .ok (.iconst 0, 1) := by decide +kernel
theorem dX7_followers_3 : decode cX7_followers 3 = .ok (.istore_n 3, 1) := by decide +kernel
theorem dX7_followers_4 : decode cX7_followers 4 = .ok (.iload_n 3, 1) := by decide +kernel
theorem dX7_followers_5 : decode cX7_followers 5 = .ok (.aload_n 0, 1) := by decide +kernel
theorem dX7_followers_6 : decode cX7_followers 6 = .ok (.getfield 19, 3) := by decide +kernel
theorem dX7_followers_9 : decode cX7_followers 9 = .ok (.getfield 159, 3) := by decide +kernel
theorem dX7_followers_12 : decode cX7_followers 12 = .ok (.if_icmp .ge 25, 3) := by decide +kernel
theorem dX7_followers_15 : decode cX7_followers 15 = .ok (.aload_n 0, 1) := by decide +kernel
theorem dX7_followers_16 : decode cX7_followers 16 = .ok (.getfield 37, 3) := by decide +kernel
theorem dX7_followers_19 : decode cX7_followers 19 = .ok (.getfield 185, 3) := by decide +kernel
theorem dX7_followers_22 : decode cX7_followers 22 = .ok (.iload_n 3, 1) := by decide +kernel
theorem dX7_followers_23 : decode cX7_followers 23 = .ok (.iaload, 1) := by decide +kernel
theorem dX7_followers_24 : decode cX7_followers 24 = .ok (.iload_n 1, 1) := by decide +kernel
theorem dX7_followers_25 : decode cX7_followers 25 = .ok (.if_icmp .ne 6, 3) := by decide +kernel
theorem dX7_followers_28 : decode cX7_followers 28 = .ok (.iinc 2 1, 3) := by decide +kernel
theorem dX7_followers_31 : decode cX7_followers 31 = .ok (.iinc 3 1, 3) := by decide +kernel
theorem dX7_followers_34 : decode cX7_followers 34 = .ok (.goto (-30), 3) := by decide +kernel
theorem dX7_followers_37 : decode cX7_followers 37 = .ok (.iload_n 2, 1) := by decide +kernel
theorem dX7_followers_38 : decode cX7_followers 38 = .ok (.ireturn, 1) := by decide +kernel
theorem dX7_growth_0 : decode cX7_growth 0 = .ok (.aload_n 0, 1) := by decide +kernel
theorem dX7_growth_1 : decode cX7_growth 1 = .ok (.getfield 37, 3) := by decide +kernel
theorem dX7_growth_4 : decode cX7_growth 4 = .ok (.iload_n 1, 1) := by decide +kernel
theorem dX7_growth_5 : decode cX7_growth 5 = .ok (.invokevirtual 179, 3) := by decide +kernel
theorem dX7_growth_8 : decode cX7_growth 8 = .ok (.ifCond .eq 5, 3) := by decide +kernel
theorem dX7_growth_11 : decode cX7_growth 11 = .ok (.iconst 0, 1) := by decide +kernel
theorem dX7_growth_12 : decode cX7_growth 12 = .ok (.ireturn, 1) := by decide +kernel
theorem dX7_growth_13 : decode cX7_growth 13 = .ok (.aload_n 0, 1) := by decide +kernel
theorem dX7_growth_14 : decode cX7_growth 14 = .ok (.getfield 19, 3) := by decide +kernel
theorem dX7_growth_17 : decode cX7_growth 17 = .ok (.getfield 308, 3) := by decide +kernel
theorem dX7_growth_20 : decode cX7_growth 20 = .ok (.iload_n 1, 1) := by decide +kernel
theorem dX7_growth_21 : decode cX7_growth 21 = .ok (.iaload, 1) := by decide +kernel
theorem dX7_growth_22 : decode cX7_growth 22 = .ok (.aload_n 0, 1) := by decide +kernel
theorem dX7_growth_23 : decode cX7_growth 23 = .ok (.getfield 19, 3) := by decide +kernel
theorem dX7_growth_26 : decode cX7_growth 26 = .ok (.getfield 308, 3) := by decide +kernel
theorem dX7_growth_29 : decode cX7_growth 29 = .ok (.aload_n 0, 1) := by decide +kernel
theorem dX7_growth_30 : decode cX7_growth 30 = .ok (.getfield 37, 3) := by decide +kernel
theorem dX7_growth_33 : decode cX7_growth 33 = .ok (.getfield 182, 3) := by decide +kernel
theorem dX7_growth_36 : decode cX7_growth 36 = .ok (.iload_n 1, 1) := by decide +kernel
theorem dX7_growth_37 : decode cX7_growth 37 = .ok (.iaload, 1) := by decide +kernel
theorem dX7_growth_38 : decode cX7_growth 38 = .ok (.iaload, 1) := by decide +kernel
theorem dX7_growth_39 : decode cX7_growth 39 = .ok (.isub, 1) := by decide +kernel
theorem dX7_growth_40 : decode cX7_growth 40 = .ok (.ireturn, 1) := by decide +kernel
theorem dX7_arrival_0 : decode cX7_arrival 0 = .ok (.aload_n 0, 1) := by decide +kernel
theorem dX7_arrival_1 : decode cX7_arrival 1 = .ok (.getfield 19, 3) := by decide +kernel
theorem dX7_arrival_4 : decode cX7_arrival 4 = .ok (.iload_n 1, 1) := by decide +kernel
theorem dX7_arrival_5 : decode cX7_arrival 5 = .ok (.invokevirtual 305, 3) := by decide +kernel
theorem dX7_arrival_8 : decode cX7_arrival 8 = .ok (.istore_n 2, 1) := by decide +kernel
theorem dX7_arrival_9 : decode cX7_arrival 9 = .ok (.aload_n 0, 1) := by decide +kernel
theorem dX7_arrival_10 : decode cX7_arrival 10 = .ok (.getfield 10, 3) := by decide +kernel
theorem dX7_arrival_13 : decode cX7_arrival 13 = .ok (.iload_n 2, 1) := by decide +kernel
theorem dX7_arrival_14 : decode cX7_arrival 14 = .ok (.aload_n 0, 1) := by decide +kernel
theorem dX7_arrival_15 : decode cX7_arrival 15 = .ok (.getfield 72, 3) := by decide +kernel
theorem dX7_arrival_18 : decode cX7_arrival 18 = .ok (.invokevirtual 90, 3) := by decide +kernel
theorem dX7_arrival_21 : decode cX7_arrival 21 = .ok (.ifCond .ne 6, 3) := by decide +kernel
theorem dX7_arrival_24 : decode cX7_arrival 24 = .ok (.bipush (-4), 2) := by decide +kernel
theorem dX7_arrival_26 : decode cX7_arrival 26 = .ok (.ireturn, 1) := by decide +kernel
theorem dX7_arrival_27 : decode cX7_arrival 27 = .ok (.aload_n 0, 1) := by decide +kernel
theorem dX7_arrival_28 : decode cX7_arrival 28 = .ok (.getfield 30, 3) := by decide +kernel
theorem dX7_arrival_31 : decode cX7_arrival 31 = .ok (.getfield 149, 3) := by decide +kernel
theorem dX7_arrival_34 : decode cX7_arrival 34 = .ok (.aload_n 0, 1) := by decide +kernel
theorem dX7_arrival_35 : decode cX7_arrival 35 = .ok (.getfield 19, 3) := by decide +kernel
theorem dX7_arrival_38 : decode cX7_arrival 38 = .ok (.getfield 311, 3) := by decide +kernel
theorem dX7_arrival_41 : decode cX7_arrival 41 = .ok (.iload_n 1, 1) := by decide +kernel
theorem dX7_arrival_42 : decode cX7_arrival 42 = .ok (.iaload, 1) := by decide +kernel
theorem dX7_arrival_43 : decode cX7_arrival 43 = .ok (.iaload, 1) := by decide +kernel
theorem dX7_arrival_44 : decode cX7_arrival 44 = .ok (.aload_n 0, 1) := by decide +kernel
theorem dX7_arrival_45 : decode cX7_arrival 45 = .ok (.getfield 10, 3) := by decide +kernel
theorem dX7_arrival_48 : decode cX7_arrival 48 = .ok (.iload_n 2, 1) := by decide +kernel
theorem dX7_arrival_49 : decode cX7_arrival 49 = .ok (.aload_n 0, 1) := by decide +kernel
theorem dX7_arrival_50 : decode cX7_arrival 50 = .ok (.getfield 72, 3) := by decide +kernel
theorem dX7_arrival_53 : decode cX7_arrival 53 = .ok (.invokevirtual 94, 3) := by decide +kernel
theorem dX7_arrival_56 : decode cX7_arrival 56 = .ok (.iadd, 1) := by decide +kernel
theorem dX7_arrival_57 : decode cX7_arrival 57 = .ok (.ireturn, 1) := by decide +kernel
theorem dX7_weightOf_0 : decode cX7_weightOf 0 = .ok (.aload_n 0, 1) := by decide +kernel
theorem dX7_weightOf_1 : decode cX7_weightOf 1 = .ok (.iload_n 1, 1) := by decide +kernel
theorem dX7_weightOf_2 : decode cX7_weightOf 2 = .ok (.iload_n 2, 1) := by decide +kernel
theorem dX7_weightOf_3 : decode cX7_weightOf 3 = .ok (.invokevirtual 314, 3) := by decide +kernel
theorem dX7_weightOf_6 : decode cX7_weightOf 6 = .ok (.istore_n 3, 1) := by decide +kernel
theorem dX7_weightOf_7 : decode cX7_weightOf 7 = .ok (.iconst 0, 1) := by decide +kernel
theorem dX7_weightOf_8 : decode cX7_weightOf 8 = .ok (.istore 4, 2) := by decide +kernel
theorem dX7_weightOf_10 : decode cX7_weightOf 10 = .ok (.iconst 0, 1) := by decide +kernel
theorem dX7_weightOf_11 : decode cX7_weightOf 11 = .ok (.istore 5, 2) := by decide +kernel
theorem dX7_weightOf_13 : decode cX7_weightOf 13 = .ok (.iload 5, 2) := by decide +kernel
theorem dX7_weightOf_15 : decode cX7_weightOf 15 = .ok (.aload_n 0, 1) := by decide +kernel
theorem dX7_weightOf_16 : decode cX7_weightOf 16 = .ok (.getfield 19, 3) := by decide +kernel
theorem dX7_weightOf_19 : decode cX7_weightOf 19 = .ok (.getfield 159, 3) := by decide +kernel
theorem dX7_weightOf_22 : decode cX7_weightOf 22 = .ok (.if_icmp .ge 30, 3) := by decide +kernel
theorem dX7_weightOf_25 : decode cX7_weightOf 25 = .ok (.iload_n 3, 1) := by decide +kernel
theorem dX7_weightOf_26 : decode cX7_weightOf 26 = .ok (.iload 5, 2) := by decide +kernel
theorem dX7_weightOf_28 : decode cX7_weightOf 28 = .ok (.invokestatic 317, 3) := by decide +kernel
theorem dX7_weightOf_31 : decode cX7_weightOf 31 = .ok (.ifCond .eq 15, 3) := by decide +kernel
theorem dX7_weightOf_34 : decode cX7_weightOf 34 = .ok (.iload 4, 2) := by decide +kernel
theorem dX7_weightOf_36 : decode cX7_weightOf 36 = .ok (.aload_n 0, 1) := by decide +kernel
theorem dX7_weightOf_37 : decode cX7_weightOf 37 = .ok (.iload 5, 2) := by decide +kernel
theorem dX7_weightOf_39 : decode cX7_weightOf 39 = .ok (.iload_n 2, 1) := by decide +kernel
theorem dX7_weightOf_40 : decode cX7_weightOf 40 = .ok (.invokevirtual 320, 3) := by decide +kernel
theorem dX7_weightOf_43 : decode cX7_weightOf 43 = .ok (.iadd, 1) := by decide +kernel
theorem dX7_weightOf_44 : decode cX7_weightOf 44 = .ok (.istore 4, 2) := by decide +kernel
theorem dX7_weightOf_46 : decode cX7_weightOf 46 = .ok (.iinc 5 1, 3) := by decide +kernel
theorem dX7_weightOf_49 : decode cX7_weightOf 49 = .ok (.goto (-36), 3) := by decide +kernel
theorem dX7_weightOf_52 : decode cX7_weightOf 52 = .ok (.iload 4, 2) := by decide +kernel
theorem dX7_weightOf_54 : decode cX7_weightOf 54 = .ok (.ireturn, 1) := by decide +kernel
theorem dX7_voicesHeard_0 : decode cX7_voicesHeard 0 = .ok (.iconst 0, 1) := by decide +kernel
theorem dX7_voicesHeard_1 : decode cX7_voicesHeard 1 = .ok (.istore_n 3, 1) := by decide +kernel
theorem dX7_voicesHeard_2 : decode cX7_voicesHeard 2 = .ok (.aload_n 0, 1) := by decide +kernel
theorem dX7_voicesHeard_3 : decode cX7_voicesHeard 3 = .ok (.getfield 58, 3) := by decide +kernel
theorem dX7_voicesHeard_6 : decode cX7_voicesHeard 6 = .ok (.iconst 2, 1) := by decide +kernel
theorem dX7_voicesHeard_7 : decode cX7_voicesHeard 7 = .ok (.iconst 0, 1) := by decide +kernel
theorem dX7_voicesHeard_8 : decode cX7_voicesHeard 8 = .ok (.iload_n 2, 1) := by decide +kernel
theorem dX7_voicesHeard_9 : decode cX7_voicesHeard 9 = .ok (.invokevirtual 225, 3) := by decide +kernel
theorem dX7_voicesHeard_12 : decode cX7_voicesHeard 12 = .ok (.istore 4, 2) := by decide +kernel
theorem dX7_voicesHeard_14 : decode cX7_voicesHeard 14 = .ok (.iconst 0, 1) := by decide +kernel
theorem dX7_voicesHeard_15 : decode cX7_voicesHeard 15 = .ok (.istore 5, 2) := by decide +kernel
theorem dX7_voicesHeard_17 : decode cX7_voicesHeard 17 = .ok (.iload 5, 2) := by decide +kernel
theorem dX7_voicesHeard_19 : decode cX7_voicesHeard 19 = .ok (.aload_n 0, 1) := by decide +kernel
theorem dX7_voicesHeard_20 : decode cX7_voicesHeard 20 = .ok (.getfield 19, 3) := by decide +kernel
theorem dX7_voicesHeard_23 : decode cX7_voicesHeard 23 = .ok (.getfield 159, 3) := by decide +kernel
theorem dX7_voicesHeard_26 : decode cX7_voicesHeard 26 = .ok (.if_icmp .ge 91, 3) := by decide +kernel
theorem dX7_voicesHeard_29 : decode cX7_voicesHeard 29 = .ok (.aload_n 0, 1) := by decide +kernel
theorem dX7_voicesHeard_30 : decode cX7_voicesHeard 30 = .ok (.getfield 19, 3) := by decide +kernel
theorem dX7_voicesHeard_33 : decode cX7_voicesHeard 33 = .ok (.getfield 173, 3) := by decide +kernel
theorem dX7_voicesHeard_36 : decode cX7_voicesHeard 36 = .ok (.iload 5, 2) := by decide +kernel
theorem dX7_voicesHeard_38 : decode cX7_voicesHeard 38 = .ok (.iaload, 1) := by decide +kernel
theorem dX7_voicesHeard_39 : decode cX7_voicesHeard 39 = .ok (.iload_n 1, 1) := by decide +kernel
theorem dX7_voicesHeard_40 : decode cX7_voicesHeard 40 = .ok (.if_icmp .eq 6, 3) := by decide +kernel
theorem dX7_voicesHeard_43 : decode cX7_voicesHeard 43 = .ok (.goto 68, 3) := by decide +kernel
theorem dX7_voicesHeard_46 : decode cX7_voicesHeard 46 = .ok (.aload_n 0, 1) := by decide +kernel
theorem dX7_voicesHeard_47 : decode cX7_voicesHeard 47 = .ok (.iload 5, 2) := by decide +kernel
theorem dX7_voicesHeard_49 : decode cX7_voicesHeard 49 = .ok (.invokevirtual 235, 3) := by decide +kernel
theorem dX7_voicesHeard_52 : decode cX7_voicesHeard 52 = .ok (.istore 6, 2) := by decide +kernel
theorem dX7_voicesHeard_54 : decode cX7_voicesHeard 54 = .ok (.iload_n 2, 1) := by decide +kernel
theorem dX7_voicesHeard_55 : decode cX7_voicesHeard 55 = .ok (.aload_n 0, 1) := by decide +kernel
theorem dX7_voicesHeard_56 : decode cX7_voicesHeard 56 = .ok (.getfield 30, 3) := by decide +kernel
theorem dX7_voicesHeard_59 : decode cX7_voicesHeard 59 = .ok (.getfield 149, 3) := by decide +kernel
theorem dX7_voicesHeard_62 : decode cX7_voicesHeard 62 = .ok (.aload_n 0, 1) := by decide +kernel
theorem dX7_voicesHeard_63 : decode cX7_voicesHeard 63 = .ok (.getfield 19, 3) := by decide +kernel
theorem dX7_voicesHeard_66 : decode cX7_voicesHeard 66 = .ok (.getfield 311, 3) := by decide +kernel
theorem dX7_voicesHeard_69 : decode cX7_voicesHeard 69 = .ok (.iload 5, 2) := by decide +kernel
theorem dX7_voicesHeard_71 : decode cX7_voicesHeard 71 = .ok (.iaload, 1) := by decide +kernel
theorem dX7_voicesHeard_72 : decode cX7_voicesHeard 72 = .ok (.iaload, 1) := by decide +kernel
theorem dX7_voicesHeard_73 : decode cX7_voicesHeard 73 = .ok (.isub, 1) := by decide +kernel
theorem dX7_voicesHeard_74 : decode cX7_voicesHeard 74 = .ok (.istore 7, 2) := by decide +kernel
theorem dX7_voicesHeard_76 : decode cX7_voicesHeard 76 = .ok (.iload 6, 2) := by decide +kernel
theorem dX7_voicesHeard_78 : decode cX7_voicesHeard 78 = .ok (.bipush (-4), 2) := by decide +kernel
theorem dX7_voicesHeard_80 : decode cX7_voicesHeard 80 = .ok (.if_icmp .eq 31, 3) := by decide +kernel
theorem dX7_voicesHeard_83 : decode cX7_voicesHeard 83 = .ok (.iload 6, 2) := by decide +kernel
theorem dX7_voicesHeard_85 : decode cX7_voicesHeard 85 = .ok (.iload_n 2, 1) := by decide +kernel
theorem dX7_voicesHeard_86 : decode cX7_voicesHeard 86 = .ok (.if_icmp .gt 25, 3) := by decide +kernel
theorem dX7_voicesHeard_89 : decode cX7_voicesHeard 89 = .ok (.iload 7, 2) := by decide +kernel
theorem dX7_voicesHeard_91 : decode cX7_voicesHeard 91 = .ok (.iload 4, 2) := by decide +kernel
theorem dX7_voicesHeard_93 : decode cX7_voicesHeard 93 = .ok (.if_icmp .gt 18, 3) := by decide +kernel
theorem dX7_voicesHeard_96 : decode cX7_voicesHeard 96 = .ok (.iload_n 3, 1) := by decide +kernel
theorem dX7_voicesHeard_97 : decode cX7_voicesHeard 97 = .ok (.iconst 1, 1) := by decide +kernel
theorem dX7_voicesHeard_98 : decode cX7_voicesHeard 98 = .ok (.aload_n 0, 1) := by decide +kernel
theorem dX7_voicesHeard_99 : decode cX7_voicesHeard 99 = .ok (.getfield 37, 3) := by decide +kernel
theorem dX7_voicesHeard_102 : decode cX7_voicesHeard 102 = .ok (.getfield 185, 3) := by decide +kernel
theorem dX7_voicesHeard_105 : decode cX7_voicesHeard 105 = .ok (.iload 5, 2) := by decide +kernel
theorem dX7_voicesHeard_107 : decode cX7_voicesHeard 107 = .ok (.iaload, 1) := by decide +kernel
theorem dX7_voicesHeard_108 : decode cX7_voicesHeard 108 = .ok (.ishl, 1) := by decide +kernel
theorem dX7_voicesHeard_109 : decode cX7_voicesHeard 109 = .ok (.ior, 1) := by decide +kernel
theorem dX7_voicesHeard_110 : decode cX7_voicesHeard 110 = .ok (.istore_n 3, 1) := by decide +kernel
theorem dX7_voicesHeard_111 : decode cX7_voicesHeard 111 = .ok (.iinc 5 1, 3) := by decide +kernel
theorem dX7_voicesHeard_114 : decode cX7_voicesHeard 114 = .ok (.goto (-97), 3) := by decide +kernel
theorem dX7_voicesHeard_117 : decode cX7_voicesHeard 117 = .ok (.iload_n 3, 1) := by decide +kernel
theorem dX7_voicesHeard_118 : decode cX7_voicesHeard 118 = .ok (.ireturn, 1) := by decide +kernel
theorem dX7_weightOfVoice_0 : decode cX7_weightOfVoice 0 = .ok (.aload_n 0, 1) := by decide +kernel
theorem dX7_weightOfVoice_1 : decode cX7_weightOfVoice 1 = .ok (.getfield 58, 3) := by decide +kernel
theorem dX7_weightOfVoice_4 : decode cX7_weightOfVoice 4 = .ok (.iconst 0, 1) := by decide +kernel
theorem dX7_weightOfVoice_5 : decode cX7_weightOfVoice 5 = .ok (.aload_n 0, 1) := by decide +kernel
theorem dX7_weightOfVoice_6 : decode cX7_weightOfVoice 6 = .ok (.getfield 19, 3) := by decide +kernel
theorem dX7_weightOfVoice_9 : decode cX7_weightOfVoice 9 = .ok (.iload_n 1, 1) := by decide +kernel
theorem dX7_weightOfVoice_10 : decode cX7_weightOfVoice 10 = .ok (.invokevirtual 305, 3) := by decide +kernel
theorem dX7_weightOfVoice_13 : decode cX7_weightOfVoice 13 = .ok (.iload_n 2, 1) := by decide +kernel
theorem dX7_weightOfVoice_14 : decode cX7_weightOfVoice 14 = .ok (.invokevirtual 225, 3) := by decide +kernel
theorem dX7_weightOfVoice_17 : decode cX7_weightOfVoice 17 = .ok (.aload_n 0, 1) := by decide +kernel
theorem dX7_weightOfVoice_18 : decode cX7_weightOfVoice 18 = .ok (.getfield 58, 3) := by decide +kernel
theorem dX7_weightOfVoice_21 : decode cX7_weightOfVoice 21 = .ok (.iconst 1, 1) := by decide +kernel
theorem dX7_weightOfVoice_22 : decode cX7_weightOfVoice 22 = .ok (.aload_n 0, 1) := by decide +kernel
theorem dX7_weightOfVoice_23 : decode cX7_weightOfVoice 23 = .ok (.getfield 19, 3) := by decide +kernel
theorem dX7_weightOfVoice_26 : decode cX7_weightOfVoice 26 = .ok (.iload_n 1, 1) := by decide +kernel
theorem dX7_weightOfVoice_27 : decode cX7_weightOfVoice 27 = .ok (.invokevirtual 205, 3) := by decide +kernel
theorem dX7_weightOfVoice_30 : decode cX7_weightOfVoice 30 = .ok (.iload_n 2, 1) := by decide +kernel
theorem dX7_weightOfVoice_31 : decode cX7_weightOfVoice 31 = .ok (.invokevirtual 225, 3) := by decide +kernel
theorem dX7_weightOfVoice_34 : decode cX7_weightOfVoice 34 = .ok (.iadd, 1) := by decide +kernel
theorem dX7_weightOfVoice_35 : decode cX7_weightOfVoice 35 = .ok (.istore_n 3, 1) := by decide +kernel
theorem dX7_weightOfVoice_36 : decode cX7_weightOfVoice 36 = .ok (.aload_n 0, 1) := by decide +kernel
theorem dX7_weightOfVoice_37 : decode cX7_weightOfVoice 37 = .ok (.getfield 19, 3) := by decide +kernel
theorem dX7_weightOfVoice_40 : decode cX7_weightOfVoice 40 = .ok (.iload_n 1, 1) := by decide +kernel
theorem dX7_weightOfVoice_41 : decode cX7_weightOfVoice 41 = .ok (.invokevirtual 195, 3) := by decide +kernel
theorem dX7_weightOfVoice_44 : decode cX7_weightOfVoice 44 = .ok (.ifCond .eq 19, 3) := by decide +kernel
theorem dX7_weightOfVoice_47 : decode cX7_weightOfVoice 47 = .ok (.iload_n 3, 1) := by decide +kernel
theorem dX7_weightOfVoice_48 : decode cX7_weightOfVoice 48 = .ok (.ineg, 1) := by decide +kernel
theorem dX7_weightOfVoice_49 : decode cX7_weightOfVoice 49 = .ok (.aload_n 0, 1) := by decide +kernel
theorem dX7_weightOfVoice_50 : decode cX7_weightOfVoice 50 = .ok (.getfield 58, 3) := by decide +kernel
theorem dX7_weightOfVoice_53 : decode cX7_weightOfVoice 53 = .ok (.iconst 4, 1) := by decide +kernel
theorem dX7_weightOfVoice_54 : decode cX7_weightOfVoice 54 = .ok (.iconst 0, 1) := by decide +kernel
theorem dX7_weightOfVoice_55 : decode cX7_weightOfVoice 55 = .ok (.iload_n 2, 1) := by decide +kernel
theorem dX7_weightOfVoice_56 : decode cX7_weightOfVoice 56 = .ok (.invokevirtual 225, 3) := by decide +kernel
theorem dX7_weightOfVoice_59 : decode cX7_weightOfVoice 59 = .ok (.imul, 1) := by decide +kernel
theorem dX7_weightOfVoice_60 : decode cX7_weightOfVoice 60 = .ok (.goto 4, 3) := by decide +kernel
theorem dX7_weightOfVoice_63 : decode cX7_weightOfVoice 63 = .ok (.iload_n 3, 1) := by decide +kernel
theorem dX7_weightOfVoice_64 : decode cX7_weightOfVoice 64 = .ok (.ireturn, 1) := by decide +kernel
theorem dX7_isForbidden_0 : decode cX7_isForbidden 0 = .ok (.aload_n 0, 1) := by decide +kernel
theorem dX7_isForbidden_1 : decode cX7_isForbidden 1 = .ok (.getfield 19, 3) := by decide +kernel
theorem dX7_isForbidden_4 : decode cX7_isForbidden 4 = .ok (.getfield 311, 3) := by decide +kernel
theorem dX7_isForbidden_7 : decode cX7_isForbidden 7 = .ok (.iload_n 1, 1) := by decide +kernel
theorem dX7_isForbidden_8 : decode cX7_isForbidden 8 = .ok (.iaload, 1) := by decide +kernel
theorem dX7_isForbidden_9 : decode cX7_isForbidden 9 = .ok (.istore_n 2, 1) := by decide +kernel
theorem dX7_isForbidden_10 : decode cX7_isForbidden 10 = .ok (.aload_n 0, 1) := by decide +kernel
theorem dX7_isForbidden_11 : decode cX7_isForbidden 11 = .ok (.getfield 58, 3) := by decide +kernel
theorem dX7_isForbidden_14 : decode cX7_isForbidden 14 = .ok (.aload_n 0, 1) := by decide +kernel
theorem dX7_isForbidden_15 : decode cX7_isForbidden 15 = .ok (.getfield 19, 3) := by decide +kernel
theorem dX7_isForbidden_18 : decode cX7_isForbidden 18 = .ok (.getfield 118, 3) := by decide +kernel
theorem dX7_isForbidden_21 : decode cX7_isForbidden 21 = .ok (.iload_n 2, 1) := by decide +kernel
theorem dX7_isForbidden_22 : decode cX7_isForbidden 22 = .ok (.iaload, 1) := by decide +kernel
theorem dX7_isForbidden_23 : decode cX7_isForbidden 23 = .ok (.aload_n 0, 1) := by decide +kernel
theorem dX7_isForbidden_24 : decode cX7_isForbidden 24 = .ok (.getfield 19, 3) := by decide +kernel
theorem dX7_isForbidden_27 : decode cX7_isForbidden 27 = .ok (.getfield 173, 3) := by decide +kernel
theorem dX7_isForbidden_30 : decode cX7_isForbidden 30 = .ok (.iload_n 1, 1) := by decide +kernel
theorem dX7_isForbidden_31 : decode cX7_isForbidden 31 = .ok (.iaload, 1) := by decide +kernel
theorem dX7_isForbidden_32 : decode cX7_isForbidden 32 = .ok (.aload_n 0, 1) := by decide +kernel
theorem dX7_isForbidden_33 : decode cX7_isForbidden 33 = .ok (.getfield 30, 3) := by decide +kernel
theorem dX7_isForbidden_36 : decode cX7_isForbidden 36 = .ok (.getfield 149, 3) := by decide +kernel
theorem dX7_isForbidden_39 : decode cX7_isForbidden 39 = .ok (.iload_n 2, 1) := by decide +kernel
theorem dX7_isForbidden_40 : decode cX7_isForbidden 40 = .ok (.iaload, 1) := by decide +kernel
theorem dX7_isForbidden_41 : decode cX7_isForbidden 41 = .ok (.aload_n 0, 1) := by decide +kernel
theorem dX7_isForbidden_42 : decode cX7_isForbidden 42 = .ok (.getfield 30, 3) := by decide +kernel
theorem dX7_isForbidden_45 : decode cX7_isForbidden 45 = .ok (.getfield 152, 3) := by decide +kernel
theorem dX7_isForbidden_48 : decode cX7_isForbidden 48 = .ok (.iload_n 2, 1) := by decide +kernel
theorem dX7_isForbidden_49 : decode cX7_isForbidden 49 = .ok (.iaload, 1) := by decide +kernel
theorem dX7_isForbidden_50 : decode cX7_isForbidden 50 = .ok (.invokevirtual 323, 3) := by decide +kernel
theorem dX7_isForbidden_53 : decode cX7_isForbidden 53 = .ok (.ireturn, 1) := by decide +kernel
theorem dX7_isTried_0 : decode cX7_isTried 0 = .ok (.aload_n 0, 1) := by decide +kernel
theorem dX7_isTried_1 : decode cX7_isTried 1 = .ok (.getfield 19, 3) := by decide +kernel
theorem dX7_isTried_4 : decode cX7_isTried 4 = .ok (.iload_n 1, 1) := by decide +kernel
theorem dX7_isTried_5 : decode cX7_isTried 5 = .ok (.invokevirtual 195, 3) := by decide +kernel
theorem dX7_isTried_8 : decode cX7_isTried 8 = .ok (.ifCond .ne 39, 3) := by decide +kernel
theorem dX7_isTried_11 : decode cX7_isTried 11 = .ok (.aload_n 0, 1) := by decide +kernel
theorem dX7_isTried_12 : decode cX7_isTried 12 = .ok (.getfield 37, 3) := by decide +kernel
theorem dX7_isTried_15 : decode cX7_isTried 15 = .ok (.iload_n 1, 1) := by decide +kernel
theorem dX7_isTried_16 : decode cX7_isTried 16 = .ok (.invokevirtual 179, 3) := by decide +kernel
theorem dX7_isTried_19 : decode cX7_isTried 19 = .ok (.ifCond .eq 28, 3) := by decide +kernel
theorem dX7_isTried_22 : decode cX7_isTried 22 = .ok (.aload_n 0, 1) := by decide +kernel
theorem dX7_isTried_23 : decode cX7_isTried 23 = .ok (.getfield 19, 3) := by decide +kernel
theorem dX7_isTried_26 : decode cX7_isTried 26 = .ok (.getfield 244, 3) := by decide +kernel
theorem dX7_isTried_29 : decode cX7_isTried 29 = .ok (.aload_n 0, 1) := by decide +kernel
theorem dX7_isTried_30 : decode cX7_isTried 30 = .ok (.getfield 19, 3) := by decide +kernel
theorem dX7_isTried_33 : decode cX7_isTried 33 = .ok (.getfield 173, 3) := by decide +kernel
theorem dX7_isTried_36 : decode cX7_isTried 36 = .ok (.iload_n 1, 1) := by decide +kernel
theorem dX7_isTried_37 : decode cX7_isTried 37 = .ok (.iaload, 1) := by decide +kernel
theorem dX7_isTried_38 : decode cX7_isTried 38 = .ok (.iaload, 1) := by decide +kernel
theorem dX7_isTried_39 : decode cX7_isTried 39 = .ok (.iconst (-1), 1) := by decide +kernel
theorem dX7_isTried_40 : decode cX7_isTried 40 = .ok (.if_icmp .eq 7, 3) := by decide +kernel
theorem dX7_isTried_43 : decode cX7_isTried 43 = .ok (.iconst 1, 1) := by decide +kernel
theorem dX7_isTried_44 : decode cX7_isTried 44 = .ok (.goto 4, 3) := by decide +kernel
theorem dX7_isTried_47 : decode cX7_isTried 47 = .ok (.iconst 0, 1) := by decide +kernel
theorem dX7_isTried_48 : decode cX7_isTried 48 = .ok (.ireturn, 1) := by decide +kernel
theorem dX7_outcome_0 : decode cX7_outcome 0 = .ok (.aload_n 0, 1) := by decide +kernel
theorem dX7_outcome_1 : decode cX7_outcome 1 = .ok (.getfield 19, 3) := by decide +kernel
theorem dX7_outcome_4 : decode cX7_outcome 4 = .ok (.getfield 308, 3) := by decide +kernel
theorem dX7_outcome_7 : decode cX7_outcome 7 = .ok (.iload_n 1, 1) := by decide +kernel
theorem dX7_outcome_8 : decode cX7_outcome 8 = .ok (.iaload, 1) := by decide +kernel
theorem dX7_outcome_9 : decode cX7_outcome 9 = .ok (.aload_n 0, 1) := by decide +kernel
theorem dX7_outcome_10 : decode cX7_outcome 10 = .ok (.getfield 19, 3) := by decide +kernel
theorem dX7_outcome_13 : decode cX7_outcome 13 = .ok (.getfield 244, 3) := by decide +kernel
theorem dX7_outcome_16 : decode cX7_outcome 16 = .ok (.aload_n 0, 1) := by decide +kernel
theorem dX7_outcome_17 : decode cX7_outcome 17 = .ok (.getfield 19, 3) := by decide +kernel
theorem dX7_outcome_20 : decode cX7_outcome 20 = .ok (.getfield 173, 3) := by decide +kernel
theorem dX7_outcome_23 : decode cX7_outcome 23 = .ok (.iload_n 1, 1) := by decide +kernel
theorem dX7_outcome_24 : decode cX7_outcome 24 = .ok (.iaload, 1) := by decide +kernel
theorem dX7_outcome_25 : decode cX7_outcome 25 = .ok (.iaload, 1) := by decide +kernel
theorem dX7_outcome_26 : decode cX7_outcome 26 = .ok (.isub, 1) := by decide +kernel
theorem dX7_outcome_27 : decode cX7_outcome 27 = .ok (.invokestatic 327, 3) := by decide +kernel
theorem dX7_outcome_30 : decode cX7_outcome 30 = .ok (.istore_n 3, 1) := by decide +kernel
theorem dX7_outcome_31 : decode cX7_outcome 31 = .ok (.iload_n 2, 1) := by decide +kernel
theorem dX7_outcome_32 : decode cX7_outcome 32 = .ok (.ifCond .ne 13, 3) := by decide +kernel
theorem dX7_outcome_35 : decode cX7_outcome 35 = .ok (.iload_n 3, 1) := by decide +kernel
theorem dX7_outcome_36 : decode cX7_outcome 36 = .ok (.ifCond .ne 7, 3) := by decide +kernel
theorem dX7_outcome_39 : decode cX7_outcome 39 = .ok (.iconst 1, 1) := by decide +kernel
theorem dX7_outcome_40 : decode cX7_outcome 40 = .ok (.goto 4, 3) := by decide +kernel
theorem dX7_outcome_43 : decode cX7_outcome 43 = .ok (.iconst 0, 1) := by decide +kernel
theorem dX7_outcome_44 : decode cX7_outcome 44 = .ok (.ireturn, 1) := by decide +kernel
theorem dX7_outcome_45 : decode cX7_outcome 45 = .ok (.iload_n 2, 1) := by decide +kernel
theorem dX7_outcome_46 : decode cX7_outcome 46 = .ok (.iconst 1, 1) := by decide +kernel
theorem dX7_outcome_47 : decode cX7_outcome 47 = .ok (.if_icmp .ne 7, 3) := by decide +kernel
theorem dX7_outcome_50 : decode cX7_outcome 50 = .ok (.iconst 1, 1) := by decide +kernel
theorem dX7_outcome_51 : decode cX7_outcome 51 = .ok (.goto 4, 3) := by decide +kernel
theorem dX7_outcome_54 : decode cX7_outcome 54 = .ok (.iload_n 3, 1) := by decide +kernel
theorem dX7_outcome_55 : decode cX7_outcome 55 = .ok (.ireturn, 1) := by decide +kernel
theorem dX7_choices_0 : decode cX7_choices 0 = .ok (.lconst 1, 1) := by decide +kernel
theorem dX7_choices_1 : decode cX7_choices 1 = .ok (.lstore_n 2, 1) := by decide +kernel
theorem dX7_choices_2 : decode cX7_choices 2 = .ok (.iconst 1, 1) := by decide +kernel
theorem dX7_choices_3 : decode cX7_choices 3 = .ok (.istore 4, 2) := by decide +kernel
theorem dX7_choices_5 : decode cX7_choices 5 = .ok (.iload 4, 2) := by decide +kernel
theorem dX7_choices_7 : decode cX7_choices 7 = .ok (.iload_n 1, 1) := by decide +kernel
theorem dX7_choices_8 : decode cX7_choices 8 = .ok (.if_icmp .gt 23, 3) := by decide +kernel
theorem dX7_choices_11 : decode cX7_choices 11 = .ok (.lload_n 2, 1) := by decide +kernel
theorem dX7_choices_12 : decode cX7_choices 12 = .ok (.iload_n 0, 1) := by decide +kernel
theorem dX7_choices_13 : decode cX7_choices 13 = .ok (.iload_n 1, 1) := by decide +kernel
theorem dX7_choices_14 : decode cX7_choices 14 = .ok (.isub, 1) := by decide +kernel
theorem dX7_choices_15 : decode cX7_choices 15 = .ok (.iload 4, 2) := by decide +kernel
theorem dX7_choices_17 : decode cX7_choices 17 = .ok (.iadd, 1) := by decide +kernel
theorem dX7_choices_18 : decode cX7_choices 18 = .ok (.i2l, 1) := by decide +kernel
theorem dX7_choices_19 : decode cX7_choices 19 = .ok (.lmul, 1) := by decide +kernel
theorem dX7_choices_20 : decode cX7_choices 20 = .ok (.iload 4, 2) := by decide +kernel
theorem dX7_choices_22 : decode cX7_choices 22 = .ok (.i2l, 1) := by decide +kernel
theorem dX7_choices_23 : decode cX7_choices 23 = .ok (.ldiv, 1) := by decide +kernel
theorem dX7_choices_24 : decode cX7_choices 24 = .ok (.lstore_n 2, 1) := by decide +kernel
theorem dX7_choices_25 : decode cX7_choices 25 = .ok (.iinc 4 1, 3) := by decide +kernel
theorem dX7_choices_28 : decode cX7_choices 28 = .ok (.goto (-23), 3) := by decide +kernel
theorem dX7_choices_31 : decode cX7_choices 31 = .ok (.lload_n 2, 1) := by decide +kernel
theorem dX7_choices_32 : decode cX7_choices 32 = .ok (.lreturn, 1) := by decide +kernel
theorem dX7_power_0 : decode cX7_power 0 = .ok (.lconst 1, 1) := by decide +kernel
theorem dX7_power_1 : decode cX7_power 1 = .ok (.lstore_n 2, 1) := by decide +kernel
theorem dX7_power_2 : decode cX7_power 2 = .ok (.iconst 0, 1) := by decide +kernel
theorem dX7_power_3 : decode cX7_power 3 = .ok (.istore 4, 2) := by decide +kernel
theorem dX7_power_5 : decode cX7_power 5 = .ok (.iload 4, 2) := by decide +kernel
theorem dX7_power_7 : decode cX7_power 7 = .ok (.iload_n 1, 1) := by decide +kernel
theorem dX7_power_8 : decode cX7_power 8 = .ok (.if_icmp .ge 14, 3) := by decide +kernel
theorem dX7_power_11 : decode cX7_power 11 = .ok (.lload_n 2, 1) := by decide +kernel
theorem dX7_power_12 : decode cX7_power 12 = .ok (.iload_n 0, 1) := by decide +kernel
theorem dX7_power_13 : decode cX7_power 13 = .ok (.i2l, 1) := by decide +kernel
theorem dX7_power_14 : decode cX7_power 14 = .ok (.lmul, 1) := by decide +kernel
theorem dX7_power_15 : decode cX7_power 15 = .ok (.lstore_n 2, 1) := by decide +kernel
theorem dX7_power_16 : decode cX7_power 16 = .ok (.iinc 4 1, 3) := by decide +kernel
theorem dX7_power_19 : decode cX7_power 19 = .ok (.goto (-14), 3) := by decide +kernel
theorem dX7_power_22 : decode cX7_power 22 = .ok (.lload_n 2, 1) := by decide +kernel
theorem dX7_power_23 : decode cX7_power 23 = .ok (.lreturn, 1) := by decide +kernel
theorem dX7_firstKnown_0 : decode cX7_firstKnown 0 = .ok (.aload_n 0, 1) := by decide +kernel
theorem dX7_firstKnown_1 : decode cX7_firstKnown 1 = .ok (.getfield 19, 3) := by decide +kernel
theorem dX7_firstKnown_4 : decode cX7_firstKnown 4 = .ok (.getfield 139, 3) := by decide +kernel
theorem dX7_firstKnown_7 : decode cX7_firstKnown 7 = .ok (.iload_n 1, 1) := by decide +kernel
theorem dX7_firstKnown_8 : decode cX7_firstKnown 8 = .ok (.iaload, 1) := by decide +kernel
theorem dX7_firstKnown_9 : decode cX7_firstKnown 9 = .ok (.istore_n 3, 1) := by decide +kernel
theorem dX7_firstKnown_10 : decode cX7_firstKnown 10 = .ok (.aload_n 0, 1) := by decide +kernel
theorem dX7_firstKnown_11 : decode cX7_firstKnown 11 = .ok (.getfield 10, 3) := by decide +kernel
theorem dX7_firstKnown_14 : decode cX7_firstKnown 14 = .ok (.iload_n 3, 1) := by decide +kernel
theorem dX7_firstKnown_15 : decode cX7_firstKnown 15 = .ok (.iload_n 2, 1) := by decide +kernel
theorem dX7_firstKnown_16 : decode cX7_firstKnown 16 = .ok (.invokevirtual 90, 3) := by decide +kernel
theorem dX7_firstKnown_19 : decode cX7_firstKnown 19 = .ok (.ifCond .ne 6, 3) := by decide +kernel
theorem dX7_firstKnown_22 : decode cX7_firstKnown 22 = .ok (.bipush (-4), 2) := by decide +kernel
theorem dX7_firstKnown_24 : decode cX7_firstKnown 24 = .ok (.ireturn, 1) := by decide +kernel
theorem dX7_firstKnown_25 : decode cX7_firstKnown 25 = .ok (.aload_n 0, 1) := by decide +kernel
theorem dX7_firstKnown_26 : decode cX7_firstKnown 26 = .ok (.getfield 19, 3) := by decide +kernel
theorem dX7_firstKnown_29 : decode cX7_firstKnown 29 = .ok (.getfield 142, 3) := by decide +kernel
theorem dX7_firstKnown_32 : decode cX7_firstKnown 32 = .ok (.iload_n 1, 1) := by decide +kernel
theorem dX7_firstKnown_33 : decode cX7_firstKnown 33 = .ok (.iaload, 1) := by decide +kernel
theorem dX7_firstKnown_34 : decode cX7_firstKnown 34 = .ok (.aload_n 0, 1) := by decide +kernel
theorem dX7_firstKnown_35 : decode cX7_firstKnown 35 = .ok (.getfield 10, 3) := by decide +kernel
theorem dX7_firstKnown_38 : decode cX7_firstKnown 38 = .ok (.iload_n 3, 1) := by decide +kernel
theorem dX7_firstKnown_39 : decode cX7_firstKnown 39 = .ok (.iload_n 2, 1) := by decide +kernel
theorem dX7_firstKnown_40 : decode cX7_firstKnown 40 = .ok (.invokevirtual 94, 3) := by decide +kernel
theorem dX7_firstKnown_43 : decode cX7_firstKnown 43 = .ok (.iadd, 1) := by decide +kernel
theorem dX7_firstKnown_44 : decode cX7_firstKnown 44 = .ok (.ireturn, 1) := by decide +kernel
theorem dX7_lagBehind_0 : decode cX7_lagBehind 0 = .ok (.bipush (-4), 2) := by decide +kernel
theorem dX7_lagBehind_2 : decode cX7_lagBehind 2 = .ok (.istore_n 3, 1) := by decide +kernel
theorem dX7_lagBehind_3 : decode cX7_lagBehind 3 = .ok (.iconst 0, 1) := by decide +kernel
theorem dX7_lagBehind_4 : decode cX7_lagBehind 4 = .ok (.istore 4, 2) := by decide +kernel
theorem dX7_lagBehind_6 : decode cX7_lagBehind 6 = .ok (.iload 4, 2) := by decide +kernel
theorem dX7_lagBehind_8 : decode cX7_lagBehind 8 = .ok (.bipush 6, 2) := by decide +kernel
theorem dX7_lagBehind_10 : decode cX7_lagBehind 10 = .ok (.if_icmp .ge 43, 3) := by decide +kernel
theorem dX7_lagBehind_13 : decode cX7_lagBehind 13 = .ok (.aload_n 0, 1) := by decide +kernel
theorem dX7_lagBehind_14 : decode cX7_lagBehind 14 = .ok (.iload_n 1, 1) := by decide +kernel
theorem dX7_lagBehind_15 : decode cX7_lagBehind 15 = .ok (.iload 4, 2) := by decide +kernel
theorem dX7_lagBehind_17 : decode cX7_lagBehind 17 = .ok (.invokevirtual 262, 3) := by decide +kernel
theorem dX7_lagBehind_20 : decode cX7_lagBehind 20 = .ok (.istore 5, 2) := by decide +kernel
theorem dX7_lagBehind_22 : decode cX7_lagBehind 22 = .ok (.iload 5, 2) := by decide +kernel
theorem dX7_lagBehind_24 : decode cX7_lagBehind 24 = .ok (.iload_n 2, 1) := by decide +kernel
theorem dX7_lagBehind_25 : decode cX7_lagBehind 25 = .ok (.if_icmp .le 22, 3) := by decide +kernel
theorem dX7_lagBehind_28 : decode cX7_lagBehind 28 = .ok (.iload_n 3, 1) := by decide +kernel
theorem dX7_lagBehind_29 : decode cX7_lagBehind 29 = .ok (.bipush (-4), 2) := by decide +kernel
theorem dX7_lagBehind_31 : decode cX7_lagBehind 31 = .ok (.if_icmp .eq 11, 3) := by decide +kernel
theorem dX7_lagBehind_34 : decode cX7_lagBehind 34 = .ok (.iload 5, 2) := by decide +kernel
theorem dX7_lagBehind_36 : decode cX7_lagBehind 36 = .ok (.iload_n 2, 1) := by decide +kernel
theorem dX7_lagBehind_37 : decode cX7_lagBehind 37 = .ok (.isub, 1) := by decide +kernel
theorem dX7_lagBehind_38 : decode cX7_lagBehind 38 = .ok (.iload_n 3, 1) := by decide +kernel
theorem dX7_lagBehind_39 : decode cX7_lagBehind 39 = .ok (.if_icmp .ge 8, 3) := by decide +kernel
theorem dX7_lagBehind_42 : decode cX7_lagBehind 42 = .ok (.iload 5, 2) := by decide +kernel
theorem dX7_lagBehind_44 : decode cX7_lagBehind 44 = .ok (.iload_n 2, 1) := by decide +kernel
theorem dX7_lagBehind_45 : decode cX7_lagBehind 45 = .ok (.isub, 1) := by decide +kernel
theorem dX7_lagBehind_46 : decode cX7_lagBehind 46 = .ok (.istore_n 3, 1) := by decide +kernel
theorem dX7_lagBehind_47 : decode cX7_lagBehind 47 = .ok (.iinc 4 1, 3) := by decide +kernel
theorem dX7_lagBehind_50 : decode cX7_lagBehind 50 = .ok (.goto (-44), 3) := by decide +kernel
theorem dX7_lagBehind_53 : decode cX7_lagBehind 53 = .ok (.iload_n 3, 1) := by decide +kernel
theorem dX7_lagBehind_54 : decode cX7_lagBehind 54 = .ok (.ireturn, 1) := by decide +kernel
theorem dX8_init_0 : decode cX8_init 0 = .ok (.aload_n 0, 1) := by decide +kernel
theorem dX8_init_1 : decode cX8_init 1 = .ok (.invokespecial 1, 3) := by decide +kernel
theorem dX8_init_4 : decode cX8_init 4 = .ok (.aload_n 0, 1) := by decide +kernel
theorem dX8_init_5 : decode cX8_init 5 = .ok (.bipush 36, 2) := by decide +kernel
theorem dX8_init_7 : decode cX8_init 7 = .ok (.newarray .int, 2) := by decide +kernel
theorem dX8_init_9 : decode cX8_init 9 = .ok (.putfield 7, 3) := by decide +kernel
theorem dX8_init_12 : decode cX8_init 12 = .ok (.aload_n 0, 1) := by decide +kernel
theorem dX8_init_13 : decode cX8_init 13 = .ok (.bipush 36, 2) := by decide +kernel
theorem dX8_init_15 : decode cX8_init 15 = .ok (.newarray .int, 2) := by decide +kernel
theorem dX8_init_17 : decode cX8_init 17 = .ok (.putfield 13, 3) := by decide +kernel
theorem dX8_init_20 : decode cX8_init 20 = .ok (.aload_n 0, 1) := by decide +kernel
theorem dX8_init_21 : decode cX8_init 21 = .ok (.bipush 36, 2) := by decide +kernel
theorem dX8_init_23 : decode cX8_init 23 = .ok (.newarray .int, 2) := by decide +kernel
theorem dX8_init_25 : decode cX8_init 25 = .ok (.putfield 16, 3) := by decide +kernel
theorem dX8_init_28 : decode cX8_init 28 = .ok (.aload_n 0, 1) := by decide +kernel
theorem dX8_init_29 : decode cX8_init 29 = .ok (.iconst 3, 1) := by decide +kernel
theorem dX8_init_30 : decode cX8_init 30 = .ok (.newarray .int, 2) := by decide +kernel
theorem dX8_init_32 : decode cX8_init 32 = .ok (.putfield 19, 3) := by decide +kernel
theorem dX8_init_35 : decode cX8_init 35 = .ok (.aload_n 0, 1) := by decide +kernel
theorem dX8_init_36 : decode cX8_init 36 = .ok (.bipush 108, 2) := by decide +kernel
theorem dX8_init_38 : decode cX8_init 38 = .ok (.newarray .int, 2) := by decide +kernel
theorem dX8_init_40 : decode cX8_init 40 = .ok (.putfield 22, 3) := by decide +kernel
theorem dX8_init_43 : decode cX8_init 43 = .ok (.aload_n 0, 1) := by decide +kernel
theorem dX8_init_44 : decode cX8_init 44 = .ok (.iconst 3, 1) := by decide +kernel
theorem dX8_init_45 : decode cX8_init 45 = .ok (.newarray .int, 2) := by decide +kernel
theorem dX8_init_47 : decode cX8_init 47 = .ok (.putfield 25, 3) := by decide +kernel
theorem dX8_init_50 : decode cX8_init 50 = .ok (.aload_n 0, 1) := by decide +kernel
theorem dX8_init_51 : decode cX8_init 51 = .ok (.bipush 120, 2) := by decide +kernel
theorem dX8_init_53 : decode cX8_init 53 = .ok (.newarray .int, 2) := by decide +kernel
theorem dX8_init_55 : decode cX8_init 55 = .ok (.putfield 28, 3) := by decide +kernel
theorem dX8_init_58 : decode cX8_init 58 = .ok (.aload_n 0, 1) := by decide +kernel
theorem dX8_init_59 : decode cX8_init 59 = .ok (.iconst 3, 1) := by decide +kernel
theorem dX8_init_60 : decode cX8_init 60 = .ok (.newarray .int, 2) := by decide +kernel
theorem dX8_init_62 : decode cX8_init 62 = .ok (.putfield 31, 3) := by decide +kernel
theorem dX8_init_65 : decode cX8_init 65 = .ok (.aload_n 0, 1) := by decide +kernel
theorem dX8_init_66 : decode cX8_init 66 = .ok (.sipush 540, 3) := by decide +kernel
theorem dX8_init_69 : decode cX8_init 69 = .ok (.newarray .int, 2) := by decide +kernel
theorem dX8_init_71 : decode cX8_init 71 = .ok (.putfield 34, 3) := by decide +kernel
theorem dX8_init_74 : decode cX8_init 74 = .ok (.aload_n 0, 1) := by decide +kernel
theorem dX8_init_75 : decode cX8_init 75 = .ok (.bipush 60, 2) := by decide +kernel
theorem dX8_init_77 : decode cX8_init 77 = .ok (.newarray .int, 2) := by decide +kernel
theorem dX8_init_79 : decode cX8_init 79 = .ok (.putfield 37, 3) := by decide +kernel
theorem dX8_init_82 : decode cX8_init 82 = .ok (.aload_n 0, 1) := by decide +kernel
theorem dX8_init_83 : decode cX8_init 83 = .ok (.bipush 30, 2) := by decide +kernel
theorem dX8_init_85 : decode cX8_init 85 = .ok (.newarray .int, 2) := by decide +kernel
theorem dX8_init_87 : decode cX8_init 87 = .ok (.putfield 40, 3) := by decide +kernel
theorem dX8_init_90 : decode cX8_init 90 = .ok (.aload_n 0, 1) := by decide +kernel
theorem dX8_init_91 : decode cX8_init 91 = .ok (.bipush 12, 2) := by decide +kernel
theorem dX8_init_93 : decode cX8_init 93 = .ok (.putfield 43, 3) := by decide +kernel
theorem dX8_init_96 : decode cX8_init 96 = .ok (.aload_n 0, 1) := by decide +kernel
theorem dX8_init_97 : decode cX8_init 97 = .ok (.sipush 200, 3) := by decide +kernel
theorem dX8_init_100 : decode cX8_init 100 = .ok (.newarray .int, 2) := by decide +kernel
theorem dX8_init_102 : decode cX8_init 102 = .ok (.putfield 47, 3) := by decide +kernel
theorem dX8_init_105 : decode cX8_init 105 = .ok (.aload_n 0, 1) := by decide +kernel
theorem dX8_init_106 : decode cX8_init 106 = .ok (.iconst 2, 1) := by decide +kernel
theorem dX8_init_107 : decode cX8_init 107 = .ok (.newarray .int, 2) := by decide +kernel
theorem dX8_init_109 : decode cX8_init 109 = .ok (.putfield 50, 3) := by decide +kernel
theorem dX8_init_112 : decode cX8_init 112 = .ok (.aload_n 0, 1) := by decide +kernel
theorem dX8_init_113 : decode cX8_init 113 = .ok (.sipush 400, 3) := by decide +kernel
theorem dX8_init_116 : decode cX8_init 116 = .ok (.newarray .int, 2) := by decide +kernel
theorem dX8_init_118 : decode cX8_init 118 = .ok (.putfield 53, 3) := by decide +kernel
theorem dX8_init_121 : decode cX8_init 121 = .ok (.aload_n 0, 1) := by decide +kernel
theorem dX8_init_122 : decode cX8_init 122 = .ok (.bipush 24, 2) := by decide +kernel
theorem dX8_init_124 : decode cX8_init 124 = .ok (.newarray .int, 2) := by decide +kernel
theorem dX8_init_126 : decode cX8_init 126 = .ok (.putfield 56, 3) := by decide +kernel
theorem dX8_init_129 : decode cX8_init 129 = .ok (.aload_n 0, 1) := by decide +kernel
theorem dX8_init_130 : decode cX8_init 130 = .ok (.bipush 6, 2) := by decide +kernel
theorem dX8_init_132 : decode cX8_init 132 = .ok (.newarray .int, 2) := by decide +kernel
theorem dX8_init_134 : decode cX8_init 134 = .ok (.putfield 59, 3) := by decide +kernel
theorem dX8_init_137 : decode cX8_init 137 = .ok (.aload_n 0, 1) := by decide +kernel
theorem dX8_init_138 : decode cX8_init 138 = .ok (.bipush 12, 2) := by decide +kernel
theorem dX8_init_140 : decode cX8_init 140 = .ok (.newarray .int, 2) := by decide +kernel
theorem dX8_init_142 : decode cX8_init 142 = .ok (.putfield 62, 3) := by decide +kernel
theorem dX8_init_145 : decode cX8_init 145 = .ok (.aload_n 0, 1) := by decide +kernel
theorem dX8_init_146 : decode cX8_init 146 = .ok (.bipush 12, 2) := by decide +kernel
theorem dX8_init_148 : decode cX8_init 148 = .ok (.newarray .int, 2) := by decide +kernel
theorem dX8_init_150 : decode cX8_init 150 = .ok (.putfield 65, 3) := by decide +kernel
theorem dX8_init_153 : decode cX8_init 153 = .ok (.aload_n 0, 1) := by decide +kernel
theorem dX8_init_154 : decode cX8_init 154 = .ok (.bipush 30, 2) := by decide +kernel
theorem dX8_init_156 : decode cX8_init 156 = .ok (.newarray .int, 2) := by decide +kernel
theorem dX8_init_158 : decode cX8_init 158 = .ok (.putfield 68, 3) := by decide +kernel
theorem dX8_init_161 : decode cX8_init 161 = .ok (.aload_n 0, 1) := by decide +kernel
theorem dX8_init_162 : decode cX8_init 162 = .ok (.iconst 4, 1) := by decide +kernel
theorem dX8_init_163 : decode cX8_init 163 = .ok (.newarray .int, 2) := by decide +kernel
theorem dX8_init_165 : decode cX8_init 165 = .ok (.putfield 71, 3) := by decide +kernel
theorem dX8_init_168 : decode cX8_init 168 = .ok (.iconst 0, 1) := by decide +kernel
theorem dX8_init_169 : decode cX8_init 169 = .ok (.istore_n 1, 1) := by decide +kernel
theorem dX8_init_170 : decode cX8_init 170 = .ok (.iload_n 1, 1) := by decide +kernel
theorem dX8_init_171 : decode cX8_init 171 = .ok (.bipush 10, 2) := by decide +kernel
theorem dX8_init_173 : decode cX8_init 173 = .ok (.if_icmp .ge 25, 3) := by decide +kernel
theorem dX8_init_176 : decode cX8_init 176 = .ok (.aload_n 0, 1) := by decide +kernel
theorem dX8_init_177 : decode cX8_init 177 = .ok (.getfield 37, 3) := by decide +kernel
theorem dX8_init_180 : decode cX8_init 180 = .ok (.iconst 2, 1) := by decide +kernel
theorem dX8_init_181 : decode cX8_init 181 = .ok (.iload_n 1, 1) := by decide +kernel
theorem dX8_init_182 : decode cX8_init 182 = .ok (.imul, 1) := by decide +kernel
theorem dX8_init_183 : decode cX8_init 183 = .ok (.iconst (-1), 1) := by decide +kernel
theorem dX8_init_184 : decode cX8_init 184 = .ok (.iastore, 1) := by decide +kernel
theorem dX8_init_185 : decode cX8_init 185 = .ok (.aload_n 0, 1) := by decide +kernel
theorem dX8_init_186 : decode cX8_init 186 = .ok (.getfield 40, 3) := by decide +kernel
theorem dX8_init_189 : decode cX8_init 189 = .ok (.iload_n 1, 1) := by decide +kernel
theorem dX8_init_190 : decode cX8_init 190 = .ok (.iconst (-1), 1) := by decide +kernel
theorem dX8_init_191 : decode cX8_init 191 = .ok (.iastore, 1) := by decide +kernel
theorem dX8_init_192 : decode cX8_init 192 = .ok (.iinc 1 1, 3) := by decide +kernel
theorem dX8_init_195 : decode cX8_init 195 = .ok (.goto (-25), 3) := by decide +kernel
theorem dX8_init_198 : decode cX8_init 198 = .ok (.aload_n 0, 1) := by decide +kernel
theorem dX8_init_199 : decode cX8_init 199 = .ok (.invokevirtual 74, 3) := by decide +kernel
theorem dX8_init_202 : decode cX8_init 202 = .ok (.return_, 1) := by decide +kernel
theorem dX8_in_0 : decode cX8_in 0 = .ok (.lload_n 0, 1) := by decide +kernel
theorem dX8_in_1 : decode cX8_in 1 = .ok (.lload_n 2, 1) := by decide +kernel
theorem dX8_in_2 : decode cX8_in 2 = .ok (.lcmp, 1) := by decide +kernel
theorem dX8_in_3 : decode cX8_in 3 = .ok (.ifCond .lt 14, 3) := by decide +kernel
theorem dX8_in_6 : decode cX8_in 6 = .ok (.lload_n 0, 1) := by decide +kernel
theorem dX8_in_7 : decode cX8_in 7 = .ok (.lload 4, 2) := by decide +kernel
theorem dX8_in_9 : decode cX8_in 9 = .ok (.lcmp, 1) := by decide +kernel
theorem dX8_in_10 : decode cX8_in 10 = .ok (.ifCond .gt 7, 3) := by decide +kernel
theorem dX8_in_13 : decode cX8_in 13 = .ok (.iconst 1, 1) := by decide +kernel
theorem dX8_in_14 : decode cX8_in 14 = .ok (.goto 4, 3) := by decide +kernel
theorem dX8_in_17 : decode cX8_in 17 = .ok (.iconst 0, 1) := by decide +kernel
theorem dX8_in_18 : decode cX8_in 18 = .ok (.ireturn, 1) := by decide +kernel
theorem dX8_isTown_0 : decode cX8_isTown 0 = .ok (.iload_n 0, 1) := by decide +kernel
theorem dX8_isTown_1 : decode cX8_isTown 1 = .ok (.i2l, 1) := by decide +kernel
theorem dX8_isTown_2 : decode cX8_isTown 2 = .ok (.lconst 0, 1) := by decide +kernel
theorem dX8_isTown_3 : decode cX8_isTown 3 = .ok (.ldc2_w 77, 3) := by decide +kernel
theorem dX8_isTown_6 : decode cX8_isTown 6 = .ok (.invokestatic 79, 3) := by decide +kernel
theorem dX8_isTown_9 : decode cX8_isTown 9 = .ok (.ireturn, 1) := by decide +kernel
theorem dX8_isDay_0 : decode cX8_isDay 0 = .ok (.iload_n 0, 1) := by decide +kernel
theorem dX8_isDay_1 : decode cX8_isDay 1 = .ok (.i2l, 1) := by decide +kernel
theorem dX8_isDay_2 : decode cX8_isDay 2 = .ok (.lconst 0, 1) := by decide +kernel
theorem dX8_isDay_3 : decode cX8_isDay 3 = .ok (.ldc2_w 83, 3) := by decide +kernel
theorem dX8_isDay_6 : decode cX8_isDay 6 = .ok (.invokestatic 79, 3) := by decide +kernel
theorem dX8_isDay_9 : decode cX8_isDay 9 = .ok (.ireturn, 1) := by decide +kernel
theorem dX8_isThing_0 : decode cX8_isThing 0 = .ok (.iload_n 0, 1) := by decide +kernel
theorem dX8_isThing_1 : decode cX8_isThing 1 = .ok (.i2l, 1) := by decide +kernel
theorem dX8_isThing_2 : decode cX8_isThing 2 = .ok (.lconst 0, 1) := by decide +kernel
theorem dX8_isThing_3 : decode cX8_isThing 3 = .ok (.ldc2_w 85, 3) := by decide +kernel
theorem dX8_isThing_6 : decode cX8_isThing 6 = .ok (.invokestatic 79, 3) := by decide +kernel
theorem dX8_isThing_9 : decode cX8_isThing 9 = .ok (.ireturn, 1) := by decide +kernel
theorem dX8_isSheet_0 : decode cX8_isSheet 0 = .ok (.iload_n 1, 1) := by decide +kernel
theorem dX8_isSheet_1 : decode cX8_isSheet 1 = .ok (.i2l, 1) := by decide +kernel
theorem dX8_isSheet_2 : decode cX8_isSheet 2 = .ok (.lconst 0, 1) := by decide +kernel
theorem dX8_isSheet_3 : decode cX8_isSheet 3 = .ok (.aload_n 0, 1) := by decide +kernel
theorem dX8_isSheet_4 : decode cX8_isSheet 4 = .ok (.getfield 19, 3) := by decide +kernel
theorem dX8_isSheet_7 : decode cX8_isSheet 7 = .ok (.iconst 0, 1) := by decide +kernel
theorem dX8_isSheet_8 : decode cX8_isSheet 8 = .ok (.iaload, 1) := by decide +kernel
theorem dX8_isSheet_9 : decode cX8_isSheet 9 = .ok (.iconst 1, 1) := by decide +kernel
theorem dX8_isSheet_10 : decode cX8_isSheet 10 = .ok (.isub, 1) := by decide +kernel
theorem dX8_isSheet_11 : decode cX8_isSheet 11 = .ok (.i2l, 1) := by decide +kernel
theorem dX8_isSheet_12 : decode cX8_isSheet 12 = .ok (.invokestatic 79, 3) := by decide +kernel
theorem dX8_isSheet_15 : decode cX8_isSheet 15 = .ok (.ireturn, 1) := by decide +kernel
theorem dX8_isSaying_0 : decode cX8_isSaying 0 = .ok (.iload_n 1, 1) := by decide +kernel
theorem dX8_isSaying_1 : decode cX8_isSaying 1 = .ok (.i2l, 1) := by decide +kernel
theorem dX8_isSaying_2 : decode cX8_isSaying 2 = .ok (.lconst 0, 1) := by decide +kernel
theorem dX8_isSaying_3 : decode cX8_isSaying 3 = .ok (.aload_n 0, 1) := by decide +kernel
theorem dX8_isSaying_4 : decode cX8_isSaying 4 = .ok (.getfield 31, 3) := by decide +kernel
theorem dX8_isSaying_7 : decode cX8_isSaying 7 = .ok (.iconst 0, 1) := by decide +kernel
theorem dX8_isSaying_8 : decode cX8_isSaying 8 = .ok (.iaload, 1) := by decide +kernel
theorem dX8_isSaying_9 : decode cX8_isSaying 9 = .ok (.iconst 1, 1) := by decide +kernel
theorem dX8_isSaying_10 : decode cX8_isSaying 10 = .ok (.isub, 1) := by decide +kernel
theorem dX8_isSaying_11 : decode cX8_isSaying 11 = .ok (.i2l, 1) := by decide +kernel
theorem dX8_isSaying_12 : decode cX8_isSaying 12 = .ok (.invokestatic 79, 3) := by decide +kernel
theorem dX8_isSaying_15 : decode cX8_isSaying 15 = .ok (.ireturn, 1) := by decide +kernel
theorem dX8_layWays_0 : decode cX8_layWays 0 = .ok (.iconst 0, 1) := by decide +kernel
theorem dX8_layWays_1 : decode cX8_layWays 1 = .ok (.istore_n 1, 1) := by decide +kernel
theorem dX8_layWays_2 : decode cX8_layWays 2 = .ok (.iload_n 1, 1) := by decide +kernel
theorem dX8_layWays_3 : decode cX8_layWays 3 = .ok (.bipush 6, 2) := by decide +kernel
theorem dX8_layWays_5 : decode cX8_layWays 5 = .ok (.if_icmp .ge 73, 3) := by decide +kernel
theorem dX8_layWays_8 : decode cX8_layWays 8 = .ok (.iconst 0, 1) := by decide +kernel
theorem dX8_layWays_9 : decode cX8_layWays 9 = .ok (.istore_n 2, 1) := by decide +kernel
theorem dX8_layWays_10 : decode cX8_layWays 10 = .ok (.iload_n 2, 1) := by decide +kernel
theorem dX8_layWays_11 : decode cX8_layWays 11 = .ok (.bipush 6, 2) := by decide +kernel
theorem dX8_layWays_13 : decode cX8_layWays 13 = .ok (.if_icmp .ge 59, 3) := by decide +kernel
theorem dX8_layWays_16 : decode cX8_layWays 16 = .ok (.aload_n 0, 1) := by decide +kernel
theorem dX8_layWays_17 : decode cX8_layWays 17 = .ok (.getfield 16, 3) := by decide +kernel
theorem dX8_layWays_20 : decode cX8_layWays 20 = .ok (.bipush 6, 2) := by decide +kernel
theorem dX8_layWays_22 : decode cX8_layWays 22 = .ok (.iload_n 1, 1) := by decide +kernel
theorem dX8_layWays_23 : decode cX8_layWays 23 = .ok (.imul, 1) := by decide +kernel
theorem dX8_layWays_24 : decode cX8_layWays 24 = .ok (.iload_n 2, 1) := by decide +kernel
theorem dX8_layWays_25 : decode cX8_layWays 25 = .ok (.iadd, 1) := by decide +kernel
theorem dX8_layWays_26 : decode cX8_layWays 26 = .ok (.iload_n 1, 1) := by decide +kernel
theorem dX8_layWays_27 : decode cX8_layWays 27 = .ok (.iload_n 2, 1) := by decide +kernel
theorem dX8_layWays_28 : decode cX8_layWays 28 = .ok (.if_icmp .ne 7, 3) := by decide +kernel
theorem dX8_layWays_31 : decode cX8_layWays 31 = .ok (.iconst 0, 1) := by decide +kernel
theorem dX8_layWays_32 : decode cX8_layWays 32 = .ok (.goto 33, 3) := by decide +kernel
theorem dX8_layWays_35 : decode cX8_layWays 35 = .ok (.aload_n 0, 1) := by decide +kernel
theorem dX8_layWays_36 : decode cX8_layWays 36 = .ok (.getfield 7, 3) := by decide +kernel
theorem dX8_layWays_39 : decode cX8_layWays 39 = .ok (.bipush 6, 2) := by decide +kernel
theorem dX8_layWays_41 : decode cX8_layWays 41 = .ok (.iload_n 1, 1) := by decide +kernel
theorem dX8_layWays_42 : decode cX8_layWays 42 = .ok (.imul, 1) := by decide +kernel
theorem dX8_layWays_43 : decode cX8_layWays 43 = .ok (.iload_n 2, 1) := by decide +kernel
theorem dX8_layWays_44 : decode cX8_layWays 44 = .ok (.iadd, 1) := by decide +kernel
theorem dX8_layWays_45 : decode cX8_layWays 45 = .ok (.iaload, 1) := by decide +kernel
theorem dX8_layWays_46 : decode cX8_layWays 46 = .ok (.ifCond .le 17, 3) := by decide +kernel
theorem dX8_layWays_49 : decode cX8_layWays 49 = .ok (.aload_n 0, 1) := by decide +kernel
theorem dX8_layWays_50 : decode cX8_layWays 50 = .ok (.getfield 7, 3) := by decide +kernel
theorem dX8_layWays_53 : decode cX8_layWays 53 = .ok (.bipush 6, 2) := by decide +kernel
theorem dX8_layWays_55 : decode cX8_layWays 55 = .ok (.iload_n 1, 1) := by decide +kernel
theorem dX8_layWays_56 : decode cX8_layWays 56 = .ok (.imul, 1) := by decide +kernel
theorem dX8_layWays_57 : decode cX8_layWays 57 = .ok (.iload_n 2, 1) := by decide +kernel
theorem dX8_layWays_58 : decode cX8_layWays 58 = .ok (.iadd, 1) := by decide +kernel
theorem dX8_layWays_59 : decode cX8_layWays 59 = .ok (.iaload, 1) := by decide +kernel
theorem dX8_layWays_60 : decode cX8_layWays 60 = .ok (.goto 5, 3) := by decide +kernel
theorem dX8_layWays_63 : decode cX8_layWays 63 = .ok (.bipush (-4), 2) := by decide +kernel
theorem dX8_layWays_65 : decode cX8_layWays 65 = .ok (.iastore, 1) := by decide +kernel
theorem dX8_layWays_66 : decode cX8_layWays 66 = .ok (.iinc 2 1, 3) := by decide +kernel
theorem dX8_layWays_69 : decode cX8_layWays 69 = .ok (.goto (-59), 3) := by decide +kernel
theorem dX8_layWays_72 : decode cX8_layWays 72 = .ok (.iinc 1 1, 3) := by decide +kernel
theorem dX8_layWays_75 : decode cX8_layWays 75 = .ok (.goto (-73), 3) := by decide +kernel
theorem dX8_layWays_78 : decode cX8_layWays 78 = .ok (.iconst 0, 1) := by decide +kernel
theorem dX8_layWays_79 : decode cX8_layWays 79 = .ok (.istore_n 1, 1) := by decide +kernel
theorem dX8_layWays_80 : decode cX8_layWays 80 = .ok (.iload_n 1, 1) := by decide +kernel
theorem dX8_layWays_81 : decode cX8_layWays 81 = .ok (.bipush 6, 2) := by decide +kernel
theorem dX8_layWays_83 : decode cX8_layWays 83 = .ok (.if_icmp .ge 122, 3) := by decide +kernel
theorem dX8_layWays_86 : decode cX8_layWays 86 = .ok (.iconst 0, 1) := by decide +kernel
theorem dX8_layWays_87 : decode cX8_layWays 87 = .ok (.istore_n 2, 1) := by decide +kernel
theorem dX8_layWays_88 : decode cX8_layWays 88 = .ok (.iload_n 2, 1) := by decide +kernel
theorem dX8_layWays_89 : decode cX8_layWays 89 = .ok (.bipush 6, 2) := by decide +kernel
theorem dX8_layWays_91 : decode cX8_layWays 91 = .ok (.if_icmp .ge 108, 3) := by decide +kernel
theorem dX8_layWays_94 : decode cX8_layWays 94 = .ok (.iconst 0, 1) := by decide +kernel
theorem dX8_layWays_95 : decode cX8_layWays 95 = .ok (.istore_n 3, 1) := by decide +kernel
theorem dX8_layWays_96 : decode cX8_layWays 96 = .ok (.iload_n 3, 1) := by decide +kernel
theorem dX8_layWays_97 : decode cX8_layWays 97 = .ok (.bipush 6, 2) := by decide +kernel
theorem dX8_layWays_99 : decode cX8_layWays 99 = .ok (.if_icmp .ge 94, 3) := by decide +kernel
theorem dX8_layWays_102 : decode cX8_layWays 102 = .ok (.aload_n 0, 1) := by decide +kernel
theorem dX8_layWays_103 : decode cX8_layWays 103 = .ok (.getfield 16, 3) := by decide +kernel
theorem dX8_layWays_106 : decode cX8_layWays 106 = .ok (.bipush 6, 2) := by decide +kernel
theorem dX8_layWays_108 : decode cX8_layWays 108 = .ok (.iload_n 2, 1) := by decide +kernel
theorem dX8_layWays_109 : decode cX8_layWays 109 = .ok (.imul, 1) := by decide +kernel
theorem dX8_layWays_110 : decode cX8_layWays 110 = .ok (.iload_n 1, 1) := by decide +kernel
theorem dX8_layWays_111 : decode cX8_layWays 111 = .ok (.iadd, 1) := by decide +kernel
theorem dX8_layWays_112 : decode cX8_layWays 112 = .ok (.iaload, 1) := by decide +kernel
theorem dX8_layWays_113 : decode cX8_layWays 113 = .ok (.istore 4, 2) := by decide +kernel
theorem dX8_layWays_115 : decode cX8_layWays 115 = .ok (.aload_n 0, 1) := by decide +kernel
theorem dX8_layWays_116 : decode cX8_layWays 116 = .ok (.getfield 16, 3) := by decide +kernel
theorem dX8_layWays_119 : decode cX8_layWays 119 = .ok (.bipush 6, 2) := by decide +kernel
theorem dX8_layWays_121 : decode cX8_layWays 121 = .ok (.iload_n 1, 1) := by decide +kernel
theorem dX8_layWays_122 : decode cX8_layWays 122 = .ok (.imul, 1) := by decide +kernel
theorem dX8_layWays_123 : decode cX8_layWays 123 = .ok (.iload_n 3, 1) := by decide +kernel
theorem dX8_layWays_124 : decode cX8_layWays 124 = .ok (.iadd, 1) := by decide +kernel
theorem dX8_layWays_125 : decode cX8_layWays 125 = .ok (.iaload, 1) := by decide +kernel
theorem dX8_layWays_126 : decode cX8_layWays 126 = .ok (.istore 5, 2) := by decide +kernel
theorem dX8_layWays_128 : decode cX8_layWays 128 = .ok (.iload 4, 2) := by decide +kernel
theorem dX8_layWays_130 : decode cX8_layWays 130 = .ok (.ifCond .lt 57, 3) := by decide +kernel
theorem dX8_layWays_133 : decode cX8_layWays 133 = .ok (.iload 5, 2) := by decide +kernel
theorem dX8_layWays_135 : decode cX8_layWays 135 = .ok (.ifCond .lt 52, 3) := by decide +kernel
theorem dX8_layWays_138 : decode cX8_layWays 138 = .ok (.aload_n 0, 1) := by decide +kernel
theorem dX8_layWays_139 : decode cX8_layWays 139 = .ok (.getfield 16, 3) := by decide +kernel
theorem dX8_layWays_142 : decode cX8_layWays 142 = .ok (.bipush 6, 2) := by decide +kernel
theorem dX8_layWays_144 : decode cX8_layWays 144 = .ok (.iload_n 2, 1) := by decide +kernel
theorem dX8_layWays_145 : decode cX8_layWays 145 = .ok (.imul, 1) := by decide +kernel
theorem dX8_layWays_146 : decode cX8_layWays 146 = .ok (.iload_n 3, 1) := by decide +kernel
theorem dX8_layWays_147 : decode cX8_layWays 147 = .ok (.iadd, 1) := by decide +kernel
theorem dX8_layWays_148 : decode cX8_layWays 148 = .ok (.iaload, 1) := by decide +kernel
theorem dX8_layWays_149 : decode cX8_layWays 149 = .ok (.ifCond .lt 22, 3) := by decide +kernel
theorem dX8_layWays_152 : decode cX8_layWays 152 = .ok (.iload 4, 2) := by decide +kernel
theorem dX8_layWays_154 : decode cX8_layWays 154 = .ok (.iload 5, 2) := by decide +kernel
theorem dX8_layWays_156 : decode cX8_layWays 156 = .ok (.iadd, 1) := by decide +kernel
theorem dX8_layWays_157 : decode cX8_layWays 157 = .ok (.aload_n 0, 1) := by decide +kernel
theorem dX8_layWays_158 : decode cX8_layWays 158 = .ok (.getfield 16, 3) := by decide +kernel
theorem dX8_layWays_161 : decode cX8_layWays 161 = .ok (.bipush 6, 2) := by decide +kernel
theorem dX8_layWays_163 : decode cX8_layWays 163 = .ok (.iload_n 2, 1) := by decide +kernel
theorem dX8_layWays_164 : decode cX8_layWays 164 = .ok (.imul, 1) := by decide +kernel
theorem dX8_layWays_165 : decode cX8_layWays 165 = .ok (.iload_n 3, 1) := by decide +kernel
theorem dX8_layWays_166 : decode cX8_layWays 166 = .ok (.iadd, 1) := by decide +kernel
theorem dX8_layWays_167 : decode cX8_layWays 167 = .ok (.iaload, 1) := by decide +kernel
theorem dX8_layWays_168 : decode cX8_layWays 168 = .ok (.if_icmp .ge 19, 3) := by decide +kernel
theorem dX8_layWays_171 : decode cX8_layWays 171 = .ok (.aload_n 0, 1) := by decide +kernel
theorem dX8_layWays_172 : decode cX8_layWays 172 = .ok (.getfield 16, 3) := by decide +kernel
theorem dX8_layWays_175 : decode cX8_layWays 175 = .ok (.bipush 6, 2) := by decide +kernel
theorem dX8_layWays_177 : decode cX8_layWays 177 = .ok (.iload_n 2, 1) := by decide +kernel
theorem dX8_layWays_178 : decode cX8_layWays 178 = .ok (.imul, 1) := by decide +kernel
theorem dX8_layWays_179 : decode cX8_layWays 179 = .ok (.iload_n 3, 1) := by decide +kernel
theorem dX8_layWays_180 : decode cX8_layWays 180 = .ok (.iadd, 1) := by decide +kernel
theorem dX8_layWays_181 : decode cX8_layWays 181 = .ok (.iload 4, 2) := by decide +kernel
theorem dX8_layWays_183 : decode cX8_layWays 183 = .ok (.iload 5, 2) := by decide +kernel
theorem dX8_layWays_185 : decode cX8_layWays 185 = .ok (.iadd, 1) := by decide +kernel
theorem dX8_layWays_186 : decode cX8_layWays 186 = .ok (.iastore, 1) := by decide +kernel
theorem dX8_layWays_187 : decode cX8_layWays 187 = .ok (.iinc 3 1, 3) := by decide +kernel
theorem dX8_layWays_190 : decode cX8_layWays 190 = .ok (.goto (-94), 3) := by decide +kernel
theorem dX8_layWays_193 : decode cX8_layWays 193 = .ok (.iinc 2 1, 3) := by decide +kernel
theorem dX8_layWays_196 : decode cX8_layWays 196 = .ok (.goto (-108), 3) := by decide +kernel
theorem dX8_layWays_199 : decode cX8_layWays 199 = .ok (.iinc 1 1, 3) := by decide +kernel
theorem dX8_layWays_202 : decode cX8_layWays 202 = .ok (.goto (-122), 3) := by decide +kernel
theorem dX8_layWays_205 : decode cX8_layWays 205 = .ok (.return_, 1) := by decide +kernel
theorem dX8_post_0 : decode cX8_post 0 = .ok (.iload_n 1, 1) := by decide +kernel
theorem dX8_post_1 : decode cX8_post 1 = .ok (.invokestatic 87, 3) := by decide +kernel
theorem dX8_post_4 : decode cX8_post 4 = .ok (.ifCond .eq 41, 3) := by decide +kernel
theorem dX8_post_7 : decode cX8_post 7 = .ok (.iload_n 2, 1) := by decide +kernel
theorem dX8_post_8 : decode cX8_post 8 = .ok (.invokestatic 87, 3) := by decide +kernel
theorem dX8_post_11 : decode cX8_post 11 = .ok (.ifCond .eq 34, 3) := by decide +kernel
theorem dX8_post_14 : decode cX8_post 14 = .ok (.iload_n 1, 1) := by decide +kernel
theorem dX8_post_15 : decode cX8_post 15 = .ok (.iload_n 2, 1) := by decide +kernel
theorem dX8_post_16 : decode cX8_post 16 = .ok (.if_icmp .eq 29, 3) := by decide +kernel
theorem dX8_post_19 : decode cX8_post 19 = .ok (.iload_n 3, 1) := by decide +kernel
theorem dX8_post_20 : decode cX8_post 20 = .ok (.i2l, 1) := by decide +kernel
theorem dX8_post_21 : decode cX8_post 21 = .ok (.lconst 1, 1) := by decide +kernel
theorem dX8_post_22 : decode cX8_post 22 = .ok (.ldc2_w 91, 3) := by decide +kernel
theorem dX8_post_25 : decode cX8_post 25 = .ok (.invokestatic 79, 3) := by decide +kernel
theorem dX8_post_28 : decode cX8_post 28 = .ok (.ifCond .eq 17, 3) := by decide +kernel
theorem dX8_post_31 : decode cX8_post 31 = .ok (.iload 4, 2) := by decide +kernel
theorem dX8_post_33 : decode cX8_post 33 = .ok (.i2l, 1) := by decide +kernel
theorem dX8_post_34 : decode cX8_post 34 = .ok (.iload_n 3, 1) := by decide +kernel
theorem dX8_post_35 : decode cX8_post 35 = .ok (.i2l, 1) := by decide +kernel
theorem dX8_post_36 : decode cX8_post 36 = .ok (.ldc2_w 91, 3) := by decide +kernel
theorem dX8_post_39 : decode cX8_post 39 = .ok (.invokestatic 79, 3) := by decide +kernel
theorem dX8_post_42 : decode cX8_post 42 = .ok (.ifCond .ne 5, 3) := by decide +kernel
theorem dX8_post_45 : decode cX8_post 45 = .ok (.iconst (-1), 1) := by decide +kernel
theorem dX8_post_46 : decode cX8_post 46 = .ok (.ireturn, 1) := by decide +kernel
theorem dX8_post_47 : decode cX8_post 47 = .ok (.aload_n 0, 1) := by decide +kernel
theorem dX8_post_48 : decode cX8_post 48 = .ok (.getfield 19, 3) := by decide +kernel
theorem dX8_post_51 : decode cX8_post 51 = .ok (.iconst 0, 1) := by decide +kernel
theorem dX8_post_52 : decode cX8_post 52 = .ok (.iaload, 1) := by decide +kernel
theorem dX8_post_53 : decode cX8_post 53 = .ok (.ifCond .le 6, 3) := by decide +kernel
theorem dX8_post_56 : decode cX8_post 56 = .ok (.bipush (-2), 2) := by decide +kernel
theorem dX8_post_58 : decode cX8_post 58 = .ok (.ireturn, 1) := by decide +kernel
theorem dX8_post_59 : decode cX8_post 59 = .ok (.aload_n 0, 1) := by decide +kernel
theorem dX8_post_60 : decode cX8_post 60 = .ok (.getfield 7, 3) := by decide +kernel
theorem dX8_post_63 : decode cX8_post 63 = .ok (.bipush 6, 2) := by decide +kernel
theorem dX8_post_65 : decode cX8_post 65 = .ok (.iload_n 1, 1) := by decide +kernel
theorem dX8_post_66 : decode cX8_post 66 = .ok (.imul, 1) := by decide +kernel
theorem dX8_post_67 : decode cX8_post 67 = .ok (.iload_n 2, 1) := by decide +kernel
theorem dX8_post_68 : decode cX8_post 68 = .ok (.iadd, 1) := by decide +kernel
theorem dX8_post_69 : decode cX8_post 69 = .ok (.iload_n 3, 1) := by decide +kernel
theorem dX8_post_70 : decode cX8_post 70 = .ok (.iastore, 1) := by decide +kernel
theorem dX8_post_71 : decode cX8_post 71 = .ok (.aload_n 0, 1) := by decide +kernel
theorem dX8_post_72 : decode cX8_post 72 = .ok (.getfield 13, 3) := by decide +kernel
theorem dX8_post_75 : decode cX8_post 75 = .ok (.bipush 6, 2) := by decide +kernel
theorem dX8_post_77 : decode cX8_post 77 = .ok (.iload_n 1, 1) := by decide +kernel
theorem dX8_post_78 : decode cX8_post 78 = .ok (.imul, 1) := by decide +kernel
theorem dX8_post_79 : decode cX8_post 79 = .ok (.iload_n 2, 1) := by decide +kernel
theorem dX8_post_80 : decode cX8_post 80 = .ok (.iadd, 1) := by decide +kernel
theorem dX8_post_81 : decode cX8_post 81 = .ok (.iload 4, 2) := by decide +kernel
theorem dX8_post_83 : decode cX8_post 83 = .ok (.iastore, 1) := by decide +kernel
theorem dX8_post_84 : decode cX8_post 84 = .ok (.aload_n 0, 1) := by decide +kernel
theorem dX8_post_85 : decode cX8_post 85 = .ok (.invokevirtual 74, 3) := by decide +kernel
theorem dX8_post_88 : decode cX8_post 88 = .ok (.iconst 0, 1) := by decide +kernel
theorem dX8_post_89 : decode cX8_post 89 = .ok (.ireturn, 1) := by decide +kernel
theorem dX8_way_0 : decode cX8_way 0 = .ok (.iload_n 1, 1) := by decide +kernel
theorem dX8_way_1 : decode cX8_way 1 = .ok (.invokestatic 87, 3) := by decide +kernel
theorem dX8_way_4 : decode cX8_way 4 = .ok (.ifCond .eq 24, 3) := by decide +kernel
theorem dX8_way_7 : decode cX8_way 7 = .ok (.iload_n 2, 1) := by decide +kernel
theorem dX8_way_8 : decode cX8_way 8 = .ok (.invokestatic 87, 3) := by decide +kernel
theorem dX8_way_11 : decode cX8_way 11 = .ok (.ifCond .eq 17, 3) := by decide +kernel
theorem dX8_way_14 : decode cX8_way 14 = .ok (.aload_n 0, 1) := by decide +kernel
theorem dX8_way_15 : decode cX8_way 15 = .ok (.getfield 16, 3) := by decide +kernel
theorem dX8_way_18 : decode cX8_way 18 = .ok (.bipush 6, 2) := by decide +kernel
theorem dX8_way_20 : decode cX8_way 20 = .ok (.iload_n 1, 1) := by decide +kernel
theorem dX8_way_21 : decode cX8_way 21 = .ok (.imul, 1) := by decide +kernel
theorem dX8_way_22 : decode cX8_way 22 = .ok (.iload_n 2, 1) := by decide +kernel
theorem dX8_way_23 : decode cX8_way 23 = .ok (.iadd, 1) := by decide +kernel
theorem dX8_way_24 : decode cX8_way 24 = .ok (.iaload, 1) := by decide +kernel
theorem dX8_way_25 : decode cX8_way 25 = .ok (.goto 4, 3) := by decide +kernel
theorem dX8_way_28 : decode cX8_way 28 = .ok (.iconst (-1), 1) := by decide +kernel
theorem dX8_way_29 : decode cX8_way 29 = .ok (.ireturn, 1) := by decide +kernel
theorem dX8_slow_0 : decode cX8_slow 0 = .ok (.iload_n 1, 1) := by decide +kernel
theorem dX8_slow_1 : decode cX8_slow 1 = .ok (.invokestatic 87, 3) := by decide +kernel
theorem dX8_slow_4 : decode cX8_slow 4 = .ok (.ifCond .eq 10, 3) := by decide +kernel
theorem dX8_slow_7 : decode cX8_slow 7 = .ok (.iload_n 2, 1) := by decide +kernel
theorem dX8_slow_8 : decode cX8_slow 8 = .ok (.invokestatic 87, 3) := by decide +kernel
theorem dX8_slow_11 : decode cX8_slow 11 = .ok (.ifCond .ne 5, 3) := by decide +kernel
theorem dX8_slow_14 : decode cX8_slow 14 = .ok (.iconst (-1), 1) := by decide +kernel
theorem dX8_slow_15 : decode cX8_slow 15 = .ok (.ireturn, 1) := by decide +kernel
theorem dX8_slow_16 : decode cX8_slow 16 = .ok (.iconst 0, 1) := by decide +kernel
theorem dX8_slow_17 : decode cX8_slow 17 = .ok (.istore_n 3, 1) := by decide +kernel
theorem dX8_slow_18 : decode cX8_slow 18 = .ok (.iload_n 3, 1) := by decide +kernel
theorem dX8_slow_19 : decode cX8_slow 19 = .ok (.bipush 6, 2) := by decide +kernel
theorem dX8_slow_21 : decode cX8_slow 21 = .ok (.if_icmp .ge 26, 3) := by decide +kernel
theorem dX8_slow_24 : decode cX8_slow 24 = .ok (.aload_n 0, 1) := by decide +kernel
theorem dX8_slow_25 : decode cX8_slow 25 = .ok (.getfield 59, 3) := by decide +kernel
theorem dX8_slow_28 : decode cX8_slow 28 = .ok (.iload_n 3, 1) := by decide +kernel
theorem dX8_slow_29 : decode cX8_slow 29 = .ok (.iload_n 3, 1) := by decide +kernel
theorem dX8_slow_30 : decode cX8_slow 30 = .ok (.iload_n 1, 1) := by decide +kernel
theorem dX8_slow_31 : decode cX8_slow 31 = .ok (.if_icmp .ne 7, 3) := by decide +kernel
theorem dX8_slow_34 : decode cX8_slow 34 = .ok (.iconst 0, 1) := by decide +kernel
theorem dX8_slow_35 : decode cX8_slow 35 = .ok (.goto 5, 3) := by decide +kernel
theorem dX8_slow_38 : decode cX8_slow 38 = .ok (.bipush (-4), 2) := by decide +kernel
theorem dX8_slow_40 : decode cX8_slow 40 = .ok (.iastore, 1) := by decide +kernel
theorem dX8_slow_41 : decode cX8_slow 41 = .ok (.iinc 3 1, 3) := by decide +kernel
theorem dX8_slow_44 : decode cX8_slow 44 = .ok (.goto (-26), 3) := by decide +kernel
theorem dX8_slow_47 : decode cX8_slow 47 = .ok (.iconst 0, 1) := by decide +kernel
theorem dX8_slow_48 : decode cX8_slow 48 = .ok (.istore_n 3, 1) := by decide +kernel
theorem dX8_slow_49 : decode cX8_slow 49 = .ok (.iload_n 3, 1) := by decide +kernel
theorem dX8_slow_50 : decode cX8_slow 50 = .ok (.bipush 6, 2) := by decide +kernel
theorem dX8_slow_52 : decode cX8_slow 52 = .ok (.if_icmp .ge 175, 3) := by decide +kernel
theorem dX8_slow_55 : decode cX8_slow 55 = .ok (.iconst 0, 1) := by decide +kernel
theorem dX8_slow_56 : decode cX8_slow 56 = .ok (.istore 4, 2) := by decide +kernel
theorem dX8_slow_58 : decode cX8_slow 58 = .ok (.iload 4, 2) := by decide +kernel
theorem dX8_slow_60 : decode cX8_slow 60 = .ok (.bipush 6, 2) := by decide +kernel
theorem dX8_slow_62 : decode cX8_slow 62 = .ok (.if_icmp .ge 159, 3) := by decide +kernel
theorem dX8_slow_65 : decode cX8_slow 65 = .ok (.iconst 0, 1) := by decide +kernel
theorem dX8_slow_66 : decode cX8_slow 66 = .ok (.istore 5, 2) := by decide +kernel
theorem dX8_slow_68 : decode cX8_slow 68 = .ok (.iload 5, 2) := by decide +kernel
theorem dX8_slow_70 : decode cX8_slow 70 = .ok (.bipush 6, 2) := by decide +kernel
theorem dX8_slow_72 : decode cX8_slow 72 = .ok (.if_icmp .ge 143, 3) := by decide +kernel
theorem dX8_slow_75 : decode cX8_slow 75 = .ok (.bipush 6, 2) := by decide +kernel
theorem dX8_slow_77 : decode cX8_slow 77 = .ok (.iload 4, 2) := by decide +kernel
theorem dX8_slow_79 : decode cX8_slow 79 = .ok (.imul, 1) := by decide +kernel
theorem dX8_slow_80 : decode cX8_slow 80 = .ok (.iload 5, 2) := by decide +kernel
theorem dX8_slow_82 : decode cX8_slow 82 = .ok (.iadd, 1) := by decide +kernel
theorem dX8_slow_83 : decode cX8_slow 83 = .ok (.istore 6, 2) := by decide +kernel
theorem dX8_slow_85 : decode cX8_slow 85 = .ok (.aload_n 0, 1) := by decide +kernel
theorem dX8_slow_86 : decode cX8_slow 86 = .ok (.getfield 59, 3) := by decide +kernel
theorem dX8_slow_89 : decode cX8_slow 89 = .ok (.iload 4, 2) := by decide +kernel
theorem dX8_slow_91 : decode cX8_slow 91 = .ok (.iaload, 1) := by decide +kernel
theorem dX8_slow_92 : decode cX8_slow 92 = .ok (.ifCond .lt 52, 3) := by decide +kernel
theorem dX8_slow_95 : decode cX8_slow 95 = .ok (.aload_n 0, 1) := by decide +kernel
theorem dX8_slow_96 : decode cX8_slow 96 = .ok (.getfield 7, 3) := by decide +kernel
theorem dX8_slow_99 : decode cX8_slow 99 = .ok (.iload 6, 2) := by decide +kernel
theorem dX8_slow_101 : decode cX8_slow 101 = .ok (.iaload, 1) := by decide +kernel
theorem dX8_slow_102 : decode cX8_slow 102 = .ok (.ifCond .le 42, 3) := by decide +kernel
theorem dX8_slow_105 : decode cX8_slow 105 = .ok (.aload_n 0, 1) := by decide +kernel
theorem dX8_slow_106 : decode cX8_slow 106 = .ok (.getfield 16, 3) := by decide +kernel
theorem dX8_slow_109 : decode cX8_slow 109 = .ok (.bipush 6, 2) := by decide +kernel
theorem dX8_slow_111 : decode cX8_slow 111 = .ok (.iload_n 1, 1) := by decide +kernel
theorem dX8_slow_112 : decode cX8_slow 112 = .ok (.imul, 1) := by decide +kernel
theorem dX8_slow_113 : decode cX8_slow 113 = .ok (.iload 4, 2) := by decide +kernel
theorem dX8_slow_115 : decode cX8_slow 115 = .ok (.iadd, 1) := by decide +kernel
theorem dX8_slow_116 : decode cX8_slow 116 = .ok (.iaload, 1) := by decide +kernel
theorem dX8_slow_117 : decode cX8_slow 117 = .ok (.aload_n 0, 1) := by decide +kernel
theorem dX8_slow_118 : decode cX8_slow 118 = .ok (.getfield 7, 3) := by decide +kernel
theorem dX8_slow_121 : decode cX8_slow 121 = .ok (.iload 6, 2) := by decide +kernel
theorem dX8_slow_123 : decode cX8_slow 123 = .ok (.iaload, 1) := by decide +kernel
theorem dX8_slow_124 : decode cX8_slow 124 = .ok (.iadd, 1) := by decide +kernel
theorem dX8_slow_125 : decode cX8_slow 125 = .ok (.aload_n 0, 1) := by decide +kernel
theorem dX8_slow_126 : decode cX8_slow 126 = .ok (.getfield 16, 3) := by decide +kernel
theorem dX8_slow_129 : decode cX8_slow 129 = .ok (.bipush 6, 2) := by decide +kernel
theorem dX8_slow_131 : decode cX8_slow 131 = .ok (.iload_n 1, 1) := by decide +kernel
theorem dX8_slow_132 : decode cX8_slow 132 = .ok (.imul, 1) := by decide +kernel
theorem dX8_slow_133 : decode cX8_slow 133 = .ok (.iload 5, 2) := by decide +kernel
theorem dX8_slow_135 : decode cX8_slow 135 = .ok (.iadd, 1) := by decide +kernel
theorem dX8_slow_136 : decode cX8_slow 136 = .ok (.iaload, 1) := by decide +kernel
theorem dX8_slow_137 : decode cX8_slow 137 = .ok (.if_icmp .ne 7, 3) := by decide +kernel
theorem dX8_slow_140 : decode cX8_slow 140 = .ok (.iconst 1, 1) := by decide +kernel
theorem dX8_slow_141 : decode cX8_slow 141 = .ok (.goto 4, 3) := by decide +kernel
theorem dX8_slow_144 : decode cX8_slow 144 = .ok (.iconst 0, 1) := by decide +kernel
theorem dX8_slow_145 : decode cX8_slow 145 = .ok (.istore 7, 2) := by decide +kernel
theorem dX8_slow_147 : decode cX8_slow 147 = .ok (.aload_n 0, 1) := by decide +kernel
theorem dX8_slow_148 : decode cX8_slow 148 = .ok (.getfield 59, 3) := by decide +kernel
theorem dX8_slow_151 : decode cX8_slow 151 = .ok (.iload 5, 2) := by decide +kernel
theorem dX8_slow_153 : decode cX8_slow 153 = .ok (.iload 7, 2) := by decide +kernel
theorem dX8_slow_155 : decode cX8_slow 155 = .ok (.ifCond .eq 46, 3) := by decide +kernel
theorem dX8_slow_158 : decode cX8_slow 158 = .ok (.aload_n 0, 1) := by decide +kernel
theorem dX8_slow_159 : decode cX8_slow 159 = .ok (.getfield 59, 3) := by decide +kernel
theorem dX8_slow_162 : decode cX8_slow 162 = .ok (.iload 4, 2) := by decide +kernel
theorem dX8_slow_164 : decode cX8_slow 164 = .ok (.iaload, 1) := by decide +kernel
theorem dX8_slow_165 : decode cX8_slow 165 = .ok (.aload_n 0, 1) := by decide +kernel
theorem dX8_slow_166 : decode cX8_slow 166 = .ok (.getfield 13, 3) := by decide +kernel
theorem dX8_slow_169 : decode cX8_slow 169 = .ok (.iload 6, 2) := by decide +kernel
theorem dX8_slow_171 : decode cX8_slow 171 = .ok (.iaload, 1) := by decide +kernel
theorem dX8_slow_172 : decode cX8_slow 172 = .ok (.iadd, 1) := by decide +kernel
theorem dX8_slow_173 : decode cX8_slow 173 = .ok (.aload_n 0, 1) := by decide +kernel
theorem dX8_slow_174 : decode cX8_slow 174 = .ok (.getfield 59, 3) := by decide +kernel
theorem dX8_slow_177 : decode cX8_slow 177 = .ok (.iload 5, 2) := by decide +kernel
theorem dX8_slow_179 : decode cX8_slow 179 = .ok (.iaload, 1) := by decide +kernel
theorem dX8_slow_180 : decode cX8_slow 180 = .ok (.if_icmp .le 21, 3) := by decide +kernel
theorem dX8_slow_183 : decode cX8_slow 183 = .ok (.aload_n 0, 1) := by decide +kernel
theorem dX8_slow_184 : decode cX8_slow 184 = .ok (.getfield 59, 3) := by decide +kernel
theorem dX8_slow_187 : decode cX8_slow 187 = .ok (.iload 4, 2) := by decide +kernel
theorem dX8_slow_189 : decode cX8_slow 189 = .ok (.iaload, 1) := by decide +kernel
theorem dX8_slow_190 : decode cX8_slow 190 = .ok (.aload_n 0, 1) := by decide +kernel
theorem dX8_slow_191 : decode cX8_slow 191 = .ok (.getfield 13, 3) := by decide +kernel
theorem dX8_slow_194 : decode cX8_slow 194 = .ok (.iload 6, 2) := by decide +kernel
theorem dX8_slow_196 : decode cX8_slow 196 = .ok (.iaload, 1) := by decide +kernel
theorem dX8_slow_197 : decode cX8_slow 197 = .ok (.iadd, 1) := by decide +kernel
theorem dX8_slow_198 : decode cX8_slow 198 = .ok (.goto 10, 3) := by decide +kernel
theorem dX8_slow_201 : decode cX8_slow 201 = .ok (.aload_n 0, 1) := by decide +kernel
theorem dX8_slow_202 : decode cX8_slow 202 = .ok (.getfield 59, 3) := by decide +kernel
theorem dX8_slow_205 : decode cX8_slow 205 = .ok (.iload 5, 2) := by decide +kernel
theorem dX8_slow_207 : decode cX8_slow 207 = .ok (.iaload, 1) := by decide +kernel
theorem dX8_slow_208 : decode cX8_slow 208 = .ok (.iastore, 1) := by decide +kernel
theorem dX8_slow_209 : decode cX8_slow 209 = .ok (.iinc 5 1, 3) := by decide +kernel
theorem dX8_slow_212 : decode cX8_slow 212 = .ok (.goto (-144), 3) := by decide +kernel
theorem dX8_slow_215 : decode cX8_slow 215 = .ok (.iinc 4 1, 3) := by decide +kernel
theorem dX8_slow_218 : decode cX8_slow 218 = .ok (.goto (-160), 3) := by decide +kernel
theorem dX8_slow_221 : decode cX8_slow 221 = .ok (.iinc 3 1, 3) := by decide +kernel
theorem dX8_slow_224 : decode cX8_slow 224 = .ok (.goto (-175), 3) := by decide +kernel
theorem dX8_slow_227 : decode cX8_slow 227 = .ok (.aload_n 0, 1) := by decide +kernel
theorem dX8_slow_228 : decode cX8_slow 228 = .ok (.getfield 59, 3) := by decide +kernel
theorem dX8_slow_231 : decode cX8_slow 231 = .ok (.iload_n 2, 1) := by decide +kernel
theorem dX8_slow_232 : decode cX8_slow 232 = .ok (.iaload, 1) := by decide +kernel
theorem dX8_slow_233 : decode cX8_slow 233 = .ok (.ireturn, 1) := by decide +kernel
theorem dX8_sheet_0 : decode cX8_sheet 0 = .ok (.iload_n 1, 1) := by decide +kernel
theorem dX8_sheet_1 : decode cX8_sheet 1 = .ok (.invokestatic 87, 3) := by decide +kernel
theorem dX8_sheet_4 : decode cX8_sheet 4 = .ok (.ifCond .eq 29, 3) := by decide +kernel
theorem dX8_sheet_7 : decode cX8_sheet 7 = .ok (.iload_n 2, 1) := by decide +kernel
theorem dX8_sheet_8 : decode cX8_sheet 8 = .ok (.i2l, 1) := by decide +kernel
theorem dX8_sheet_9 : decode cX8_sheet 9 = .ok (.lconst 0, 1) := by decide +kernel
theorem dX8_sheet_10 : decode cX8_sheet 10 = .ok (.ldc2_w 93, 3) := by decide +kernel
theorem dX8_sheet_13 : decode cX8_sheet 13 = .ok (.invokestatic 79, 3) := by decide +kernel
theorem dX8_sheet_16 : decode cX8_sheet 16 = .ok (.ifCond .eq 17, 3) := by decide +kernel
theorem dX8_sheet_19 : decode cX8_sheet 19 = .ok (.iload_n 3, 1) := by decide +kernel
theorem dX8_sheet_20 : decode cX8_sheet 20 = .ok (.i2l, 1) := by decide +kernel
theorem dX8_sheet_21 : decode cX8_sheet 21 = .ok (.ldc2_w 95, 3) := by decide +kernel
theorem dX8_sheet_24 : decode cX8_sheet 24 = .ok (.ldc2_w 83, 3) := by decide +kernel
theorem dX8_sheet_27 : decode cX8_sheet 27 = .ok (.invokestatic 79, 3) := by decide +kernel
theorem dX8_sheet_30 : decode cX8_sheet 30 = .ok (.ifCond .ne 5, 3) := by decide +kernel
theorem dX8_sheet_33 : decode cX8_sheet 33 = .ok (.iconst (-1), 1) := by decide +kernel
theorem dX8_sheet_34 : decode cX8_sheet 34 = .ok (.ireturn, 1) := by decide +kernel
theorem dX8_sheet_35 : decode cX8_sheet 35 = .ok (.aload_n 0, 1) := by decide +kernel
theorem dX8_sheet_36 : decode cX8_sheet 36 = .ok (.getfield 19, 3) := by decide +kernel
theorem dX8_sheet_39 : decode cX8_sheet 39 = .ok (.iconst 0, 1) := by decide +kernel
theorem dX8_sheet_40 : decode cX8_sheet 40 = .ok (.iaload, 1) := by decide +kernel
theorem dX8_sheet_41 : decode cX8_sheet 41 = .ok (.bipush 12, 2) := by decide +kernel
theorem dX8_sheet_43 : decode cX8_sheet 43 = .ok (.if_icmp .ne 6, 3) := by decide +kernel
theorem dX8_sheet_46 : decode cX8_sheet 46 = .ok (.bipush (-3), 2) := by decide +kernel
theorem dX8_sheet_48 : decode cX8_sheet 48 = .ok (.ireturn, 1) := by decide +kernel
theorem dX8_sheet_49 : decode cX8_sheet 49 = .ok (.iconst 3, 1) := by decide +kernel
theorem dX8_sheet_50 : decode cX8_sheet 50 = .ok (.aload_n 0, 1) := by decide +kernel
theorem dX8_sheet_51 : decode cX8_sheet 51 = .ok (.getfield 19, 3) := by decide +kernel
theorem dX8_sheet_54 : decode cX8_sheet 54 = .ok (.iconst 0, 1) := by decide +kernel
theorem dX8_sheet_55 : decode cX8_sheet 55 = .ok (.iaload, 1) := by decide +kernel
theorem dX8_sheet_56 : decode cX8_sheet 56 = .ok (.imul, 1) := by decide +kernel
theorem dX8_sheet_57 : decode cX8_sheet 57 = .ok (.istore 4, 2) := by decide +kernel
theorem dX8_sheet_59 : decode cX8_sheet 59 = .ok (.aload_n 0, 1) := by decide +kernel
theorem dX8_sheet_60 : decode cX8_sheet 60 = .ok (.getfield 22, 3) := by decide +kernel
theorem dX8_sheet_63 : decode cX8_sheet 63 = .ok (.iload 4, 2) := by decide +kernel
theorem dX8_sheet_65 : decode cX8_sheet 65 = .ok (.iload_n 1, 1) := by decide +kernel
theorem dX8_sheet_66 : decode cX8_sheet 66 = .ok (.iastore, 1) := by decide +kernel
theorem dX8_sheet_67 : decode cX8_sheet 67 = .ok (.aload_n 0, 1) := by decide +kernel
theorem dX8_sheet_68 : decode cX8_sheet 68 = .ok (.getfield 22, 3) := by decide +kernel
theorem dX8_sheet_71 : decode cX8_sheet 71 = .ok (.iload 4, 2) := by decide +kernel
theorem dX8_sheet_73 : decode cX8_sheet 73 = .ok (.iconst 1, 1) := by decide +kernel
theorem dX8_sheet_74 : decode cX8_sheet 74 = .ok (.iadd, 1) := by decide +kernel
theorem dX8_sheet_75 : decode cX8_sheet 75 = .ok (.iload_n 2, 1) := by decide +kernel
theorem dX8_sheet_76 : decode cX8_sheet 76 = .ok (.iastore, 1) := by decide +kernel
theorem dX8_sheet_77 : decode cX8_sheet 77 = .ok (.aload_n 0, 1) := by decide +kernel
theorem dX8_sheet_78 : decode cX8_sheet 78 = .ok (.getfield 22, 3) := by decide +kernel
theorem dX8_sheet_81 : decode cX8_sheet 81 = .ok (.iload 4, 2) := by decide +kernel
theorem dX8_sheet_83 : decode cX8_sheet 83 = .ok (.iconst 2, 1) := by decide +kernel
theorem dX8_sheet_84 : decode cX8_sheet 84 = .ok (.iadd, 1) := by decide +kernel
theorem dX8_sheet_85 : decode cX8_sheet 85 = .ok (.iload_n 3, 1) := by decide +kernel
theorem dX8_sheet_86 : decode cX8_sheet 86 = .ok (.iastore, 1) := by decide +kernel
theorem dX8_sheet_87 : decode cX8_sheet 87 = .ok (.aload_n 0, 1) := by decide +kernel
theorem dX8_sheet_88 : decode cX8_sheet 88 = .ok (.getfield 19, 3) := by decide +kernel
theorem dX8_sheet_91 : decode cX8_sheet 91 = .ok (.iconst 0, 1) := by decide +kernel
theorem dX8_sheet_92 : decode cX8_sheet 92 = .ok (.dup2, 1) := by decide +kernel
theorem dX8_sheet_93 : decode cX8_sheet 93 = .ok (.iaload, 1) := by decide +kernel
theorem dX8_sheet_94 : decode cX8_sheet 94 = .ok (.iconst 1, 1) := by decide +kernel
theorem dX8_sheet_95 : decode cX8_sheet 95 = .ok (.iadd, 1) := by decide +kernel
theorem dX8_sheet_96 : decode cX8_sheet 96 = .ok (.iastore, 1) := by decide +kernel
theorem dX8_sheet_97 : decode cX8_sheet 97 = .ok (.aload_n 0, 1) := by decide +kernel
theorem dX8_sheet_98 : decode cX8_sheet 98 = .ok (.getfield 19, 3) := by decide +kernel
theorem dX8_sheet_101 : decode cX8_sheet 101 = .ok (.iconst 0, 1) := by decide +kernel
theorem dX8_sheet_102 : decode cX8_sheet 102 = .ok (.iaload, 1) := by decide +kernel
theorem dX8_sheet_103 : decode cX8_sheet 103 = .ok (.iconst 1, 1) := by decide +kernel
theorem dX8_sheet_104 : decode cX8_sheet 104 = .ok (.isub, 1) := by decide +kernel
theorem dX8_sheet_105 : decode cX8_sheet 105 = .ok (.ireturn, 1) := by decide +kernel
theorem dX8_dated_0 : decode cX8_dated 0 = .ok (.aload_n 0, 1) := by decide +kernel
theorem dX8_dated_1 : decode cX8_dated 1 = .ok (.iload_n 1, 1) := by decide +kernel
theorem dX8_dated_2 : decode cX8_dated 2 = .ok (.invokevirtual 97, 3) := by decide +kernel
theorem dX8_dated_5 : decode cX8_dated 5 = .ok (.ifCond .eq 17, 3) := by decide +kernel
theorem dX8_dated_8 : decode cX8_dated 8 = .ok (.iload_n 2, 1) := by decide +kernel
theorem dX8_dated_9 : decode cX8_dated 9 = .ok (.i2l, 1) := by decide +kernel
theorem dX8_dated_10 : decode cX8_dated 10 = .ok (.ldc2_w 95, 3) := by decide +kernel
theorem dX8_dated_13 : decode cX8_dated 13 = .ok (.ldc2_w 83, 3) := by decide +kernel
theorem dX8_dated_16 : decode cX8_dated 16 = .ok (.invokestatic 79, 3) := by decide +kernel
theorem dX8_dated_19 : decode cX8_dated 19 = .ok (.ifCond .ne 6, 3) := by decide +kernel
theorem dX8_dated_22 : decode cX8_dated 22 = .ok (.bipush (-100), 2) := by decide +kernel
theorem dX8_dated_24 : decode cX8_dated 24 = .ok (.ireturn, 1) := by decide +kernel
theorem dX8_dated_25 : decode cX8_dated 25 = .ok (.aload_n 0, 1) := by decide +kernel
theorem dX8_dated_26 : decode cX8_dated 26 = .ok (.getfield 22, 3) := by decide +kernel
theorem dX8_dated_29 : decode cX8_dated 29 = .ok (.iconst 3, 1) := by decide +kernel
theorem dX8_dated_30 : decode cX8_dated 30 = .ok (.iload_n 1, 1) := by decide +kernel
theorem dX8_dated_31 : decode cX8_dated 31 = .ok (.imul, 1) := by decide +kernel
theorem dX8_dated_32 : decode cX8_dated 32 = .ok (.iconst 2, 1) := by decide +kernel
theorem dX8_dated_33 : decode cX8_dated 33 = .ok (.iadd, 1) := by decide +kernel
theorem dX8_dated_34 : decode cX8_dated 34 = .ok (.iaload, 1) := by decide +kernel
theorem dX8_dated_35 : decode cX8_dated 35 = .ok (.istore_n 3, 1) := by decide +kernel
theorem dX8_dated_36 : decode cX8_dated 36 = .ok (.aload_n 0, 1) := by decide +kernel
theorem dX8_dated_37 : decode cX8_dated 37 = .ok (.getfield 22, 3) := by decide +kernel
theorem dX8_dated_40 : decode cX8_dated 40 = .ok (.iconst 3, 1) := by decide +kernel
theorem dX8_dated_41 : decode cX8_dated 41 = .ok (.iload_n 1, 1) := by decide +kernel
theorem dX8_dated_42 : decode cX8_dated 42 = .ok (.imul, 1) := by decide +kernel
theorem dX8_dated_43 : decode cX8_dated 43 = .ok (.iconst 2, 1) := by decide +kernel
theorem dX8_dated_44 : decode cX8_dated 44 = .ok (.iadd, 1) := by decide +kernel
theorem dX8_dated_45 : decode cX8_dated 45 = .ok (.iload_n 2, 1) := by decide +kernel
theorem dX8_dated_46 : decode cX8_dated 46 = .ok (.iastore, 1) := by decide +kernel
theorem dX8_dated_47 : decode cX8_dated 47 = .ok (.iload_n 3, 1) := by decide +kernel
theorem dX8_dated_48 : decode cX8_dated 48 = .ok (.ireturn, 1) := by decide +kernel
theorem dX8_wayOf_0 : decode cX8_wayOf 0 = .ok (.aload_n 0, 1) := by decide +kernel
theorem dX8_wayOf_1 : decode cX8_wayOf 1 = .ok (.getfield 16, 3) := by decide +kernel
theorem dX8_wayOf_4 : decode cX8_wayOf 4 = .ok (.bipush 6, 2) := by decide +kernel
theorem dX8_wayOf_6 : decode cX8_wayOf 6 = .ok (.aload_n 0, 1) := by decide +kernel
theorem dX8_wayOf_7 : decode cX8_wayOf 7 = .ok (.getfield 22, 3) := by decide +kernel
theorem dX8_wayOf_10 : decode cX8_wayOf 10 = .ok (.iconst 3, 1) := by decide +kernel
theorem dX8_wayOf_11 : decode cX8_wayOf 11 = .ok (.iload_n 1, 1) := by decide +kernel
theorem dX8_wayOf_12 : decode cX8_wayOf 12 = .ok (.imul, 1) := by decide +kernel
theorem dX8_wayOf_13 : decode cX8_wayOf 13 = .ok (.iaload, 1) := by decide +kernel
theorem dX8_wayOf_14 : decode cX8_wayOf 14 = .ok (.imul, 1) := by decide +kernel
theorem dX8_wayOf_15 : decode cX8_wayOf 15 = .ok (.aload_n 0, 1) := by decide +kernel
theorem dX8_wayOf_16 : decode cX8_wayOf 16 = .ok (.getfield 22, 3) := by decide +kernel
theorem dX8_wayOf_19 : decode cX8_wayOf 19 = .ok (.iconst 3, 1) := by decide +kernel
theorem dX8_wayOf_20 : decode cX8_wayOf 20 = .ok (.iload_n 2, 1) := by decide +kernel
theorem dX8_wayOf_21 : decode cX8_wayOf 21 = .ok (.imul, 1) := by decide +kernel
theorem dX8_wayOf_22 : decode cX8_wayOf 22 = .ok (.iaload, 1) := by decide +kernel
theorem dX8_wayOf_23 : decode cX8_wayOf 23 = .ok (.iadd, 1) := by decide +kernel
theorem dX8_wayOf_24 : decode cX8_wayOf 24 = .ok (.iaload, 1) := by decide +kernel
theorem dX8_wayOf_25 : decode cX8_wayOf 25 = .ok (.ireturn, 1) := by decide +kernel
theorem dX8_behind_0 : decode cX8_behind 0 = .ok (.aload_n 0, 1) := by decide +kernel
theorem dX8_behind_1 : decode cX8_behind 1 = .ok (.iload_n 1, 1) := by decide +kernel
theorem dX8_behind_2 : decode cX8_behind 2 = .ok (.invokevirtual 97, 3) := by decide +kernel
theorem dX8_behind_5 : decode cX8_behind 5 = .ok (.ifCond .eq 16, 3) := by decide +kernel
theorem dX8_behind_8 : decode cX8_behind 8 = .ok (.aload_n 0, 1) := by decide +kernel
theorem dX8_behind_9 : decode cX8_behind 9 = .ok (.iload_n 2, 1) := by decide +kernel
theorem dX8_behind_10 : decode cX8_behind 10 = .ok (.invokevirtual 97, 3) := by decide +kernel
theorem dX8_behind_13 : decode cX8_behind 13 = .ok (.ifCond .eq 8, 3) := by decide +kernel
theorem dX8_behind_16 : decode cX8_behind 16 = .ok (.iload_n 1, 1) := by decide +kernel
theorem dX8_behind_17 : decode cX8_behind 17 = .ok (.iload_n 2, 1) := by decide +kernel
theorem dX8_behind_18 : decode cX8_behind 18 = .ok (.if_icmp .ne 5, 3) := by decide +kernel
theorem dX8_behind_21 : decode cX8_behind 21 = .ok (.iconst (-1), 1) := by decide +kernel
theorem dX8_behind_22 : decode cX8_behind 22 = .ok (.ireturn, 1) := by decide +kernel
theorem dX8_behind_23 : decode cX8_behind 23 = .ok (.aload_n 0, 1) := by decide +kernel
theorem dX8_behind_24 : decode cX8_behind 24 = .ok (.iload_n 2, 1) := by decide +kernel
theorem dX8_behind_25 : decode cX8_behind 25 = .ok (.iload_n 1, 1) := by decide +kernel
theorem dX8_behind_26 : decode cX8_behind 26 = .ok (.invokevirtual 100, 3) := by decide +kernel
theorem dX8_behind_29 : decode cX8_behind 29 = .ok (.ifCond .ge 6, 3) := by decide +kernel
theorem dX8_behind_32 : decode cX8_behind 32 = .ok (.bipush (-2), 2) := by decide +kernel
theorem dX8_behind_34 : decode cX8_behind 34 = .ok (.ireturn, 1) := by decide +kernel
theorem dX8_behind_35 : decode cX8_behind 35 = .ok (.aload_n 0, 1) := by decide +kernel
theorem dX8_behind_36 : decode cX8_behind 36 = .ok (.getfield 25, 3) := by decide +kernel
theorem dX8_behind_39 : decode cX8_behind 39 = .ok (.iconst 0, 1) := by decide +kernel
theorem dX8_behind_40 : decode cX8_behind 40 = .ok (.iaload, 1) := by decide +kernel
theorem dX8_behind_41 : decode cX8_behind 41 = .ok (.bipush 20, 2) := by decide +kernel
theorem dX8_behind_43 : decode cX8_behind 43 = .ok (.if_icmp .ne 6, 3) := by decide +kernel
theorem dX8_behind_46 : decode cX8_behind 46 = .ok (.bipush (-3), 2) := by decide +kernel
theorem dX8_behind_48 : decode cX8_behind 48 = .ok (.ireturn, 1) := by decide +kernel
theorem dX8_behind_49 : decode cX8_behind 49 = .ok (.aload_n 0, 1) := by decide +kernel
theorem dX8_behind_50 : decode cX8_behind 50 = .ok (.getfield 28, 3) := by decide +kernel
theorem dX8_behind_53 : decode cX8_behind 53 = .ok (.iconst 2, 1) := by decide +kernel
theorem dX8_behind_54 : decode cX8_behind 54 = .ok (.aload_n 0, 1) := by decide +kernel
theorem dX8_behind_55 : decode cX8_behind 55 = .ok (.getfield 25, 3) := by decide +kernel
theorem dX8_behind_58 : decode cX8_behind 58 = .ok (.iconst 0, 1) := by decide +kernel
theorem dX8_behind_59 : decode cX8_behind 59 = .ok (.iaload, 1) := by decide +kernel
theorem dX8_behind_60 : decode cX8_behind 60 = .ok (.imul, 1) := by decide +kernel
theorem dX8_behind_61 : decode cX8_behind 61 = .ok (.iload_n 1, 1) := by decide +kernel
theorem dX8_behind_62 : decode cX8_behind 62 = .ok (.iastore, 1) := by decide +kernel
theorem dX8_behind_63 : decode cX8_behind 63 = .ok (.aload_n 0, 1) := by decide +kernel
theorem dX8_behind_64 : decode cX8_behind 64 = .ok (.getfield 28, 3) := by decide +kernel
theorem dX8_behind_67 : decode cX8_behind 67 = .ok (.iconst 2, 1) := by decide +kernel
theorem dX8_behind_68 : decode cX8_behind 68 = .ok (.aload_n 0, 1) := by decide +kernel
theorem dX8_behind_69 : decode cX8_behind 69 = .ok (.getfield 25, 3) := by decide +kernel
theorem dX8_behind_72 : decode cX8_behind 72 = .ok (.iconst 0, 1) := by decide +kernel
theorem dX8_behind_73 : decode cX8_behind 73 = .ok (.iaload, 1) := by decide +kernel
theorem dX8_behind_74 : decode cX8_behind 74 = .ok (.imul, 1) := by decide +kernel
theorem dX8_behind_75 : decode cX8_behind 75 = .ok (.iconst 1, 1) := by decide +kernel
theorem dX8_behind_76 : decode cX8_behind 76 = .ok (.iadd, 1) := by decide +kernel
