theorem dX0_init_0 : decode cX0_init 0 = .ok (.aload_n 0, 1) := by decide +kernel
theorem dX0_init_1 : decode cX0_init 1 = .ok (.invokespecial 3, 3) := by decide +kernel
theorem dX0_init_4 : decode cX0_init 4 = .ok (.aload_n 0, 1) := by decide +kernel
theorem dX0_init_5 : decode cX0_init 5 = .ok (.bipush 40, 2) := by decide +kernel
theorem dX0_init_7 : decode cX0_init 7 = .ok (.newarray .int, 2) := by decide +kernel
theorem dX0_init_9 : decode cX0_init 9 = .ok (.putfield 11, 3) := by decide +kernel
theorem dX0_init_12 : decode cX0_init 12 = .ok (.aload_n 0, 1) := by decide +kernel
theorem dX0_init_13 : decode cX0_init 13 = .ok (.bipush 40, 2) := by decide +kernel
theorem dX0_init_15 : decode cX0_init 15 = .ok (.newarray .int, 2) := by decide +kernel
theorem dX0_init_17 : decode cX0_init 17 = .ok (.putfield 15, 3) := by decide +kernel
theorem dX0_init_20 : decode cX0_init 20 = .ok (.aload_n 0, 1) := by decide +kernel
theorem dX0_init_21 : decode cX0_init 21 = .ok (.bipush 40, 2) := by decide +kernel
theorem dX0_init_23 : decode cX0_init 23 = .ok (.newarray .int, 2) := by decide +kernel
theorem dX0_init_25 : decode cX0_init 25 = .ok (.putfield 18, 3) := by decide +kernel
theorem dX0_init_28 : decode cX0_init 28 = .ok (.aload_n 0, 1) := by decide +kernel
theorem dX0_init_29 : decode cX0_init 29 = .ok (.bipush 40, 2) := by decide +kernel
theorem dX0_init_31 : decode cX0_init 31 = .ok (.newarray .int, 2) := by decide +kernel
theorem dX0_init_33 : decode cX0_init 33 = .ok (.putfield 21, 3) := by decide +kernel
theorem dX0_init_36 : decode cX0_init 36 = .ok (.aload_n 0, 1) := by decide +kernel
theorem dX0_init_37 : decode cX0_init 37 = .ok (.bipush 40, 2) := by decide +kernel
theorem dX0_init_39 : decode cX0_init 39 = .ok (.newarray .int, 2) := by decide +kernel
theorem dX0_init_41 : decode cX0_init 41 = .ok (.putfield 24, 3) := by decide +kernel
theorem dX0_init_44 : decode cX0_init 44 = .ok (.aload_n 0, 1) := by decide +kernel
theorem dX0_init_45 : decode cX0_init 45 = .ok (.iconst 4, 1) := by decide +kernel
theorem dX0_init_46 : decode cX0_init 46 = .ok (.newarray .int, 2) := by decide +kernel
theorem dX0_init_48 : decode cX0_init 48 = .ok (.putfield 27, 3) := by decide +kernel
theorem dX0_init_51 : decode cX0_init 51 = .ok (.aload_n 0, 1) := by decide +kernel
theorem dX0_init_52 : decode cX0_init 52 = .ok (.iconst 0, 1) := by decide +kernel
theorem dX0_init_53 : decode cX0_init 53 = .ok (.putfield 30, 3) := by decide +kernel
theorem dX0_init_56 : decode cX0_init 56 = .ok (.aload_n 0, 1) := by decide +kernel
theorem dX0_init_57 : decode cX0_init 57 = .ok (.iconst 0, 1) := by decide +kernel
theorem dX0_init_58 : decode cX0_init 58 = .ok (.putfield 34, 3) := by decide +kernel
theorem dX0_init_61 : decode cX0_init 61 = .ok (.return_, 1) := by decide +kernel
theorem dX0_read_0 : decode cX0_read 0 = .ok (.aload_n 0, 1) := by decide +kernel
theorem dX0_read_1 : decode cX0_read 1 = .ok (.iconst 0, 1) := by decide +kernel
theorem dX0_read_2 : decode cX0_read 2 = .ok (.putfield 30, 3) := by decide +kernel
theorem dX0_read_5 : decode cX0_read 5 = .ok (.aload_n 0, 1) := by decide +kernel
theorem dX0_read_6 : decode cX0_read 6 = .ok (.iconst 0, 1) := by decide +kernel
theorem dX0_read_7 : decode cX0_read 7 = .ok (.putfield 34, 3) := by decide +kernel
theorem dX0_read_10 : decode cX0_read 10 = .ok (.aload_n 0, 1) := by decide +kernel
theorem dX0_read_11 : decode cX0_read 11 = .ok (.getfield 34, 3) := by decide +kernel
theorem dX0_read_14 : decode cX0_read 14 = .ok (.aload_n 1, 1) := by decide +kernel
theorem dX0_read_15 : decode cX0_read 15 = .ok (.getfield 37, 3) := by decide +kernel
theorem dX0_read_18 : decode cX0_read 18 = .ok (.if_icmp .ge 40, 3) := by decide +kernel
theorem dX0_read_21 : decode cX0_read 21 = .ok (.aload_n 0, 1) := by decide +kernel
theorem dX0_read_22 : decode cX0_read 22 = .ok (.getfield 30, 3) := by decide +kernel
theorem dX0_read_25 : decode cX0_read 25 = .ok (.bipush 40, 2) := by decide +kernel
theorem dX0_read_27 : decode cX0_read 27 = .ok (.if_icmp .ge 31, 3) := by decide +kernel
theorem dX0_read_30 : decode cX0_read 30 = .ok (.aload_n 0, 1) := by decide +kernel
theorem dX0_read_31 : decode cX0_read 31 = .ok (.getfield 34, 3) := by decide +kernel
theorem dX0_read_34 : decode cX0_read 34 = .ok (.istore_n 2, 1) := by decide +kernel
theorem dX0_read_35 : decode cX0_read 35 = .ok (.aload_n 0, 1) := by decide +kernel
theorem dX0_read_36 : decode cX0_read 36 = .ok (.aload_n 1, 1) := by decide +kernel
theorem dX0_read_37 : decode cX0_read 37 = .ok (.invokevirtual 42, 3) := by decide +kernel
theorem dX0_read_40 : decode cX0_read 40 = .ok (.ifCond .ne 5, 3) := by decide +kernel
theorem dX0_read_43 : decode cX0_read 43 = .ok (.iload_n 2, 1) := by decide +kernel
theorem dX0_read_44 : decode cX0_read 44 = .ok (.ireturn, 1) := by decide +kernel
theorem dX0_read_45 : decode cX0_read 45 = .ok (.aload_n 0, 1) := by decide +kernel
theorem dX0_read_46 : decode cX0_read 46 = .ok (.dup, 1) := by decide +kernel
theorem dX0_read_47 : decode cX0_read 47 = .ok (.getfield 30, 3) := by decide +kernel
theorem dX0_read_50 : decode cX0_read 50 = .ok (.iconst 1, 1) := by decide +kernel
theorem dX0_read_51 : decode cX0_read 51 = .ok (.iadd, 1) := by decide +kernel
theorem dX0_read_52 : decode cX0_read 52 = .ok (.putfield 30, 3) := by decide +kernel
theorem dX0_read_55 : decode cX0_read 55 = .ok (.goto (-45), 3) := by decide +kernel
theorem dX0_read_58 : decode cX0_read 58 = .ok (.aload_n 0, 1) := by decide +kernel
theorem dX0_read_59 : decode cX0_read 59 = .ok (.getfield 34, 3) := by decide +kernel
theorem dX0_read_62 : decode cX0_read 62 = .ok (.aload_n 1, 1) := by decide +kernel
theorem dX0_read_63 : decode cX0_read 63 = .ok (.getfield 37, 3) := by decide +kernel
theorem dX0_read_66 : decode cX0_read 66 = .ok (.if_icmp .ge 10, 3) := by decide +kernel
theorem dX0_read_69 : decode cX0_read 69 = .ok (.aload_n 0, 1) := by decide +kernel
theorem dX0_read_70 : decode cX0_read 70 = .ok (.getfield 34, 3) := by decide +kernel
theorem dX0_read_73 : decode cX0_read 73 = .ok (.goto 5, 3) := by decide +kernel
theorem dX0_read_76 : decode cX0_read 76 = .ok (.bipush (-4), 2) := by decide +kernel
theorem dX0_read_78 : decode cX0_read 78 = .ok (.ireturn, 1) := by decide +kernel
theorem dX0_readItem_0 : decode cX0_readItem 0 = .ok (.aload_n 1, 1) := by decide +kernel
theorem dX0_readItem_1 : decode cX0_readItem 1 = .ok (.aload_n 0, 1) := by decide +kernel
theorem dX0_readItem_2 : decode cX0_readItem 2 = .ok (.getfield 34, 3) := by decide +kernel
theorem dX0_readItem_5 : decode cX0_readItem 5 = .ok (.invokevirtual 46, 3) := by decide +kernel
theorem dX0_readItem_8 : decode cX0_readItem 8 = .ok (.invokestatic 50, 3) := by decide +kernel
theorem dX0_readItem_11 : decode cX0_readItem 11 = .ok (.istore_n 2, 1) := by decide +kernel
theorem dX0_readItem_12 : decode cX0_readItem 12 = .ok (.iload_n 2, 1) := by decide +kernel
theorem dX0_readItem_13 : decode cX0_readItem 13 = .ok (.iconst (-1), 1) := by decide +kernel
theorem dX0_readItem_14 : decode cX0_readItem 14 = .ok (.if_icmp .ne 5, 3) := by decide +kernel
theorem dX0_readItem_17 : decode cX0_readItem 17 = .ok (.iconst 0, 1) := by decide +kernel
theorem dX0_readItem_18 : decode cX0_readItem 18 = .ok (.ireturn, 1) := by decide +kernel
theorem dX0_readItem_19 : decode cX0_readItem 19 = .ok (.aload_n 0, 1) := by decide +kernel
theorem dX0_readItem_20 : decode cX0_readItem 20 = .ok (.dup, 1) := by decide +kernel
theorem dX0_readItem_21 : decode cX0_readItem 21 = .ok (.getfield 34, 3) := by decide +kernel
theorem dX0_readItem_24 : decode cX0_readItem 24 = .ok (.iconst 1, 1) := by decide +kernel
theorem dX0_readItem_25 : decode cX0_readItem 25 = .ok (.iadd, 1) := by decide +kernel
theorem dX0_readItem_26 : decode cX0_readItem 26 = .ok (.putfield 34, 3) := by decide +kernel
theorem dX0_readItem_29 : decode cX0_readItem 29 = .ok (.aload_n 0, 1) := by decide +kernel
theorem dX0_readItem_30 : decode cX0_readItem 30 = .ok (.aload_n 1, 1) := by decide +kernel
theorem dX0_readItem_31 : decode cX0_readItem 31 = .ok (.iload_n 2, 1) := by decide +kernel
theorem dX0_readItem_32 : decode cX0_readItem 32 = .ok (.invokevirtual 53, 3) := by decide +kernel
theorem dX0_readItem_35 : decode cX0_readItem 35 = .ok (.ifCond .ne 5, 3) := by decide +kernel
theorem dX0_readItem_38 : decode cX0_readItem 38 = .ok (.iconst 0, 1) := by decide +kernel
theorem dX0_readItem_39 : decode cX0_readItem 39 = .ok (.ireturn, 1) := by decide +kernel
theorem dX0_readItem_40 : decode cX0_readItem 40 = .ok (.iload_n 2, 1) := by decide +kernel
theorem dX0_readItem_41 : decode cX0_readItem 41 = .ok (.iconst 3, 1) := by decide +kernel
theorem dX0_readItem_42 : decode cX0_readItem 42 = .ok (.if_icmp .ne 13, 3) := by decide +kernel
theorem dX0_readItem_45 : decode cX0_readItem 45 = .ok (.aload_n 0, 1) := by decide +kernel
theorem dX0_readItem_46 : decode cX0_readItem 46 = .ok (.getfield 27, 3) := by decide +kernel
theorem dX0_readItem_49 : decode cX0_readItem 49 = .ok (.iconst 1, 1) := by decide +kernel
theorem dX0_readItem_50 : decode cX0_readItem 50 = .ok (.iaload, 1) := by decide +kernel
theorem dX0_readItem_51 : decode cX0_readItem 51 = .ok (.iconst 1, 1) := by decide +kernel
theorem dX0_readItem_52 : decode cX0_readItem 52 = .ok (.if_icmp .lt 23, 3) := by decide +kernel
theorem dX0_readItem_55 : decode cX0_readItem 55 = .ok (.iload_n 2, 1) := by decide +kernel
theorem dX0_readItem_56 : decode cX0_readItem 56 = .ok (.iconst 5, 1) := by decide +kernel
theorem dX0_readItem_57 : decode cX0_readItem 57 = .ok (.if_icmp .ne 20, 3) := by decide +kernel
theorem dX0_readItem_60 : decode cX0_readItem 60 = .ok (.aload_n 0, 1) := by decide +kernel
theorem dX0_readItem_61 : decode cX0_readItem 61 = .ok (.getfield 27, 3) := by decide +kernel
theorem dX0_readItem_64 : decode cX0_readItem 64 = .ok (.iconst 2, 1) := by decide +kernel
theorem dX0_readItem_65 : decode cX0_readItem 65 = .ok (.iaload, 1) := by decide +kernel
theorem dX0_readItem_66 : decode cX0_readItem 66 = .ok (.aload_n 0, 1) := by decide +kernel
theorem dX0_readItem_67 : decode cX0_readItem 67 = .ok (.getfield 27, 3) := by decide +kernel
theorem dX0_readItem_70 : decode cX0_readItem 70 = .ok (.iconst 3, 1) := by decide +kernel
theorem dX0_readItem_71 : decode cX0_readItem 71 = .ok (.iaload, 1) := by decide +kernel
theorem dX0_readItem_72 : decode cX0_readItem 72 = .ok (.if_icmp .le 5, 3) := by decide +kernel
theorem dX0_readItem_75 : decode cX0_readItem 75 = .ok (.iconst 0, 1) := by decide +kernel
theorem dX0_readItem_76 : decode cX0_readItem 76 = .ok (.ireturn, 1) := by decide +kernel
theorem dX0_readItem_77 : decode cX0_readItem 77 = .ok (.aload_n 0, 1) := by decide +kernel
theorem dX0_readItem_78 : decode cX0_readItem 78 = .ok (.getfield 11, 3) := by decide +kernel
theorem dX0_readItem_81 : decode cX0_readItem 81 = .ok (.aload_n 0, 1) := by decide +kernel
theorem dX0_readItem_82 : decode cX0_readItem 82 = .ok (.getfield 30, 3) := by decide +kernel
theorem dX0_readItem_85 : decode cX0_readItem 85 = .ok (.iload_n 2, 1) := by decide +kernel
theorem dX0_readItem_86 : decode cX0_readItem 86 = .ok (.iastore, 1) := by decide +kernel
theorem dX0_readItem_87 : decode cX0_readItem 87 = .ok (.aload_n 0, 1) := by decide +kernel
theorem dX0_readItem_88 : decode cX0_readItem 88 = .ok (.getfield 15, 3) := by decide +kernel
theorem dX0_readItem_91 : decode cX0_readItem 91 = .ok (.aload_n 0, 1) := by decide +kernel
theorem dX0_readItem_92 : decode cX0_readItem 92 = .ok (.getfield 30, 3) := by decide +kernel
theorem dX0_readItem_95 : decode cX0_readItem 95 = .ok (.aload_n 0, 1) := by decide +kernel
theorem dX0_readItem_96 : decode cX0_readItem 96 = .ok (.getfield 27, 3) := by decide +kernel
theorem dX0_readItem_99 : decode cX0_readItem 99 = .ok (.iconst 0, 1) := by decide +kernel
theorem dX0_readItem_100 : decode cX0_readItem 100 = .ok (.iaload, 1) := by decide +kernel
theorem dX0_readItem_101 : decode cX0_readItem 101 = .ok (.iastore, 1) := by decide +kernel
theorem dX0_readItem_102 : decode cX0_readItem 102 = .ok (.aload_n 0, 1) := by decide +kernel
theorem dX0_readItem_103 : decode cX0_readItem 103 = .ok (.getfield 18, 3) := by decide +kernel
theorem dX0_readItem_106 : decode cX0_readItem 106 = .ok (.aload_n 0, 1) := by decide +kernel
theorem dX0_readItem_107 : decode cX0_readItem 107 = .ok (.getfield 30, 3) := by decide +kernel
theorem dX0_readItem_110 : decode cX0_readItem 110 = .ok (.aload_n 0, 1) := by decide +kernel
theorem dX0_readItem_111 : decode cX0_readItem 111 = .ok (.getfield 27, 3) := by decide +kernel
theorem dX0_readItem_114 : decode cX0_readItem 114 = .ok (.iconst 1, 1) := by decide +kernel
theorem dX0_readItem_115 : decode cX0_readItem 115 = .ok (.iaload, 1) := by decide +kernel
theorem dX0_readItem_116 : decode cX0_readItem 116 = .ok (.iastore, 1) := by decide +kernel
theorem dX0_readItem_117 : decode cX0_readItem 117 = .ok (.aload_n 0, 1) := by decide +kernel
theorem dX0_readItem_118 : decode cX0_readItem 118 = .ok (.getfield 21, 3) := by decide +kernel
theorem dX0_readItem_121 : decode cX0_readItem 121 = .ok (.aload_n 0, 1) := by decide +kernel
theorem dX0_readItem_122 : decode cX0_readItem 122 = .ok (.getfield 30, 3) := by decide +kernel
theorem dX0_readItem_125 : decode cX0_readItem 125 = .ok (.aload_n 0, 1) := by decide +kernel
theorem dX0_readItem_126 : decode cX0_readItem 126 = .ok (.getfield 27, 3) := by decide +kernel
theorem dX0_readItem_129 : decode cX0_readItem 129 = .ok (.iconst 2, 1) := by decide +kernel
theorem dX0_readItem_130 : decode cX0_readItem 130 = .ok (.iaload, 1) := by decide +kernel
theorem dX0_readItem_131 : decode cX0_readItem 131 = .ok (.iastore, 1) := by decide +kernel
theorem dX0_readItem_132 : decode cX0_readItem 132 = .ok (.aload_n 0, 1) := by decide +kernel
theorem dX0_readItem_133 : decode cX0_readItem 133 = .ok (.getfield 24, 3) := by decide +kernel
theorem dX0_readItem_136 : decode cX0_readItem 136 = .ok (.aload_n 0, 1) := by decide +kernel
theorem dX0_readItem_137 : decode cX0_readItem 137 = .ok (.getfield 30, 3) := by decide +kernel
theorem dX0_readItem_140 : decode cX0_readItem 140 = .ok (.aload_n 0, 1) := by decide +kernel
theorem dX0_readItem_141 : decode cX0_readItem 141 = .ok (.getfield 27, 3) := by decide +kernel
theorem dX0_readItem_144 : decode cX0_readItem 144 = .ok (.iconst 3, 1) := by decide +kernel
theorem dX0_readItem_145 : decode cX0_readItem 145 = .ok (.iaload, 1) := by decide +kernel
theorem dX0_readItem_146 : decode cX0_readItem 146 = .ok (.iastore, 1) := by decide +kernel
theorem dX0_readItem_147 : decode cX0_readItem 147 = .ok (.iconst 1, 1) := by decide +kernel
theorem dX0_readItem_148 : decode cX0_readItem 148 = .ok (.ireturn, 1) := by decide +kernel
theorem dX0_kindOf_0 : decode cX0_kindOf 0 = .ok (.iconst 0, 1) := by decide +kernel
theorem dX0_kindOf_1 : decode cX0_kindOf 1 = .ok (.istore_n 1, 1) := by decide +kernel
theorem dX0_kindOf_2 : decode cX0_kindOf 2 = .ok (.iload_n 1, 1) := by decide +kernel
theorem dX0_kindOf_3 : decode cX0_kindOf 3 = .ok (.ldc 57, 2) := by decide +kernel
theorem dX0_kindOf_5 : decode cX0_kindOf 5 = .ok (.invokevirtual 59, 3) := by decide +kernel
theorem dX0_kindOf_8 : decode cX0_kindOf 8 = .ok (.if_icmp .ge 21, 3) := by decide +kernel
theorem dX0_kindOf_11 : decode cX0_kindOf 11 = .ok (.ldc 57, 2) := by decide +kernel
theorem dX0_kindOf_13 : decode cX0_kindOf 13 = .ok (.iload_n 1, 1) := by decide +kernel
theorem dX0_kindOf_14 : decode cX0_kindOf 14 = .ok (.invokevirtual 64, 3) := by decide +kernel
theorem dX0_kindOf_17 : decode cX0_kindOf 17 = .ok (.iload_n 0, 1) := by decide +kernel
theorem dX0_kindOf_18 : decode cX0_kindOf 18 = .ok (.if_icmp .ne 5, 3) := by decide +kernel
theorem dX0_kindOf_21 : decode cX0_kindOf 21 = .ok (.iload_n 1, 1) := by decide +kernel
theorem dX0_kindOf_22 : decode cX0_kindOf 22 = .ok (.ireturn, 1) := by decide +kernel
theorem dX0_kindOf_23 : decode cX0_kindOf 23 = .ok (.iinc 1 1, 3) := by decide +kernel
theorem dX0_kindOf_26 : decode cX0_kindOf 26 = .ok (.goto (-24), 3) := by decide +kernel
theorem dX0_kindOf_29 : decode cX0_kindOf 29 = .ok (.iconst (-1), 1) := by decide +kernel
theorem dX0_kindOf_30 : decode cX0_kindOf 30 = .ok (.ireturn, 1) := by decide +kernel
theorem dX0_readParts_0 : decode cX0_readParts 0 = .ok (.iload_n 2, 1) := by decide +kernel
theorem dX0_readParts_1 : decode cX0_readParts 1 = .ok (.iconst 5, 1) := by decide +kernel
theorem dX0_readParts_2 : decode cX0_readParts 2 = .ok (.if_icmp .ne 7, 3) := by decide +kernel
theorem dX0_readParts_5 : decode cX0_readParts 5 = .ok (.iconst 3, 1) := by decide +kernel
theorem dX0_readParts_6 : decode cX0_readParts 6 = .ok (.goto 4, 3) := by decide +kernel
theorem dX0_readParts_9 : decode cX0_readParts 9 = .ok (.iconst 2, 1) := by decide +kernel
theorem dX0_readParts_10 : decode cX0_readParts 10 = .ok (.istore_n 3, 1) := by decide +kernel
theorem dX0_readParts_11 : decode cX0_readParts 11 = .ok (.iconst 0, 1) := by decide +kernel
theorem dX0_readParts_12 : decode cX0_readParts 12 = .ok (.istore 4, 2) := by decide +kernel
theorem dX0_readParts_14 : decode cX0_readParts 14 = .ok (.iload 4, 2) := by decide +kernel
theorem dX0_readParts_16 : decode cX0_readParts 16 = .ok (.iconst 4, 1) := by decide +kernel
theorem dX0_readParts_17 : decode cX0_readParts 17 = .ok (.if_icmp .ge 105, 3) := by decide +kernel
theorem dX0_readParts_20 : decode cX0_readParts 20 = .ok (.aload_n 0, 1) := by decide +kernel
theorem dX0_readParts_21 : decode cX0_readParts 21 = .ok (.getfield 27, 3) := by decide +kernel
theorem dX0_readParts_24 : decode cX0_readParts 24 = .ok (.iload 4, 2) := by decide +kernel
theorem dX0_readParts_26 : decode cX0_readParts 26 = .ok (.iconst 0, 1) := by decide +kernel
theorem dX0_readParts_27 : decode cX0_readParts 27 = .ok (.iastore, 1) := by decide +kernel
theorem dX0_readParts_28 : decode cX0_readParts 28 = .ok (.getstatic 68, 3) := by decide +kernel
theorem dX0_readParts_31 : decode cX0_readParts 31 = .ok (.iload_n 2, 1) := by decide +kernel
theorem dX0_readParts_32 : decode cX0_readParts 32 = .ok (.iconst 4, 1) := by decide +kernel
theorem dX0_readParts_33 : decode cX0_readParts 33 = .ok (.imul, 1) := by decide +kernel
theorem dX0_readParts_34 : decode cX0_readParts 34 = .ok (.iload 4, 2) := by decide +kernel
theorem dX0_readParts_36 : decode cX0_readParts 36 = .ok (.iadd, 1) := by decide +kernel
theorem dX0_readParts_37 : decode cX0_readParts 37 = .ok (.iaload, 1) := by decide +kernel
theorem dX0_readParts_38 : decode cX0_readParts 38 = .ok (.istore 5, 2) := by decide +kernel
theorem dX0_readParts_40 : decode cX0_readParts 40 = .ok (.iload 5, 2) := by decide +kernel
theorem dX0_readParts_42 : decode cX0_readParts 42 = .ok (.iconst (-1), 1) := by decide +kernel
theorem dX0_readParts_43 : decode cX0_readParts 43 = .ok (.if_icmp .ne 6, 3) := by decide +kernel
theorem dX0_readParts_46 : decode cX0_readParts 46 = .ok (.goto 70, 3) := by decide +kernel
theorem dX0_readParts_49 : decode cX0_readParts 49 = .ok (.aload_n 0, 1) := by decide +kernel
theorem dX0_readParts_50 : decode cX0_readParts 50 = .ok (.aload_n 1, 1) := by decide +kernel
theorem dX0_readParts_51 : decode cX0_readParts 51 = .ok (.invokevirtual 71, 3) := by decide +kernel
theorem dX0_readParts_54 : decode cX0_readParts 54 = .ok (.istore 6, 2) := by decide +kernel
theorem dX0_readParts_56 : decode cX0_readParts 56 = .ok (.iload 6, 2) := by decide +kernel
theorem dX0_readParts_58 : decode cX0_readParts 58 = .ok (.iconst (-1), 1) := by decide +kernel
theorem dX0_readParts_59 : decode cX0_readParts 59 = .ok (.if_icmp .eq 10, 3) := by decide +kernel
theorem dX0_readParts_62 : decode cX0_readParts 62 = .ok (.iload 6, 2) := by decide +kernel
theorem dX0_readParts_64 : decode cX0_readParts 64 = .ok (.iload 5, 2) := by decide +kernel
theorem dX0_readParts_66 : decode cX0_readParts 66 = .ok (.if_icmp .le 5, 3) := by decide +kernel
theorem dX0_readParts_69 : decode cX0_readParts 69 = .ok (.iconst 0, 1) := by decide +kernel
theorem dX0_readParts_70 : decode cX0_readParts 70 = .ok (.ireturn, 1) := by decide +kernel
theorem dX0_readParts_71 : decode cX0_readParts 71 = .ok (.aload_n 0, 1) := by decide +kernel
theorem dX0_readParts_72 : decode cX0_readParts 72 = .ok (.getfield 27, 3) := by decide +kernel
theorem dX0_readParts_75 : decode cX0_readParts 75 = .ok (.iload 4, 2) := by decide +kernel
theorem dX0_readParts_77 : decode cX0_readParts 77 = .ok (.iload 6, 2) := by decide +kernel
theorem dX0_readParts_79 : decode cX0_readParts 79 = .ok (.iastore, 1) := by decide +kernel
theorem dX0_readParts_80 : decode cX0_readParts 80 = .ok (.aload_n 1, 1) := by decide +kernel
theorem dX0_readParts_81 : decode cX0_readParts 81 = .ok (.aload_n 0, 1) := by decide +kernel
theorem dX0_readParts_82 : decode cX0_readParts 82 = .ok (.getfield 34, 3) := by decide +kernel
theorem dX0_readParts_85 : decode cX0_readParts 85 = .ok (.invokevirtual 46, 3) := by decide +kernel
theorem dX0_readParts_88 : decode cX0_readParts 88 = .ok (.iload 4, 2) := by decide +kernel
theorem dX0_readParts_90 : decode cX0_readParts 90 = .ok (.iload_n 3, 1) := by decide +kernel
theorem dX0_readParts_91 : decode cX0_readParts 91 = .ok (.if_icmp .ne 8, 3) := by decide +kernel
theorem dX0_readParts_94 : decode cX0_readParts 94 = .ok (.bipush 59, 2) := by decide +kernel
theorem dX0_readParts_96 : decode cX0_readParts 96 = .ok (.goto 5, 3) := by decide +kernel
theorem dX0_readParts_99 : decode cX0_readParts 99 = .ok (.bipush 44, 2) := by decide +kernel
theorem dX0_readParts_101 : decode cX0_readParts 101 = .ok (.if_icmp .eq 5, 3) := by decide +kernel
theorem dX0_readParts_104 : decode cX0_readParts 104 = .ok (.iconst 0, 1) := by decide +kernel
theorem dX0_readParts_105 : decode cX0_readParts 105 = .ok (.ireturn, 1) := by decide +kernel
theorem dX0_readParts_106 : decode cX0_readParts 106 = .ok (.aload_n 0, 1) := by decide +kernel
theorem dX0_readParts_107 : decode cX0_readParts 107 = .ok (.dup, 1) := by decide +kernel
theorem dX0_readParts_108 : decode cX0_readParts 108 = .ok (.getfield 34, 3) := by decide +kernel
theorem dX0_readParts_111 : decode cX0_readParts 111 = .ok (.iconst 1, 1) := by decide +kernel
theorem dX0_readParts_112 : decode cX0_readParts 112 = .ok (.iadd, 1) := by decide +kernel
theorem dX0_readParts_113 : decode cX0_readParts 113 = .ok (.putfield 34, 3) := by decide +kernel
theorem dX0_readParts_116 : decode cX0_readParts 116 = .ok (.iinc 4 1, 3) := by decide +kernel
theorem dX0_readParts_119 : decode cX0_readParts 119 = .ok (.goto (-105), 3) := by decide +kernel
theorem dX0_readParts_122 : decode cX0_readParts 122 = .ok (.iconst 1, 1) := by decide +kernel
theorem dX0_readParts_123 : decode cX0_readParts 123 = .ok (.ireturn, 1) := by decide +kernel
theorem dX0_readNumber_0 : decode cX0_readNumber 0 = .ok (.iconst 0, 1) := by decide +kernel
theorem dX0_readNumber_1 : decode cX0_readNumber 1 = .ok (.istore_n 2, 1) := by decide +kernel
theorem dX0_readNumber_2 : decode cX0_readNumber 2 = .ok (.iconst 0, 1) := by decide +kernel
theorem dX0_readNumber_3 : decode cX0_readNumber 3 = .ok (.istore_n 3, 1) := by decide +kernel
theorem dX0_readNumber_4 : decode cX0_readNumber 4 = .ok (.iload_n 3, 1) := by decide +kernel
theorem dX0_readNumber_5 : decode cX0_readNumber 5 = .ok (.iconst 3, 1) := by decide +kernel
theorem dX0_readNumber_6 : decode cX0_readNumber 6 = .ok (.if_icmp .ge 50, 3) := by decide +kernel
theorem dX0_readNumber_9 : decode cX0_readNumber 9 = .ok (.aload_n 1, 1) := by decide +kernel
theorem dX0_readNumber_10 : decode cX0_readNumber 10 = .ok (.aload_n 0, 1) := by decide +kernel
theorem dX0_readNumber_11 : decode cX0_readNumber 11 = .ok (.getfield 34, 3) := by decide +kernel
theorem dX0_readNumber_14 : decode cX0_readNumber 14 = .ok (.invokevirtual 46, 3) := by decide +kernel
theorem dX0_readNumber_17 : decode cX0_readNumber 17 = .ok (.invokestatic 75, 3) := by decide +kernel
theorem dX0_readNumber_20 : decode cX0_readNumber 20 = .ok (.ifCond .eq 36, 3) := by decide +kernel
theorem dX0_readNumber_23 : decode cX0_readNumber 23 = .ok (.bipush 10, 2) := by decide +kernel
theorem dX0_readNumber_25 : decode cX0_readNumber 25 = .ok (.iload_n 2, 1) := by decide +kernel
theorem dX0_readNumber_26 : decode cX0_readNumber 26 = .ok (.imul, 1) := by decide +kernel
theorem dX0_readNumber_27 : decode cX0_readNumber 27 = .ok (.aload_n 1, 1) := by decide +kernel
theorem dX0_readNumber_28 : decode cX0_readNumber 28 = .ok (.aload_n 0, 1) := by decide +kernel
theorem dX0_readNumber_29 : decode cX0_readNumber 29 = .ok (.getfield 34, 3) := by decide +kernel
theorem dX0_readNumber_32 : decode cX0_readNumber 32 = .ok (.invokevirtual 46, 3) := by decide +kernel
theorem dX0_readNumber_35 : decode cX0_readNumber 35 = .ok (.iadd, 1) := by decide +kernel
theorem dX0_readNumber_36 : decode cX0_readNumber 36 = .ok (.bipush 48, 2) := by decide +kernel
theorem dX0_readNumber_38 : decode cX0_readNumber 38 = .ok (.isub, 1) := by decide +kernel
theorem dX0_readNumber_39 : decode cX0_readNumber 39 = .ok (.istore_n 2, 1) := by decide +kernel
theorem dX0_readNumber_40 : decode cX0_readNumber 40 = .ok (.aload_n 0, 1) := by decide +kernel
theorem dX0_readNumber_41 : decode cX0_readNumber 41 = .ok (.dup, 1) := by decide +kernel
theorem dX0_readNumber_42 : decode cX0_readNumber 42 = .ok (.getfield 34, 3) := by decide +kernel
theorem dX0_readNumber_45 : decode cX0_readNumber 45 = .ok (.iconst 1, 1) := by decide +kernel
theorem dX0_readNumber_46 : decode cX0_readNumber 46 = .ok (.iadd, 1) := by decide +kernel
theorem dX0_readNumber_47 : decode cX0_readNumber 47 = .ok (.putfield 34, 3) := by decide +kernel
theorem dX0_readNumber_50 : decode cX0_readNumber 50 = .ok (.iinc 3 1, 3) := by decide +kernel
theorem dX0_readNumber_53 : decode cX0_readNumber 53 = .ok (.goto (-49), 3) := by decide +kernel
theorem dX0_readNumber_56 : decode cX0_readNumber 56 = .ok (.iload_n 3, 1) := by decide +kernel
theorem dX0_readNumber_57 : decode cX0_readNumber 57 = .ok (.ifCond .ne 7, 3) := by decide +kernel
theorem dX0_readNumber_60 : decode cX0_readNumber 60 = .ok (.iconst (-1), 1) := by decide +kernel
theorem dX0_readNumber_61 : decode cX0_readNumber 61 = .ok (.goto 4, 3) := by decide +kernel
theorem dX0_readNumber_64 : decode cX0_readNumber 64 = .ok (.iload_n 2, 1) := by decide +kernel
theorem dX0_readNumber_65 : decode cX0_readNumber 65 = .ok (.ireturn, 1) := by decide +kernel
theorem dX0_isFigure_0 : decode cX0_isFigure 0 = .ok (.iload_n 0, 1) := by decide +kernel
theorem dX0_isFigure_1 : decode cX0_isFigure 1 = .ok (.bipush 48, 2) := by decide +kernel
theorem dX0_isFigure_3 : decode cX0_isFigure 3 = .ok (.if_icmp .lt 13, 3) := by decide +kernel
theorem dX0_isFigure_6 : decode cX0_isFigure 6 = .ok (.iload_n 0, 1) := by decide +kernel
theorem dX0_isFigure_7 : decode cX0_isFigure 7 = .ok (.bipush 57, 2) := by decide +kernel
theorem dX0_isFigure_9 : decode cX0_isFigure 9 = .ok (.if_icmp .gt 7, 3) := by decide +kernel
theorem dX0_isFigure_12 : decode cX0_isFigure 12 = .ok (.iconst 1, 1) := by decide +kernel
theorem dX0_isFigure_13 : decode cX0_isFigure 13 = .ok (.goto 4, 3) := by decide +kernel
theorem dX0_isFigure_16 : decode cX0_isFigure 16 = .ok (.iconst 0, 1) := by decide +kernel
theorem dX0_isFigure_17 : decode cX0_isFigure 17 = .ok (.ireturn, 1) := by decide +kernel
theorem dX0_holding_0 : decode cX0_holding 0 = .ok (.iload_n 1, 1) := by decide +kernel
theorem dX0_holding_1 : decode cX0_holding 1 = .ok (.iconst 1, 1) := by decide +kernel
theorem dX0_holding_2 : decode cX0_holding 2 = .ok (.if_icmp .le 7, 3) := by decide +kernel
theorem dX0_holding_5 : decode cX0_holding 5 = .ok (.iconst 0, 1) := by decide +kernel
theorem dX0_holding_6 : decode cX0_holding 6 = .ok (.goto 4, 3) := by decide +kernel
theorem dX0_holding_9 : decode cX0_holding 9 = .ok (.iload_n 2, 1) := by decide +kernel
theorem dX0_holding_10 : decode cX0_holding 10 = .ok (.istore 4, 2) := by decide +kernel
theorem dX0_holding_12 : decode cX0_holding 12 = .ok (.aload_n 0, 1) := by decide +kernel
theorem dX0_holding_13 : decode cX0_holding 13 = .ok (.getfield 30, 3) := by decide +kernel
theorem dX0_holding_16 : decode cX0_holding 16 = .ok (.iconst 1, 1) := by decide +kernel
theorem dX0_holding_17 : decode cX0_holding 17 = .ok (.isub, 1) := by decide +kernel
theorem dX0_holding_18 : decode cX0_holding 18 = .ok (.istore 5, 2) := by decide +kernel
theorem dX0_holding_20 : decode cX0_holding 20 = .ok (.iload 5, 2) := by decide +kernel
theorem dX0_holding_22 : decode cX0_holding 22 = .ok (.ifCond .lt 46, 3) := by decide +kernel
theorem dX0_holding_25 : decode cX0_holding 25 = .ok (.aload_n 0, 1) := by decide +kernel
theorem dX0_holding_26 : decode cX0_holding 26 = .ok (.getfield 11, 3) := by decide +kernel
theorem dX0_holding_29 : decode cX0_holding 29 = .ok (.iload 5, 2) := by decide +kernel
theorem dX0_holding_31 : decode cX0_holding 31 = .ok (.iaload, 1) := by decide +kernel
theorem dX0_holding_32 : decode cX0_holding 32 = .ok (.iload_n 1, 1) := by decide +kernel
theorem dX0_holding_33 : decode cX0_holding 33 = .ok (.if_icmp .ne 29, 3) := by decide +kernel
theorem dX0_holding_36 : decode cX0_holding 36 = .ok (.aload_n 0, 1) := by decide +kernel
theorem dX0_holding_37 : decode cX0_holding 37 = .ok (.getfield 15, 3) := by decide +kernel
theorem dX0_holding_40 : decode cX0_holding 40 = .ok (.iload 5, 2) := by decide +kernel
theorem dX0_holding_42 : decode cX0_holding 42 = .ok (.iaload, 1) := by decide +kernel
theorem dX0_holding_43 : decode cX0_holding 43 = .ok (.iload 4, 2) := by decide +kernel
theorem dX0_holding_45 : decode cX0_holding 45 = .ok (.if_icmp .ne 17, 3) := by decide +kernel
theorem dX0_holding_48 : decode cX0_holding 48 = .ok (.aload_n 0, 1) := by decide +kernel
theorem dX0_holding_49 : decode cX0_holding 49 = .ok (.getfield 21, 3) := by decide +kernel
theorem dX0_holding_52 : decode cX0_holding 52 = .ok (.iload 5, 2) := by decide +kernel
theorem dX0_holding_54 : decode cX0_holding 54 = .ok (.iaload, 1) := by decide +kernel
theorem dX0_holding_55 : decode cX0_holding 55 = .ok (.iload_n 3, 1) := by decide +kernel
theorem dX0_holding_56 : decode cX0_holding 56 = .ok (.if_icmp .gt 6, 3) := by decide +kernel
theorem dX0_holding_59 : decode cX0_holding 59 = .ok (.iload 5, 2) := by decide +kernel
theorem dX0_holding_61 : decode cX0_holding 61 = .ok (.ireturn, 1) := by decide +kernel
theorem dX0_holding_62 : decode cX0_holding 62 = .ok (.iinc 5 (-1), 3) := by decide +kernel
theorem dX0_holding_65 : decode cX0_holding 65 = .ok (.goto (-45), 3) := by decide +kernel
theorem dX0_holding_68 : decode cX0_holding 68 = .ok (.bipush (-4), 2) := by decide +kernel
theorem dX0_holding_70 : decode cX0_holding 70 = .ok (.ireturn, 1) := by decide +kernel
theorem dX0_amountOn_0 : decode cX0_amountOn 0 = .ok (.aload_n 0, 1) := by decide +kernel
theorem dX0_amountOn_1 : decode cX0_amountOn 1 = .ok (.iload_n 1, 1) := by decide +kernel
theorem dX0_amountOn_2 : decode cX0_amountOn 2 = .ok (.iload_n 2, 1) := by decide +kernel
theorem dX0_amountOn_3 : decode cX0_amountOn 3 = .ok (.iload_n 3, 1) := by decide +kernel
theorem dX0_amountOn_4 : decode cX0_amountOn 4 = .ok (.invokevirtual 79, 3) := by decide +kernel
theorem dX0_amountOn_7 : decode cX0_amountOn 7 = .ok (.istore 4, 2) := by decide +kernel
theorem dX0_amountOn_9 : decode cX0_amountOn 9 = .ok (.iload 4, 2) := by decide +kernel
theorem dX0_amountOn_11 : decode cX0_amountOn 11 = .ok (.bipush (-4), 2) := by decide +kernel
theorem dX0_amountOn_13 : decode cX0_amountOn 13 = .ok (.if_icmp .ne 11, 3) := by decide +kernel
theorem dX0_amountOn_16 : decode cX0_amountOn 16 = .ok (.getstatic 83, 3) := by decide +kernel
theorem dX0_amountOn_19 : decode cX0_amountOn 19 = .ok (.iload_n 1, 1) := by decide +kernel
theorem dX0_amountOn_20 : decode cX0_amountOn 20 = .ok (.iaload, 1) := by decide +kernel
theorem dX0_amountOn_21 : decode cX0_amountOn 21 = .ok (.goto 10, 3) := by decide +kernel
theorem dX0_amountOn_24 : decode cX0_amountOn 24 = .ok (.aload_n 0, 1) := by decide +kernel
theorem dX0_amountOn_25 : decode cX0_amountOn 25 = .ok (.getfield 18, 3) := by decide +kernel
theorem dX0_amountOn_28 : decode cX0_amountOn 28 = .ok (.iload 4, 2) := by decide +kernel
theorem dX0_amountOn_30 : decode cX0_amountOn 30 = .ok (.iaload, 1) := by decide +kernel
theorem dX0_amountOn_31 : decode cX0_amountOn 31 = .ok (.ireturn, 1) := by decide +kernel
theorem dX0_firstQuarrel_0 : decode cX0_firstQuarrel 0 = .ok (.iconst 0, 1) := by decide +kernel
theorem dX0_firstQuarrel_1 : decode cX0_firstQuarrel 1 = .ok (.istore_n 1, 1) := by decide +kernel
theorem dX0_firstQuarrel_2 : decode cX0_firstQuarrel 2 = .ok (.iload_n 1, 1) := by decide +kernel
theorem dX0_firstQuarrel_3 : decode cX0_firstQuarrel 3 = .ok (.aload_n 0, 1) := by decide +kernel
theorem dX0_firstQuarrel_4 : decode cX0_firstQuarrel 4 = .ok (.getfield 30, 3) := by decide +kernel
theorem dX0_firstQuarrel_7 : decode cX0_firstQuarrel 7 = .ok (.if_icmp .ge 43, 3) := by decide +kernel
theorem dX0_firstQuarrel_10 : decode cX0_firstQuarrel 10 = .ok (.iload_n 1, 1) := by decide +kernel
theorem dX0_firstQuarrel_11 : decode cX0_firstQuarrel 11 = .ok (.iconst 1, 1) := by decide +kernel
theorem dX0_firstQuarrel_12 : decode cX0_firstQuarrel 12 = .ok (.iadd, 1) := by decide +kernel
theorem dX0_firstQuarrel_13 : decode cX0_firstQuarrel 13 = .ok (.istore_n 2, 1) := by decide +kernel
theorem dX0_firstQuarrel_14 : decode cX0_firstQuarrel 14 = .ok (.iload_n 2, 1) := by decide +kernel
theorem dX0_firstQuarrel_15 : decode cX0_firstQuarrel 15 = .ok (.aload_n 0, 1) := by decide +kernel
theorem dX0_firstQuarrel_16 : decode cX0_firstQuarrel 16 = .ok (.getfield 30, 3) := by decide +kernel
theorem dX0_firstQuarrel_19 : decode cX0_firstQuarrel 19 = .ok (.if_icmp .ge 25, 3) := by decide +kernel
theorem dX0_firstQuarrel_22 : decode cX0_firstQuarrel 22 = .ok (.aload_n 0, 1) := by decide +kernel
theorem dX0_firstQuarrel_23 : decode cX0_firstQuarrel 23 = .ok (.iload_n 1, 1) := by decide +kernel
theorem dX0_firstQuarrel_24 : decode cX0_firstQuarrel 24 = .ok (.iload_n 2, 1) := by decide +kernel
theorem dX0_firstQuarrel_25 : decode cX0_firstQuarrel 25 = .ok (.invokevirtual 86, 3) := by decide +kernel
theorem dX0_firstQuarrel_28 : decode cX0_firstQuarrel 28 = .ok (.ifCond .eq 10, 3) := by decide +kernel
theorem dX0_firstQuarrel_31 : decode cX0_firstQuarrel 31 = .ok (.bipush 100, 2) := by decide +kernel
theorem dX0_firstQuarrel_33 : decode cX0_firstQuarrel 33 = .ok (.iload_n 1, 1) := by decide +kernel
theorem dX0_firstQuarrel_34 : decode cX0_firstQuarrel 34 = .ok (.imul, 1) := by decide +kernel
theorem dX0_firstQuarrel_35 : decode cX0_firstQuarrel 35 = .ok (.iload_n 2, 1) := by decide +kernel
theorem dX0_firstQuarrel_36 : decode cX0_firstQuarrel 36 = .ok (.iadd, 1) := by decide +kernel
theorem dX0_firstQuarrel_37 : decode cX0_firstQuarrel 37 = .ok (.ireturn, 1) := by decide +kernel
theorem dX0_firstQuarrel_38 : decode cX0_firstQuarrel 38 = .ok (.iinc 2 1, 3) := by decide +kernel
theorem dX0_firstQuarrel_41 : decode cX0_firstQuarrel 41 = .ok (.goto (-27), 3) := by decide +kernel
theorem dX0_firstQuarrel_44 : decode cX0_firstQuarrel 44 = .ok (.iinc 1 1, 3) := by decide +kernel
theorem dX0_firstQuarrel_47 : decode cX0_firstQuarrel 47 = .ok (.goto (-45), 3) := by decide +kernel
theorem dX0_firstQuarrel_50 : decode cX0_firstQuarrel 50 = .ok (.bipush (-4), 2) := by decide +kernel
theorem dX0_firstQuarrel_52 : decode cX0_firstQuarrel 52 = .ok (.ireturn, 1) := by decide +kernel
theorem dX0_disagree_0 : decode cX0_disagree 0 = .ok (.aload_n 0, 1) := by decide +kernel
theorem dX0_disagree_1 : decode cX0_disagree 1 = .ok (.getfield 11, 3) := by decide +kernel
theorem dX0_disagree_4 : decode cX0_disagree 4 = .ok (.iload_n 1, 1) := by decide +kernel
theorem dX0_disagree_5 : decode cX0_disagree 5 = .ok (.iaload, 1) := by decide +kernel
theorem dX0_disagree_6 : decode cX0_disagree 6 = .ok (.iconst 5, 1) := by decide +kernel
theorem dX0_disagree_7 : decode cX0_disagree 7 = .ok (.if_icmp .eq 67, 3) := by decide +kernel
theorem dX0_disagree_10 : decode cX0_disagree 10 = .ok (.aload_n 0, 1) := by decide +kernel
theorem dX0_disagree_11 : decode cX0_disagree 11 = .ok (.getfield 11, 3) := by decide +kernel
theorem dX0_disagree_14 : decode cX0_disagree 14 = .ok (.iload_n 1, 1) := by decide +kernel
theorem dX0_disagree_15 : decode cX0_disagree 15 = .ok (.iaload, 1) := by decide +kernel
theorem dX0_disagree_16 : decode cX0_disagree 16 = .ok (.aload_n 0, 1) := by decide +kernel
theorem dX0_disagree_17 : decode cX0_disagree 17 = .ok (.getfield 11, 3) := by decide +kernel
theorem dX0_disagree_20 : decode cX0_disagree 20 = .ok (.iload_n 2, 1) := by decide +kernel
theorem dX0_disagree_21 : decode cX0_disagree 21 = .ok (.iaload, 1) := by decide +kernel
theorem dX0_disagree_22 : decode cX0_disagree 22 = .ok (.if_icmp .ne 52, 3) := by decide +kernel
theorem dX0_disagree_25 : decode cX0_disagree 25 = .ok (.aload_n 0, 1) := by decide +kernel
theorem dX0_disagree_26 : decode cX0_disagree 26 = .ok (.getfield 15, 3) := by decide +kernel
theorem dX0_disagree_29 : decode cX0_disagree 29 = .ok (.iload_n 1, 1) := by decide +kernel
theorem dX0_disagree_30 : decode cX0_disagree 30 = .ok (.iaload, 1) := by decide +kernel
theorem dX0_disagree_31 : decode cX0_disagree 31 = .ok (.aload_n 0, 1) := by decide +kernel
theorem dX0_disagree_32 : decode cX0_disagree 32 = .ok (.getfield 15, 3) := by decide +kernel
theorem dX0_disagree_35 : decode cX0_disagree 35 = .ok (.iload_n 2, 1) := by decide +kernel
theorem dX0_disagree_36 : decode cX0_disagree 36 = .ok (.iaload, 1) := by decide +kernel
theorem dX0_disagree_37 : decode cX0_disagree 37 = .ok (.if_icmp .ne 37, 3) := by decide +kernel
theorem dX0_disagree_40 : decode cX0_disagree 40 = .ok (.aload_n 0, 1) := by decide +kernel
theorem dX0_disagree_41 : decode cX0_disagree 41 = .ok (.getfield 21, 3) := by decide +kernel
theorem dX0_disagree_44 : decode cX0_disagree 44 = .ok (.iload_n 1, 1) := by decide +kernel
theorem dX0_disagree_45 : decode cX0_disagree 45 = .ok (.iaload, 1) := by decide +kernel
theorem dX0_disagree_46 : decode cX0_disagree 46 = .ok (.aload_n 0, 1) := by decide +kernel
theorem dX0_disagree_47 : decode cX0_disagree 47 = .ok (.getfield 21, 3) := by decide +kernel
theorem dX0_disagree_50 : decode cX0_disagree 50 = .ok (.iload_n 2, 1) := by decide +kernel
theorem dX0_disagree_51 : decode cX0_disagree 51 = .ok (.iaload, 1) := by decide +kernel
theorem dX0_disagree_52 : decode cX0_disagree 52 = .ok (.if_icmp .ne 22, 3) := by decide +kernel
theorem dX0_disagree_55 : decode cX0_disagree 55 = .ok (.aload_n 0, 1) := by decide +kernel
theorem dX0_disagree_56 : decode cX0_disagree 56 = .ok (.getfield 18, 3) := by decide +kernel
theorem dX0_disagree_59 : decode cX0_disagree 59 = .ok (.iload_n 1, 1) := by decide +kernel
theorem dX0_disagree_60 : decode cX0_disagree 60 = .ok (.iaload, 1) := by decide +kernel
theorem dX0_disagree_61 : decode cX0_disagree 61 = .ok (.aload_n 0, 1) := by decide +kernel
theorem dX0_disagree_62 : decode cX0_disagree 62 = .ok (.getfield 18, 3) := by decide +kernel
theorem dX0_disagree_65 : decode cX0_disagree 65 = .ok (.iload_n 2, 1) := by decide +kernel
theorem dX0_disagree_66 : decode cX0_disagree 66 = .ok (.iaload, 1) := by decide +kernel
theorem dX0_disagree_67 : decode cX0_disagree 67 = .ok (.if_icmp .eq 7, 3) := by decide +kernel
theorem dX0_disagree_70 : decode cX0_disagree 70 = .ok (.iconst 1, 1) := by decide +kernel
theorem dX0_disagree_71 : decode cX0_disagree 71 = .ok (.goto 4, 3) := by decide +kernel
theorem dX0_disagree_74 : decode cX0_disagree 74 = .ok (.iconst 0, 1) := by decide +kernel
theorem dX0_disagree_75 : decode cX0_disagree 75 = .ok (.ireturn, 1) := by decide +kernel
theorem dX0_forbids_0 : decode cX0_forbids 0 = .ok (.iconst 0, 1) := by decide +kernel
theorem dX0_forbids_1 : decode cX0_forbids 1 = .ok (.istore 5, 2) := by decide +kernel
theorem dX0_forbids_3 : decode cX0_forbids 3 = .ok (.iload 5, 2) := by decide +kernel
theorem dX0_forbids_5 : decode cX0_forbids 5 = .ok (.aload_n 0, 1) := by decide +kernel
theorem dX0_forbids_6 : decode cX0_forbids 6 = .ok (.getfield 30, 3) := by decide +kernel
theorem dX0_forbids_9 : decode cX0_forbids 9 = .ok (.if_icmp .ge 67, 3) := by decide +kernel
theorem dX0_forbids_12 : decode cX0_forbids 12 = .ok (.aload_n 0, 1) := by decide +kernel
theorem dX0_forbids_13 : decode cX0_forbids 13 = .ok (.getfield 11, 3) := by decide +kernel
theorem dX0_forbids_16 : decode cX0_forbids 16 = .ok (.iload 5, 2) := by decide +kernel
theorem dX0_forbids_18 : decode cX0_forbids 18 = .ok (.iaload, 1) := by decide +kernel
theorem dX0_forbids_19 : decode cX0_forbids 19 = .ok (.iconst 5, 1) := by decide +kernel
theorem dX0_forbids_20 : decode cX0_forbids 20 = .ok (.if_icmp .ne 50, 3) := by decide +kernel
theorem dX0_forbids_23 : decode cX0_forbids 23 = .ok (.aload_n 0, 1) := by decide +kernel
theorem dX0_forbids_24 : decode cX0_forbids 24 = .ok (.getfield 15, 3) := by decide +kernel
theorem dX0_forbids_27 : decode cX0_forbids 27 = .ok (.iload 5, 2) := by decide +kernel
theorem dX0_forbids_29 : decode cX0_forbids 29 = .ok (.iaload, 1) := by decide +kernel
theorem dX0_forbids_30 : decode cX0_forbids 30 = .ok (.iload_n 1, 1) := by decide +kernel
theorem dX0_forbids_31 : decode cX0_forbids 31 = .ok (.if_icmp .ne 39, 3) := by decide +kernel
theorem dX0_forbids_34 : decode cX0_forbids 34 = .ok (.aload_n 0, 1) := by decide +kernel
theorem dX0_forbids_35 : decode cX0_forbids 35 = .ok (.getfield 18, 3) := by decide +kernel
theorem dX0_forbids_38 : decode cX0_forbids 38 = .ok (.iload 5, 2) := by decide +kernel
theorem dX0_forbids_40 : decode cX0_forbids 40 = .ok (.iaload, 1) := by decide +kernel
theorem dX0_forbids_41 : decode cX0_forbids 41 = .ok (.iload_n 2, 1) := by decide +kernel
theorem dX0_forbids_42 : decode cX0_forbids 42 = .ok (.if_icmp .ne 28, 3) := by decide +kernel
theorem dX0_forbids_45 : decode cX0_forbids 45 = .ok (.aload_n 0, 1) := by decide +kernel
theorem dX0_forbids_46 : decode cX0_forbids 46 = .ok (.getfield 21, 3) := by decide +kernel
theorem dX0_forbids_49 : decode cX0_forbids 49 = .ok (.iload 5, 2) := by decide +kernel
theorem dX0_forbids_51 : decode cX0_forbids 51 = .ok (.iaload, 1) := by decide +kernel
theorem dX0_forbids_52 : decode cX0_forbids 52 = .ok (.iload 4, 2) := by decide +kernel
theorem dX0_forbids_54 : decode cX0_forbids 54 = .ok (.if_icmp .gt 16, 3) := by decide +kernel
theorem dX0_forbids_57 : decode cX0_forbids 57 = .ok (.aload_n 0, 1) := by decide +kernel
theorem dX0_forbids_58 : decode cX0_forbids 58 = .ok (.getfield 24, 3) := by decide +kernel
theorem dX0_forbids_61 : decode cX0_forbids 61 = .ok (.iload 5, 2) := by decide +kernel
theorem dX0_forbids_63 : decode cX0_forbids 63 = .ok (.iaload, 1) := by decide +kernel
theorem dX0_forbids_64 : decode cX0_forbids 64 = .ok (.iload_n 3, 1) := by decide +kernel
theorem dX0_forbids_65 : decode cX0_forbids 65 = .ok (.if_icmp .lt 5, 3) := by decide +kernel
theorem dX0_forbids_68 : decode cX0_forbids 68 = .ok (.iconst 1, 1) := by decide +kernel
theorem dX0_forbids_69 : decode cX0_forbids 69 = .ok (.ireturn, 1) := by decide +kernel
theorem dX0_forbids_70 : decode cX0_forbids 70 = .ok (.iinc 5 1, 3) := by decide +kernel
theorem dX0_forbids_73 : decode cX0_forbids 73 = .ok (.goto (-70), 3) := by decide +kernel
theorem dX0_forbids_76 : decode cX0_forbids 76 = .ok (.iconst 0, 1) := by decide +kernel
theorem dX0_forbids_77 : decode cX0_forbids 77 = .ok (.ireturn, 1) := by decide +kernel
theorem dX1_init_0 : decode cX1_init 0 = .ok (.aload_n 0, 1) := by decide +kernel
theorem dX1_init_1 : decode cX1_init 1 = .ok (.invokespecial 3, 3) := by decide +kernel
theorem dX1_init_4 : decode cX1_init 4 = .ok (.aload_n 0, 1) := by decide +kernel
theorem dX1_init_5 : decode cX1_init 5 = .ok (.iconst 0, 1) := by decide +kernel
theorem dX1_init_6 : decode cX1_init 6 = .ok (.putfield 9, 3) := by decide +kernel
theorem dX1_init_9 : decode cX1_init 9 = .ok (.aload_n 0, 1) := by decide +kernel
theorem dX1_init_10 : decode cX1_init 10 = .ok (.bipush 12, 2) := by decide +kernel
theorem dX1_init_12 : decode cX1_init 12 = .ok (.newarray .int, 2) := by decide +kernel
theorem dX1_init_14 : decode cX1_init 14 = .ok (.putfield 15, 3) := by decide +kernel
theorem dX1_init_17 : decode cX1_init 17 = .ok (.aload_n 0, 1) := by decide +kernel
theorem dX1_init_18 : decode cX1_init 18 = .ok (.bipush 12, 2) := by decide +kernel
theorem dX1_init_20 : decode cX1_init 20 = .ok (.newarray .int, 2) := by decide +kernel
theorem dX1_init_22 : decode cX1_init 22 = .ok (.putfield 19, 3) := by decide +kernel
theorem dX1_init_25 : decode cX1_init 25 = .ok (.aload_n 0, 1) := by decide +kernel
theorem dX1_init_26 : decode cX1_init 26 = .ok (.bipush 12, 2) := by decide +kernel
theorem dX1_init_28 : decode cX1_init 28 = .ok (.newarray .int, 2) := by decide +kernel
theorem dX1_init_30 : decode cX1_init 30 = .ok (.putfield 22, 3) := by decide +kernel
theorem dX1_init_33 : decode cX1_init 33 = .ok (.aload_n 0, 1) := by decide +kernel
theorem dX1_init_34 : decode cX1_init 34 = .ok (.iconst 0, 1) := by decide +kernel
theorem dX1_init_35 : decode cX1_init 35 = .ok (.putfield 25, 3) := by decide +kernel
theorem dX1_init_38 : decode cX1_init 38 = .ok (.aload_n 0, 1) := by decide +kernel
theorem dX1_init_39 : decode cX1_init 39 = .ok (.bipush 20, 2) := by decide +kernel
theorem dX1_init_41 : decode cX1_init 41 = .ok (.newarray .int, 2) := by decide +kernel
theorem dX1_init_43 : decode cX1_init 43 = .ok (.putfield 28, 3) := by decide +kernel
theorem dX1_init_46 : decode cX1_init 46 = .ok (.aload_n 0, 1) := by decide +kernel
theorem dX1_init_47 : decode cX1_init 47 = .ok (.bipush 20, 2) := by decide +kernel
theorem dX1_init_49 : decode cX1_init 49 = .ok (.newarray .int, 2) := by decide +kernel
theorem dX1_init_51 : decode cX1_init 51 = .ok (.putfield 31, 3) := by decide +kernel
theorem dX1_init_54 : decode cX1_init 54 = .ok (.aload_n 0, 1) := by decide +kernel
theorem dX1_init_55 : decode cX1_init 55 = .ok (.iconst 0, 1) := by decide +kernel
theorem dX1_init_56 : decode cX1_init 56 = .ok (.putfield 34, 3) := by decide +kernel
theorem dX1_init_59 : decode cX1_init 59 = .ok (.aload_n 0, 1) := by decide +kernel
theorem dX1_init_60 : decode cX1_init 60 = .ok (.bipush 30, 2) := by decide +kernel
theorem dX1_init_62 : decode cX1_init 62 = .ok (.newarray .int, 2) := by decide +kernel
theorem dX1_init_64 : decode cX1_init 64 = .ok (.putfield 37, 3) := by decide +kernel
theorem dX1_init_67 : decode cX1_init 67 = .ok (.aload_n 0, 1) := by decide +kernel
theorem dX1_init_68 : decode cX1_init 68 = .ok (.bipush 30, 2) := by decide +kernel
theorem dX1_init_70 : decode cX1_init 70 = .ok (.newarray .int, 2) := by decide +kernel
theorem dX1_init_72 : decode cX1_init 72 = .ok (.putfield 40, 3) := by decide +kernel
theorem dX1_init_75 : decode cX1_init 75 = .ok (.aload_n 0, 1) := by decide +kernel
theorem dX1_init_76 : decode cX1_init 76 = .ok (.bipush 30, 2) := by decide +kernel
theorem dX1_init_78 : decode cX1_init 78 = .ok (.newarray .int, 2) := by decide +kernel
theorem dX1_init_80 : decode cX1_init 80 = .ok (.putfield 43, 3) := by decide +kernel
theorem dX1_init_83 : decode cX1_init 83 = .ok (.aload_n 0, 1) := by decide +kernel
theorem dX1_init_84 : decode cX1_init 84 = .ok (.bipush 30, 2) := by decide +kernel
theorem dX1_init_86 : decode cX1_init 86 = .ok (.newarray .int, 2) := by decide +kernel
theorem dX1_init_88 : decode cX1_init 88 = .ok (.putfield 46, 3) := by decide +kernel
theorem dX1_init_91 : decode cX1_init 91 = .ok (.aload_n 0, 1) := by decide +kernel
theorem dX1_init_92 : decode cX1_init 92 = .ok (.iconst 0, 1) := by decide +kernel
theorem dX1_init_93 : decode cX1_init 93 = .ok (.putfield 49, 3) := by decide +kernel
theorem dX1_init_96 : decode cX1_init 96 = .ok (.aload_n 0, 1) := by decide +kernel
theorem dX1_init_97 : decode cX1_init 97 = .ok (.iconst 0, 1) := by decide +kernel
theorem dX1_init_98 : decode cX1_init 98 = .ok (.putfield 52, 3) := by decide +kernel
theorem dX1_init_101 : decode cX1_init 101 = .ok (.aload_n 0, 1) := by decide +kernel
theorem dX1_init_102 : decode cX1_init 102 = .ok (.bipush 10, 2) := by decide +kernel
theorem dX1_init_104 : decode cX1_init 104 = .ok (.newarray .int, 2) := by decide +kernel
theorem dX1_init_106 : decode cX1_init 106 = .ok (.putfield 55, 3) := by decide +kernel
theorem dX1_init_109 : decode cX1_init 109 = .ok (.aload_n 0, 1) := by decide +kernel
theorem dX1_init_110 : decode cX1_init 110 = .ok (.bipush 10, 2) := by decide +kernel
theorem dX1_init_112 : decode cX1_init 112 = .ok (.newarray .int, 2) := by decide +kernel
theorem dX1_init_114 : decode cX1_init 114 = .ok (.putfield 58, 3) := by decide +kernel
theorem dX1_init_117 : decode cX1_init 117 = .ok (.aload_n 0, 1) := by decide +kernel
theorem dX1_init_118 : decode cX1_init 118 = .ok (.bipush 10, 2) := by decide +kernel
theorem dX1_init_120 : decode cX1_init 120 = .ok (.newarray .int, 2) := by decide +kernel
theorem dX1_init_122 : decode cX1_init 122 = .ok (.putfield 61, 3) := by decide +kernel
theorem dX1_init_125 : decode cX1_init 125 = .ok (.aload_n 0, 1) := by decide +kernel
theorem dX1_init_126 : decode cX1_init 126 = .ok (.getfield 58, 3) := by decide +kernel
theorem dX1_init_129 : decode cX1_init 129 = .ok (.iconst (-1), 1) := by decide +kernel
theorem dX1_init_130 : decode cX1_init 130 = .ok (.invokestatic 64, 3) := by decide +kernel
theorem dX1_init_133 : decode cX1_init 133 = .ok (.aload_n 0, 1) := by decide +kernel
theorem dX1_init_134 : decode cX1_init 134 = .ok (.getfield 61, 3) := by decide +kernel
theorem dX1_init_137 : decode cX1_init 137 = .ok (.iconst (-1), 1) := by decide +kernel
theorem dX1_init_138 : decode cX1_init 138 = .ok (.invokestatic 64, 3) := by decide +kernel
theorem dX1_init_141 : decode cX1_init 141 = .ok (.return_, 1) := by decide +kernel
theorem dX1_addSheet_0 : decode cX1_addSheet 0 = .ok (.aload_n 0, 1) := by decide +kernel
theorem dX1_addSheet_1 : decode cX1_addSheet 1 = .ok (.getfield 9, 3) := by decide +kernel
theorem dX1_addSheet_4 : decode cX1_addSheet 4 = .ok (.istore 4, 2) := by decide +kernel
theorem dX1_addSheet_6 : decode cX1_addSheet 6 = .ok (.aload_n 0, 1) := by decide +kernel
theorem dX1_addSheet_7 : decode cX1_addSheet 7 = .ok (.getfield 15, 3) := by decide +kernel
theorem dX1_addSheet_10 : decode cX1_addSheet 10 = .ok (.iload 4, 2) := by decide +kernel
theorem dX1_addSheet_12 : decode cX1_addSheet 12 = .ok (.iload_n 1, 1) := by decide +kernel
theorem dX1_addSheet_13 : decode cX1_addSheet 13 = .ok (.iastore, 1) := by decide +kernel
theorem dX1_addSheet_14 : decode cX1_addSheet 14 = .ok (.aload_n 0, 1) := by decide +kernel
theorem dX1_addSheet_15 : decode cX1_addSheet 15 = .ok (.getfield 19, 3) := by decide +kernel
theorem dX1_addSheet_18 : decode cX1_addSheet 18 = .ok (.iload 4, 2) := by decide +kernel
theorem dX1_addSheet_20 : decode cX1_addSheet 20 = .ok (.iload_n 2, 1) := by decide +kernel
theorem dX1_addSheet_21 : decode cX1_addSheet 21 = .ok (.iastore, 1) := by decide +kernel
theorem dX1_addSheet_22 : decode cX1_addSheet 22 = .ok (.aload_n 0, 1) := by decide +kernel
theorem dX1_addSheet_23 : decode cX1_addSheet 23 = .ok (.getfield 22, 3) := by decide +kernel
theorem dX1_addSheet_26 : decode cX1_addSheet 26 = .ok (.iload 4, 2) := by decide +kernel
theorem dX1_addSheet_28 : decode cX1_addSheet 28 = .ok (.iload_n 3, 1) := by decide +kernel
theorem dX1_addSheet_29 : decode cX1_addSheet 29 = .ok (.iastore, 1) := by decide +kernel
theorem dX1_addSheet_30 : decode cX1_addSheet 30 = .ok (.aload_n 0, 1) := by decide +kernel
theorem dX1_addSheet_31 : decode cX1_addSheet 31 = .ok (.dup, 1) := by decide +kernel
theorem dX1_addSheet_32 : decode cX1_addSheet 32 = .ok (.getfield 9, 3) := by decide +kernel
theorem dX1_addSheet_35 : decode cX1_addSheet 35 = .ok (.iconst 1, 1) := by decide +kernel
theorem dX1_addSheet_36 : decode cX1_addSheet 36 = .ok (.iadd, 1) := by decide +kernel
theorem dX1_addSheet_37 : decode cX1_addSheet 37 = .ok (.putfield 9, 3) := by decide +kernel
theorem dX1_addSheet_40 : decode cX1_addSheet 40 = .ok (.iload 4, 2) := by decide +kernel
theorem dX1_addSheet_42 : decode cX1_addSheet 42 = .ok (.ireturn, 1) := by decide +kernel
theorem dX1_addPair_0 : decode cX1_addPair 0 = .ok (.aload_n 0, 1) := by decide +kernel
theorem dX1_addPair_1 : decode cX1_addPair 1 = .ok (.getfield 28, 3) := by decide +kernel
theorem dX1_addPair_4 : decode cX1_addPair 4 = .ok (.aload_n 0, 1) := by decide +kernel
theorem dX1_addPair_5 : decode cX1_addPair 5 = .ok (.getfield 25, 3) := by decide +kernel
theorem dX1_addPair_8 : decode cX1_addPair 8 = .ok (.iload_n 1, 1) := by decide +kernel
theorem dX1_addPair_9 : decode cX1_addPair 9 = .ok (.iastore, 1) := by decide +kernel
theorem dX1_addPair_10 : decode cX1_addPair 10 = .ok (.aload_n 0, 1) := by decide +kernel
theorem dX1_addPair_11 : decode cX1_addPair 11 = .ok (.getfield 31, 3) := by decide +kernel
theorem dX1_addPair_14 : decode cX1_addPair 14 = .ok (.aload_n 0, 1) := by decide +kernel
theorem dX1_addPair_15 : decode cX1_addPair 15 = .ok (.getfield 25, 3) := by decide +kernel
theorem dX1_addPair_18 : decode cX1_addPair 18 = .ok (.iload_n 2, 1) := by decide +kernel
theorem dX1_addPair_19 : decode cX1_addPair 19 = .ok (.iastore, 1) := by decide +kernel
theorem dX1_addPair_20 : decode cX1_addPair 20 = .ok (.aload_n 0, 1) := by decide +kernel
theorem dX1_addPair_21 : decode cX1_addPair 21 = .ok (.dup, 1) := by decide +kernel
theorem dX1_addPair_22 : decode cX1_addPair 22 = .ok (.getfield 25, 3) := by decide +kernel
theorem dX1_addPair_25 : decode cX1_addPair 25 = .ok (.iconst 1, 1) := by decide +kernel
theorem dX1_addPair_26 : decode cX1_addPair 26 = .ok (.iadd, 1) := by decide +kernel
theorem dX1_addPair_27 : decode cX1_addPair 27 = .ok (.putfield 25, 3) := by decide +kernel
theorem dX1_addPair_30 : decode cX1_addPair 30 = .ok (.aload_n 0, 1) := by decide +kernel
theorem dX1_addPair_31 : decode cX1_addPair 31 = .ok (.getfield 25, 3) := by decide +kernel
theorem dX1_addPair_34 : decode cX1_addPair 34 = .ok (.ireturn, 1) := by decide +kernel
theorem dX1_addSaying_0 : decode cX1_addSaying 0 = .ok (.aload_n 0, 1) := by decide +kernel
theorem dX1_addSaying_1 : decode cX1_addSaying 1 = .ok (.getfield 34, 3) := by decide +kernel
theorem dX1_addSaying_4 : decode cX1_addSaying 4 = .ok (.istore 5, 2) := by decide +kernel
theorem dX1_addSaying_6 : decode cX1_addSaying 6 = .ok (.aload_n 0, 1) := by decide +kernel
theorem dX1_addSaying_7 : decode cX1_addSaying 7 = .ok (.getfield 37, 3) := by decide +kernel
theorem dX1_addSaying_10 : decode cX1_addSaying 10 = .ok (.iload 5, 2) := by decide +kernel
theorem dX1_addSaying_12 : decode cX1_addSaying 12 = .ok (.iload_n 1, 1) := by decide +kernel
theorem dX1_addSaying_13 : decode cX1_addSaying 13 = .ok (.iastore, 1) := by decide +kernel
theorem dX1_addSaying_14 : decode cX1_addSaying 14 = .ok (.aload_n 0, 1) := by decide +kernel
theorem dX1_addSaying_15 : decode cX1_addSaying 15 = .ok (.getfield 40, 3) := by decide +kernel
theorem dX1_addSaying_18 : decode cX1_addSaying 18 = .ok (.iload 5, 2) := by decide +kernel
theorem dX1_addSaying_20 : decode cX1_addSaying 20 = .ok (.iload_n 2, 1) := by decide +kernel
theorem dX1_addSaying_21 : decode cX1_addSaying 21 = .ok (.iastore, 1) := by decide +kernel
theorem dX1_addSaying_22 : decode cX1_addSaying 22 = .ok (.aload_n 0, 1) := by decide +kernel
theorem dX1_addSaying_23 : decode cX1_addSaying 23 = .ok (.getfield 43, 3) := by decide +kernel
theorem dX1_addSaying_26 : decode cX1_addSaying 26 = .ok (.iload 5, 2) := by decide +kernel
theorem dX1_addSaying_28 : decode cX1_addSaying 28 = .ok (.iload_n 3, 1) := by decide +kernel
theorem dX1_addSaying_29 : decode cX1_addSaying 29 = .ok (.iastore, 1) := by decide +kernel
theorem dX1_addSaying_30 : decode cX1_addSaying 30 = .ok (.aload_n 0, 1) := by decide +kernel
theorem dX1_addSaying_31 : decode cX1_addSaying 31 = .ok (.getfield 46, 3) := by decide +kernel
theorem dX1_addSaying_34 : decode cX1_addSaying 34 = .ok (.iload 5, 2) := by decide +kernel
theorem dX1_addSaying_36 : decode cX1_addSaying 36 = .ok (.iload 4, 2) := by decide +kernel
theorem dX1_addSaying_38 : decode cX1_addSaying 38 = .ok (.iastore, 1) := by decide +kernel
theorem dX1_addSaying_39 : decode cX1_addSaying 39 = .ok (.aload_n 0, 1) := by decide +kernel
theorem dX1_addSaying_40 : decode cX1_addSaying 40 = .ok (.dup, 1) := by decide +kernel
theorem dX1_addSaying_41 : decode cX1_addSaying 41 = .ok (.getfield 34, 3) := by decide +kernel
theorem dX1_addSaying_44 : decode cX1_addSaying 44 = .ok (.iconst 1, 1) := by decide +kernel
theorem dX1_addSaying_45 : decode cX1_addSaying 45 = .ok (.iadd, 1) := by decide +kernel
theorem dX1_addSaying_46 : decode cX1_addSaying 46 = .ok (.putfield 34, 3) := by decide +kernel
theorem dX1_addSaying_49 : decode cX1_addSaying 49 = .ok (.iload 5, 2) := by decide +kernel
theorem dX1_addSaying_51 : decode cX1_addSaying 51 = .ok (.ireturn, 1) := by decide +kernel
theorem dX1_mark_0 : decode cX1_mark 0 = .ok (.aload_n 0, 1) := by decide +kernel
theorem dX1_mark_1 : decode cX1_mark 1 = .ok (.aload_n 0, 1) := by decide +kernel
theorem dX1_mark_2 : decode cX1_mark 2 = .ok (.getfield 49, 3) := by decide +kernel
theorem dX1_mark_5 : decode cX1_mark 5 = .ok (.iload_n 1, 1) := by decide +kernel
theorem dX1_mark_6 : decode cX1_mark 6 = .ok (.iload_n 2, 1) := by decide +kernel
theorem dX1_mark_7 : decode cX1_mark 7 = .ok (.invokestatic 70, 3) := by decide +kernel
theorem dX1_mark_10 : decode cX1_mark 10 = .ok (.putfield 49, 3) := by decide +kernel
theorem dX1_mark_13 : decode cX1_mark 13 = .ok (.aload_n 0, 1) := by decide +kernel
theorem dX1_mark_14 : decode cX1_mark 14 = .ok (.aload_n 0, 1) := by decide +kernel
theorem dX1_mark_15 : decode cX1_mark 15 = .ok (.getfield 52, 3) := by decide +kernel
theorem dX1_mark_18 : decode cX1_mark 18 = .ok (.iload_n 1, 1) := by decide +kernel
theorem dX1_mark_19 : decode cX1_mark 19 = .ok (.iload_n 3, 1) := by decide +kernel
theorem dX1_mark_20 : decode cX1_mark 20 = .ok (.invokestatic 70, 3) := by decide +kernel
theorem dX1_mark_23 : decode cX1_mark 23 = .ok (.putfield 52, 3) := by decide +kernel
theorem dX1_mark_26 : decode cX1_mark 26 = .ok (.return_, 1) := by decide +kernel
theorem dX1_isSeen_0 : decode cX1_isSeen 0 = .ok (.aload_n 0, 1) := by decide +kernel
theorem dX1_isSeen_1 : decode cX1_isSeen 1 = .ok (.getfield 49, 3) := by decide +kernel
theorem dX1_isSeen_4 : decode cX1_isSeen 4 = .ok (.iload_n 1, 1) := by decide +kernel
theorem dX1_isSeen_5 : decode cX1_isSeen 5 = .ok (.invokestatic 74, 3) := by decide +kernel
theorem dX1_isSeen_8 : decode cX1_isSeen 8 = .ok (.ireturn, 1) := by decide +kernel
theorem dX1_isDenied_0 : decode cX1_isDenied 0 = .ok (.aload_n 0, 1) := by decide +kernel
theorem dX1_isDenied_1 : decode cX1_isDenied 1 = .ok (.getfield 52, 3) := by decide +kernel
theorem dX1_isDenied_4 : decode cX1_isDenied 4 = .ok (.iload_n 1, 1) := by decide +kernel
theorem dX1_isDenied_5 : decode cX1_isDenied 5 = .ok (.invokestatic 74, 3) := by decide +kernel
theorem dX1_isDenied_8 : decode cX1_isDenied 8 = .ok (.ireturn, 1) := by decide +kernel
theorem dX1_hasHappened_0 : decode cX1_hasHappened 0 = .ok (.aload_n 0, 1) := by decide +kernel
theorem dX1_hasHappened_1 : decode cX1_hasHappened 1 = .ok (.getfield 58, 3) := by decide +kernel
theorem dX1_hasHappened_4 : decode cX1_hasHappened 4 = .ok (.iload_n 1, 1) := by decide +kernel
theorem dX1_hasHappened_5 : decode cX1_hasHappened 5 = .ok (.iaload, 1) := by decide +kernel
theorem dX1_hasHappened_6 : decode cX1_hasHappened 6 = .ok (.iconst (-1), 1) := by decide +kernel
theorem dX1_hasHappened_7 : decode cX1_hasHappened 7 = .ok (.if_icmp .eq 7, 3) := by decide +kernel
theorem dX1_hasHappened_10 : decode cX1_hasHappened 10 = .ok (.iconst 1, 1) := by decide +kernel
theorem dX1_hasHappened_11 : decode cX1_hasHappened 11 = .ok (.goto 4, 3) := by decide +kernel
theorem dX1_hasHappened_14 : decode cX1_hasHappened 14 = .ok (.iconst 0, 1) := by decide +kernel
theorem dX1_hasHappened_15 : decode cX1_hasHappened 15 = .ok (.ireturn, 1) := by decide +kernel
theorem dX1_townOf_0 : decode cX1_townOf 0 = .ok (.aload_n 0, 1) := by decide +kernel
theorem dX1_townOf_1 : decode cX1_townOf 1 = .ok (.getfield 15, 3) := by decide +kernel
theorem dX1_townOf_4 : decode cX1_townOf 4 = .ok (.aload_n 0, 1) := by decide +kernel
theorem dX1_townOf_5 : decode cX1_townOf 5 = .ok (.getfield 37, 3) := by decide +kernel
theorem dX1_townOf_8 : decode cX1_townOf 8 = .ok (.iload_n 1, 1) := by decide +kernel
theorem dX1_townOf_9 : decode cX1_townOf 9 = .ok (.iaload, 1) := by decide +kernel
theorem dX1_townOf_10 : decode cX1_townOf 10 = .ok (.iaload, 1) := by decide +kernel
theorem dX1_townOf_11 : decode cX1_townOf 11 = .ok (.ireturn, 1) := by decide +kernel
theorem dX1_writerOf_0 : decode cX1_writerOf 0 = .ok (.aload_n 0, 1) := by decide +kernel
theorem dX1_writerOf_1 : decode cX1_writerOf 1 = .ok (.getfield 19, 3) := by decide +kernel
theorem dX1_writerOf_4 : decode cX1_writerOf 4 = .ok (.aload_n 0, 1) := by decide +kernel
theorem dX1_writerOf_5 : decode cX1_writerOf 5 = .ok (.getfield 37, 3) := by decide +kernel
theorem dX1_writerOf_8 : decode cX1_writerOf 8 = .ok (.iload_n 1, 1) := by decide +kernel
theorem dX1_writerOf_9 : decode cX1_writerOf 9 = .ok (.iaload, 1) := by decide +kernel
theorem dX1_writerOf_10 : decode cX1_writerOf 10 = .ok (.iaload, 1) := by decide +kernel
theorem dX1_writerOf_11 : decode cX1_writerOf 11 = .ok (.ireturn, 1) := by decide +kernel
theorem dX1_unlikeness_0 : decode cX1_unlikeness 0 = .ok (.aload_n 0, 1) := by decide +kernel
theorem dX1_unlikeness_1 : decode cX1_unlikeness 1 = .ok (.getfield 46, 3) := by decide +kernel
theorem dX1_unlikeness_4 : decode cX1_unlikeness 4 = .ok (.iload_n 1, 1) := by decide +kernel
theorem dX1_unlikeness_5 : decode cX1_unlikeness 5 = .ok (.iaload, 1) := by decide +kernel
theorem dX1_unlikeness_6 : decode cX1_unlikeness 6 = .ok (.aload_n 0, 1) := by decide +kernel
theorem dX1_unlikeness_7 : decode cX1_unlikeness 7 = .ok (.getfield 46, 3) := by decide +kernel
theorem dX1_unlikeness_10 : decode cX1_unlikeness 10 = .ok (.iload_n 2, 1) := by decide +kernel
theorem dX1_unlikeness_11 : decode cX1_unlikeness 11 = .ok (.iaload, 1) := by decide +kernel
theorem dX1_unlikeness_12 : decode cX1_unlikeness 12 = .ok (.ixor, 1) := by decide +kernel
theorem dX1_unlikeness_13 : decode cX1_unlikeness 13 = .ok (.invokestatic 78, 3) := by decide +kernel
theorem dX1_unlikeness_16 : decode cX1_unlikeness 16 = .ok (.istore_n 3, 1) := by decide +kernel
theorem dX1_unlikeness_17 : decode cX1_unlikeness 17 = .ok (.aload_n 0, 1) := by decide +kernel
theorem dX1_unlikeness_18 : decode cX1_unlikeness 18 = .ok (.getfield 43, 3) := by decide +kernel
theorem dX1_unlikeness_21 : decode cX1_unlikeness 21 = .ok (.iload_n 1, 1) := by decide +kernel
theorem dX1_unlikeness_22 : decode cX1_unlikeness 22 = .ok (.iaload, 1) := by decide +kernel
theorem dX1_unlikeness_23 : decode cX1_unlikeness 23 = .ok (.istore 4, 2) := by decide +kernel
theorem dX1_unlikeness_25 : decode cX1_unlikeness 25 = .ok (.aload_n 0, 1) := by decide +kernel
theorem dX1_unlikeness_26 : decode cX1_unlikeness 26 = .ok (.getfield 43, 3) := by decide +kernel
theorem dX1_unlikeness_29 : decode cX1_unlikeness 29 = .ok (.iload_n 2, 1) := by decide +kernel
theorem dX1_unlikeness_30 : decode cX1_unlikeness 30 = .ok (.iaload, 1) := by decide +kernel
theorem dX1_unlikeness_31 : decode cX1_unlikeness 31 = .ok (.istore 5, 2) := by decide +kernel
theorem dX1_unlikeness_33 : decode cX1_unlikeness 33 = .ok (.iconst 0, 1) := by decide +kernel
theorem dX1_unlikeness_34 : decode cX1_unlikeness 34 = .ok (.istore 6, 2) := by decide +kernel
theorem dX1_unlikeness_36 : decode cX1_unlikeness 36 = .ok (.iload 6, 2) := by decide +kernel
theorem dX1_unlikeness_38 : decode cX1_unlikeness 38 = .ok (.iconst 4, 1) := by decide +kernel
theorem dX1_unlikeness_39 : decode cX1_unlikeness 39 = .ok (.if_icmp .ge 39, 3) := by decide +kernel
theorem dX1_unlikeness_42 : decode cX1_unlikeness 42 = .ok (.iload 4, 2) := by decide +kernel
theorem dX1_unlikeness_44 : decode cX1_unlikeness 44 = .ok (.bipush 10, 2) := by decide +kernel
theorem dX1_unlikeness_46 : decode cX1_unlikeness 46 = .ok (.irem, 1) := by decide +kernel
theorem dX1_unlikeness_47 : decode cX1_unlikeness 47 = .ok (.iload 5, 2) := by decide +kernel
theorem dX1_unlikeness_49 : decode cX1_unlikeness 49 = .ok (.bipush 10, 2) := by decide +kernel
theorem dX1_unlikeness_51 : decode cX1_unlikeness 51 = .ok (.irem, 1) := by decide +kernel
theorem dX1_unlikeness_52 : decode cX1_unlikeness 52 = .ok (.if_icmp .eq 6, 3) := by decide +kernel
theorem dX1_unlikeness_55 : decode cX1_unlikeness 55 = .ok (.iinc 3 3, 3) := by decide +kernel
theorem dX1_unlikeness_58 : decode cX1_unlikeness 58 = .ok (.iload 4, 2) := by decide +kernel
theorem dX1_unlikeness_60 : decode cX1_unlikeness 60 = .ok (.bipush 10, 2) := by decide +kernel
theorem dX1_unlikeness_62 : decode cX1_unlikeness 62 = .ok (.idiv, 1) := by decide +kernel
theorem dX1_unlikeness_63 : decode cX1_unlikeness 63 = .ok (.istore 4, 2) := by decide +kernel
theorem dX1_unlikeness_65 : decode cX1_unlikeness 65 = .ok (.iload 5, 2) := by decide +kernel
theorem dX1_unlikeness_67 : decode cX1_unlikeness 67 = .ok (.bipush 10, 2) := by decide +kernel
theorem dX1_unlikeness_69 : decode cX1_unlikeness 69 = .ok (.idiv, 1) := by decide +kernel
theorem dX1_unlikeness_70 : decode cX1_unlikeness 70 = .ok (.istore 5, 2) := by decide +kernel
theorem dX1_unlikeness_72 : decode cX1_unlikeness 72 = .ok (.iinc 6 1, 3) := by decide +kernel
theorem dX1_unlikeness_75 : decode cX1_unlikeness 75 = .ok (.goto (-39), 3) := by decide +kernel
theorem dX1_unlikeness_78 : decode cX1_unlikeness 78 = .ok (.iload_n 3, 1) := by decide +kernel
theorem dX1_unlikeness_79 : decode cX1_unlikeness 79 = .ok (.ireturn, 1) := by decide +kernel
theorem dX1_copyFrom_0 : decode cX1_copyFrom 0 = .ok (.aload_n 0, 1) := by decide +kernel
theorem dX1_copyFrom_1 : decode cX1_copyFrom 1 = .ok (.aload_n 1, 1) := by decide +kernel
theorem dX1_copyFrom_2 : decode cX1_copyFrom 2 = .ok (.getfield 9, 3) := by decide +kernel
theorem dX1_copyFrom_5 : decode cX1_copyFrom 5 = .ok (.putfield 9, 3) := by decide +kernel
theorem dX1_copyFrom_8 : decode cX1_copyFrom 8 = .ok (.aload_n 1, 1) := by decide +kernel
theorem dX1_copyFrom_9 : decode cX1_copyFrom 9 = .ok (.getfield 15, 3) := by decide +kernel
theorem dX1_copyFrom_12 : decode cX1_copyFrom 12 = .ok (.iconst 0, 1) := by decide +kernel
theorem dX1_copyFrom_13 : decode cX1_copyFrom 13 = .ok (.aload_n 0, 1) := by decide +kernel
theorem dX1_copyFrom_14 : decode cX1_copyFrom 14 = .ok (.getfield 15, 3) := by decide +kernel
theorem dX1_copyFrom_17 : decode cX1_copyFrom 17 = .ok (.iconst 0, 1) := by decide +kernel
theorem dX1_copyFrom_18 : decode cX1_copyFrom 18 = .ok (.bipush 12, 2) := by decide +kernel
theorem dX1_copyFrom_20 : decode cX1_copyFrom 20 = .ok (.invokestatic 84, 3) := by decide +kernel
theorem dX1_copyFrom_23 : decode cX1_copyFrom 23 = .ok (.aload_n 1, 1) := by decide +kernel
theorem dX1_copyFrom_24 : decode cX1_copyFrom 24 = .ok (.getfield 19, 3) := by decide +kernel
theorem dX1_copyFrom_27 : decode cX1_copyFrom 27 = .ok (.iconst 0, 1) := by decide +kernel
theorem dX1_copyFrom_28 : decode cX1_copyFrom 28 = .ok (.aload_n 0, 1) := by decide +kernel
theorem dX1_copyFrom_29 : decode cX1_copyFrom 29 = .ok (.getfield 19, 3) := by decide +kernel
theorem dX1_copyFrom_32 : decode cX1_copyFrom 32 = .ok (.iconst 0, 1) := by decide +kernel
theorem dX1_copyFrom_33 : decode cX1_copyFrom 33 = .ok (.bipush 12, 2) := by decide +kernel
theorem dX1_copyFrom_35 : decode cX1_copyFrom 35 = .ok (.invokestatic 84, 3) := by decide +kernel
theorem dX1_copyFrom_38 : decode cX1_copyFrom 38 = .ok (.aload_n 1, 1) := by decide +kernel
theorem dX1_copyFrom_39 : decode cX1_copyFrom 39 = .ok (.getfield 22, 3) := by decide +kernel
theorem dX1_copyFrom_42 : decode cX1_copyFrom 42 = .ok (.iconst 0, 1) := by decide +kernel
theorem dX1_copyFrom_43 : decode cX1_copyFrom 43 = .ok (.aload_n 0, 1) := by decide +kernel
theorem dX1_copyFrom_44 : decode cX1_copyFrom 44 = .ok (.getfield 22, 3) := by decide +kernel
theorem dX1_copyFrom_47 : decode cX1_copyFrom 47 = .ok (.iconst 0, 1) := by decide +kernel
theorem dX1_copyFrom_48 : decode cX1_copyFrom 48 = .ok (.bipush 12, 2) := by decide +kernel
theorem dX1_copyFrom_50 : decode cX1_copyFrom 50 = .ok (.invokestatic 84, 3) := by decide +kernel
theorem dX1_copyFrom_53 : decode cX1_copyFrom 53 = .ok (.aload_n 0, 1) := by decide +kernel
theorem dX1_copyFrom_54 : decode cX1_copyFrom 54 = .ok (.aload_n 1, 1) := by decide +kernel
theorem dX1_copyFrom_55 : decode cX1_copyFrom 55 = .ok (.getfield 25, 3) := by decide +kernel
theorem dX1_copyFrom_58 : decode cX1_copyFrom 58 = .ok (.putfield 25, 3) := by decide +kernel
theorem dX1_copyFrom_61 : decode cX1_copyFrom 61 = .ok (.aload_n 1, 1) := by decide +kernel
theorem dX1_copyFrom_62 : decode cX1_copyFrom 62 = .ok (.getfield 28, 3) := by decide +kernel
theorem dX1_copyFrom_65 : decode cX1_copyFrom 65 = .ok (.iconst 0, 1) := by decide +kernel
theorem dX1_copyFrom_66 : decode cX1_copyFrom 66 = .ok (.aload_n 0, 1) := by decide +kernel
theorem dX1_copyFrom_67 : decode cX1_copyFrom 67 = .ok (.getfield 28, 3) := by decide +kernel
theorem dX1_copyFrom_70 : decode cX1_copyFrom 70 = .ok (.iconst 0, 1) := by decide +kernel
theorem dX1_copyFrom_71 : decode cX1_copyFrom 71 = .ok (.bipush 20, 2) := by decide +kernel
theorem dX1_copyFrom_73 : decode cX1_copyFrom 73 = .ok (.invokestatic 84, 3) := by decide +kernel
theorem dX1_copyFrom_76 : decode cX1_copyFrom 76 = .ok (.aload_n 1, 1) := by decide +kernel
theorem dX1_copyFrom_77 : decode cX1_copyFrom 77 = .ok (.getfield 31, 3) := by decide +kernel
theorem dX1_copyFrom_80 : decode cX1_copyFrom 80 = .ok (.iconst 0, 1) := by decide +kernel
theorem dX1_copyFrom_81 : decode cX1_copyFrom 81 = .ok (.aload_n 0, 1) := by decide +kernel
theorem dX1_copyFrom_82 : decode cX1_copyFrom 82 = .ok (.getfield 31, 3) := by decide +kernel
theorem dX1_copyFrom_85 : decode cX1_copyFrom 85 = .ok (.iconst 0, 1) := by decide +kernel
theorem dX1_copyFrom_86 : decode cX1_copyFrom 86 = .ok (.bipush 20, 2) := by decide +kernel
theorem dX1_copyFrom_88 : decode cX1_copyFrom 88 = .ok (.invokestatic 84, 3) := by decide +kernel
theorem dX1_copyFrom_91 : decode cX1_copyFrom 91 = .ok (.aload_n 0, 1) := by decide +kernel
theorem dX1_copyFrom_92 : decode cX1_copyFrom 92 = .ok (.aload_n 1, 1) := by decide +kernel
theorem dX1_copyFrom_93 : decode cX1_copyFrom 93 = .ok (.getfield 34, 3) := by decide +kernel
theorem dX1_copyFrom_96 : decode cX1_copyFrom 96 = .ok (.putfield 34, 3) := by decide +kernel
theorem dX1_copyFrom_99 : decode cX1_copyFrom 99 = .ok (.aload_n 1, 1) := by decide +kernel
theorem dX1_copyFrom_100 : decode cX1_copyFrom 100 = .ok (.getfield 37, 3) := by decide +kernel
theorem dX1_copyFrom_103 : decode cX1_copyFrom 103 = .ok (.iconst 0, 1) := by decide +kernel
theorem dX1_copyFrom_104 : decode cX1_copyFrom 104 = .ok (.aload_n 0, 1) := by decide +kernel
theorem dX1_copyFrom_105 : decode cX1_copyFrom 105 = .ok (.getfield 37, 3) := by decide +kernel
theorem dX1_copyFrom_108 : decode cX1_copyFrom 108 = .ok (.iconst 0, 1) := by decide +kernel
theorem dX1_copyFrom_109 : decode cX1_copyFrom 109 = .ok (.bipush 30, 2) := by decide +kernel
theorem dX1_copyFrom_111 : decode cX1_copyFrom 111 = .ok (.invokestatic 84, 3) := by decide +kernel
theorem dX1_copyFrom_114 : decode cX1_copyFrom 114 = .ok (.aload_n 1, 1) := by decide +kernel
theorem dX1_copyFrom_115 : decode cX1_copyFrom 115 = .ok (.getfield 40, 3) := by decide +kernel
theorem dX1_copyFrom_118 : decode cX1_copyFrom 118 = .ok (.iconst 0, 1) := by decide +kernel
theorem dX1_copyFrom_119 : decode cX1_copyFrom 119 = .ok (.aload_n 0, 1) := by decide +kernel
theorem dX1_copyFrom_120 : decode cX1_copyFrom 120 = .ok (.getfield 40, 3) := by decide +kernel
theorem dX1_copyFrom_123 : decode cX1_copyFrom 123 = .ok (.iconst 0, 1) := by decide +kernel
theorem dX1_copyFrom_124 : decode cX1_copyFrom 124 = .ok (.bipush 30, 2) := by decide +kernel
theorem dX1_copyFrom_126 : decode cX1_copyFrom 126 = .ok (.invokestatic 84, 3) := by decide +kernel
theorem dX1_copyFrom_129 : decode cX1_copyFrom 129 = .ok (.aload_n 1, 1) := by decide +kernel
theorem dX1_copyFrom_130 : decode cX1_copyFrom 130 = .ok (.getfield 43, 3) := by decide +kernel
theorem dX1_copyFrom_133 : decode cX1_copyFrom 133 = .ok (.iconst 0, 1) := by decide +kernel
theorem dX1_copyFrom_134 : decode cX1_copyFrom 134 = .ok (.aload_n 0, 1) := by decide +kernel
theorem dX1_copyFrom_135 : decode cX1_copyFrom 135 = .ok (.getfield 43, 3) := by decide +kernel
theorem dX1_copyFrom_138 : decode cX1_copyFrom 138 = .ok (.iconst 0, 1) := by decide +kernel
theorem dX1_copyFrom_139 : decode cX1_copyFrom 139 = .ok (.bipush 30, 2) := by decide +kernel
theorem dX1_copyFrom_141 : decode cX1_copyFrom 141 = .ok (.invokestatic 84, 3) := by decide +kernel
theorem dX1_copyFrom_144 : decode cX1_copyFrom 144 = .ok (.aload_n 1, 1) := by decide +kernel
theorem dX1_copyFrom_145 : decode cX1_copyFrom 145 = .ok (.getfield 46, 3) := by decide +kernel
theorem dX1_copyFrom_148 : decode cX1_copyFrom 148 = .ok (.iconst 0, 1) := by decide +kernel
theorem dX1_copyFrom_149 : decode cX1_copyFrom 149 = .ok (.aload_n 0, 1) := by decide +kernel
theorem dX1_copyFrom_150 : decode cX1_copyFrom 150 = .ok (.getfield 46, 3) := by decide +kernel
theorem dX1_copyFrom_153 : decode cX1_copyFrom 153 = .ok (.iconst 0, 1) := by decide +kernel
theorem dX1_copyFrom_154 : decode cX1_copyFrom 154 = .ok (.bipush 30, 2) := by decide +kernel
theorem dX1_copyFrom_156 : decode cX1_copyFrom 156 = .ok (.invokestatic 84, 3) := by decide +kernel
theorem dX1_copyFrom_159 : decode cX1_copyFrom 159 = .ok (.aload_n 0, 1) := by decide +kernel
theorem dX1_copyFrom_160 : decode cX1_copyFrom 160 = .ok (.aload_n 1, 1) := by decide +kernel
theorem dX1_copyFrom_161 : decode cX1_copyFrom 161 = .ok (.getfield 49, 3) := by decide +kernel
theorem dX1_copyFrom_164 : decode cX1_copyFrom 164 = .ok (.putfield 49, 3) := by decide +kernel
theorem dX1_copyFrom_167 : decode cX1_copyFrom 167 = .ok (.aload_n 0, 1) := by decide +kernel
theorem dX1_copyFrom_168 : decode cX1_copyFrom 168 = .ok (.aload_n 1, 1) := by decide +kernel
theorem dX1_copyFrom_169 : decode cX1_copyFrom 169 = .ok (.getfield 52, 3) := by decide +kernel
theorem dX1_copyFrom_172 : decode cX1_copyFrom 172 = .ok (.putfield 52, 3) := by decide +kernel
theorem dX1_copyFrom_175 : decode cX1_copyFrom 175 = .ok (.aload_n 1, 1) := by decide +kernel
theorem dX1_copyFrom_176 : decode cX1_copyFrom 176 = .ok (.getfield 55, 3) := by decide +kernel
theorem dX1_copyFrom_179 : decode cX1_copyFrom 179 = .ok (.iconst 0, 1) := by decide +kernel
theorem dX1_copyFrom_180 : decode cX1_copyFrom 180 = .ok (.aload_n 0, 1) := by decide +kernel
theorem dX1_copyFrom_181 : decode cX1_copyFrom 181 = .ok (.getfield 55, 3) := by decide +kernel
theorem dX1_copyFrom_184 : decode cX1_copyFrom 184 = .ok (.iconst 0, 1) := by decide +kernel
theorem dX1_copyFrom_185 : decode cX1_copyFrom 185 = .ok (.bipush 10, 2) := by decide +kernel
theorem dX1_copyFrom_187 : decode cX1_copyFrom 187 = .ok (.invokestatic 84, 3) := by decide +kernel
theorem dX1_copyFrom_190 : decode cX1_copyFrom 190 = .ok (.aload_n 1, 1) := by decide +kernel
theorem dX1_copyFrom_191 : decode cX1_copyFrom 191 = .ok (.getfield 58, 3) := by decide +kernel
theorem dX1_copyFrom_194 : decode cX1_copyFrom 194 = .ok (.iconst 0, 1) := by decide +kernel
theorem dX1_copyFrom_195 : decode cX1_copyFrom 195 = .ok (.aload_n 0, 1) := by decide +kernel
theorem dX1_copyFrom_196 : decode cX1_copyFrom 196 = .ok (.getfield 58, 3) := by decide +kernel
theorem dX1_copyFrom_199 : decode cX1_copyFrom 199 = .ok (.iconst 0, 1) := by decide +kernel
theorem dX1_copyFrom_200 : decode cX1_copyFrom 200 = .ok (.bipush 10, 2) := by decide +kernel
theorem dX1_copyFrom_202 : decode cX1_copyFrom 202 = .ok (.invokestatic 84, 3) := by decide +kernel
theorem dX1_copyFrom_205 : decode cX1_copyFrom 205 = .ok (.aload_n 1, 1) := by decide +kernel
theorem dX1_copyFrom_206 : decode cX1_copyFrom 206 = .ok (.getfield 61, 3) := by decide +kernel
theorem dX1_copyFrom_209 : decode cX1_copyFrom 209 = .ok (.iconst 0, 1) := by decide +kernel
theorem dX1_copyFrom_210 : decode cX1_copyFrom 210 = .ok (.aload_n 0, 1) := by decide +kernel
theorem dX1_copyFrom_211 : decode cX1_copyFrom 211 = .ok (.getfield 61, 3) := by decide +kernel
theorem dX1_copyFrom_214 : decode cX1_copyFrom 214 = .ok (.iconst 0, 1) := by decide +kernel
theorem dX1_copyFrom_215 : decode cX1_copyFrom 215 = .ok (.bipush 10, 2) := by decide +kernel
theorem dX1_copyFrom_217 : decode cX1_copyFrom 217 = .ok (.invokestatic 84, 3) := by decide +kernel
theorem dX1_copyFrom_220 : decode cX1_copyFrom 220 = .ok (.return_, 1) := by decide +kernel
theorem dX2_init_0 : decode cX2_init 0 = .ok (.aload_n 0, 1) := by decide +kernel
theorem dX2_init_1 : decode cX2_init 1 = .ok (.invokespecial 3, 3) := by decide +kernel
theorem dX2_init_4 : decode cX2_init 4 = .ok (.aload_n 0, 1) := by decide +kernel
theorem dX2_init_5 : decode cX2_init 5 = .ok (.bipush 36, 2) := by decide +kernel
theorem dX2_init_7 : decode cX2_init 7 = .ok (.newarray .int, 2) := by decide +kernel
theorem dX2_init_9 : decode cX2_init 9 = .ok (.putfield 9, 3) := by decide +kernel
theorem dX2_init_12 : decode cX2_init 12 = .ok (.aload_n 0, 1) := by decide +kernel
theorem dX2_init_13 : decode cX2_init 13 = .ok (.bipush 36, 2) := by decide +kernel
theorem dX2_init_15 : decode cX2_init 15 = .ok (.newarray .int, 2) := by decide +kernel
theorem dX2_init_17 : decode cX2_init 17 = .ok (.putfield 15, 3) := by decide +kernel
theorem dX2_init_20 : decode cX2_init 20 = .ok (.aload_n 0, 1) := by decide +kernel
theorem dX2_init_21 : decode cX2_init 21 = .ok (.bipush 36, 2) := by decide +kernel
theorem dX2_init_23 : decode cX2_init 23 = .ok (.newarray .int, 2) := by decide +kernel
theorem dX2_init_25 : decode cX2_init 25 = .ok (.putfield 18, 3) := by decide +kernel
theorem dX2_init_28 : decode cX2_init 28 = .ok (.aload_n 0, 1) := by decide +kernel
theorem dX2_init_29 : decode cX2_init 29 = .ok (.bipush 36, 2) := by decide +kernel
theorem dX2_init_31 : decode cX2_init 31 = .ok (.newarray .int, 2) := by decide +kernel
theorem dX2_init_33 : decode cX2_init 33 = .ok (.putfield 21, 3) := by decide +kernel
theorem dX2_init_36 : decode cX2_init 36 = .ok (.aload_n 0, 1) := by decide +kernel
theorem dX2_init_37 : decode cX2_init 37 = .ok (.iconst 0, 1) := by decide +kernel
theorem dX2_init_38 : decode cX2_init 38 = .ok (.putfield 24, 3) := by decide +kernel
theorem dX2_init_41 : decode cX2_init 41 = .ok (.aload_n 0, 1) := by decide +kernel
theorem dX2_init_42 : decode cX2_init 42 = .ok (.invokevirtual 28, 3) := by decide +kernel
theorem dX2_init_45 : decode cX2_init 45 = .ok (.return_, 1) := by decide +kernel
theorem dX2_tell_0 : decode cX2_tell 0 = .ok (.iload_n 1, 1) := by decide +kernel
theorem dX2_tell_1 : decode cX2_tell 1 = .ok (.bipush 6, 2) := by decide +kernel
theorem dX2_tell_3 : decode cX2_tell 3 = .ok (.imul, 1) := by decide +kernel
theorem dX2_tell_4 : decode cX2_tell 4 = .ok (.iload_n 2, 1) := by decide +kernel
theorem dX2_tell_5 : decode cX2_tell 5 = .ok (.iadd, 1) := by decide +kernel
theorem dX2_tell_6 : decode cX2_tell 6 = .ok (.istore 5, 2) := by decide +kernel
theorem dX2_tell_8 : decode cX2_tell 8 = .ok (.aload_n 0, 1) := by decide +kernel
theorem dX2_tell_9 : decode cX2_tell 9 = .ok (.getfield 9, 3) := by decide +kernel
theorem dX2_tell_12 : decode cX2_tell 12 = .ok (.iload 5, 2) := by decide +kernel
theorem dX2_tell_14 : decode cX2_tell 14 = .ok (.iaload, 1) := by decide +kernel
theorem dX2_tell_15 : decode cX2_tell 15 = .ok (.ifCond .ne 13, 3) := by decide +kernel
theorem dX2_tell_18 : decode cX2_tell 18 = .ok (.aload_n 0, 1) := by decide +kernel
theorem dX2_tell_19 : decode cX2_tell 19 = .ok (.dup, 1) := by decide +kernel
theorem dX2_tell_20 : decode cX2_tell 20 = .ok (.getfield 24, 3) := by decide +kernel
theorem dX2_tell_23 : decode cX2_tell 23 = .ok (.iconst 1, 1) := by decide +kernel
theorem dX2_tell_24 : decode cX2_tell 24 = .ok (.iadd, 1) := by decide +kernel
theorem dX2_tell_25 : decode cX2_tell 25 = .ok (.putfield 24, 3) := by decide +kernel
theorem dX2_tell_28 : decode cX2_tell 28 = .ok (.aload_n 0, 1) := by decide +kernel
theorem dX2_tell_29 : decode cX2_tell 29 = .ok (.getfield 9, 3) := by decide +kernel
theorem dX2_tell_32 : decode cX2_tell 32 = .ok (.iload 5, 2) := by decide +kernel
theorem dX2_tell_34 : decode cX2_tell 34 = .ok (.iload_n 3, 1) := by decide +kernel
theorem dX2_tell_35 : decode cX2_tell 35 = .ok (.iastore, 1) := by decide +kernel
theorem dX2_tell_36 : decode cX2_tell 36 = .ok (.aload_n 0, 1) := by decide +kernel
theorem dX2_tell_37 : decode cX2_tell 37 = .ok (.getfield 15, 3) := by decide +kernel
theorem dX2_tell_40 : decode cX2_tell 40 = .ok (.iload 5, 2) := by decide +kernel
theorem dX2_tell_42 : decode cX2_tell 42 = .ok (.iload 4, 2) := by decide +kernel
theorem dX2_tell_44 : decode cX2_tell 44 = .ok (.iastore, 1) := by decide +kernel
theorem dX2_tell_45 : decode cX2_tell 45 = .ok (.aload_n 0, 1) := by decide +kernel
theorem dX2_tell_46 : decode cX2_tell 46 = .ok (.invokevirtual 28, 3) := by decide +kernel
theorem dX2_tell_49 : decode cX2_tell 49 = .ok (.return_, 1) := by decide +kernel
theorem dX2_leads_0 : decode cX2_leads 0 = .ok (.aload_n 0, 1) := by decide +kernel
theorem dX2_leads_1 : decode cX2_leads 1 = .ok (.getfield 18, 3) := by decide +kernel
theorem dX2_leads_4 : decode cX2_leads 4 = .ok (.iload_n 1, 1) := by decide +kernel
theorem dX2_leads_5 : decode cX2_leads 5 = .ok (.bipush 6, 2) := by decide +kernel
theorem dX2_leads_7 : decode cX2_leads 7 = .ok (.imul, 1) := by decide +kernel
theorem dX2_leads_8 : decode cX2_leads 8 = .ok (.iload_n 2, 1) := by decide +kernel
theorem dX2_leads_9 : decode cX2_leads 9 = .ok (.iadd, 1) := by decide +kernel
theorem dX2_leads_10 : decode cX2_leads 10 = .ok (.iaload, 1) := by decide +kernel
theorem dX2_leads_11 : decode cX2_leads 11 = .ok (.ldc 31, 2) := by decide +kernel
theorem dX2_leads_13 : decode cX2_leads 13 = .ok (.if_icmp .ge 7, 3) := by decide +kernel
theorem dX2_leads_16 : decode cX2_leads 16 = .ok (.iconst 1, 1) := by decide +kernel
theorem dX2_leads_17 : decode cX2_leads 17 = .ok (.goto 4, 3) := by decide +kernel
theorem dX2_leads_20 : decode cX2_leads 20 = .ok (.iconst 0, 1) := by decide +kernel
theorem dX2_leads_21 : decode cX2_leads 21 = .ok (.ireturn, 1) := by decide +kernel
theorem dX2_days_0 : decode cX2_days 0 = .ok (.aload_n 0, 1) := by decide +kernel
theorem dX2_days_1 : decode cX2_days 1 = .ok (.getfield 18, 3) := by decide +kernel
theorem dX2_days_4 : decode cX2_days 4 = .ok (.iload_n 1, 1) := by decide +kernel
theorem dX2_days_5 : decode cX2_days 5 = .ok (.bipush 6, 2) := by decide +kernel
theorem dX2_days_7 : decode cX2_days 7 = .ok (.imul, 1) := by decide +kernel
theorem dX2_days_8 : decode cX2_days 8 = .ok (.iload_n 2, 1) := by decide +kernel
theorem dX2_days_9 : decode cX2_days 9 = .ok (.iadd, 1) := by decide +kernel
theorem dX2_days_10 : decode cX2_days 10 = .ok (.iaload, 1) := by decide +kernel
theorem dX2_days_11 : decode cX2_days 11 = .ok (.ireturn, 1) := by decide +kernel
theorem dX2_slowestDays_0 : decode cX2_slowestDays 0 = .ok (.aload_n 0, 1) := by decide +kernel
theorem dX2_slowestDays_1 : decode cX2_slowestDays 1 = .ok (.getfield 21, 3) := by decide +kernel
theorem dX2_slowestDays_4 : decode cX2_slowestDays 4 = .ok (.iload_n 1, 1) := by decide +kernel
theorem dX2_slowestDays_5 : decode cX2_slowestDays 5 = .ok (.bipush 6, 2) := by decide +kernel
theorem dX2_slowestDays_7 : decode cX2_slowestDays 7 = .ok (.imul, 1) := by decide +kernel
theorem dX2_slowestDays_8 : decode cX2_slowestDays 8 = .ok (.iload_n 2, 1) := by decide +kernel
theorem dX2_slowestDays_9 : decode cX2_slowestDays 9 = .ok (.iadd, 1) := by decide +kernel
theorem dX2_slowestDays_10 : decode cX2_slowestDays 10 = .ok (.iaload, 1) := by decide +kernel
theorem dX2_slowestDays_11 : decode cX2_slowestDays 11 = .ok (.ireturn, 1) := by decide +kernel
theorem dX2_reckon_0 : decode cX2_reckon 0 = .ok (.aload_n 0, 1) := by decide +kernel
theorem dX2_reckon_1 : decode cX2_reckon 1 = .ok (.invokevirtual 32, 3) := by decide +kernel
theorem dX2_reckon_4 : decode cX2_reckon 4 = .ok (.iconst 0, 1) := by decide +kernel
theorem dX2_reckon_5 : decode cX2_reckon 5 = .ok (.istore_n 1, 1) := by decide +kernel
theorem dX2_reckon_6 : decode cX2_reckon 6 = .ok (.iload_n 1, 1) := by decide +kernel
theorem dX2_reckon_7 : decode cX2_reckon 7 = .ok (.bipush 6, 2) := by decide +kernel
theorem dX2_reckon_9 : decode cX2_reckon 9 = .ok (.if_icmp .ge 44, 3) := by decide +kernel
theorem dX2_reckon_12 : decode cX2_reckon 12 = .ok (.iconst 0, 1) := by decide +kernel
theorem dX2_reckon_13 : decode cX2_reckon 13 = .ok (.istore_n 2, 1) := by decide +kernel
theorem dX2_reckon_14 : decode cX2_reckon 14 = .ok (.iload_n 2, 1) := by decide +kernel
theorem dX2_reckon_15 : decode cX2_reckon 15 = .ok (.bipush 6, 2) := by decide +kernel
theorem dX2_reckon_17 : decode cX2_reckon 17 = .ok (.if_icmp .ge 30, 3) := by decide +kernel
theorem dX2_reckon_20 : decode cX2_reckon 20 = .ok (.iconst 0, 1) := by decide +kernel
theorem dX2_reckon_21 : decode cX2_reckon 21 = .ok (.istore_n 3, 1) := by decide +kernel
theorem dX2_reckon_22 : decode cX2_reckon 22 = .ok (.iload_n 3, 1) := by decide +kernel
theorem dX2_reckon_23 : decode cX2_reckon 23 = .ok (.bipush 6, 2) := by decide +kernel
theorem dX2_reckon_25 : decode cX2_reckon 25 = .ok (.if_icmp .ge 16, 3) := by decide +kernel
theorem dX2_reckon_28 : decode cX2_reckon 28 = .ok (.aload_n 0, 1) := by decide +kernel
theorem dX2_reckon_29 : decode cX2_reckon 29 = .ok (.iload_n 2, 1) := by decide +kernel
theorem dX2_reckon_30 : decode cX2_reckon 30 = .ok (.iload_n 1, 1) := by decide +kernel
theorem dX2_reckon_31 : decode cX2_reckon 31 = .ok (.iload_n 3, 1) := by decide +kernel
theorem dX2_reckon_32 : decode cX2_reckon 32 = .ok (.invokevirtual 35, 3) := by decide +kernel
theorem dX2_reckon_35 : decode cX2_reckon 35 = .ok (.iinc 3 1, 3) := by decide +kernel
theorem dX2_reckon_38 : decode cX2_reckon 38 = .ok (.goto (-16), 3) := by decide +kernel
theorem dX2_reckon_41 : decode cX2_reckon 41 = .ok (.iinc 2 1, 3) := by decide +kernel
theorem dX2_reckon_44 : decode cX2_reckon 44 = .ok (.goto (-30), 3) := by decide +kernel
theorem dX2_reckon_47 : decode cX2_reckon 47 = .ok (.iinc 1 1, 3) := by decide +kernel
theorem dX2_reckon_50 : decode cX2_reckon 50 = .ok (.goto (-44), 3) := by decide +kernel
theorem dX2_reckon_53 : decode cX2_reckon 53 = .ok (.return_, 1) := by decide +kernel
theorem dX2_layPosts_0 : decode cX2_layPosts 0 = .ok (.iconst 0, 1) := by decide +kernel
theorem dX2_layPosts_1 : decode cX2_layPosts 1 = .ok (.istore_n 1, 1) := by decide +kernel
theorem dX2_layPosts_2 : decode cX2_layPosts 2 = .ok (.iload_n 1, 1) := by decide +kernel
theorem dX2_layPosts_3 : decode cX2_layPosts 3 = .ok (.bipush 36, 2) := by decide +kernel
theorem dX2_layPosts_5 : decode cX2_layPosts 5 = .ok (.if_icmp .ge 72, 3) := by decide +kernel
theorem dX2_layPosts_8 : decode cX2_layPosts 8 = .ok (.iload_n 1, 1) := by decide +kernel
theorem dX2_layPosts_9 : decode cX2_layPosts 9 = .ok (.bipush 6, 2) := by decide +kernel
theorem dX2_layPosts_11 : decode cX2_layPosts 11 = .ok (.idiv, 1) := by decide +kernel
theorem dX2_layPosts_12 : decode cX2_layPosts 12 = .ok (.iload_n 1, 1) := by decide +kernel
theorem dX2_layPosts_13 : decode cX2_layPosts 13 = .ok (.bipush 6, 2) := by decide +kernel
theorem dX2_layPosts_15 : decode cX2_layPosts 15 = .ok (.irem, 1) := by decide +kernel
theorem dX2_layPosts_16 : decode cX2_layPosts 16 = .ok (.if_icmp .ne 7, 3) := by decide +kernel
theorem dX2_layPosts_19 : decode cX2_layPosts 19 = .ok (.iconst 1, 1) := by decide +kernel
theorem dX2_layPosts_20 : decode cX2_layPosts 20 = .ok (.goto 4, 3) := by decide +kernel
theorem dX2_layPosts_23 : decode cX2_layPosts 23 = .ok (.iconst 0, 1) := by decide +kernel
theorem dX2_layPosts_24 : decode cX2_layPosts 24 = .ok (.istore_n 2, 1) := by decide +kernel
theorem dX2_layPosts_25 : decode cX2_layPosts 25 = .ok (.aload_n 0, 1) := by decide +kernel
theorem dX2_layPosts_26 : decode cX2_layPosts 26 = .ok (.getfield 18, 3) := by decide +kernel
theorem dX2_layPosts_29 : decode cX2_layPosts 29 = .ok (.iload_n 1, 1) := by decide +kernel
theorem dX2_layPosts_30 : decode cX2_layPosts 30 = .ok (.iload_n 2, 1) := by decide +kernel
theorem dX2_layPosts_31 : decode cX2_layPosts 31 = .ok (.ifCond .eq 7, 3) := by decide +kernel
theorem dX2_layPosts_34 : decode cX2_layPosts 34 = .ok (.iconst 0, 1) := by decide +kernel
theorem dX2_layPosts_35 : decode cX2_layPosts 35 = .ok (.goto 23, 3) := by decide +kernel
theorem dX2_layPosts_38 : decode cX2_layPosts 38 = .ok (.aload_n 0, 1) := by decide +kernel
theorem dX2_layPosts_39 : decode cX2_layPosts 39 = .ok (.getfield 9, 3) := by decide +kernel
theorem dX2_layPosts_42 : decode cX2_layPosts 42 = .ok (.iload_n 1, 1) := by decide +kernel
theorem dX2_layPosts_43 : decode cX2_layPosts 43 = .ok (.iaload, 1) := by decide +kernel
theorem dX2_layPosts_44 : decode cX2_layPosts 44 = .ok (.ifCond .le 12, 3) := by decide +kernel
theorem dX2_layPosts_47 : decode cX2_layPosts 47 = .ok (.aload_n 0, 1) := by decide +kernel
theorem dX2_layPosts_48 : decode cX2_layPosts 48 = .ok (.getfield 9, 3) := by decide +kernel
theorem dX2_layPosts_51 : decode cX2_layPosts 51 = .ok (.iload_n 1, 1) := by decide +kernel
theorem dX2_layPosts_52 : decode cX2_layPosts 52 = .ok (.iaload, 1) := by decide +kernel
theorem dX2_layPosts_53 : decode cX2_layPosts 53 = .ok (.goto 5, 3) := by decide +kernel
theorem dX2_layPosts_56 : decode cX2_layPosts 56 = .ok (.ldc 31, 2) := by decide +kernel
theorem dX2_layPosts_58 : decode cX2_layPosts 58 = .ok (.iastore, 1) := by decide +kernel
theorem dX2_layPosts_59 : decode cX2_layPosts 59 = .ok (.aload_n 0, 1) := by decide +kernel
theorem dX2_layPosts_60 : decode cX2_layPosts 60 = .ok (.getfield 21, 3) := by decide +kernel
theorem dX2_layPosts_63 : decode cX2_layPosts 63 = .ok (.iload_n 1, 1) := by decide +kernel
theorem dX2_layPosts_64 : decode cX2_layPosts 64 = .ok (.aload_n 0, 1) := by decide +kernel
theorem dX2_layPosts_65 : decode cX2_layPosts 65 = .ok (.getfield 15, 3) := by decide +kernel
theorem dX2_layPosts_68 : decode cX2_layPosts 68 = .ok (.iload_n 1, 1) := by decide +kernel
theorem dX2_layPosts_69 : decode cX2_layPosts 69 = .ok (.iaload, 1) := by decide +kernel
theorem dX2_layPosts_70 : decode cX2_layPosts 70 = .ok (.iastore, 1) := by decide +kernel
theorem dX2_layPosts_71 : decode cX2_layPosts 71 = .ok (.iinc 1 1, 3) := by decide +kernel
theorem dX2_layPosts_74 : decode cX2_layPosts 74 = .ok (.goto (-72), 3) := by decide +kernel
theorem dX2_layPosts_77 : decode cX2_layPosts 77 = .ok (.return_, 1) := by decide +kernel
theorem dX2_goThrough_0 : decode cX2_goThrough 0 = .ok (.iload_n 1, 1) := by decide +kernel
theorem dX2_goThrough_1 : decode cX2_goThrough 1 = .ok (.bipush 6, 2) := by decide +kernel
theorem dX2_goThrough_3 : decode cX2_goThrough 3 = .ok (.imul, 1) := by decide +kernel
theorem dX2_goThrough_4 : decode cX2_goThrough 4 = .ok (.iload_n 3, 1) := by decide +kernel
theorem dX2_goThrough_5 : decode cX2_goThrough 5 = .ok (.iadd, 1) := by decide +kernel
theorem dX2_goThrough_6 : decode cX2_goThrough 6 = .ok (.istore 4, 2) := by decide +kernel
theorem dX2_goThrough_8 : decode cX2_goThrough 8 = .ok (.iload_n 1, 1) := by decide +kernel
theorem dX2_goThrough_9 : decode cX2_goThrough 9 = .ok (.bipush 6, 2) := by decide +kernel
theorem dX2_goThrough_11 : decode cX2_goThrough 11 = .ok (.imul, 1) := by decide +kernel
theorem dX2_goThrough_12 : decode cX2_goThrough 12 = .ok (.iload_n 2, 1) := by decide +kernel
theorem dX2_goThrough_13 : decode cX2_goThrough 13 = .ok (.iadd, 1) := by decide +kernel
theorem dX2_goThrough_14 : decode cX2_goThrough 14 = .ok (.istore 5, 2) := by decide +kernel
theorem dX2_goThrough_16 : decode cX2_goThrough 16 = .ok (.iload_n 2, 1) := by decide +kernel
theorem dX2_goThrough_17 : decode cX2_goThrough 17 = .ok (.bipush 6, 2) := by decide +kernel
theorem dX2_goThrough_19 : decode cX2_goThrough 19 = .ok (.imul, 1) := by decide +kernel
theorem dX2_goThrough_20 : decode cX2_goThrough 20 = .ok (.iload_n 3, 1) := by decide +kernel
theorem dX2_goThrough_21 : decode cX2_goThrough 21 = .ok (.iadd, 1) := by decide +kernel
theorem dX2_goThrough_22 : decode cX2_goThrough 22 = .ok (.istore 6, 2) := by decide +kernel
theorem dX2_goThrough_24 : decode cX2_goThrough 24 = .ok (.aload_n 0, 1) := by decide +kernel
theorem dX2_goThrough_25 : decode cX2_goThrough 25 = .ok (.getfield 18, 3) := by decide +kernel
theorem dX2_goThrough_28 : decode cX2_goThrough 28 = .ok (.iload 5, 2) := by decide +kernel
theorem dX2_goThrough_30 : decode cX2_goThrough 30 = .ok (.iaload, 1) := by decide +kernel
theorem dX2_goThrough_31 : decode cX2_goThrough 31 = .ok (.aload_n 0, 1) := by decide +kernel
theorem dX2_goThrough_32 : decode cX2_goThrough 32 = .ok (.getfield 18, 3) := by decide +kernel
theorem dX2_goThrough_35 : decode cX2_goThrough 35 = .ok (.iload 6, 2) := by decide +kernel
theorem dX2_goThrough_37 : decode cX2_goThrough 37 = .ok (.iaload, 1) := by decide +kernel
theorem dX2_goThrough_38 : decode cX2_goThrough 38 = .ok (.iadd, 1) := by decide +kernel
theorem dX2_goThrough_39 : decode cX2_goThrough 39 = .ok (.istore 7, 2) := by decide +kernel
theorem dX2_goThrough_41 : decode cX2_goThrough 41 = .ok (.aload_n 0, 1) := by decide +kernel
theorem dX2_goThrough_42 : decode cX2_goThrough 42 = .ok (.getfield 21, 3) := by decide +kernel
theorem dX2_goThrough_45 : decode cX2_goThrough 45 = .ok (.iload 5, 2) := by decide +kernel
theorem dX2_goThrough_47 : decode cX2_goThrough 47 = .ok (.iaload, 1) := by decide +kernel
theorem dX2_goThrough_48 : decode cX2_goThrough 48 = .ok (.aload_n 0, 1) := by decide +kernel
theorem dX2_goThrough_49 : decode cX2_goThrough 49 = .ok (.getfield 21, 3) := by decide +kernel
theorem dX2_goThrough_52 : decode cX2_goThrough 52 = .ok (.iload 6, 2) := by decide +kernel
theorem dX2_goThrough_54 : decode cX2_goThrough 54 = .ok (.iaload, 1) := by decide +kernel
theorem dX2_goThrough_55 : decode cX2_goThrough 55 = .ok (.iadd, 1) := by decide +kernel
theorem dX2_goThrough_56 : decode cX2_goThrough 56 = .ok (.istore 8, 2) := by decide +kernel
theorem dX2_goThrough_58 : decode cX2_goThrough 58 = .ok (.iload 7, 2) := by decide +kernel
theorem dX2_goThrough_60 : decode cX2_goThrough 60 = .ok (.ldc 31, 2) := by decide +kernel
theorem dX2_goThrough_62 : decode cX2_goThrough 62 = .ok (.if_icmp .lt 4, 3) := by decide +kernel
theorem dX2_goThrough_65 : decode cX2_goThrough 65 = .ok (.return_, 1) := by decide +kernel
theorem dX2_goThrough_66 : decode cX2_goThrough 66 = .ok (.iload 7, 2) := by decide +kernel
theorem dX2_goThrough_68 : decode cX2_goThrough 68 = .ok (.aload_n 0, 1) := by decide +kernel
theorem dX2_goThrough_69 : decode cX2_goThrough 69 = .ok (.getfield 18, 3) := by decide +kernel
theorem dX2_goThrough_72 : decode cX2_goThrough 72 = .ok (.iload 4, 2) := by decide +kernel
theorem dX2_goThrough_74 : decode cX2_goThrough 74 = .ok (.iaload, 1) := by decide +kernel
theorem dX2_goThrough_75 : decode cX2_goThrough 75 = .ok (.if_icmp .lt 27, 3) := by decide +kernel
theorem dX2_goThrough_78 : decode cX2_goThrough 78 = .ok (.iload 7, 2) := by decide +kernel
theorem dX2_goThrough_80 : decode cX2_goThrough 80 = .ok (.aload_n 0, 1) := by decide +kernel
theorem dX2_goThrough_81 : decode cX2_goThrough 81 = .ok (.getfield 18, 3) := by decide +kernel
theorem dX2_goThrough_84 : decode cX2_goThrough 84 = .ok (.iload 4, 2) := by decide +kernel
theorem dX2_goThrough_86 : decode cX2_goThrough 86 = .ok (.iaload, 1) := by decide +kernel
theorem dX2_goThrough_87 : decode cX2_goThrough 87 = .ok (.if_icmp .ne 33, 3) := by decide +kernel
theorem dX2_goThrough_90 : decode cX2_goThrough 90 = .ok (.iload 8, 2) := by decide +kernel
theorem dX2_goThrough_92 : decode cX2_goThrough 92 = .ok (.aload_n 0, 1) := by decide +kernel
theorem dX2_goThrough_93 : decode cX2_goThrough 93 = .ok (.getfield 21, 3) := by decide +kernel
theorem dX2_goThrough_96 : decode cX2_goThrough 96 = .ok (.iload 4, 2) := by decide +kernel
theorem dX2_goThrough_98 : decode cX2_goThrough 98 = .ok (.iaload, 1) := by decide +kernel
theorem dX2_goThrough_99 : decode cX2_goThrough 99 = .ok (.if_icmp .le 21, 3) := by decide +kernel
theorem dX2_goThrough_102 : decode cX2_goThrough 102 = .ok (.aload_n 0, 1) := by decide +kernel
theorem dX2_goThrough_103 : decode cX2_goThrough 103 = .ok (.getfield 18, 3) := by decide +kernel
theorem dX2_goThrough_106 : decode cX2_goThrough 106 = .ok (.iload 4, 2) := by decide +kernel
theorem dX2_goThrough_108 : decode cX2_goThrough 108 = .ok (.iload 7, 2) := by decide +kernel
theorem dX2_goThrough_110 : decode cX2_goThrough 110 = .ok (.iastore, 1) := by decide +kernel
theorem dX2_goThrough_111 : decode cX2_goThrough 111 = .ok (.aload_n 0, 1) := by decide +kernel
theorem dX2_goThrough_112 : decode cX2_goThrough 112 = .ok (.getfield 21, 3) := by decide +kernel
theorem dX2_goThrough_115 : decode cX2_goThrough 115 = .ok (.iload 4, 2) := by decide +kernel
theorem dX2_goThrough_117 : decode cX2_goThrough 117 = .ok (.iload 8, 2) := by decide +kernel
theorem dX2_goThrough_119 : decode cX2_goThrough 119 = .ok (.iastore, 1) := by decide +kernel
theorem dX2_goThrough_120 : decode cX2_goThrough 120 = .ok (.return_, 1) := by decide +kernel
theorem dX3_init_0 : decode cX3_init 0 = .ok (.aload_n 0, 1) := by decide +kernel
theorem dX3_init_1 : decode cX3_init 1 = .ok (.invokespecial 3, 3) := by decide +kernel
theorem dX3_init_4 : decode cX3_init 4 = .ok (.aload_n 0, 1) := by decide +kernel
theorem dX3_init_5 : decode cX3_init 5 = .ok (.bipush 12, 2) := by decide +kernel
theorem dX3_init_7 : decode cX3_init 7 = .ok (.newarray .int, 2) := by decide +kernel
theorem dX3_init_9 : decode cX3_init 9 = .ok (.putfield 9, 3) := by decide +kernel
theorem dX3_init_12 : decode cX3_init 12 = .ok (.aload_n 0, 1) := by decide +kernel
theorem dX3_init_13 : decode cX3_init 13 = .ok (.bipush 12, 2) := by decide +kernel
theorem dX3_init_15 : decode cX3_init 15 = .ok (.newarray .int, 2) := by decide +kernel
theorem dX3_init_17 : decode cX3_init 17 = .ok (.putfield 15, 3) := by decide +kernel
theorem dX3_init_20 : decode cX3_init 20 = .ok (.aload_n 0, 1) := by decide +kernel
theorem dX3_init_21 : decode cX3_init 21 = .ok (.bipush 12, 2) := by decide +kernel
theorem dX3_init_23 : decode cX3_init 23 = .ok (.newarray .int, 2) := by decide +kernel
theorem dX3_init_25 : decode cX3_init 25 = .ok (.putfield 18, 3) := by decide +kernel
theorem dX3_init_28 : decode cX3_init 28 = .ok (.aload_n 0, 1) := by decide +kernel
theorem dX3_init_29 : decode cX3_init 29 = .ok (.iconst 0, 1) := by decide +kernel
theorem dX3_init_30 : decode cX3_init 30 = .ok (.putfield 21, 3) := by decide +kernel
theorem dX3_init_33 : decode cX3_init 33 = .ok (.return_, 1) := by decide +kernel
theorem dX3_reckon_0 : decode cX3_reckon 0 = .ok (.aload_n 0, 1) := by decide +kernel
theorem dX3_reckon_1 : decode cX3_reckon 1 = .ok (.aload_n 1, 1) := by decide +kernel
theorem dX3_reckon_2 : decode cX3_reckon 2 = .ok (.aload_n 2, 1) := by decide +kernel
theorem dX3_reckon_3 : decode cX3_reckon 3 = .ok (.aload_n 0, 1) := by decide +kernel
theorem dX3_reckon_4 : decode cX3_reckon 4 = .ok (.getfield 9, 3) := by decide +kernel
theorem dX3_reckon_7 : decode cX3_reckon 7 = .ok (.invokevirtual 25, 3) := by decide +kernel
theorem dX3_reckon_10 : decode cX3_reckon 10 = .ok (.aload_n 0, 1) := by decide +kernel
theorem dX3_reckon_11 : decode cX3_reckon 11 = .ok (.aload_n 0, 1) := by decide +kernel
theorem dX3_reckon_12 : decode cX3_reckon 12 = .ok (.aload_n 1, 1) := by decide +kernel
theorem dX3_reckon_13 : decode cX3_reckon 13 = .ok (.aload_n 2, 1) := by decide +kernel
theorem dX3_reckon_14 : decode cX3_reckon 14 = .ok (.aload_n 0, 1) := by decide +kernel
theorem dX3_reckon_15 : decode cX3_reckon 15 = .ok (.getfield 9, 3) := by decide +kernel
theorem dX3_reckon_18 : decode cX3_reckon 18 = .ok (.iconst (-1), 1) := by decide +kernel
theorem dX3_reckon_19 : decode cX3_reckon 19 = .ok (.iconst (-1), 1) := by decide +kernel
theorem dX3_reckon_20 : decode cX3_reckon 20 = .ok (.invokevirtual 29, 3) := by decide +kernel
theorem dX3_reckon_23 : decode cX3_reckon 23 = .ok (.ifCond .ne 7, 3) := by decide +kernel
theorem dX3_reckon_26 : decode cX3_reckon 26 = .ok (.iconst 1, 1) := by decide +kernel
theorem dX3_reckon_27 : decode cX3_reckon 27 = .ok (.goto 4, 3) := by decide +kernel
theorem dX3_reckon_30 : decode cX3_reckon 30 = .ok (.iconst 0, 1) := by decide +kernel
theorem dX3_reckon_31 : decode cX3_reckon 31 = .ok (.putfield 21, 3) := by decide +kernel
theorem dX3_reckon_34 : decode cX3_reckon 34 = .ok (.aload_n 0, 1) := by decide +kernel
theorem dX3_reckon_35 : decode cX3_reckon 35 = .ok (.getfield 21, 3) := by decide +kernel
theorem dX3_reckon_38 : decode cX3_reckon 38 = .ok (.ifCond .ne 14, 3) := by decide +kernel
theorem dX3_reckon_41 : decode cX3_reckon 41 = .ok (.aload_n 0, 1) := by decide +kernel
theorem dX3_reckon_42 : decode cX3_reckon 42 = .ok (.aload_n 1, 1) := by decide +kernel
theorem dX3_reckon_43 : decode cX3_reckon 43 = .ok (.invokevirtual 33, 3) := by decide +kernel
theorem dX3_reckon_46 : decode cX3_reckon 46 = .ok (.aload_n 0, 1) := by decide +kernel
theorem dX3_reckon_47 : decode cX3_reckon 47 = .ok (.aload_n 1, 1) := by decide +kernel
theorem dX3_reckon_48 : decode cX3_reckon 48 = .ok (.aload_n 2, 1) := by decide +kernel
theorem dX3_reckon_49 : decode cX3_reckon 49 = .ok (.invokevirtual 37, 3) := by decide +kernel
theorem dX3_reckon_52 : decode cX3_reckon 52 = .ok (.return_, 1) := by decide +kernel
theorem dX3_canBeNoEarlier_0 : decode cX3_canBeNoEarlier 0 = .ok (.aload_n 0, 1) := by decide +kernel
theorem dX3_canBeNoEarlier_1 : decode cX3_canBeNoEarlier 1 = .ok (.aload_n 1, 1) := by decide +kernel
theorem dX3_canBeNoEarlier_2 : decode cX3_canBeNoEarlier 2 = .ok (.aload_n 2, 1) := by decide +kernel
theorem dX3_canBeNoEarlier_3 : decode cX3_canBeNoEarlier 3 = .ok (.aload_n 0, 1) := by decide +kernel
theorem dX3_canBeNoEarlier_4 : decode cX3_canBeNoEarlier 4 = .ok (.getfield 18, 3) := by decide +kernel
theorem dX3_canBeNoEarlier_7 : decode cX3_canBeNoEarlier 7 = .ok (.invokevirtual 25, 3) := by decide +kernel
theorem dX3_canBeNoEarlier_10 : decode cX3_canBeNoEarlier 10 = .ok (.aload_n 0, 1) := by decide +kernel
theorem dX3_canBeNoEarlier_11 : decode cX3_canBeNoEarlier 11 = .ok (.aload_n 1, 1) := by decide +kernel
theorem dX3_canBeNoEarlier_12 : decode cX3_canBeNoEarlier 12 = .ok (.aload_n 2, 1) := by decide +kernel
theorem dX3_canBeNoEarlier_13 : decode cX3_canBeNoEarlier 13 = .ok (.aload_n 0, 1) := by decide +kernel
theorem dX3_canBeNoEarlier_14 : decode cX3_canBeNoEarlier 14 = .ok (.getfield 18, 3) := by decide +kernel
theorem dX3_canBeNoEarlier_17 : decode cX3_canBeNoEarlier 17 = .ok (.iload_n 3, 1) := by decide +kernel
theorem dX3_canBeNoEarlier_18 : decode cX3_canBeNoEarlier 18 = .ok (.iload 4, 2) := by decide +kernel
theorem dX3_canBeNoEarlier_20 : decode cX3_canBeNoEarlier 20 = .ok (.invokevirtual 29, 3) := by decide +kernel
theorem dX3_canBeNoEarlier_23 : decode cX3_canBeNoEarlier 23 = .ok (.ireturn, 1) := by decide +kernel
theorem dX3_layFloors_0 : decode cX3_layFloors 0 = .ok (.iconst 0, 1) := by decide +kernel
theorem dX3_layFloors_1 : decode cX3_layFloors 1 = .ok (.istore 4, 2) := by decide +kernel
theorem dX3_layFloors_3 : decode cX3_layFloors 3 = .ok (.iload 4, 2) := by decide +kernel
theorem dX3_layFloors_5 : decode cX3_layFloors 5 = .ok (.aload_n 1, 1) := by decide +kernel
theorem dX3_layFloors_6 : decode cX3_layFloors 6 = .ok (.getfield 41, 3) := by decide +kernel
theorem dX3_layFloors_9 : decode cX3_layFloors 9 = .ok (.if_icmp .ge 24, 3) := by decide +kernel
theorem dX3_layFloors_12 : decode cX3_layFloors 12 = .ok (.aload_n 3, 1) := by decide +kernel
theorem dX3_layFloors_13 : decode cX3_layFloors 13 = .ok (.iload 4, 2) := by decide +kernel
theorem dX3_layFloors_15 : decode cX3_layFloors 15 = .ok (.aload_n 1, 1) := by decide +kernel
theorem dX3_layFloors_16 : decode cX3_layFloors 16 = .ok (.getfield 47, 3) := by decide +kernel
theorem dX3_layFloors_19 : decode cX3_layFloors 19 = .ok (.iload 4, 2) := by decide +kernel
theorem dX3_layFloors_21 : decode cX3_layFloors 21 = .ok (.iaload, 1) := by decide +kernel
theorem dX3_layFloors_22 : decode cX3_layFloors 22 = .ok (.iconst 0, 1) := by decide +kernel
theorem dX3_layFloors_23 : decode cX3_layFloors 23 = .ok (.invokestatic 50, 3) := by decide +kernel
theorem dX3_layFloors_26 : decode cX3_layFloors 26 = .ok (.iastore, 1) := by decide +kernel
theorem dX3_layFloors_27 : decode cX3_layFloors 27 = .ok (.iinc 4 1, 3) := by decide +kernel
theorem dX3_layFloors_30 : decode cX3_layFloors 30 = .ok (.goto (-27), 3) := by decide +kernel
theorem dX3_layFloors_33 : decode cX3_layFloors 33 = .ok (.iconst 0, 1) := by decide +kernel
theorem dX3_layFloors_34 : decode cX3_layFloors 34 = .ok (.istore 4, 2) := by decide +kernel
theorem dX3_layFloors_36 : decode cX3_layFloors 36 = .ok (.iload 4, 2) := by decide +kernel
theorem dX3_layFloors_38 : decode cX3_layFloors 38 = .ok (.aload_n 1, 1) := by decide +kernel
theorem dX3_layFloors_39 : decode cX3_layFloors 39 = .ok (.getfield 56, 3) := by decide +kernel
theorem dX3_layFloors_42 : decode cX3_layFloors 42 = .ok (.if_icmp .ge 77, 3) := by decide +kernel
theorem dX3_layFloors_45 : decode cX3_layFloors 45 = .ok (.aload_n 1, 1) := by decide +kernel
theorem dX3_layFloors_46 : decode cX3_layFloors 46 = .ok (.getfield 59, 3) := by decide +kernel
theorem dX3_layFloors_49 : decode cX3_layFloors 49 = .ok (.iload 4, 2) := by decide +kernel
theorem dX3_layFloors_51 : decode cX3_layFloors 51 = .ok (.iaload, 1) := by decide +kernel
theorem dX3_layFloors_52 : decode cX3_layFloors 52 = .ok (.istore 5, 2) := by decide +kernel
theorem dX3_layFloors_54 : decode cX3_layFloors 54 = .ok (.aload_n 1, 1) := by decide +kernel
theorem dX3_layFloors_55 : decode cX3_layFloors 55 = .ok (.getfield 62, 3) := by decide +kernel
theorem dX3_layFloors_58 : decode cX3_layFloors 58 = .ok (.iload 4, 2) := by decide +kernel
theorem dX3_layFloors_60 : decode cX3_layFloors 60 = .ok (.iaload, 1) := by decide +kernel
theorem dX3_layFloors_61 : decode cX3_layFloors 61 = .ok (.istore 6, 2) := by decide +kernel
theorem dX3_layFloors_63 : decode cX3_layFloors 63 = .ok (.aload_n 1, 1) := by decide +kernel
theorem dX3_layFloors_64 : decode cX3_layFloors 64 = .ok (.iload 5, 2) := by decide +kernel
theorem dX3_layFloors_66 : decode cX3_layFloors 66 = .ok (.invokevirtual 65, 3) := by decide +kernel
theorem dX3_layFloors_69 : decode cX3_layFloors 69 = .ok (.ifCond .eq 44, 3) := by decide +kernel
theorem dX3_layFloors_72 : decode cX3_layFloors 72 = .ok (.aload_n 1, 1) := by decide +kernel
theorem dX3_layFloors_73 : decode cX3_layFloors 73 = .ok (.getfield 69, 3) := by decide +kernel
theorem dX3_layFloors_76 : decode cX3_layFloors 76 = .ok (.iload 5, 2) := by decide +kernel
theorem dX3_layFloors_78 : decode cX3_layFloors 78 = .ok (.iaload, 1) := by decide +kernel
theorem dX3_layFloors_79 : decode cX3_layFloors 79 = .ok (.aload_n 2, 1) := by decide +kernel
theorem dX3_layFloors_80 : decode cX3_layFloors 80 = .ok (.aload_n 1, 1) := by decide +kernel
theorem dX3_layFloors_81 : decode cX3_layFloors 81 = .ok (.getfield 72, 3) := by decide +kernel
theorem dX3_layFloors_84 : decode cX3_layFloors 84 = .ok (.iload 5, 2) := by decide +kernel
theorem dX3_layFloors_86 : decode cX3_layFloors 86 = .ok (.iaload, 1) := by decide +kernel
theorem dX3_layFloors_87 : decode cX3_layFloors 87 = .ok (.aload_n 1, 1) := by decide +kernel
theorem dX3_layFloors_88 : decode cX3_layFloors 88 = .ok (.getfield 75, 3) := by decide +kernel
theorem dX3_layFloors_91 : decode cX3_layFloors 91 = .ok (.iload 6, 2) := by decide +kernel
theorem dX3_layFloors_93 : decode cX3_layFloors 93 = .ok (.iaload, 1) := by decide +kernel
theorem dX3_layFloors_94 : decode cX3_layFloors 94 = .ok (.invokevirtual 78, 3) := by decide +kernel
theorem dX3_layFloors_97 : decode cX3_layFloors 97 = .ok (.iadd, 1) := by decide +kernel
theorem dX3_layFloors_98 : decode cX3_layFloors 98 = .ok (.istore 7, 2) := by decide +kernel
theorem dX3_layFloors_100 : decode cX3_layFloors 100 = .ok (.aload_n 3, 1) := by decide +kernel
theorem dX3_layFloors_101 : decode cX3_layFloors 101 = .ok (.iload 6, 2) := by decide +kernel
theorem dX3_layFloors_103 : decode cX3_layFloors 103 = .ok (.aload_n 3, 1) := by decide +kernel
theorem dX3_layFloors_104 : decode cX3_layFloors 104 = .ok (.iload 6, 2) := by decide +kernel
theorem dX3_layFloors_106 : decode cX3_layFloors 106 = .ok (.iaload, 1) := by decide +kernel
theorem dX3_layFloors_107 : decode cX3_layFloors 107 = .ok (.iload 7, 2) := by decide +kernel
theorem dX3_layFloors_109 : decode cX3_layFloors 109 = .ok (.invokestatic 50, 3) := by decide +kernel
theorem dX3_layFloors_112 : decode cX3_layFloors 112 = .ok (.iastore, 1) := by decide +kernel
theorem dX3_layFloors_113 : decode cX3_layFloors 113 = .ok (.iinc 4 1, 3) := by decide +kernel
theorem dX3_layFloors_116 : decode cX3_layFloors 116 = .ok (.goto (-80), 3) := by decide +kernel
theorem dX3_layFloors_119 : decode cX3_layFloors 119 = .ok (.return_, 1) := by decide +kernel
theorem dX3_layCeilings_0 : decode cX3_layCeilings 0 = .ok (.iconst 0, 1) := by decide +kernel
theorem dX3_layCeilings_1 : decode cX3_layCeilings 1 = .ok (.istore_n 2, 1) := by decide +kernel
theorem dX3_layCeilings_2 : decode cX3_layCeilings 2 = .ok (.iload_n 2, 1) := by decide +kernel
theorem dX3_layCeilings_3 : decode cX3_layCeilings 3 = .ok (.aload_n 1, 1) := by decide +kernel
theorem dX3_layCeilings_4 : decode cX3_layCeilings 4 = .ok (.getfield 41, 3) := by decide +kernel
theorem dX3_layCeilings_7 : decode cX3_layCeilings 7 = .ok (.if_icmp .ge 20, 3) := by decide +kernel
theorem dX3_layCeilings_10 : decode cX3_layCeilings 10 = .ok (.aload_n 0, 1) := by decide +kernel
theorem dX3_layCeilings_11 : decode cX3_layCeilings 11 = .ok (.getfield 15, 3) := by decide +kernel
theorem dX3_layCeilings_14 : decode cX3_layCeilings 14 = .ok (.iload_n 2, 1) := by decide +kernel
theorem dX3_layCeilings_15 : decode cX3_layCeilings 15 = .ok (.aload_n 1, 1) := by decide +kernel
theorem dX3_layCeilings_16 : decode cX3_layCeilings 16 = .ok (.iload_n 2, 1) := by decide +kernel
theorem dX3_layCeilings_17 : decode cX3_layCeilings 17 = .ok (.invokestatic 83, 3) := by decide +kernel
theorem dX3_layCeilings_20 : decode cX3_layCeilings 20 = .ok (.iastore, 1) := by decide +kernel
theorem dX3_layCeilings_21 : decode cX3_layCeilings 21 = .ok (.iinc 2 1, 3) := by decide +kernel
theorem dX3_layCeilings_24 : decode cX3_layCeilings 24 = .ok (.goto (-22), 3) := by decide +kernel
theorem dX3_layCeilings_27 : decode cX3_layCeilings 27 = .ok (.return_, 1) := by decide +kernel
theorem dX3_ceiling_0 : decode cX3_ceiling 0 = .ok (.aload_n 0, 1) := by decide +kernel
theorem dX3_ceiling_1 : decode cX3_ceiling 1 = .ok (.getfield 47, 3) := by decide +kernel
theorem dX3_ceiling_4 : decode cX3_ceiling 4 = .ok (.iload_n 1, 1) := by decide +kernel
theorem dX3_ceiling_5 : decode cX3_ceiling 5 = .ok (.iaload, 1) := by decide +kernel
theorem dX3_ceiling_6 : decode cX3_ceiling 6 = .ok (.iconst (-1), 1) := by decide +kernel
theorem dX3_ceiling_7 : decode cX3_ceiling 7 = .ok (.if_icmp .ne 9, 3) := by decide +kernel
theorem dX3_ceiling_10 : decode cX3_ceiling 10 = .ok (.sipush 999, 3) := by decide +kernel
theorem dX3_ceiling_13 : decode cX3_ceiling 13 = .ok (.goto 9, 3) := by decide +kernel
theorem dX3_ceiling_16 : decode cX3_ceiling 16 = .ok (.aload_n 0, 1) := by decide +kernel
theorem dX3_ceiling_17 : decode cX3_ceiling 17 = .ok (.getfield 47, 3) := by decide +kernel
theorem dX3_ceiling_20 : decode cX3_ceiling 20 = .ok (.iload_n 1, 1) := by decide +kernel
theorem dX3_ceiling_21 : decode cX3_ceiling 21 = .ok (.iaload, 1) := by decide +kernel
theorem dX3_ceiling_22 : decode cX3_ceiling 22 = .ok (.ireturn, 1) := by decide +kernel
theorem dX3_rises_0 : decode cX3_rises 0 = .ok (.iconst 1, 1) := by decide +kernel
theorem dX3_rises_1 : decode cX3_rises 1 = .ok (.istore 6, 2) := by decide +kernel
theorem dX3_rises_3 : decode cX3_rises 3 = .ok (.iconst 0, 1) := by decide +kernel
theorem dX3_rises_4 : decode cX3_rises 4 = .ok (.istore 7, 2) := by decide +kernel
theorem dX3_rises_6 : decode cX3_rises 6 = .ok (.iload 7, 2) := by decide +kernel
theorem dX3_rises_8 : decode cX3_rises 8 = .ok (.bipush 12, 2) := by decide +kernel
theorem dX3_rises_10 : decode cX3_rises 10 = .ok (.if_icmp .gt 50, 3) := by decide +kernel
theorem dX3_rises_13 : decode cX3_rises 13 = .ok (.iload 6, 2) := by decide +kernel
theorem dX3_rises_15 : decode cX3_rises 15 = .ok (.ifCond .eq 45, 3) := by decide +kernel
theorem dX3_rises_18 : decode cX3_rises 18 = .ok (.aload_n 1, 1) := by decide +kernel
theorem dX3_rises_19 : decode cX3_rises 19 = .ok (.aload_n 2, 1) := by decide +kernel
theorem dX3_rises_20 : decode cX3_rises 20 = .ok (.aload_n 3, 1) := by decide +kernel
theorem dX3_rises_21 : decode cX3_rises 21 = .ok (.invokestatic 87, 3) := by decide +kernel
theorem dX3_rises_24 : decode cX3_rises 24 = .ok (.istore 6, 2) := by decide +kernel
theorem dX3_rises_26 : decode cX3_rises 26 = .ok (.iload 4, 2) := by decide +kernel
theorem dX3_rises_28 : decode cX3_rises 28 = .ok (.iconst (-1), 1) := by decide +kernel
theorem dX3_rises_29 : decode cX3_rises 29 = .ok (.if_icmp .eq 25, 3) := by decide +kernel
theorem dX3_rises_32 : decode cX3_rises 32 = .ok (.aload_n 3, 1) := by decide +kernel
theorem dX3_rises_33 : decode cX3_rises 33 = .ok (.iload 4, 2) := by decide +kernel
theorem dX3_rises_35 : decode cX3_rises 35 = .ok (.iaload, 1) := by decide +kernel
theorem dX3_rises_36 : decode cX3_rises 36 = .ok (.aload_n 3, 1) := by decide +kernel
theorem dX3_rises_37 : decode cX3_rises 37 = .ok (.iload 5, 2) := by decide +kernel
theorem dX3_rises_39 : decode cX3_rises 39 = .ok (.iaload, 1) := by decide +kernel
theorem dX3_rises_40 : decode cX3_rises 40 = .ok (.if_icmp .ge 14, 3) := by decide +kernel
theorem dX3_rises_43 : decode cX3_rises 43 = .ok (.aload_n 3, 1) := by decide +kernel
theorem dX3_rises_44 : decode cX3_rises 44 = .ok (.iload 4, 2) := by decide +kernel
theorem dX3_rises_46 : decode cX3_rises 46 = .ok (.aload_n 3, 1) := by decide +kernel
theorem dX3_rises_47 : decode cX3_rises 47 = .ok (.iload 5, 2) := by decide +kernel
theorem dX3_rises_49 : decode cX3_rises 49 = .ok (.iaload, 1) := by decide +kernel
theorem dX3_rises_50 : decode cX3_rises 50 = .ok (.iastore, 1) := by decide +kernel
theorem dX3_rises_51 : decode cX3_rises 51 = .ok (.iconst 1, 1) := by decide +kernel
theorem dX3_rises_52 : decode cX3_rises 52 = .ok (.istore 6, 2) := by decide +kernel
theorem dX3_rises_54 : decode cX3_rises 54 = .ok (.iinc 7 1, 3) := by decide +kernel
theorem dX3_rises_57 : decode cX3_rises 57 = .ok (.goto (-51), 3) := by decide +kernel
theorem dX3_rises_60 : decode cX3_rises 60 = .ok (.iload 6, 2) := by decide +kernel
theorem dX3_rises_62 : decode cX3_rises 62 = .ok (.ifCond .ne 15, 3) := by decide +kernel
theorem dX3_rises_65 : decode cX3_rises 65 = .ok (.aload_n 1, 1) := by decide +kernel
theorem dX3_rises_66 : decode cX3_rises 66 = .ok (.aload_n 3, 1) := by decide +kernel
theorem dX3_rises_67 : decode cX3_rises 67 = .ok (.invokestatic 91, 3) := by decide +kernel
theorem dX3_rises_70 : decode cX3_rises 70 = .ok (.ifCond .eq 7, 3) := by decide +kernel
theorem dX3_rises_73 : decode cX3_rises 73 = .ok (.iconst 1, 1) := by decide +kernel
theorem dX3_rises_74 : decode cX3_rises 74 = .ok (.goto 4, 3) := by decide +kernel
theorem dX3_rises_77 : decode cX3_rises 77 = .ok (.iconst 0, 1) := by decide +kernel
theorem dX3_rises_78 : decode cX3_rises 78 = .ok (.ireturn, 1) := by decide +kernel
theorem dX3_raise_0 : decode cX3_raise 0 = .ok (.iconst 0, 1) := by decide +kernel
theorem dX3_raise_1 : decode cX3_raise 1 = .ok (.istore_n 3, 1) := by decide +kernel
theorem dX3_raise_2 : decode cX3_raise 2 = .ok (.iconst 0, 1) := by decide +kernel
theorem dX3_raise_3 : decode cX3_raise 3 = .ok (.istore 4, 2) := by decide +kernel
theorem dX3_raise_5 : decode cX3_raise 5 = .ok (.iload 4, 2) := by decide +kernel
theorem dX3_raise_7 : decode cX3_raise 7 = .ok (.aload_n 0, 1) := by decide +kernel
theorem dX3_raise_8 : decode cX3_raise 8 = .ok (.getfield 95, 3) := by decide +kernel
theorem dX3_raise_11 : decode cX3_raise 11 = .ok (.if_icmp .ge 55, 3) := by decide +kernel
theorem dX3_raise_14 : decode cX3_raise 14 = .ok (.aload_n 2, 1) := by decide +kernel
theorem dX3_raise_15 : decode cX3_raise 15 = .ok (.aload_n 0, 1) := by decide +kernel
theorem dX3_raise_16 : decode cX3_raise 16 = .ok (.getfield 98, 3) := by decide +kernel
theorem dX3_raise_19 : decode cX3_raise 19 = .ok (.iload 4, 2) := by decide +kernel
theorem dX3_raise_21 : decode cX3_raise 21 = .ok (.iaload, 1) := by decide +kernel
theorem dX3_raise_22 : decode cX3_raise 22 = .ok (.iaload, 1) := by decide +kernel
theorem dX3_raise_23 : decode cX3_raise 23 = .ok (.aload_n 0, 1) := by decide +kernel
theorem dX3_raise_24 : decode cX3_raise 24 = .ok (.aload_n 1, 1) := by decide +kernel
theorem dX3_raise_25 : decode cX3_raise 25 = .ok (.iload 4, 2) := by decide +kernel
theorem dX3_raise_27 : decode cX3_raise 27 = .ok (.invokestatic 101, 3) := by decide +kernel
theorem dX3_raise_30 : decode cX3_raise 30 = .ok (.iadd, 1) := by decide +kernel
theorem dX3_raise_31 : decode cX3_raise 31 = .ok (.istore 5, 2) := by decide +kernel
theorem dX3_raise_33 : decode cX3_raise 33 = .ok (.aload_n 2, 1) := by decide +kernel
theorem dX3_raise_34 : decode cX3_raise 34 = .ok (.aload_n 0, 1) := by decide +kernel
theorem dX3_raise_35 : decode cX3_raise 35 = .ok (.getfield 105, 3) := by decide +kernel
theorem dX3_raise_38 : decode cX3_raise 38 = .ok (.iload 4, 2) := by decide +kernel
theorem dX3_raise_40 : decode cX3_raise 40 = .ok (.iaload, 1) := by decide +kernel
theorem dX3_raise_41 : decode cX3_raise 41 = .ok (.iaload, 1) := by decide +kernel
theorem dX3_raise_42 : decode cX3_raise 42 = .ok (.iload 5, 2) := by decide +kernel
theorem dX3_raise_44 : decode cX3_raise 44 = .ok (.if_icmp .ge 16, 3) := by decide +kernel
theorem dX3_raise_47 : decode cX3_raise 47 = .ok (.aload_n 2, 1) := by decide +kernel
theorem dX3_raise_48 : decode cX3_raise 48 = .ok (.aload_n 0, 1) := by decide +kernel
theorem dX3_raise_49 : decode cX3_raise 49 = .ok (.getfield 105, 3) := by decide +kernel
theorem dX3_raise_52 : decode cX3_raise 52 = .ok (.iload 4, 2) := by decide +kernel
theorem dX3_raise_54 : decode cX3_raise 54 = .ok (.iaload, 1) := by decide +kernel
theorem dX3_raise_55 : decode cX3_raise 55 = .ok (.iload 5, 2) := by decide +kernel
theorem dX3_raise_57 : decode cX3_raise 57 = .ok (.iastore, 1) := by decide +kernel
theorem dX3_raise_58 : decode cX3_raise 58 = .ok (.iconst 1, 1) := by decide +kernel
theorem dX3_raise_59 : decode cX3_raise 59 = .ok (.istore_n 3, 1) := by decide +kernel
theorem dX3_raise_60 : decode cX3_raise 60 = .ok (.iinc 4 1, 3) := by decide +kernel
theorem dX3_raise_63 : decode cX3_raise 63 = .ok (.goto (-58), 3) := by decide +kernel
theorem dX3_raise_66 : decode cX3_raise 66 = .ok (.iload_n 3, 1) := by decide +kernel
theorem dX3_raise_67 : decode cX3_raise 67 = .ok (.ireturn, 1) := by decide +kernel
theorem dX3_staysBelow_0 : decode cX3_staysBelow 0 = .ok (.iconst 0, 1) := by decide +kernel
theorem dX3_staysBelow_1 : decode cX3_staysBelow 1 = .ok (.istore_n 2, 1) := by decide +kernel
theorem dX3_staysBelow_2 : decode cX3_staysBelow 2 = .ok (.iload_n 2, 1) := by decide +kernel
theorem dX3_staysBelow_3 : decode cX3_staysBelow 3 = .ok (.aload_n 0, 1) := by decide +kernel
theorem dX3_staysBelow_4 : decode cX3_staysBelow 4 = .ok (.getfield 41, 3) := by decide +kernel
theorem dX3_staysBelow_7 : decode cX3_staysBelow 7 = .ok (.if_icmp .ge 22, 3) := by decide +kernel
theorem dX3_staysBelow_10 : decode cX3_staysBelow 10 = .ok (.aload_n 1, 1) := by decide +kernel
theorem dX3_staysBelow_11 : decode cX3_staysBelow 11 = .ok (.iload_n 2, 1) := by decide +kernel
theorem dX3_staysBelow_12 : decode cX3_staysBelow 12 = .ok (.iaload, 1) := by decide +kernel
theorem dX3_staysBelow_13 : decode cX3_staysBelow 13 = .ok (.aload_n 0, 1) := by decide +kernel
theorem dX3_staysBelow_14 : decode cX3_staysBelow 14 = .ok (.iload_n 2, 1) := by decide +kernel
theorem dX3_staysBelow_15 : decode cX3_staysBelow 15 = .ok (.invokestatic 83, 3) := by decide +kernel
theorem dX3_staysBelow_18 : decode cX3_staysBelow 18 = .ok (.if_icmp .le 5, 3) := by decide +kernel
theorem dX3_staysBelow_21 : decode cX3_staysBelow 21 = .ok (.iconst 0, 1) := by decide +kernel
theorem dX3_staysBelow_22 : decode cX3_staysBelow 22 = .ok (.ireturn, 1) := by decide +kernel
theorem dX3_staysBelow_23 : decode cX3_staysBelow 23 = .ok (.iinc 2 1, 3) := by decide +kernel
theorem dX3_staysBelow_26 : decode cX3_staysBelow 26 = .ok (.goto (-24), 3) := by decide +kernel
theorem dX3_staysBelow_29 : decode cX3_staysBelow 29 = .ok (.iconst 1, 1) := by decide +kernel
theorem dX3_staysBelow_30 : decode cX3_staysBelow 30 = .ok (.ireturn, 1) := by decide +kernel
theorem dX3_sink_0 : decode cX3_sink 0 = .ok (.iconst 0, 1) := by decide +kernel
theorem dX3_sink_1 : decode cX3_sink 1 = .ok (.istore_n 3, 1) := by decide +kernel
theorem dX3_sink_2 : decode cX3_sink 2 = .ok (.iload_n 3, 1) := by decide +kernel
theorem dX3_sink_3 : decode cX3_sink 3 = .ok (.bipush 12, 2) := by decide +kernel
theorem dX3_sink_5 : decode cX3_sink 5 = .ok (.if_icmp .ge 77, 3) := by decide +kernel
theorem dX3_sink_8 : decode cX3_sink 8 = .ok (.iconst 0, 1) := by decide +kernel
theorem dX3_sink_9 : decode cX3_sink 9 = .ok (.istore 4, 2) := by decide +kernel
theorem dX3_sink_11 : decode cX3_sink 11 = .ok (.iload 4, 2) := by decide +kernel
theorem dX3_sink_13 : decode cX3_sink 13 = .ok (.aload_n 1, 1) := by decide +kernel
theorem dX3_sink_14 : decode cX3_sink 14 = .ok (.getfield 95, 3) := by decide +kernel
theorem dX3_sink_17 : decode cX3_sink 17 = .ok (.if_icmp .ge 59, 3) := by decide +kernel
theorem dX3_sink_20 : decode cX3_sink 20 = .ok (.aload_n 0, 1) := by decide +kernel
theorem dX3_sink_21 : decode cX3_sink 21 = .ok (.getfield 15, 3) := by decide +kernel
theorem dX3_sink_24 : decode cX3_sink 24 = .ok (.aload_n 1, 1) := by decide +kernel
theorem dX3_sink_25 : decode cX3_sink 25 = .ok (.getfield 105, 3) := by decide +kernel
theorem dX3_sink_28 : decode cX3_sink 28 = .ok (.iload 4, 2) := by decide +kernel
theorem dX3_sink_30 : decode cX3_sink 30 = .ok (.iaload, 1) := by decide +kernel
theorem dX3_sink_31 : decode cX3_sink 31 = .ok (.iaload, 1) := by decide +kernel
theorem dX3_sink_32 : decode cX3_sink 32 = .ok (.aload_n 1, 1) := by decide +kernel
theorem dX3_sink_33 : decode cX3_sink 33 = .ok (.aload_n 2, 1) := by decide +kernel
theorem dX3_sink_34 : decode cX3_sink 34 = .ok (.iload 4, 2) := by decide +kernel
theorem dX3_sink_36 : decode cX3_sink 36 = .ok (.invokestatic 101, 3) := by decide +kernel
theorem dX3_sink_39 : decode cX3_sink 39 = .ok (.isub, 1) := by decide +kernel
theorem dX3_sink_40 : decode cX3_sink 40 = .ok (.istore 5, 2) := by decide +kernel
theorem dX3_sink_42 : decode cX3_sink 42 = .ok (.aload_n 1, 1) := by decide +kernel
theorem dX3_sink_43 : decode cX3_sink 43 = .ok (.getfield 98, 3) := by decide +kernel
theorem dX3_sink_46 : decode cX3_sink 46 = .ok (.iload 4, 2) := by decide +kernel
theorem dX3_sink_48 : decode cX3_sink 48 = .ok (.iaload, 1) := by decide +kernel
theorem dX3_sink_49 : decode cX3_sink 49 = .ok (.istore 6, 2) := by decide +kernel
theorem dX3_sink_51 : decode cX3_sink 51 = .ok (.aload_n 0, 1) := by decide +kernel
theorem dX3_sink_52 : decode cX3_sink 52 = .ok (.getfield 15, 3) := by decide +kernel
theorem dX3_sink_55 : decode cX3_sink 55 = .ok (.iload 6, 2) := by decide +kernel
theorem dX3_sink_57 : decode cX3_sink 57 = .ok (.aload_n 0, 1) := by decide +kernel
theorem dX3_sink_58 : decode cX3_sink 58 = .ok (.getfield 15, 3) := by decide +kernel
theorem dX3_sink_61 : decode cX3_sink 61 = .ok (.iload 6, 2) := by decide +kernel
theorem dX3_sink_63 : decode cX3_sink 63 = .ok (.iaload, 1) := by decide +kernel
theorem dX3_sink_64 : decode cX3_sink 64 = .ok (.iload 5, 2) := by decide +kernel
theorem dX3_sink_66 : decode cX3_sink 66 = .ok (.invokestatic 108, 3) := by decide +kernel
theorem dX3_sink_69 : decode cX3_sink 69 = .ok (.iastore, 1) := by decide +kernel
theorem dX3_sink_70 : decode cX3_sink 70 = .ok (.iinc 4 1, 3) := by decide +kernel
theorem dX3_sink_73 : decode cX3_sink 73 = .ok (.goto (-62), 3) := by decide +kernel
theorem dX3_sink_76 : decode cX3_sink 76 = .ok (.iinc 3 1, 3) := by decide +kernel
theorem dX3_sink_79 : decode cX3_sink 79 = .ok (.goto (-77), 3) := by decide +kernel
theorem dX3_sink_82 : decode cX3_sink 82 = .ok (.return_, 1) := by decide +kernel
theorem dX3_gap_0 : decode cX3_gap 0 = .ok (.aload_n 1, 1) := by decide +kernel
theorem dX3_gap_1 : decode cX3_gap 1 = .ok (.aload_n 0, 1) := by decide +kernel
theorem dX3_gap_2 : decode cX3_gap 2 = .ok (.getfield 75, 3) := by decide +kernel
theorem dX3_gap_5 : decode cX3_gap 5 = .ok (.aload_n 0, 1) := by decide +kernel
theorem dX3_gap_6 : decode cX3_gap 6 = .ok (.getfield 98, 3) := by decide +kernel
theorem dX3_gap_9 : decode cX3_gap 9 = .ok (.iload_n 2, 1) := by decide +kernel
theorem dX3_gap_10 : decode cX3_gap 10 = .ok (.iaload, 1) := by decide +kernel
theorem dX3_gap_11 : decode cX3_gap 11 = .ok (.iaload, 1) := by decide +kernel
theorem dX3_gap_12 : decode cX3_gap 12 = .ok (.aload_n 0, 1) := by decide +kernel
theorem dX3_gap_13 : decode cX3_gap 13 = .ok (.getfield 75, 3) := by decide +kernel
theorem dX3_gap_16 : decode cX3_gap 16 = .ok (.aload_n 0, 1) := by decide +kernel
theorem dX3_gap_17 : decode cX3_gap 17 = .ok (.getfield 105, 3) := by decide +kernel
theorem dX3_gap_20 : decode cX3_gap 20 = .ok (.iload_n 2, 1) := by decide +kernel
theorem dX3_gap_21 : decode cX3_gap 21 = .ok (.iaload, 1) := by decide +kernel
theorem dX3_gap_22 : decode cX3_gap 22 = .ok (.iaload, 1) := by decide +kernel
theorem dX3_gap_23 : decode cX3_gap 23 = .ok (.invokevirtual 78, 3) := by decide +kernel
theorem dX3_gap_26 : decode cX3_gap 26 = .ok (.ireturn, 1) := by decide +kernel
theorem dX4_init_0 : decode cX4_init 0 = .ok (.aload_n 0, 1) := by decide +kernel
theorem dX4_init_1 : decode cX4_init 1 = .ok (.invokespecial 3, 3) := by decide +kernel
theorem dX4_init_4 : decode cX4_init 4 = .ok (.aload_n 0, 1) := by decide +kernel
theorem dX4_init_5 : decode cX4_init 5 = .ok (.sipush 200, 3) := by decide +kernel
theorem dX4_init_8 : decode cX4_init 8 = .ok (.newarray .byte, 2) := by decide +kernel
theorem dX4_init_10 : decode cX4_init 10 = .ok (.putfield 9, 3) := by decide +kernel
