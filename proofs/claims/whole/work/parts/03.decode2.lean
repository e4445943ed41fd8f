theorem dX4_init_13 : decode cX4_init 13 = .ok (.aload_n 0, 1) := by decide +kernel
theorem dX4_init_14 : decode cX4_init 14 = .ok (.iconst 0, 1) := by decide +kernel
theorem dX4_init_15 : decode cX4_init 15 = .ok (.putfield 15, 3) := by decide +kernel
theorem dX4_init_18 : decode cX4_init 18 = .ok (.return_, 1) := by decide +kernel
theorem dX4_append_0 : decode cX4_append 0 = .ok (.bipush 8, 2) := by decide +kernel
theorem dX4_append_2 : decode cX4_append 2 = .ok (.iload_n 1, 1) := by decide +kernel
theorem dX4_append_3 : decode cX4_append 3 = .ok (.iconst 1, 1) := by decide +kernel
theorem dX4_append_4 : decode cX4_append 4 = .ok (.isub, 1) := by decide +kernel
theorem dX4_append_5 : decode cX4_append 5 = .ok (.imul, 1) := by decide +kernel
theorem dX4_append_6 : decode cX4_append 6 = .ok (.istore 4, 2) := by decide +kernel
theorem dX4_append_8 : decode cX4_append 8 = .ok (.iload 4, 2) := by decide +kernel
theorem dX4_append_10 : decode cX4_append 10 = .ok (.ifCond .lt 34, 3) := by decide +kernel
theorem dX4_append_13 : decode cX4_append 13 = .ok (.aload_n 0, 1) := by decide +kernel
theorem dX4_append_14 : decode cX4_append 14 = .ok (.getfield 9, 3) := by decide +kernel
theorem dX4_append_17 : decode cX4_append 17 = .ok (.aload_n 0, 1) := by decide +kernel
theorem dX4_append_18 : decode cX4_append 18 = .ok (.getfield 15, 3) := by decide +kernel
theorem dX4_append_21 : decode cX4_append 21 = .ok (.lload_n 2, 1) := by decide +kernel
theorem dX4_append_22 : decode cX4_append 22 = .ok (.iload 4, 2) := by decide +kernel
theorem dX4_append_24 : decode cX4_append 24 = .ok (.lushr, 1) := by decide +kernel
theorem dX4_append_25 : decode cX4_append 25 = .ok (.l2i, 1) := by decide +kernel
theorem dX4_append_26 : decode cX4_append 26 = .ok (.i2b, 1) := by decide +kernel
theorem dX4_append_27 : decode cX4_append 27 = .ok (.bastore, 1) := by decide +kernel
theorem dX4_append_28 : decode cX4_append 28 = .ok (.aload_n 0, 1) := by decide +kernel
theorem dX4_append_29 : decode cX4_append 29 = .ok (.dup, 1) := by decide +kernel
theorem dX4_append_30 : decode cX4_append 30 = .ok (.getfield 15, 3) := by decide +kernel
theorem dX4_append_33 : decode cX4_append 33 = .ok (.iconst 1, 1) := by decide +kernel
theorem dX4_append_34 : decode cX4_append 34 = .ok (.iadd, 1) := by decide +kernel
theorem dX4_append_35 : decode cX4_append 35 = .ok (.putfield 15, 3) := by decide +kernel
theorem dX4_append_38 : decode cX4_append 38 = .ok (.iinc 4 (-8), 3) := by decide +kernel
theorem dX4_append_41 : decode cX4_append 41 = .ok (.goto (-33), 3) := by decide +kernel
theorem dX4_append_44 : decode cX4_append 44 = .ok (.return_, 1) := by decide +kernel
theorem dX4_byteAt_0 : decode cX4_byteAt 0 = .ok (.iload_n 1, 1) := by decide +kernel
theorem dX4_byteAt_1 : decode cX4_byteAt 1 = .ok (.ifCond .lt 20, 3) := by decide +kernel
theorem dX4_byteAt_4 : decode cX4_byteAt 4 = .ok (.iload_n 1, 1) := by decide +kernel
theorem dX4_byteAt_5 : decode cX4_byteAt 5 = .ok (.aload_n 0, 1) := by decide +kernel
theorem dX4_byteAt_6 : decode cX4_byteAt 6 = .ok (.getfield 15, 3) := by decide +kernel
theorem dX4_byteAt_9 : decode cX4_byteAt 9 = .ok (.if_icmp .ge 12, 3) := by decide +kernel
theorem dX4_byteAt_12 : decode cX4_byteAt 12 = .ok (.aload_n 0, 1) := by decide +kernel
theorem dX4_byteAt_13 : decode cX4_byteAt 13 = .ok (.getfield 9, 3) := by decide +kernel
theorem dX4_byteAt_16 : decode cX4_byteAt 16 = .ok (.iload_n 1, 1) := by decide +kernel
theorem dX4_byteAt_17 : decode cX4_byteAt 17 = .ok (.baload, 1) := by decide +kernel
theorem dX4_byteAt_18 : decode cX4_byteAt 18 = .ok (.goto 4, 3) := by decide +kernel
theorem dX4_byteAt_21 : decode cX4_byteAt 21 = .ok (.iconst (-1), 1) := by decide +kernel
theorem dX4_byteAt_22 : decode cX4_byteAt 22 = .ok (.ireturn, 1) := by decide +kernel
theorem dX5_init_0 : decode cX5_init 0 = .ok (.aload_n 0, 1) := by decide +kernel
theorem dX5_init_1 : decode cX5_init 1 = .ok (.invokespecial 3, 3) := by decide +kernel
theorem dX5_init_4 : decode cX5_init 4 = .ok (.aload_n 0, 1) := by decide +kernel
theorem dX5_init_5 : decode cX5_init 5 = .ok (.bipush 30, 2) := by decide +kernel
theorem dX5_init_7 : decode cX5_init 7 = .ok (.newarray .int, 2) := by decide +kernel
theorem dX5_init_9 : decode cX5_init 9 = .ok (.putfield 9, 3) := by decide +kernel
theorem dX5_init_12 : decode cX5_init 12 = .ok (.aload_n 0, 1) := by decide +kernel
theorem dX5_init_13 : decode cX5_init 13 = .ok (.bipush 30, 2) := by decide +kernel
theorem dX5_init_15 : decode cX5_init 15 = .ok (.newarray .int, 2) := by decide +kernel
theorem dX5_init_17 : decode cX5_init 17 = .ok (.putfield 15, 3) := by decide +kernel
theorem dX5_init_20 : decode cX5_init 20 = .ok (.aload_n 0, 1) := by decide +kernel
theorem dX5_init_21 : decode cX5_init 21 = .ok (.bipush 30, 2) := by decide +kernel
theorem dX5_init_23 : decode cX5_init 23 = .ok (.newarray .int, 2) := by decide +kernel
theorem dX5_init_25 : decode cX5_init 25 = .ok (.putfield 18, 3) := by decide +kernel
theorem dX5_init_28 : decode cX5_init 28 = .ok (.return_, 1) := by decide +kernel
theorem dX5_isVoice_0 : decode cX5_isVoice 0 = .ok (.aload_n 0, 1) := by decide +kernel
theorem dX5_isVoice_1 : decode cX5_isVoice 1 = .ok (.getfield 9, 3) := by decide +kernel
theorem dX5_isVoice_4 : decode cX5_isVoice 4 = .ok (.iload_n 1, 1) := by decide +kernel
theorem dX5_isVoice_5 : decode cX5_isVoice 5 = .ok (.iaload, 1) := by decide +kernel
theorem dX5_isVoice_6 : decode cX5_isVoice 6 = .ok (.iconst (-1), 1) := by decide +kernel
theorem dX5_isVoice_7 : decode cX5_isVoice 7 = .ok (.if_icmp .ne 7, 3) := by decide +kernel
theorem dX5_isVoice_10 : decode cX5_isVoice 10 = .ok (.iconst 1, 1) := by decide +kernel
theorem dX5_isVoice_11 : decode cX5_isVoice 11 = .ok (.goto 4, 3) := by decide +kernel
theorem dX5_isVoice_14 : decode cX5_isVoice 14 = .ok (.iconst 0, 1) := by decide +kernel
theorem dX5_isVoice_15 : decode cX5_isVoice 15 = .ok (.ireturn, 1) := by decide +kernel
theorem dX5_grow_0 : decode cX5_grow 0 = .ok (.iconst 0, 1) := by decide +kernel
theorem dX5_grow_1 : decode cX5_grow 1 = .ok (.istore 5, 2) := by decide +kernel
theorem dX5_grow_3 : decode cX5_grow 3 = .ok (.iload 5, 2) := by decide +kernel
theorem dX5_grow_5 : decode cX5_grow 5 = .ok (.aload_n 1, 1) := by decide +kernel
theorem dX5_grow_6 : decode cX5_grow 6 = .ok (.getfield 21, 3) := by decide +kernel
theorem dX5_grow_9 : decode cX5_grow 9 = .ok (.if_icmp .ge 39, 3) := by decide +kernel
theorem dX5_grow_12 : decode cX5_grow 12 = .ok (.aload_n 0, 1) := by decide +kernel
theorem dX5_grow_13 : decode cX5_grow 13 = .ok (.getfield 9, 3) := by decide +kernel
theorem dX5_grow_16 : decode cX5_grow 16 = .ok (.iload 5, 2) := by decide +kernel
theorem dX5_grow_18 : decode cX5_grow 18 = .ok (.aload_n 1, 1) := by decide +kernel
theorem dX5_grow_19 : decode cX5_grow 19 = .ok (.iload 5, 2) := by decide +kernel
theorem dX5_grow_21 : decode cX5_grow 21 = .ok (.invokevirtual 27, 3) := by decide +kernel
theorem dX5_grow_24 : decode cX5_grow 24 = .ok (.ifCond .eq 7, 3) := by decide +kernel
theorem dX5_grow_27 : decode cX5_grow 27 = .ok (.iconst (-1), 1) := by decide +kernel
theorem dX5_grow_28 : decode cX5_grow 28 = .ok (.goto 13, 3) := by decide +kernel
theorem dX5_grow_31 : decode cX5_grow 31 = .ok (.aload_n 1, 1) := by decide +kernel
theorem dX5_grow_32 : decode cX5_grow 32 = .ok (.aload_n 2, 1) := by decide +kernel
theorem dX5_grow_33 : decode cX5_grow 33 = .ok (.aload_n 3, 1) := by decide +kernel
theorem dX5_grow_34 : decode cX5_grow 34 = .ok (.iload 5, 2) := by decide +kernel
theorem dX5_grow_36 : decode cX5_grow 36 = .ok (.iload 4, 2) := by decide +kernel
theorem dX5_grow_38 : decode cX5_grow 38 = .ok (.invokestatic 31, 3) := by decide +kernel
theorem dX5_grow_41 : decode cX5_grow 41 = .ok (.iastore, 1) := by decide +kernel
theorem dX5_grow_42 : decode cX5_grow 42 = .ok (.iinc 5 1, 3) := by decide +kernel
theorem dX5_grow_45 : decode cX5_grow 45 = .ok (.goto (-42), 3) := by decide +kernel
theorem dX5_grow_48 : decode cX5_grow 48 = .ok (.iconst 0, 1) := by decide +kernel
theorem dX5_grow_49 : decode cX5_grow 49 = .ok (.istore 5, 2) := by decide +kernel
theorem dX5_grow_51 : decode cX5_grow 51 = .ok (.iload 5, 2) := by decide +kernel
theorem dX5_grow_53 : decode cX5_grow 53 = .ok (.aload_n 1, 1) := by decide +kernel
theorem dX5_grow_54 : decode cX5_grow 54 = .ok (.getfield 21, 3) := by decide +kernel
theorem dX5_grow_57 : decode cX5_grow 57 = .ok (.if_icmp .ge 15, 3) := by decide +kernel
theorem dX5_grow_60 : decode cX5_grow 60 = .ok (.aload_n 0, 1) := by decide +kernel
theorem dX5_grow_61 : decode cX5_grow 61 = .ok (.iload 5, 2) := by decide +kernel
theorem dX5_grow_63 : decode cX5_grow 63 = .ok (.invokevirtual 35, 3) := by decide +kernel
theorem dX5_grow_66 : decode cX5_grow 66 = .ok (.iinc 5 1, 3) := by decide +kernel
theorem dX5_grow_69 : decode cX5_grow 69 = .ok (.goto (-18), 3) := by decide +kernel
theorem dX5_grow_72 : decode cX5_grow 72 = .ok (.return_, 1) := by decide +kernel
theorem dX5_nearest_0 : decode cX5_nearest 0 = .ok (.iconst (-1), 1) := by decide +kernel
theorem dX5_nearest_1 : decode cX5_nearest 1 = .ok (.istore 5, 2) := by decide +kernel
theorem dX5_nearest_3 : decode cX5_nearest 3 = .ok (.iload 4, 2) := by decide +kernel
theorem dX5_nearest_5 : decode cX5_nearest 5 = .ok (.iconst 1, 1) := by decide +kernel
theorem dX5_nearest_6 : decode cX5_nearest 6 = .ok (.iadd, 1) := by decide +kernel
theorem dX5_nearest_7 : decode cX5_nearest 7 = .ok (.istore 6, 2) := by decide +kernel
theorem dX5_nearest_9 : decode cX5_nearest 9 = .ok (.iconst 0, 1) := by decide +kernel
theorem dX5_nearest_10 : decode cX5_nearest 10 = .ok (.istore 7, 2) := by decide +kernel
theorem dX5_nearest_12 : decode cX5_nearest 12 = .ok (.iload 7, 2) := by decide +kernel
theorem dX5_nearest_14 : decode cX5_nearest 14 = .ok (.aload_n 0, 1) := by decide +kernel
theorem dX5_nearest_15 : decode cX5_nearest 15 = .ok (.getfield 21, 3) := by decide +kernel
theorem dX5_nearest_18 : decode cX5_nearest 18 = .ok (.if_icmp .ge 48, 3) := by decide +kernel
theorem dX5_nearest_21 : decode cX5_nearest 21 = .ok (.aload_n 0, 1) := by decide +kernel
theorem dX5_nearest_22 : decode cX5_nearest 22 = .ok (.aload_n 1, 1) := by decide +kernel
theorem dX5_nearest_23 : decode cX5_nearest 23 = .ok (.aload_n 2, 1) := by decide +kernel
theorem dX5_nearest_24 : decode cX5_nearest 24 = .ok (.iload_n 3, 1) := by decide +kernel
theorem dX5_nearest_25 : decode cX5_nearest 25 = .ok (.iload 7, 2) := by decide +kernel
theorem dX5_nearest_27 : decode cX5_nearest 27 = .ok (.invokestatic 39, 3) := by decide +kernel
theorem dX5_nearest_30 : decode cX5_nearest 30 = .ok (.ifCond .ne 6, 3) := by decide +kernel
theorem dX5_nearest_33 : decode cX5_nearest 33 = .ok (.goto 27, 3) := by decide +kernel
theorem dX5_nearest_36 : decode cX5_nearest 36 = .ok (.aload_n 0, 1) := by decide +kernel
theorem dX5_nearest_37 : decode cX5_nearest 37 = .ok (.iload_n 3, 1) := by decide +kernel
theorem dX5_nearest_38 : decode cX5_nearest 38 = .ok (.iload 7, 2) := by decide +kernel
theorem dX5_nearest_40 : decode cX5_nearest 40 = .ok (.invokevirtual 43, 3) := by decide +kernel
theorem dX5_nearest_43 : decode cX5_nearest 43 = .ok (.istore 8, 2) := by decide +kernel
theorem dX5_nearest_45 : decode cX5_nearest 45 = .ok (.iload 8, 2) := by decide +kernel
theorem dX5_nearest_47 : decode cX5_nearest 47 = .ok (.iload 6, 2) := by decide +kernel
theorem dX5_nearest_49 : decode cX5_nearest 49 = .ok (.if_icmp .ge 11, 3) := by decide +kernel
theorem dX5_nearest_52 : decode cX5_nearest 52 = .ok (.iload 8, 2) := by decide +kernel
theorem dX5_nearest_54 : decode cX5_nearest 54 = .ok (.istore 6, 2) := by decide +kernel
theorem dX5_nearest_56 : decode cX5_nearest 56 = .ok (.iload 7, 2) := by decide +kernel
theorem dX5_nearest_58 : decode cX5_nearest 58 = .ok (.istore 5, 2) := by decide +kernel
theorem dX5_nearest_60 : decode cX5_nearest 60 = .ok (.iinc 7 1, 3) := by decide +kernel
theorem dX5_nearest_63 : decode cX5_nearest 63 = .ok (.goto (-51), 3) := by decide +kernel
theorem dX5_nearest_66 : decode cX5_nearest 66 = .ok (.iload 5, 2) := by decide +kernel
theorem dX5_nearest_68 : decode cX5_nearest 68 = .ok (.ireturn, 1) := by decide +kernel
theorem dX5_couldCopy_0 : decode cX5_couldCopy 0 = .ok (.aload_n 0, 1) := by decide +kernel
theorem dX5_couldCopy_1 : decode cX5_couldCopy 1 = .ok (.getfield 47, 3) := by decide +kernel
theorem dX5_couldCopy_4 : decode cX5_couldCopy 4 = .ok (.iload_n 3, 1) := by decide +kernel
theorem dX5_couldCopy_5 : decode cX5_couldCopy 5 = .ok (.iaload, 1) := by decide +kernel
theorem dX5_couldCopy_6 : decode cX5_couldCopy 6 = .ok (.istore 5, 2) := by decide +kernel
theorem dX5_couldCopy_8 : decode cX5_couldCopy 8 = .ok (.aload_n 0, 1) := by decide +kernel
theorem dX5_couldCopy_9 : decode cX5_couldCopy 9 = .ok (.getfield 47, 3) := by decide +kernel
theorem dX5_couldCopy_12 : decode cX5_couldCopy 12 = .ok (.iload 4, 2) := by decide +kernel
theorem dX5_couldCopy_14 : decode cX5_couldCopy 14 = .ok (.iaload, 1) := by decide +kernel
theorem dX5_couldCopy_15 : decode cX5_couldCopy 15 = .ok (.istore 6, 2) := by decide +kernel
theorem dX5_couldCopy_17 : decode cX5_couldCopy 17 = .ok (.iload 5, 2) := by decide +kernel
theorem dX5_couldCopy_19 : decode cX5_couldCopy 19 = .ok (.iload 6, 2) := by decide +kernel
theorem dX5_couldCopy_21 : decode cX5_couldCopy 21 = .ok (.if_icmp .eq 33, 3) := by decide +kernel
theorem dX5_couldCopy_24 : decode cX5_couldCopy 24 = .ok (.aload_n 0, 1) := by decide +kernel
theorem dX5_couldCopy_25 : decode cX5_couldCopy 25 = .ok (.getfield 50, 3) := by decide +kernel
theorem dX5_couldCopy_28 : decode cX5_couldCopy 28 = .ok (.iload_n 3, 1) := by decide +kernel
theorem dX5_couldCopy_29 : decode cX5_couldCopy 29 = .ok (.iaload, 1) := by decide +kernel
theorem dX5_couldCopy_30 : decode cX5_couldCopy 30 = .ok (.aload_n 0, 1) := by decide +kernel
theorem dX5_couldCopy_31 : decode cX5_couldCopy 31 = .ok (.getfield 50, 3) := by decide +kernel
theorem dX5_couldCopy_34 : decode cX5_couldCopy 34 = .ok (.iload 4, 2) := by decide +kernel
theorem dX5_couldCopy_36 : decode cX5_couldCopy 36 = .ok (.iaload, 1) := by decide +kernel
theorem dX5_couldCopy_37 : decode cX5_couldCopy 37 = .ok (.if_icmp .ne 17, 3) := by decide +kernel
theorem dX5_couldCopy_40 : decode cX5_couldCopy 40 = .ok (.aload_n 0, 1) := by decide +kernel
theorem dX5_couldCopy_41 : decode cX5_couldCopy 41 = .ok (.iload_n 3, 1) := by decide +kernel
theorem dX5_couldCopy_42 : decode cX5_couldCopy 42 = .ok (.invokevirtual 53, 3) := by decide +kernel
theorem dX5_couldCopy_45 : decode cX5_couldCopy 45 = .ok (.aload_n 0, 1) := by decide +kernel
theorem dX5_couldCopy_46 : decode cX5_couldCopy 46 = .ok (.iload 4, 2) := by decide +kernel
theorem dX5_couldCopy_48 : decode cX5_couldCopy 48 = .ok (.invokevirtual 53, 3) := by decide +kernel
theorem dX5_couldCopy_51 : decode cX5_couldCopy 51 = .ok (.if_icmp .eq 5, 3) := by decide +kernel
theorem dX5_couldCopy_54 : decode cX5_couldCopy 54 = .ok (.iconst 0, 1) := by decide +kernel
theorem dX5_couldCopy_55 : decode cX5_couldCopy 55 = .ok (.ireturn, 1) := by decide +kernel
theorem dX5_couldCopy_56 : decode cX5_couldCopy 56 = .ok (.aload_n 0, 1) := by decide +kernel
theorem dX5_couldCopy_57 : decode cX5_couldCopy 57 = .ok (.getfield 56, 3) := by decide +kernel
theorem dX5_couldCopy_60 : decode cX5_couldCopy 60 = .ok (.iload 6, 2) := by decide +kernel
theorem dX5_couldCopy_62 : decode cX5_couldCopy 62 = .ok (.iaload, 1) := by decide +kernel
theorem dX5_couldCopy_63 : decode cX5_couldCopy 63 = .ok (.istore 7, 2) := by decide +kernel
theorem dX5_couldCopy_65 : decode cX5_couldCopy 65 = .ok (.aload_n 0, 1) := by decide +kernel
theorem dX5_couldCopy_66 : decode cX5_couldCopy 66 = .ok (.getfield 56, 3) := by decide +kernel
theorem dX5_couldCopy_69 : decode cX5_couldCopy 69 = .ok (.iload 5, 2) := by decide +kernel
theorem dX5_couldCopy_71 : decode cX5_couldCopy 71 = .ok (.iaload, 1) := by decide +kernel
theorem dX5_couldCopy_72 : decode cX5_couldCopy 72 = .ok (.istore 8, 2) := by decide +kernel
theorem dX5_couldCopy_74 : decode cX5_couldCopy 74 = .ok (.aload_n 1, 1) := by decide +kernel
theorem dX5_couldCopy_75 : decode cX5_couldCopy 75 = .ok (.iload 7, 2) := by decide +kernel
theorem dX5_couldCopy_77 : decode cX5_couldCopy 77 = .ok (.iload 8, 2) := by decide +kernel
theorem dX5_couldCopy_79 : decode cX5_couldCopy 79 = .ok (.invokevirtual 59, 3) := by decide +kernel
theorem dX5_couldCopy_82 : decode cX5_couldCopy 82 = .ok (.ifCond .eq 29, 3) := by decide +kernel
theorem dX5_couldCopy_85 : decode cX5_couldCopy 85 = .ok (.aload_n 2, 1) := by decide +kernel
theorem dX5_couldCopy_86 : decode cX5_couldCopy 86 = .ok (.getfield 65, 3) := by decide +kernel
theorem dX5_couldCopy_89 : decode cX5_couldCopy 89 = .ok (.iload 5, 2) := by decide +kernel
theorem dX5_couldCopy_91 : decode cX5_couldCopy 91 = .ok (.iaload, 1) := by decide +kernel
theorem dX5_couldCopy_92 : decode cX5_couldCopy 92 = .ok (.aload_n 2, 1) := by decide +kernel
theorem dX5_couldCopy_93 : decode cX5_couldCopy 93 = .ok (.getfield 70, 3) := by decide +kernel
theorem dX5_couldCopy_96 : decode cX5_couldCopy 96 = .ok (.iload 6, 2) := by decide +kernel
theorem dX5_couldCopy_98 : decode cX5_couldCopy 98 = .ok (.iaload, 1) := by decide +kernel
theorem dX5_couldCopy_99 : decode cX5_couldCopy 99 = .ok (.aload_n 1, 1) := by decide +kernel
theorem dX5_couldCopy_100 : decode cX5_couldCopy 100 = .ok (.iload 7, 2) := by decide +kernel
theorem dX5_couldCopy_102 : decode cX5_couldCopy 102 = .ok (.iload 8, 2) := by decide +kernel
theorem dX5_couldCopy_104 : decode cX5_couldCopy 104 = .ok (.invokevirtual 73, 3) := by decide +kernel
theorem dX5_couldCopy_107 : decode cX5_couldCopy 107 = .ok (.iadd, 1) := by decide +kernel
theorem dX5_couldCopy_108 : decode cX5_couldCopy 108 = .ok (.if_icmp .ge 5, 3) := by decide +kernel
theorem dX5_couldCopy_111 : decode cX5_couldCopy 111 = .ok (.iconst 0, 1) := by decide +kernel
theorem dX5_couldCopy_112 : decode cX5_couldCopy 112 = .ok (.ireturn, 1) := by decide +kernel
theorem dX5_couldCopy_113 : decode cX5_couldCopy 113 = .ok (.aload_n 2, 1) := by decide +kernel
theorem dX5_couldCopy_114 : decode cX5_couldCopy 114 = .ok (.getfield 70, 3) := by decide +kernel
theorem dX5_couldCopy_117 : decode cX5_couldCopy 117 = .ok (.iload 6, 2) := by decide +kernel
theorem dX5_couldCopy_119 : decode cX5_couldCopy 119 = .ok (.iaload, 1) := by decide +kernel
theorem dX5_couldCopy_120 : decode cX5_couldCopy 120 = .ok (.aload_n 2, 1) := by decide +kernel
theorem dX5_couldCopy_121 : decode cX5_couldCopy 121 = .ok (.getfield 70, 3) := by decide +kernel
theorem dX5_couldCopy_124 : decode cX5_couldCopy 124 = .ok (.iload 5, 2) := by decide +kernel
theorem dX5_couldCopy_126 : decode cX5_couldCopy 126 = .ok (.iaload, 1) := by decide +kernel
theorem dX5_couldCopy_127 : decode cX5_couldCopy 127 = .ok (.if_icmp .lt 27, 3) := by decide +kernel
theorem dX5_couldCopy_130 : decode cX5_couldCopy 130 = .ok (.aload_n 2, 1) := by decide +kernel
theorem dX5_couldCopy_131 : decode cX5_couldCopy 131 = .ok (.getfield 70, 3) := by decide +kernel
theorem dX5_couldCopy_134 : decode cX5_couldCopy 134 = .ok (.iload 6, 2) := by decide +kernel
theorem dX5_couldCopy_136 : decode cX5_couldCopy 136 = .ok (.iaload, 1) := by decide +kernel
theorem dX5_couldCopy_137 : decode cX5_couldCopy 137 = .ok (.aload_n 2, 1) := by decide +kernel
theorem dX5_couldCopy_138 : decode cX5_couldCopy 138 = .ok (.getfield 70, 3) := by decide +kernel
theorem dX5_couldCopy_141 : decode cX5_couldCopy 141 = .ok (.iload 5, 2) := by decide +kernel
theorem dX5_couldCopy_143 : decode cX5_couldCopy 143 = .ok (.iaload, 1) := by decide +kernel
theorem dX5_couldCopy_144 : decode cX5_couldCopy 144 = .ok (.if_icmp .ne 14, 3) := by decide +kernel
theorem dX5_couldCopy_147 : decode cX5_couldCopy 147 = .ok (.iload 6, 2) := by decide +kernel
theorem dX5_couldCopy_149 : decode cX5_couldCopy 149 = .ok (.iload 5, 2) := by decide +kernel
theorem dX5_couldCopy_151 : decode cX5_couldCopy 151 = .ok (.if_icmp .ge 7, 3) := by decide +kernel
theorem dX5_couldCopy_154 : decode cX5_couldCopy 154 = .ok (.iconst 1, 1) := by decide +kernel
theorem dX5_couldCopy_155 : decode cX5_couldCopy 155 = .ok (.goto 4, 3) := by decide +kernel
theorem dX5_couldCopy_158 : decode cX5_couldCopy 158 = .ok (.iconst 0, 1) := by decide +kernel
theorem dX5_couldCopy_159 : decode cX5_couldCopy 159 = .ok (.ireturn, 1) := by decide +kernel
theorem dX5_climb_0 : decode cX5_climb 0 = .ok (.iload_n 1, 1) := by decide +kernel
theorem dX5_climb_1 : decode cX5_climb 1 = .ok (.istore_n 2, 1) := by decide +kernel
theorem dX5_climb_2 : decode cX5_climb 2 = .ok (.iconst 0, 1) := by decide +kernel
theorem dX5_climb_3 : decode cX5_climb 3 = .ok (.istore_n 3, 1) := by decide +kernel
theorem dX5_climb_4 : decode cX5_climb 4 = .ok (.iload_n 3, 1) := by decide +kernel
theorem dX5_climb_5 : decode cX5_climb 5 = .ok (.bipush 12, 2) := by decide +kernel
theorem dX5_climb_7 : decode cX5_climb 7 = .ok (.if_icmp .ge 26, 3) := by decide +kernel
theorem dX5_climb_10 : decode cX5_climb 10 = .ok (.aload_n 0, 1) := by decide +kernel
theorem dX5_climb_11 : decode cX5_climb 11 = .ok (.getfield 9, 3) := by decide +kernel
theorem dX5_climb_14 : decode cX5_climb 14 = .ok (.iload_n 2, 1) := by decide +kernel
theorem dX5_climb_15 : decode cX5_climb 15 = .ok (.iaload, 1) := by decide +kernel
theorem dX5_climb_16 : decode cX5_climb 16 = .ok (.iconst (-1), 1) := by decide +kernel
theorem dX5_climb_17 : decode cX5_climb 17 = .ok (.if_icmp .eq 16, 3) := by decide +kernel
theorem dX5_climb_20 : decode cX5_climb 20 = .ok (.aload_n 0, 1) := by decide +kernel
theorem dX5_climb_21 : decode cX5_climb 21 = .ok (.getfield 9, 3) := by decide +kernel
theorem dX5_climb_24 : decode cX5_climb 24 = .ok (.iload_n 2, 1) := by decide +kernel
theorem dX5_climb_25 : decode cX5_climb 25 = .ok (.iaload, 1) := by decide +kernel
theorem dX5_climb_26 : decode cX5_climb 26 = .ok (.istore_n 2, 1) := by decide +kernel
theorem dX5_climb_27 : decode cX5_climb 27 = .ok (.iinc 3 1, 3) := by decide +kernel
theorem dX5_climb_30 : decode cX5_climb 30 = .ok (.goto (-26), 3) := by decide +kernel
theorem dX5_climb_33 : decode cX5_climb 33 = .ok (.aload_n 0, 1) := by decide +kernel
theorem dX5_climb_34 : decode cX5_climb 34 = .ok (.getfield 15, 3) := by decide +kernel
theorem dX5_climb_37 : decode cX5_climb 37 = .ok (.iload_n 1, 1) := by decide +kernel
theorem dX5_climb_38 : decode cX5_climb 38 = .ok (.iload_n 2, 1) := by decide +kernel
theorem dX5_climb_39 : decode cX5_climb 39 = .ok (.iastore, 1) := by decide +kernel
theorem dX5_climb_40 : decode cX5_climb 40 = .ok (.aload_n 0, 1) := by decide +kernel
theorem dX5_climb_41 : decode cX5_climb 41 = .ok (.getfield 18, 3) := by decide +kernel
theorem dX5_climb_44 : decode cX5_climb 44 = .ok (.iload_n 1, 1) := by decide +kernel
theorem dX5_climb_45 : decode cX5_climb 45 = .ok (.iload_n 3, 1) := by decide +kernel
theorem dX5_climb_46 : decode cX5_climb 46 = .ok (.iastore, 1) := by decide +kernel
theorem dX5_climb_47 : decode cX5_climb 47 = .ok (.return_, 1) := by decide +kernel
theorem dX6_init_0 : decode cX6_init 0 = .ok (.aload_n 0, 1) := by decide +kernel
theorem dX6_init_1 : decode cX6_init 1 = .ok (.invokespecial 3, 3) := by decide +kernel
theorem dX6_init_4 : decode cX6_init 4 = .ok (.aload_n 0, 1) := by decide +kernel
theorem dX6_init_5 : decode cX6_init 5 = .ok (.bipush 24, 2) := by decide +kernel
theorem dX6_init_7 : decode cX6_init 7 = .ok (.newarray .int, 2) := by decide +kernel
theorem dX6_init_9 : decode cX6_init 9 = .ok (.putfield 9, 3) := by decide +kernel
theorem dX6_init_12 : decode cX6_init 12 = .ok (.return_, 1) := by decide +kernel
theorem dX6_put_0 : decode cX6_put 0 = .ok (.aload_n 0, 1) := by decide +kernel
theorem dX6_put_1 : decode cX6_put 1 = .ok (.getfield 9, 3) := by decide +kernel
theorem dX6_put_4 : decode cX6_put 4 = .ok (.iload_n 1, 1) := by decide +kernel
theorem dX6_put_5 : decode cX6_put 5 = .ok (.iconst 4, 1) := by decide +kernel
theorem dX6_put_6 : decode cX6_put 6 = .ok (.imul, 1) := by decide +kernel
theorem dX6_put_7 : decode cX6_put 7 = .ok (.iload_n 2, 1) := by decide +kernel
theorem dX6_put_8 : decode cX6_put 8 = .ok (.iadd, 1) := by decide +kernel
theorem dX6_put_9 : decode cX6_put 9 = .ok (.iaload, 1) := by decide +kernel
theorem dX6_put_10 : decode cX6_put 10 = .ok (.istore 4, 2) := by decide +kernel
theorem dX6_put_12 : decode cX6_put 12 = .ok (.aload_n 0, 1) := by decide +kernel
theorem dX6_put_13 : decode cX6_put 13 = .ok (.getfield 9, 3) := by decide +kernel
theorem dX6_put_16 : decode cX6_put 16 = .ok (.iload_n 1, 1) := by decide +kernel
theorem dX6_put_17 : decode cX6_put 17 = .ok (.iconst 4, 1) := by decide +kernel
theorem dX6_put_18 : decode cX6_put 18 = .ok (.imul, 1) := by decide +kernel
theorem dX6_put_19 : decode cX6_put 19 = .ok (.iload_n 2, 1) := by decide +kernel
theorem dX6_put_20 : decode cX6_put 20 = .ok (.iadd, 1) := by decide +kernel
theorem dX6_put_21 : decode cX6_put 21 = .ok (.iload_n 3, 1) := by decide +kernel
theorem dX6_put_22 : decode cX6_put 22 = .ok (.iastore, 1) := by decide +kernel
theorem dX6_put_23 : decode cX6_put 23 = .ok (.iload 4, 2) := by decide +kernel
theorem dX6_put_25 : decode cX6_put 25 = .ok (.ireturn, 1) := by decide +kernel
theorem dX6_safest_0 : decode cX6_safest 0 = .ok (.iconst 0, 1) := by decide +kernel
theorem dX6_safest_1 : decode cX6_safest 1 = .ok (.istore_n 3, 1) := by decide +kernel
theorem dX6_safest_2 : decode cX6_safest 2 = .ok (.iconst 1, 1) := by decide +kernel
theorem dX6_safest_3 : decode cX6_safest 3 = .ok (.istore 4, 2) := by decide +kernel
theorem dX6_safest_5 : decode cX6_safest 5 = .ok (.iload 4, 2) := by decide +kernel
theorem dX6_safest_7 : decode cX6_safest 7 = .ok (.iload_n 1, 1) := by decide +kernel
theorem dX6_safest_8 : decode cX6_safest 8 = .ok (.if_icmp .ge 28, 3) := by decide +kernel
theorem dX6_safest_11 : decode cX6_safest 11 = .ok (.aload_n 0, 1) := by decide +kernel
theorem dX6_safest_12 : decode cX6_safest 12 = .ok (.iload 4, 2) := by decide +kernel
theorem dX6_safest_14 : decode cX6_safest 14 = .ok (.iload_n 2, 1) := by decide +kernel
theorem dX6_safest_15 : decode cX6_safest 15 = .ok (.invokevirtual 15, 3) := by decide +kernel
theorem dX6_safest_18 : decode cX6_safest 18 = .ok (.aload_n 0, 1) := by decide +kernel
theorem dX6_safest_19 : decode cX6_safest 19 = .ok (.iload_n 3, 1) := by decide +kernel
theorem dX6_safest_20 : decode cX6_safest 20 = .ok (.iload_n 2, 1) := by decide +kernel
theorem dX6_safest_21 : decode cX6_safest 21 = .ok (.invokevirtual 15, 3) := by decide +kernel
theorem dX6_safest_24 : decode cX6_safest 24 = .ok (.if_icmp .le 6, 3) := by decide +kernel
theorem dX6_safest_27 : decode cX6_safest 27 = .ok (.iload 4, 2) := by decide +kernel
theorem dX6_safest_29 : decode cX6_safest 29 = .ok (.istore_n 3, 1) := by decide +kernel
theorem dX6_safest_30 : decode cX6_safest 30 = .ok (.iinc 4 1, 3) := by decide +kernel
theorem dX6_safest_33 : decode cX6_safest 33 = .ok (.goto (-28), 3) := by decide +kernel
theorem dX6_safest_36 : decode cX6_safest 36 = .ok (.iload_n 3, 1) := by decide +kernel
theorem dX6_safest_37 : decode cX6_safest 37 = .ok (.ireturn, 1) := by decide +kernel
theorem dX6_leastOf_0 : decode cX6_leastOf 0 = .ok (.sipush 1000, 3) := by decide +kernel
theorem dX6_leastOf_3 : decode cX6_leastOf 3 = .ok (.istore_n 3, 1) := by decide +kernel
theorem dX6_leastOf_4 : decode cX6_leastOf 4 = .ok (.iconst 0, 1) := by decide +kernel
theorem dX6_leastOf_5 : decode cX6_leastOf 5 = .ok (.istore 4, 2) := by decide +kernel
theorem dX6_leastOf_7 : decode cX6_leastOf 7 = .ok (.iload 4, 2) := by decide +kernel
theorem dX6_leastOf_9 : decode cX6_leastOf 9 = .ok (.iconst 4, 1) := by decide +kernel
theorem dX6_leastOf_10 : decode cX6_leastOf 10 = .ok (.if_icmp .ge 34, 3) := by decide +kernel
theorem dX6_leastOf_13 : decode cX6_leastOf 13 = .ok (.iload_n 2, 1) := by decide +kernel
theorem dX6_leastOf_14 : decode cX6_leastOf 14 = .ok (.iload 4, 2) := by decide +kernel
theorem dX6_leastOf_16 : decode cX6_leastOf 16 = .ok (.invokestatic 19, 3) := by decide +kernel
theorem dX6_leastOf_19 : decode cX6_leastOf 19 = .ok (.ifCond .eq 19, 3) := by decide +kernel
theorem dX6_leastOf_22 : decode cX6_leastOf 22 = .ok (.iload_n 3, 1) := by decide +kernel
theorem dX6_leastOf_23 : decode cX6_leastOf 23 = .ok (.aload_n 0, 1) := by decide +kernel
theorem dX6_leastOf_24 : decode cX6_leastOf 24 = .ok (.getfield 9, 3) := by decide +kernel
theorem dX6_leastOf_27 : decode cX6_leastOf 27 = .ok (.iload_n 1, 1) := by decide +kernel
theorem dX6_leastOf_28 : decode cX6_leastOf 28 = .ok (.iconst 4, 1) := by decide +kernel
theorem dX6_leastOf_29 : decode cX6_leastOf 29 = .ok (.imul, 1) := by decide +kernel
theorem dX6_leastOf_30 : decode cX6_leastOf 30 = .ok (.iload 4, 2) := by decide +kernel
theorem dX6_leastOf_32 : decode cX6_leastOf 32 = .ok (.iadd, 1) := by decide +kernel
theorem dX6_leastOf_33 : decode cX6_leastOf 33 = .ok (.iaload, 1) := by decide +kernel
theorem dX6_leastOf_34 : decode cX6_leastOf 34 = .ok (.invokestatic 23, 3) := by decide +kernel
theorem dX6_leastOf_37 : decode cX6_leastOf 37 = .ok (.istore_n 3, 1) := by decide +kernel
theorem dX6_leastOf_38 : decode cX6_leastOf 38 = .ok (.iinc 4 1, 3) := by decide +kernel
theorem dX6_leastOf_41 : decode cX6_leastOf 41 = .ok (.goto (-34), 3) := by decide +kernel
theorem dX6_leastOf_44 : decode cX6_leastOf 44 = .ok (.iload_n 3, 1) := by decide +kernel
theorem dX6_leastOf_45 : decode cX6_leastOf 45 = .ok (.ireturn, 1) := by decide +kernel
theorem dX6_calmest_0 : decode cX6_calmest 0 = .ok (.iconst 0, 1) := by decide +kernel
theorem dX6_calmest_1 : decode cX6_calmest 1 = .ok (.istore_n 3, 1) := by decide +kernel
theorem dX6_calmest_2 : decode cX6_calmest 2 = .ok (.iconst 1, 1) := by decide +kernel
theorem dX6_calmest_3 : decode cX6_calmest 3 = .ok (.istore 4, 2) := by decide +kernel
theorem dX6_calmest_5 : decode cX6_calmest 5 = .ok (.iload 4, 2) := by decide +kernel
theorem dX6_calmest_7 : decode cX6_calmest 7 = .ok (.iload_n 1, 1) := by decide +kernel
theorem dX6_calmest_8 : decode cX6_calmest 8 = .ok (.if_icmp .ge 30, 3) := by decide +kernel
theorem dX6_calmest_11 : decode cX6_calmest 11 = .ok (.aload_n 0, 1) := by decide +kernel
theorem dX6_calmest_12 : decode cX6_calmest 12 = .ok (.iload 4, 2) := by decide +kernel
theorem dX6_calmest_14 : decode cX6_calmest 14 = .ok (.iload_n 1, 1) := by decide +kernel
theorem dX6_calmest_15 : decode cX6_calmest 15 = .ok (.iload_n 2, 1) := by decide +kernel
theorem dX6_calmest_16 : decode cX6_calmest 16 = .ok (.invokevirtual 28, 3) := by decide +kernel
theorem dX6_calmest_19 : decode cX6_calmest 19 = .ok (.aload_n 0, 1) := by decide +kernel
theorem dX6_calmest_20 : decode cX6_calmest 20 = .ok (.iload_n 3, 1) := by decide +kernel
theorem dX6_calmest_21 : decode cX6_calmest 21 = .ok (.iload_n 1, 1) := by decide +kernel
theorem dX6_calmest_22 : decode cX6_calmest 22 = .ok (.iload_n 2, 1) := by decide +kernel
theorem dX6_calmest_23 : decode cX6_calmest 23 = .ok (.invokevirtual 28, 3) := by decide +kernel
theorem dX6_calmest_26 : decode cX6_calmest 26 = .ok (.if_icmp .ge 6, 3) := by decide +kernel
theorem dX6_calmest_29 : decode cX6_calmest 29 = .ok (.iload 4, 2) := by decide +kernel
theorem dX6_calmest_31 : decode cX6_calmest 31 = .ok (.istore_n 3, 1) := by decide +kernel
theorem dX6_calmest_32 : decode cX6_calmest 32 = .ok (.iinc 4 1, 3) := by decide +kernel
theorem dX6_calmest_35 : decode cX6_calmest 35 = .ok (.goto (-30), 3) := by decide +kernel
theorem dX6_calmest_38 : decode cX6_calmest 38 = .ok (.iload_n 3, 1) := by decide +kernel
theorem dX6_calmest_39 : decode cX6_calmest 39 = .ok (.ireturn, 1) := by decide +kernel
theorem dX6_regretOf_0 : decode cX6_regretOf 0 = .ok (.iconst 0, 1) := by decide +kernel
theorem dX6_regretOf_1 : decode cX6_regretOf 1 = .ok (.istore 4, 2) := by decide +kernel
theorem dX6_regretOf_3 : decode cX6_regretOf 3 = .ok (.iconst 0, 1) := by decide +kernel
theorem dX6_regretOf_4 : decode cX6_regretOf 4 = .ok (.istore 5, 2) := by decide +kernel
theorem dX6_regretOf_6 : decode cX6_regretOf 6 = .ok (.iload 5, 2) := by decide +kernel
theorem dX6_regretOf_8 : decode cX6_regretOf 8 = .ok (.iconst 4, 1) := by decide +kernel
theorem dX6_regretOf_9 : decode cX6_regretOf 9 = .ok (.if_icmp .ge 48, 3) := by decide +kernel
theorem dX6_regretOf_12 : decode cX6_regretOf 12 = .ok (.iload_n 3, 1) := by decide +kernel
theorem dX6_regretOf_13 : decode cX6_regretOf 13 = .ok (.iload 5, 2) := by decide +kernel
theorem dX6_regretOf_15 : decode cX6_regretOf 15 = .ok (.invokestatic 19, 3) := by decide +kernel
theorem dX6_regretOf_18 : decode cX6_regretOf 18 = .ok (.ifCond .eq 33, 3) := by decide +kernel
theorem dX6_regretOf_21 : decode cX6_regretOf 21 = .ok (.aload_n 0, 1) := by decide +kernel
theorem dX6_regretOf_22 : decode cX6_regretOf 22 = .ok (.iload 5, 2) := by decide +kernel
theorem dX6_regretOf_24 : decode cX6_regretOf 24 = .ok (.iload_n 2, 1) := by decide +kernel
theorem dX6_regretOf_25 : decode cX6_regretOf 25 = .ok (.invokevirtual 32, 3) := by decide +kernel
theorem dX6_regretOf_28 : decode cX6_regretOf 28 = .ok (.aload_n 0, 1) := by decide +kernel
theorem dX6_regretOf_29 : decode cX6_regretOf 29 = .ok (.getfield 9, 3) := by decide +kernel
theorem dX6_regretOf_32 : decode cX6_regretOf 32 = .ok (.iload_n 1, 1) := by decide +kernel
theorem dX6_regretOf_33 : decode cX6_regretOf 33 = .ok (.iconst 4, 1) := by decide +kernel
theorem dX6_regretOf_34 : decode cX6_regretOf 34 = .ok (.imul, 1) := by decide +kernel
theorem dX6_regretOf_35 : decode cX6_regretOf 35 = .ok (.iload 5, 2) := by decide +kernel
theorem dX6_regretOf_37 : decode cX6_regretOf 37 = .ok (.iadd, 1) := by decide +kernel
theorem dX6_regretOf_38 : decode cX6_regretOf 38 = .ok (.iaload, 1) := by decide +kernel
theorem dX6_regretOf_39 : decode cX6_regretOf 39 = .ok (.isub, 1) := by decide +kernel
theorem dX6_regretOf_40 : decode cX6_regretOf 40 = .ok (.istore 6, 2) := by decide +kernel
theorem dX6_regretOf_42 : decode cX6_regretOf 42 = .ok (.iload 4, 2) := by decide +kernel
theorem dX6_regretOf_44 : decode cX6_regretOf 44 = .ok (.iload 6, 2) := by decide +kernel
theorem dX6_regretOf_46 : decode cX6_regretOf 46 = .ok (.invokestatic 35, 3) := by decide +kernel
theorem dX6_regretOf_49 : decode cX6_regretOf 49 = .ok (.istore 4, 2) := by decide +kernel
theorem dX6_regretOf_51 : decode cX6_regretOf 51 = .ok (.iinc 5 1, 3) := by decide +kernel
theorem dX6_regretOf_54 : decode cX6_regretOf 54 = .ok (.goto (-48), 3) := by decide +kernel
theorem dX6_regretOf_57 : decode cX6_regretOf 57 = .ok (.iload 4, 2) := by decide +kernel
theorem dX6_regretOf_59 : decode cX6_regretOf 59 = .ok (.ireturn, 1) := by decide +kernel
theorem dX6_bestOf_0 : decode cX6_bestOf 0 = .ok (.sipush (-1000), 3) := by decide +kernel
theorem dX6_bestOf_3 : decode cX6_bestOf 3 = .ok (.istore_n 3, 1) := by decide +kernel
theorem dX6_bestOf_4 : decode cX6_bestOf 4 = .ok (.iconst 0, 1) := by decide +kernel
theorem dX6_bestOf_5 : decode cX6_bestOf 5 = .ok (.istore 4, 2) := by decide +kernel
theorem dX6_bestOf_7 : decode cX6_bestOf 7 = .ok (.iload 4, 2) := by decide +kernel
theorem dX6_bestOf_9 : decode cX6_bestOf 9 = .ok (.iload_n 2, 1) := by decide +kernel
theorem dX6_bestOf_10 : decode cX6_bestOf 10 = .ok (.if_icmp .ge 25, 3) := by decide +kernel
theorem dX6_bestOf_13 : decode cX6_bestOf 13 = .ok (.iload_n 3, 1) := by decide +kernel
theorem dX6_bestOf_14 : decode cX6_bestOf 14 = .ok (.aload_n 0, 1) := by decide +kernel
theorem dX6_bestOf_15 : decode cX6_bestOf 15 = .ok (.getfield 9, 3) := by decide +kernel
theorem dX6_bestOf_18 : decode cX6_bestOf 18 = .ok (.iload 4, 2) := by decide +kernel
theorem dX6_bestOf_20 : decode cX6_bestOf 20 = .ok (.iconst 4, 1) := by decide +kernel
theorem dX6_bestOf_21 : decode cX6_bestOf 21 = .ok (.imul, 1) := by decide +kernel
theorem dX6_bestOf_22 : decode cX6_bestOf 22 = .ok (.iload_n 1, 1) := by decide +kernel
theorem dX6_bestOf_23 : decode cX6_bestOf 23 = .ok (.iadd, 1) := by decide +kernel
theorem dX6_bestOf_24 : decode cX6_bestOf 24 = .ok (.iaload, 1) := by decide +kernel
theorem dX6_bestOf_25 : decode cX6_bestOf 25 = .ok (.invokestatic 35, 3) := by decide +kernel
theorem dX6_bestOf_28 : decode cX6_bestOf 28 = .ok (.istore_n 3, 1) := by decide +kernel
theorem dX6_bestOf_29 : decode cX6_bestOf 29 = .ok (.iinc 4 1, 3) := by decide +kernel
theorem dX6_bestOf_32 : decode cX6_bestOf 32 = .ok (.goto (-25), 3) := by decide +kernel
theorem dX6_bestOf_35 : decode cX6_bestOf 35 = .ok (.iload_n 3, 1) := by decide +kernel
theorem dX6_bestOf_36 : decode cX6_bestOf 36 = .ok (.ireturn, 1) := by decide +kernel
theorem dX7_init_0 : decode cX7_init 0 = .ok (.aload_n 0, 1) := by decide +kernel
theorem dX7_init_1 : decode cX7_init 1 = .ok (.invokespecial 1, 3) := by decide +kernel
theorem dX7_init_4 : decode cX7_init 4 = .ok (.aload_n 0, 1) := by decide +kernel
theorem dX7_init_5 : decode cX7_init 5 = .ok (.new 7, 3) := by decide +kernel
theorem dX7_init_8 : decode cX7_init 8 = .ok (.dup, 1) := by decide +kernel
theorem dX7_init_9 : decode cX7_init 9 = .ok (.invokespecial 9, 3) := by decide +kernel
theorem dX7_init_12 : decode cX7_init 12 = .ok (.putfield 10, 3) := by decide +kernel
theorem dX7_init_15 : decode cX7_init 15 = .ok (.aload_n 0, 1) := by decide +kernel
theorem dX7_init_16 : decode cX7_init 16 = .ok (.new 16, 3) := by decide +kernel
theorem dX7_init_19 : decode cX7_init 19 = .ok (.dup, 1) := by decide +kernel
theorem dX7_init_20 : decode cX7_init 20 = .ok (.invokespecial 18, 3) := by decide +kernel
theorem dX7_init_23 : decode cX7_init 23 = .ok (.putfield 19, 3) := by decide +kernel
theorem dX7_init_26 : decode cX7_init 26 = .ok (.aload_n 0, 1) := by decide +kernel
theorem dX7_init_27 : decode cX7_init 27 = .ok (.iconst 2, 1) := by decide +kernel
theorem dX7_init_28 : decode cX7_init 28 = .ok (.anewarray 16, 3) := by decide +kernel
theorem dX7_init_31 : decode cX7_init 31 = .ok (.dup, 1) := by decide +kernel
theorem dX7_init_32 : decode cX7_init 32 = .ok (.iconst 0, 1) := by decide +kernel
theorem dX7_init_33 : decode cX7_init 33 = .ok (.new 16, 3) := by decide +kernel
theorem dX7_init_36 : decode cX7_init 36 = .ok (.dup, 1) := by decide +kernel
theorem dX7_init_37 : decode cX7_init 37 = .ok (.invokespecial 18, 3) := by decide +kernel
theorem dX7_init_40 : decode cX7_init 40 = .ok (.aastore, 1) := by decide +kernel
theorem dX7_init_41 : decode cX7_init 41 = .ok (.dup, 1) := by decide +kernel
theorem dX7_init_42 : decode cX7_init 42 = .ok (.iconst 1, 1) := by decide +kernel
theorem dX7_init_43 : decode cX7_init 43 = .ok (.new 16, 3) := by decide +kernel
theorem dX7_init_46 : decode cX7_init 46 = .ok (.dup, 1) := by decide +kernel
theorem dX7_init_47 : decode cX7_init 47 = .ok (.invokespecial 18, 3) := by decide +kernel
theorem dX7_init_50 : decode cX7_init 50 = .ok (.aastore, 1) := by decide +kernel
theorem dX7_init_51 : decode cX7_init 51 = .ok (.putfield 23, 3) := by decide +kernel
theorem dX7_init_54 : decode cX7_init 54 = .ok (.aload_n 0, 1) := by decide +kernel
theorem dX7_init_55 : decode cX7_init 55 = .ok (.new 27, 3) := by decide +kernel
theorem dX7_init_58 : decode cX7_init 58 = .ok (.dup, 1) := by decide +kernel
theorem dX7_init_59 : decode cX7_init 59 = .ok (.invokespecial 29, 3) := by decide +kernel
theorem dX7_init_62 : decode cX7_init 62 = .ok (.putfield 30, 3) := by decide +kernel
theorem dX7_init_65 : decode cX7_init 65 = .ok (.aload_n 0, 1) := by decide +kernel
theorem dX7_init_66 : decode cX7_init 66 = .ok (.new 34, 3) := by decide +kernel
theorem dX7_init_69 : decode cX7_init 69 = .ok (.dup, 1) := by decide +kernel
theorem dX7_init_70 : decode cX7_init 70 = .ok (.invokespecial 36, 3) := by decide +kernel
theorem dX7_init_73 : decode cX7_init 73 = .ok (.putfield 37, 3) := by decide +kernel
theorem dX7_init_76 : decode cX7_init 76 = .ok (.aload_n 0, 1) := by decide +kernel
theorem dX7_init_77 : decode cX7_init 77 = .ok (.new 41, 3) := by decide +kernel
theorem dX7_init_80 : decode cX7_init 80 = .ok (.dup, 1) := by decide +kernel
theorem dX7_init_81 : decode cX7_init 81 = .ok (.invokespecial 43, 3) := by decide +kernel
theorem dX7_init_84 : decode cX7_init 84 = .ok (.putfield 44, 3) := by decide +kernel
theorem dX7_init_87 : decode cX7_init 87 = .ok (.aload_n 0, 1) := by decide +kernel
theorem dX7_init_88 : decode cX7_init 88 = .ok (.new 48, 3) := by decide +kernel
theorem dX7_init_91 : decode cX7_init 91 = .ok (.dup, 1) := by decide +kernel
theorem dX7_init_92 : decode cX7_init 92 = .ok (.invokespecial 50, 3) := by decide +kernel
theorem dX7_init_95 : decode cX7_init 95 = .ok (.putfield 51, 3) := by decide +kernel
theorem dX7_init_98 : decode cX7_init 98 = .ok (.aload_n 0, 1) := by decide +kernel
theorem dX7_init_99 : decode cX7_init 99 = .ok (.new 55, 3) := by decide +kernel
theorem dX7_init_102 : decode cX7_init 102 = .ok (.dup, 1) := by decide +kernel
theorem dX7_init_103 : decode cX7_init 103 = .ok (.invokespecial 57, 3) := by decide +kernel
theorem dX7_init_106 : decode cX7_init 106 = .ok (.putfield 58, 3) := by decide +kernel
theorem dX7_init_109 : decode cX7_init 109 = .ok (.aload_n 0, 1) := by decide +kernel
theorem dX7_init_110 : decode cX7_init 110 = .ok (.new 55, 3) := by decide +kernel
theorem dX7_init_113 : decode cX7_init 113 = .ok (.dup, 1) := by decide +kernel
theorem dX7_init_114 : decode cX7_init 114 = .ok (.invokespecial 57, 3) := by decide +kernel
theorem dX7_init_117 : decode cX7_init 117 = .ok (.putfield 62, 3) := by decide +kernel
theorem dX7_init_120 : decode cX7_init 120 = .ok (.aload_n 0, 1) := by decide +kernel
theorem dX7_init_121 : decode cX7_init 121 = .ok (.iconst 0, 1) := by decide +kernel
theorem dX7_init_122 : decode cX7_init 122 = .ok (.putfield 65, 3) := by decide +kernel
theorem dX7_init_125 : decode cX7_init 125 = .ok (.aload_n 0, 1) := by decide +kernel
theorem dX7_init_126 : decode cX7_init 126 = .ok (.bipush 12, 2) := by decide +kernel
theorem dX7_init_128 : decode cX7_init 128 = .ok (.putfield 69, 3) := by decide +kernel
theorem dX7_init_131 : decode cX7_init 131 = .ok (.aload_n 0, 1) := by decide +kernel
theorem dX7_init_132 : decode cX7_init 132 = .ok (.iconst 0, 1) := by decide +kernel
theorem dX7_init_133 : decode cX7_init 133 = .ok (.putfield 72, 3) := by decide +kernel
theorem dX7_init_136 : decode cX7_init 136 = .ok (.aload_n 0, 1) := by decide +kernel
theorem dX7_init_137 : decode cX7_init 137 = .ok (.iconst 0, 1) := by decide +kernel
theorem dX7_init_138 : decode cX7_init 138 = .ok (.putfield 75, 3) := by decide +kernel
theorem dX7_init_141 : decode cX7_init 141 = .ok (.return_, 1) := by decide +kernel
theorem dX7_post_0 : decode cX7_post 0 = .ok (.iload_n 1, 1) := by decide +kernel
theorem dX7_post_1 : decode cX7_post 1 = .ok (.invokestatic 79, 3) := by decide +kernel
theorem dX7_post_4 : decode cX7_post 4 = .ok (.ifCond .eq 15, 3) := by decide +kernel
theorem dX7_post_7 : decode cX7_post 7 = .ok (.iload_n 2, 1) := by decide +kernel
theorem dX7_post_8 : decode cX7_post 8 = .ok (.invokestatic 79, 3) := by decide +kernel
theorem dX7_post_11 : decode cX7_post 11 = .ok (.ifCond .eq 8, 3) := by decide +kernel
theorem dX7_post_14 : decode cX7_post 14 = .ok (.iload_n 1, 1) := by decide +kernel
theorem dX7_post_15 : decode cX7_post 15 = .ok (.iload_n 2, 1) := by decide +kernel
theorem dX7_post_16 : decode cX7_post 16 = .ok (.if_icmp .ne 5, 3) := by decide +kernel
theorem dX7_post_19 : decode cX7_post 19 = .ok (.iconst (-1), 1) := by decide +kernel
theorem dX7_post_20 : decode cX7_post 20 = .ok (.ireturn, 1) := by decide +kernel
theorem dX7_post_21 : decode cX7_post 21 = .ok (.iload_n 3, 1) := by decide +kernel
theorem dX7_post_22 : decode cX7_post 22 = .ok (.iconst 1, 1) := by decide +kernel
theorem dX7_post_23 : decode cX7_post 23 = .ok (.if_icmp .lt 16, 3) := by decide +kernel
theorem dX7_post_26 : decode cX7_post 26 = .ok (.iload 4, 2) := by decide +kernel
theorem dX7_post_28 : decode cX7_post 28 = .ok (.bipush 60, 2) := by decide +kernel
theorem dX7_post_30 : decode cX7_post 30 = .ok (.if_icmp .gt 9, 3) := by decide +kernel
theorem dX7_post_33 : decode cX7_post 33 = .ok (.iload_n 3, 1) := by decide +kernel
theorem dX7_post_34 : decode cX7_post 34 = .ok (.iload 4, 2) := by decide +kernel
theorem dX7_post_36 : decode cX7_post 36 = .ok (.if_icmp .le 5, 3) := by decide +kernel
theorem dX7_post_39 : decode cX7_post 39 = .ok (.iconst (-1), 1) := by decide +kernel
theorem dX7_post_40 : decode cX7_post 40 = .ok (.ireturn, 1) := by decide +kernel
theorem dX7_post_41 : decode cX7_post 41 = .ok (.aload_n 0, 1) := by decide +kernel
theorem dX7_post_42 : decode cX7_post 42 = .ok (.getfield 19, 3) := by decide +kernel
theorem dX7_post_45 : decode cX7_post 45 = .ok (.getfield 83, 3) := by decide +kernel
theorem dX7_post_48 : decode cX7_post 48 = .ok (.ifCond .le 6, 3) := by decide +kernel
theorem dX7_post_51 : decode cX7_post 51 = .ok (.bipush (-2), 2) := by decide +kernel
theorem dX7_post_53 : decode cX7_post 53 = .ok (.ireturn, 1) := by decide +kernel
theorem dX7_post_54 : decode cX7_post 54 = .ok (.aload_n 0, 1) := by decide +kernel
theorem dX7_post_55 : decode cX7_post 55 = .ok (.getfield 10, 3) := by decide +kernel
theorem dX7_post_58 : decode cX7_post 58 = .ok (.iload_n 1, 1) := by decide +kernel
theorem dX7_post_59 : decode cX7_post 59 = .ok (.iload_n 2, 1) := by decide +kernel
theorem dX7_post_60 : decode cX7_post 60 = .ok (.iload_n 3, 1) := by decide +kernel
theorem dX7_post_61 : decode cX7_post 61 = .ok (.iload 4, 2) := by decide +kernel
theorem dX7_post_63 : decode cX7_post 63 = .ok (.invokevirtual 86, 3) := by decide +kernel
theorem dX7_post_66 : decode cX7_post 66 = .ok (.aload_n 0, 1) := by decide +kernel
theorem dX7_post_67 : decode cX7_post 67 = .ok (.iconst 0, 1) := by decide +kernel
theorem dX7_post_68 : decode cX7_post 68 = .ok (.putfield 75, 3) := by decide +kernel
theorem dX7_post_71 : decode cX7_post 71 = .ok (.iconst 0, 1) := by decide +kernel
theorem dX7_post_72 : decode cX7_post 72 = .ok (.ireturn, 1) := by decide +kernel
theorem dX7_way_0 : decode cX7_way 0 = .ok (.iload_n 1, 1) := by decide +kernel
theorem dX7_way_1 : decode cX7_way 1 = .ok (.invokestatic 79, 3) := by decide +kernel
theorem dX7_way_4 : decode cX7_way 4 = .ok (.ifCond .eq 10, 3) := by decide +kernel
theorem dX7_way_7 : decode cX7_way 7 = .ok (.iload_n 2, 1) := by decide +kernel
theorem dX7_way_8 : decode cX7_way 8 = .ok (.invokestatic 79, 3) := by decide +kernel
theorem dX7_way_11 : decode cX7_way 11 = .ok (.ifCond .ne 5, 3) := by decide +kernel
theorem dX7_way_14 : decode cX7_way 14 = .ok (.iconst (-1), 1) := by decide +kernel
theorem dX7_way_15 : decode cX7_way 15 = .ok (.ireturn, 1) := by decide +kernel
theorem dX7_way_16 : decode cX7_way 16 = .ok (.aload_n 0, 1) := by decide +kernel
theorem dX7_way_17 : decode cX7_way 17 = .ok (.getfield 10, 3) := by decide +kernel
theorem dX7_way_20 : decode cX7_way 20 = .ok (.iload_n 1, 1) := by decide +kernel
theorem dX7_way_21 : decode cX7_way 21 = .ok (.iload_n 2, 1) := by decide +kernel
theorem dX7_way_22 : decode cX7_way 22 = .ok (.invokevirtual 90, 3) := by decide +kernel
theorem dX7_way_25 : decode cX7_way 25 = .ok (.ifCond .eq 15, 3) := by decide +kernel
theorem dX7_way_28 : decode cX7_way 28 = .ok (.aload_n 0, 1) := by decide +kernel
theorem dX7_way_29 : decode cX7_way 29 = .ok (.getfield 10, 3) := by decide +kernel
theorem dX7_way_32 : decode cX7_way 32 = .ok (.iload_n 1, 1) := by decide +kernel
theorem dX7_way_33 : decode cX7_way 33 = .ok (.iload_n 2, 1) := by decide +kernel
theorem dX7_way_34 : decode cX7_way 34 = .ok (.invokevirtual 94, 3) := by decide +kernel
theorem dX7_way_37 : decode cX7_way 37 = .ok (.goto 5, 3) := by decide +kernel
theorem dX7_way_40 : decode cX7_way 40 = .ok (.bipush (-4), 2) := by decide +kernel
theorem dX7_way_42 : decode cX7_way 42 = .ok (.ireturn, 1) := by decide +kernel
theorem dX7_slow_0 : decode cX7_slow 0 = .ok (.iload_n 1, 1) := by decide +kernel
theorem dX7_slow_1 : decode cX7_slow 1 = .ok (.invokestatic 79, 3) := by decide +kernel
theorem dX7_slow_4 : decode cX7_slow 4 = .ok (.ifCond .eq 10, 3) := by decide +kernel
theorem dX7_slow_7 : decode cX7_slow 7 = .ok (.iload_n 2, 1) := by decide +kernel
theorem dX7_slow_8 : decode cX7_slow 8 = .ok (.invokestatic 79, 3) := by decide +kernel
theorem dX7_slow_11 : decode cX7_slow 11 = .ok (.ifCond .ne 5, 3) := by decide +kernel
theorem dX7_slow_14 : decode cX7_slow 14 = .ok (.iconst (-1), 1) := by decide +kernel
theorem dX7_slow_15 : decode cX7_slow 15 = .ok (.ireturn, 1) := by decide +kernel
theorem dX7_slow_16 : decode cX7_slow 16 = .ok (.aload_n 0, 1) := by decide +kernel
theorem dX7_slow_17 : decode cX7_slow 17 = .ok (.getfield 10, 3) := by decide +kernel
theorem dX7_slow_20 : decode cX7_slow 20 = .ok (.iload_n 1, 1) := by decide +kernel
theorem dX7_slow_21 : decode cX7_slow 21 = .ok (.iload_n 2, 1) := by decide +kernel
theorem dX7_slow_22 : decode cX7_slow 22 = .ok (.invokevirtual 90, 3) := by decide +kernel
theorem dX7_slow_25 : decode cX7_slow 25 = .ok (.ifCond .eq 15, 3) := by decide +kernel
theorem dX7_slow_28 : decode cX7_slow 28 = .ok (.aload_n 0, 1) := by decide +kernel
theorem dX7_slow_29 : decode cX7_slow 29 = .ok (.getfield 10, 3) := by decide +kernel
theorem dX7_slow_32 : decode cX7_slow 32 = .ok (.iload_n 1, 1) := by decide +kernel
theorem dX7_slow_33 : decode cX7_slow 33 = .ok (.iload_n 2, 1) := by decide +kernel
theorem dX7_slow_34 : decode cX7_slow 34 = .ok (.invokevirtual 98, 3) := by decide +kernel
theorem dX7_slow_37 : decode cX7_slow 37 = .ok (.goto 5, 3) := by decide +kernel
theorem dX7_slow_40 : decode cX7_slow 40 = .ok (.bipush (-4), 2) := by decide +kernel
theorem dX7_slow_42 : decode cX7_slow 42 = .ok (.ireturn, 1) := by decide +kernel
theorem dX7_sheet_0 : decode cX7_sheet 0 = .ok (.iload_n 1, 1) := by decide +kernel
theorem dX7_sheet_1 : decode cX7_sheet 1 = .ok (.invokestatic 79, 3) := by decide +kernel
theorem dX7_sheet_4 : decode cX7_sheet 4 = .ok (.ifCond .eq 17, 3) := by decide +kernel
theorem dX7_sheet_7 : decode cX7_sheet 7 = .ok (.iload_n 2, 1) := by decide +kernel
theorem dX7_sheet_8 : decode cX7_sheet 8 = .ok (.invokestatic 101, 3) := by decide +kernel
theorem dX7_sheet_11 : decode cX7_sheet 11 = .ok (.ifCond .eq 10, 3) := by decide +kernel
theorem dX7_sheet_14 : decode cX7_sheet 14 = .ok (.iload_n 3, 1) := by decide +kernel
theorem dX7_sheet_15 : decode cX7_sheet 15 = .ok (.invokestatic 104, 3) := by decide +kernel
theorem dX7_sheet_18 : decode cX7_sheet 18 = .ok (.ifCond .ne 5, 3) := by decide +kernel
theorem dX7_sheet_21 : decode cX7_sheet 21 = .ok (.iconst (-1), 1) := by decide +kernel
theorem dX7_sheet_22 : decode cX7_sheet 22 = .ok (.ireturn, 1) := by decide +kernel
theorem dX7_sheet_23 : decode cX7_sheet 23 = .ok (.aload_n 0, 1) := by decide +kernel
theorem dX7_sheet_24 : decode cX7_sheet 24 = .ok (.getfield 19, 3) := by decide +kernel
theorem dX7_sheet_27 : decode cX7_sheet 27 = .ok (.getfield 83, 3) := by decide +kernel
theorem dX7_sheet_30 : decode cX7_sheet 30 = .ok (.bipush 12, 2) := by decide +kernel
theorem dX7_sheet_32 : decode cX7_sheet 32 = .ok (.if_icmp .lt 6, 3) := by decide +kernel
theorem dX7_sheet_35 : decode cX7_sheet 35 = .ok (.bipush (-3), 2) := by decide +kernel
theorem dX7_sheet_37 : decode cX7_sheet 37 = .ok (.ireturn, 1) := by decide +kernel
theorem dX7_sheet_38 : decode cX7_sheet 38 = .ok (.aload_n 0, 1) := by decide +kernel
theorem dX7_sheet_39 : decode cX7_sheet 39 = .ok (.iconst 0, 1) := by decide +kernel
theorem dX7_sheet_40 : decode cX7_sheet 40 = .ok (.putfield 75, 3) := by decide +kernel
theorem dX7_sheet_43 : decode cX7_sheet 43 = .ok (.aload_n 0, 1) := by decide +kernel
theorem dX7_sheet_44 : decode cX7_sheet 44 = .ok (.getfield 19, 3) := by decide +kernel
theorem dX7_sheet_47 : decode cX7_sheet 47 = .ok (.iload_n 1, 1) := by decide +kernel
theorem dX7_sheet_48 : decode cX7_sheet 48 = .ok (.iload_n 2, 1) := by decide +kernel
theorem dX7_sheet_49 : decode cX7_sheet 49 = .ok (.iload_n 3, 1) := by decide +kernel
theorem dX7_sheet_50 : decode cX7_sheet 50 = .ok (.invokevirtual 107, 3) := by decide +kernel
theorem dX7_sheet_53 : decode cX7_sheet 53 = .ok (.ireturn, 1) := by decide +kernel
theorem dX7_dated_0 : decode cX7_dated 0 = .ok (.aload_n 0, 1) := by decide +kernel
theorem dX7_dated_1 : decode cX7_dated 1 = .ok (.iload_n 1, 1) := by decide +kernel
theorem dX7_dated_2 : decode cX7_dated 2 = .ok (.invokevirtual 111, 3) := by decide +kernel
theorem dX7_dated_5 : decode cX7_dated 5 = .ok (.ifCond .eq 10, 3) := by decide +kernel
theorem dX7_dated_8 : decode cX7_dated 8 = .ok (.iload_n 2, 1) := by decide +kernel
theorem dX7_dated_9 : decode cX7_dated 9 = .ok (.invokestatic 104, 3) := by decide +kernel
theorem dX7_dated_12 : decode cX7_dated 12 = .ok (.ifCond .ne 6, 3) := by decide +kernel
theorem dX7_dated_15 : decode cX7_dated 15 = .ok (.bipush (-100), 2) := by decide +kernel
theorem dX7_dated_17 : decode cX7_dated 17 = .ok (.ireturn, 1) := by decide +kernel
theorem dX7_dated_18 : decode cX7_dated 18 = .ok (.aload_n 0, 1) := by decide +kernel
theorem dX7_dated_19 : decode cX7_dated 19 = .ok (.getfield 19, 3) := by decide +kernel
theorem dX7_dated_22 : decode cX7_dated 22 = .ok (.getfield 114, 3) := by decide +kernel
theorem dX7_dated_25 : decode cX7_dated 25 = .ok (.iload_n 1, 1) := by decide +kernel
theorem dX7_dated_26 : decode cX7_dated 26 = .ok (.iaload, 1) := by decide +kernel
theorem dX7_dated_27 : decode cX7_dated 27 = .ok (.istore_n 3, 1) := by decide +kernel
theorem dX7_dated_28 : decode cX7_dated 28 = .ok (.aload_n 0, 1) := by decide +kernel
theorem dX7_dated_29 : decode cX7_dated 29 = .ok (.getfield 19, 3) := by decide +kernel
theorem dX7_dated_32 : decode cX7_dated 32 = .ok (.getfield 114, 3) := by decide +kernel
theorem dX7_dated_35 : decode cX7_dated 35 = .ok (.iload_n 1, 1) := by decide +kernel
theorem dX7_dated_36 : decode cX7_dated 36 = .ok (.iload_n 2, 1) := by decide +kernel
theorem dX7_dated_37 : decode cX7_dated 37 = .ok (.iastore, 1) := by decide +kernel
theorem dX7_dated_38 : decode cX7_dated 38 = .ok (.aload_n 0, 1) := by decide +kernel
theorem dX7_dated_39 : decode cX7_dated 39 = .ok (.iconst 0, 1) := by decide +kernel
theorem dX7_dated_40 : decode cX7_dated 40 = .ok (.putfield 75, 3) := by decide +kernel
theorem dX7_dated_43 : decode cX7_dated 43 = .ok (.iload_n 3, 1) := by decide +kernel
theorem dX7_dated_44 : decode cX7_dated 44 = .ok (.ireturn, 1) := by decide +kernel
theorem dX7_behind_0 : decode cX7_behind 0 = .ok (.aload_n 0, 1) := by decide +kernel
theorem dX7_behind_1 : decode cX7_behind 1 = .ok (.iload_n 1, 1) := by decide +kernel
theorem dX7_behind_2 : decode cX7_behind 2 = .ok (.invokevirtual 111, 3) := by decide +kernel
theorem dX7_behind_5 : decode cX7_behind 5 = .ok (.ifCond .eq 16, 3) := by decide +kernel
theorem dX7_behind_8 : decode cX7_behind 8 = .ok (.aload_n 0, 1) := by decide +kernel
theorem dX7_behind_9 : decode cX7_behind 9 = .ok (.iload_n 2, 1) := by decide +kernel
theorem dX7_behind_10 : decode cX7_behind 10 = .ok (.invokevirtual 111, 3) := by decide +kernel
theorem dX7_behind_13 : decode cX7_behind 13 = .ok (.ifCond .eq 8, 3) := by decide +kernel
theorem dX7_behind_16 : decode cX7_behind 16 = .ok (.iload_n 1, 1) := by decide +kernel
theorem dX7_behind_17 : decode cX7_behind 17 = .ok (.iload_n 2, 1) := by decide +kernel
theorem dX7_behind_18 : decode cX7_behind 18 = .ok (.if_icmp .ne 5, 3) := by decide +kernel
theorem dX7_behind_21 : decode cX7_behind 21 = .ok (.iconst (-1), 1) := by decide +kernel
theorem dX7_behind_22 : decode cX7_behind 22 = .ok (.ireturn, 1) := by decide +kernel
theorem dX7_behind_23 : decode cX7_behind 23 = .ok (.aload_n 0, 1) := by decide +kernel
theorem dX7_behind_24 : decode cX7_behind 24 = .ok (.getfield 10, 3) := by decide +kernel
theorem dX7_behind_27 : decode cX7_behind 27 = .ok (.aload_n 0, 1) := by decide +kernel
theorem dX7_behind_28 : decode cX7_behind 28 = .ok (.getfield 19, 3) := by decide +kernel
theorem dX7_behind_31 : decode cX7_behind 31 = .ok (.getfield 118, 3) := by decide +kernel
theorem dX7_behind_34 : decode cX7_behind 34 = .ok (.iload_n 2, 1) := by decide +kernel
theorem dX7_behind_35 : decode cX7_behind 35 = .ok (.iaload, 1) := by decide +kernel
theorem dX7_behind_36 : decode cX7_behind 36 = .ok (.aload_n 0, 1) := by decide +kernel
theorem dX7_behind_37 : decode cX7_behind 37 = .ok (.getfield 19, 3) := by decide +kernel
theorem dX7_behind_40 : decode cX7_behind 40 = .ok (.getfield 118, 3) := by decide +kernel
theorem dX7_behind_43 : decode cX7_behind 43 = .ok (.iload_n 1, 1) := by decide +kernel
theorem dX7_behind_44 : decode cX7_behind 44 = .ok (.iaload, 1) := by decide +kernel
theorem dX7_behind_45 : decode cX7_behind 45 = .ok (.invokevirtual 90, 3) := by decide +kernel
theorem dX7_behind_48 : decode cX7_behind 48 = .ok (.ifCond .ne 6, 3) := by decide +kernel
theorem dX7_behind_51 : decode cX7_behind 51 = .ok (.bipush (-2), 2) := by decide +kernel
theorem dX7_behind_53 : decode cX7_behind 53 = .ok (.ireturn, 1) := by decide +kernel
theorem dX7_behind_54 : decode cX7_behind 54 = .ok (.aload_n 0, 1) := by decide +kernel
theorem dX7_behind_55 : decode cX7_behind 55 = .ok (.getfield 19, 3) := by decide +kernel
theorem dX7_behind_58 : decode cX7_behind 58 = .ok (.getfield 121, 3) := by decide +kernel
theorem dX7_behind_61 : decode cX7_behind 61 = .ok (.bipush 20, 2) := by decide +kernel
theorem dX7_behind_63 : decode cX7_behind 63 = .ok (.if_icmp .lt 6, 3) := by decide +kernel
theorem dX7_behind_66 : decode cX7_behind 66 = .ok (.bipush (-3), 2) := by decide +kernel
theorem dX7_behind_68 : decode cX7_behind 68 = .ok (.ireturn, 1) := by decide +kernel
theorem dX7_behind_69 : decode cX7_behind 69 = .ok (.aload_n 0, 1) := by decide +kernel
theorem dX7_behind_70 : decode cX7_behind 70 = .ok (.iconst 0, 1) := by decide +kernel
theorem dX7_behind_71 : decode cX7_behind 71 = .ok (.putfield 75, 3) := by decide +kernel
theorem dX7_behind_74 : decode cX7_behind 74 = .ok (.aload_n 0, 1) := by decide +kernel
theorem dX7_behind_75 : decode cX7_behind 75 = .ok (.getfield 19, 3) := by decide +kernel
theorem dX7_behind_78 : decode cX7_behind 78 = .ok (.iload_n 1, 1) := by decide +kernel
theorem dX7_behind_79 : decode cX7_behind 79 = .ok (.iload_n 2, 1) := by decide +kernel
theorem dX7_behind_80 : decode cX7_behind 80 = .ok (.invokevirtual 124, 3) := by decide +kernel
theorem dX7_behind_83 : decode cX7_behind 83 = .ok (.ireturn, 1) := by decide +kernel
theorem dX7_happened_0 : decode cX7_happened 0 = .ok (.iload_n 1, 1) := by decide +kernel
theorem dX7_happened_1 : decode cX7_happened 1 = .ok (.invokestatic 127, 3) := by decide +kernel
theorem dX7_happened_4 : decode cX7_happened 4 = .ok (.ifCond .eq 17, 3) := by decide +kernel
theorem dX7_happened_7 : decode cX7_happened 7 = .ok (.iload_n 2, 1) := by decide +kernel
theorem dX7_happened_8 : decode cX7_happened 8 = .ok (.invokestatic 79, 3) := by decide +kernel
theorem dX7_happened_11 : decode cX7_happened 11 = .ok (.ifCond .eq 10, 3) := by decide +kernel
theorem dX7_happened_14 : decode cX7_happened 14 = .ok (.iload_n 3, 1) := by decide +kernel
theorem dX7_happened_15 : decode cX7_happened 15 = .ok (.invokestatic 130, 3) := by decide +kernel
theorem dX7_happened_18 : decode cX7_happened 18 = .ok (.ifCond .ne 5, 3) := by decide +kernel
theorem dX7_happened_21 : decode cX7_happened 21 = .ok (.iconst (-1), 1) := by decide +kernel
theorem dX7_happened_22 : decode cX7_happened 22 = .ok (.ireturn, 1) := by decide +kernel
theorem dX7_happened_23 : decode cX7_happened 23 = .ok (.aload_n 0, 1) := by decide +kernel
theorem dX7_happened_24 : decode cX7_happened 24 = .ok (.getfield 19, 3) := by decide +kernel
theorem dX7_happened_27 : decode cX7_happened 27 = .ok (.iload_n 1, 1) := by decide +kernel
theorem dX7_happened_28 : decode cX7_happened 28 = .ok (.invokevirtual 133, 3) := by decide +kernel
theorem dX7_happened_31 : decode cX7_happened 31 = .ok (.ifCond .ne 12, 3) := by decide +kernel
theorem dX7_happened_34 : decode cX7_happened 34 = .ok (.aload_n 0, 1) := by decide +kernel
theorem dX7_happened_35 : decode cX7_happened 35 = .ok (.iload_n 1, 1) := by decide +kernel
theorem dX7_happened_36 : decode cX7_happened 36 = .ok (.iload_n 2, 1) := by decide +kernel
theorem dX7_happened_37 : decode cX7_happened 37 = .ok (.invokevirtual 136, 3) := by decide +kernel
theorem dX7_happened_40 : decode cX7_happened 40 = .ok (.ifCond .ne 6, 3) := by decide +kernel
theorem dX7_happened_43 : decode cX7_happened 43 = .ok (.bipush (-2), 2) := by decide +kernel
theorem dX7_happened_45 : decode cX7_happened 45 = .ok (.ireturn, 1) := by decide +kernel
theorem dX7_happened_46 : decode cX7_happened 46 = .ok (.aload_n 0, 1) := by decide +kernel
theorem dX7_happened_47 : decode cX7_happened 47 = .ok (.getfield 19, 3) := by decide +kernel
theorem dX7_happened_50 : decode cX7_happened 50 = .ok (.getfield 139, 3) := by decide +kernel
theorem dX7_happened_53 : decode cX7_happened 53 = .ok (.iload_n 1, 1) := by decide +kernel
theorem dX7_happened_54 : decode cX7_happened 54 = .ok (.iload_n 2, 1) := by decide +kernel
theorem dX7_happened_55 : decode cX7_happened 55 = .ok (.iastore, 1) := by decide +kernel
theorem dX7_happened_56 : decode cX7_happened 56 = .ok (.aload_n 0, 1) := by decide +kernel
theorem dX7_happened_57 : decode cX7_happened 57 = .ok (.getfield 19, 3) := by decide +kernel
theorem dX7_happened_60 : decode cX7_happened 60 = .ok (.getfield 142, 3) := by decide +kernel
theorem dX7_happened_63 : decode cX7_happened 63 = .ok (.iload_n 1, 1) := by decide +kernel
theorem dX7_happened_64 : decode cX7_happened 64 = .ok (.iload_n 3, 1) := by decide +kernel
theorem dX7_happened_65 : decode cX7_happened 65 = .ok (.iastore, 1) := by decide +kernel
theorem dX7_happened_66 : decode cX7_happened 66 = .ok (.aload_n 0, 1) := by decide +kernel
theorem dX7_happened_67 : decode cX7_happened 67 = .ok (.iconst 0, 1) := by decide +kernel
theorem dX7_happened_68 : decode cX7_happened 68 = .ok (.putfield 75, 3) := by decide +kernel
theorem dX7_happened_71 : decode cX7_happened 71 = .ok (.iconst 0, 1) := by decide +kernel
theorem dX7_happened_72 : decode cX7_happened 72 = .ok (.ireturn, 1) := by decide +kernel
theorem dX7_span_0 : decode cX7_span 0 = .ok (.aload_n 0, 1) := by decide +kernel
theorem dX7_span_1 : decode cX7_span 1 = .ok (.iload_n 1, 1) := by decide +kernel
theorem dX7_span_2 : decode cX7_span 2 = .ok (.invokevirtual 111, 3) := by decide +kernel
theorem dX7_span_5 : decode cX7_span 5 = .ok (.ifCond .eq 12, 3) := by decide +kernel
theorem dX7_span_8 : decode cX7_span 8 = .ok (.iload_n 2, 1) := by decide +kernel
theorem dX7_span_9 : decode cX7_span 9 = .ok (.ifCond .lt 8, 3) := by decide +kernel
theorem dX7_span_12 : decode cX7_span 12 = .ok (.iload_n 2, 1) := by decide +kernel
theorem dX7_span_13 : decode cX7_span 13 = .ok (.iconst 1, 1) := by decide +kernel
theorem dX7_span_14 : decode cX7_span 14 = .ok (.if_icmp .le 5, 3) := by decide +kernel
theorem dX7_span_17 : decode cX7_span 17 = .ok (.iconst (-1), 1) := by decide +kernel
theorem dX7_span_18 : decode cX7_span 18 = .ok (.ireturn, 1) := by decide +kernel
theorem dX7_span_19 : decode cX7_span 19 = .ok (.aload_n 0, 1) := by decide +kernel
theorem dX7_span_20 : decode cX7_span 20 = .ok (.invokevirtual 145, 3) := by decide +kernel
theorem dX7_span_23 : decode cX7_span 23 = .ok (.ifCond .eq 6, 3) := by decide +kernel
theorem dX7_span_26 : decode cX7_span 26 = .ok (.bipush (-2), 2) := by decide +kernel
theorem dX7_span_28 : decode cX7_span 28 = .ok (.ireturn, 1) := by decide +kernel
theorem dX7_span_29 : decode cX7_span 29 = .ok (.iload_n 2, 1) := by decide +kernel
theorem dX7_span_30 : decode cX7_span 30 = .ok (.ifCond .ne 15, 3) := by decide +kernel
theorem dX7_span_33 : decode cX7_span 33 = .ok (.aload_n 0, 1) := by decide +kernel
theorem dX7_span_34 : decode cX7_span 34 = .ok (.getfield 30, 3) := by decide +kernel
theorem dX7_span_37 : decode cX7_span 37 = .ok (.getfield 149, 3) := by decide +kernel
theorem dX7_span_40 : decode cX7_span 40 = .ok (.iload_n 1, 1) := by decide +kernel
theorem dX7_span_41 : decode cX7_span 41 = .ok (.iaload, 1) := by decide +kernel
theorem dX7_span_42 : decode cX7_span 42 = .ok (.goto 12, 3) := by decide +kernel
theorem dX7_span_45 : decode cX7_span 45 = .ok (.aload_n 0, 1) := by decide +kernel
theorem dX7_span_46 : decode cX7_span 46 = .ok (.getfield 30, 3) := by decide +kernel
theorem dX7_span_49 : decode cX7_span 49 = .ok (.getfield 152, 3) := by decide +kernel
theorem dX7_span_52 : decode cX7_span 52 = .ok (.iload_n 1, 1) := by decide +kernel
theorem dX7_span_53 : decode cX7_span 53 = .ok (.iaload, 1) := by decide +kernel
theorem dX7_span_54 : decode cX7_span 54 = .ok (.ireturn, 1) := by decide +kernel
theorem dX7_ahead_0 : decode cX7_ahead 0 = .ok (.aload_n 0, 1) := by decide +kernel
theorem dX7_ahead_1 : decode cX7_ahead 1 = .ok (.iload_n 1, 1) := by decide +kernel
theorem dX7_ahead_2 : decode cX7_ahead 2 = .ok (.invokevirtual 111, 3) := by decide +kernel
theorem dX7_ahead_5 : decode cX7_ahead 5 = .ok (.ifCond .eq 11, 3) := by decide +kernel
theorem dX7_ahead_8 : decode cX7_ahead 8 = .ok (.aload_n 0, 1) := by decide +kernel
theorem dX7_ahead_9 : decode cX7_ahead 9 = .ok (.iload_n 2, 1) := by decide +kernel
theorem dX7_ahead_10 : decode cX7_ahead 10 = .ok (.invokevirtual 111, 3) := by decide +kernel
theorem dX7_ahead_13 : decode cX7_ahead 13 = .ok (.ifCond .ne 5, 3) := by decide +kernel
theorem dX7_ahead_16 : decode cX7_ahead 16 = .ok (.iconst (-1), 1) := by decide +kernel
theorem dX7_ahead_17 : decode cX7_ahead 17 = .ok (.ireturn, 1) := by decide +kernel
theorem dX7_ahead_18 : decode cX7_ahead 18 = .ok (.aload_n 0, 1) := by decide +kernel
theorem dX7_ahead_19 : decode cX7_ahead 19 = .ok (.invokevirtual 145, 3) := by decide +kernel
theorem dX7_ahead_22 : decode cX7_ahead 22 = .ok (.ifCond .eq 6, 3) := by decide +kernel
theorem dX7_ahead_25 : decode cX7_ahead 25 = .ok (.bipush (-2), 2) := by decide +kernel
theorem dX7_ahead_27 : decode cX7_ahead 27 = .ok (.ireturn, 1) := by decide +kernel
theorem dX7_ahead_28 : decode cX7_ahead 28 = .ok (.aload_n 0, 1) := by decide +kernel
theorem dX7_ahead_29 : decode cX7_ahead 29 = .ok (.getfield 30, 3) := by decide +kernel
theorem dX7_ahead_32 : decode cX7_ahead 32 = .ok (.aload_n 0, 1) := by decide +kernel
theorem dX7_ahead_33 : decode cX7_ahead 33 = .ok (.getfield 19, 3) := by decide +kernel
theorem dX7_ahead_36 : decode cX7_ahead 36 = .ok (.aload_n 0, 1) := by decide +kernel
theorem dX7_ahead_37 : decode cX7_ahead 37 = .ok (.getfield 10, 3) := by decide +kernel
theorem dX7_ahead_40 : decode cX7_ahead 40 = .ok (.iload_n 1, 1) := by decide +kernel
theorem dX7_ahead_41 : decode cX7_ahead 41 = .ok (.iload_n 2, 1) := by decide +kernel
theorem dX7_ahead_42 : decode cX7_ahead 42 = .ok (.invokevirtual 155, 3) := by decide +kernel
theorem dX7_ahead_45 : decode cX7_ahead 45 = .ok (.ifCond .eq 7, 3) := by decide +kernel
theorem dX7_ahead_48 : decode cX7_ahead 48 = .ok (.iconst 0, 1) := by decide +kernel
theorem dX7_ahead_49 : decode cX7_ahead 49 = .ok (.goto 4, 3) := by decide +kernel
theorem dX7_ahead_52 : decode cX7_ahead 52 = .ok (.iconst 1, 1) := by decide +kernel
theorem dX7_ahead_53 : decode cX7_ahead 53 = .ok (.ireturn, 1) := by decide +kernel
theorem dX7_say_0 : decode cX7_say 0 = .ok (.aload_n 0, 1) := by decide +kernel
theorem dX7_say_1 : decode cX7_say 1 = .ok (.iload_n 1, 1) := by decide +kernel
theorem dX7_say_2 : decode cX7_say 2 = .ok (.invokevirtual 111, 3) := by decide +kernel
theorem dX7_say_5 : decode cX7_say 5 = .ok (.ifCond .eq 10, 3) := by decide +kernel
theorem dX7_say_8 : decode cX7_say 8 = .ok (.iload_n 2, 1) := by decide +kernel
theorem dX7_say_9 : decode cX7_say 9 = .ok (.invokestatic 127, 3) := by decide +kernel
theorem dX7_say_12 : decode cX7_say 12 = .ok (.ifCond .ne 5, 3) := by decide +kernel
theorem dX7_say_15 : decode cX7_say 15 = .ok (.iconst (-1), 1) := by decide +kernel
theorem dX7_say_16 : decode cX7_say 16 = .ok (.ireturn, 1) := by decide +kernel
theorem dX7_say_17 : decode cX7_say 17 = .ok (.iload_n 3, 1) := by decide +kernel
theorem dX7_say_18 : decode cX7_say 18 = .ok (.ifCond .lt 23, 3) := by decide +kernel
theorem dX7_say_21 : decode cX7_say 21 = .ok (.iload_n 3, 1) := by decide +kernel
theorem dX7_say_22 : decode cX7_say 22 = .ok (.sipush 9999, 3) := by decide +kernel
theorem dX7_say_25 : decode cX7_say 25 = .ok (.if_icmp .gt 16, 3) := by decide +kernel
theorem dX7_say_28 : decode cX7_say 28 = .ok (.iload 4, 2) := by decide +kernel
theorem dX7_say_30 : decode cX7_say 30 = .ok (.ifCond .lt 11, 3) := by decide +kernel
theorem dX7_say_33 : decode cX7_say 33 = .ok (.iload 4, 2) := by decide +kernel
theorem dX7_say_35 : decode cX7_say 35 = .ok (.sipush 255, 3) := by decide +kernel
theorem dX7_say_38 : decode cX7_say 38 = .ok (.if_icmp .le 5, 3) := by decide +kernel
theorem dX7_say_41 : decode cX7_say 41 = .ok (.iconst (-1), 1) := by decide +kernel
theorem dX7_say_42 : decode cX7_say 42 = .ok (.ireturn, 1) := by decide +kernel
theorem dX7_say_43 : decode cX7_say 43 = .ok (.aload_n 0, 1) := by decide +kernel
theorem dX7_say_44 : decode cX7_say 44 = .ok (.getfield 19, 3) := by decide +kernel
theorem dX7_say_47 : decode cX7_say 47 = .ok (.iload_n 2, 1) := by decide +kernel
theorem dX7_say_48 : decode cX7_say 48 = .ok (.invokevirtual 133, 3) := by decide +kernel
theorem dX7_say_51 : decode cX7_say 51 = .ok (.ifCond .eq 34, 3) := by decide +kernel
theorem dX7_say_54 : decode cX7_say 54 = .ok (.aload_n 0, 1) := by decide +kernel
theorem dX7_say_55 : decode cX7_say 55 = .ok (.getfield 10, 3) := by decide +kernel
theorem dX7_say_58 : decode cX7_say 58 = .ok (.aload_n 0, 1) := by decide +kernel
theorem dX7_say_59 : decode cX7_say 59 = .ok (.getfield 19, 3) := by decide +kernel
theorem dX7_say_62 : decode cX7_say 62 = .ok (.getfield 139, 3) := by decide +kernel
theorem dX7_say_65 : decode cX7_say 65 = .ok (.iload_n 2, 1) := by decide +kernel
theorem dX7_say_66 : decode cX7_say 66 = .ok (.iaload, 1) := by decide +kernel
theorem dX7_say_67 : decode cX7_say 67 = .ok (.aload_n 0, 1) := by decide +kernel
theorem dX7_say_68 : decode cX7_say 68 = .ok (.getfield 19, 3) := by decide +kernel
theorem dX7_say_71 : decode cX7_say 71 = .ok (.getfield 118, 3) := by decide +kernel
theorem dX7_say_74 : decode cX7_say 74 = .ok (.iload_n 1, 1) := by decide +kernel
theorem dX7_say_75 : decode cX7_say 75 = .ok (.iaload, 1) := by decide +kernel
theorem dX7_say_76 : decode cX7_say 76 = .ok (.invokevirtual 90, 3) := by decide +kernel
theorem dX7_say_79 : decode cX7_say 79 = .ok (.ifCond .ne 6, 3) := by decide +kernel
theorem dX7_say_82 : decode cX7_say 82 = .ok (.bipush (-2), 2) := by decide +kernel
theorem dX7_say_84 : decode cX7_say 84 = .ok (.ireturn, 1) := by decide +kernel
theorem dX7_say_85 : decode cX7_say 85 = .ok (.aload_n 0, 1) := by decide +kernel
theorem dX7_say_86 : decode cX7_say 86 = .ok (.getfield 19, 3) := by decide +kernel
theorem dX7_say_89 : decode cX7_say 89 = .ok (.getfield 159, 3) := by decide +kernel
theorem dX7_say_92 : decode cX7_say 92 = .ok (.bipush 30, 2) := by decide +kernel
theorem dX7_say_94 : decode cX7_say 94 = .ok (.if_icmp .lt 6, 3) := by decide +kernel
theorem dX7_say_97 : decode cX7_say 97 = .ok (.bipush (-3), 2) := by decide +kernel
theorem dX7_say_99 : decode cX7_say 99 = .ok (.ireturn, 1) := by decide +kernel
theorem dX7_say_100 : decode cX7_say 100 = .ok (.aload_n 0, 1) := by decide +kernel
theorem dX7_say_101 : decode cX7_say 101 = .ok (.iconst 0, 1) := by decide +kernel
theorem dX7_say_102 : decode cX7_say 102 = .ok (.putfield 75, 3) := by decide +kernel
theorem dX7_say_105 : decode cX7_say 105 = .ok (.aload_n 0, 1) := by decide +kernel
theorem dX7_say_106 : decode cX7_say 106 = .ok (.getfield 19, 3) := by decide +kernel
theorem dX7_say_109 : decode cX7_say 109 = .ok (.iload_n 1, 1) := by decide +kernel
theorem dX7_say_110 : decode cX7_say 110 = .ok (.iload_n 2, 1) := by decide +kernel
theorem dX7_say_111 : decode cX7_say 111 = .ok (.iload_n 3, 1) := by decide +kernel
theorem dX7_say_112 : decode cX7_say 112 = .ok (.iload 4, 2) := by decide +kernel
theorem dX7_say_114 : decode cX7_say 114 = .ok (.invokevirtual 162, 3) := by decide +kernel
theorem dX7_say_117 : decode cX7_say 117 = .ok (.istore 7, 2) := by decide +kernel
theorem dX7_say_119 : decode cX7_say 119 = .ok (.aload_n 0, 1) := by decide +kernel
theorem dX7_say_120 : decode cX7_say 120 = .ok (.getfield 19, 3) := by decide +kernel
theorem dX7_say_123 : decode cX7_say 123 = .ok (.iload 7, 2) := by decide +kernel
theorem dX7_say_125 : decode cX7_say 125 = .ok (.iload 5, 2) := by decide +kernel
theorem dX7_say_127 : decode cX7_say 127 = .ok (.iload 6, 2) := by decide +kernel
theorem dX7_say_129 : decode cX7_say 129 = .ok (.invokevirtual 166, 3) := by decide +kernel
theorem dX7_say_132 : decode cX7_say 132 = .ok (.iload 7, 2) := by decide +kernel
theorem dX7_say_134 : decode cX7_say 134 = .ok (.ireturn, 1) := by decide +kernel
theorem dX7_change_0 : decode cX7_change 0 = .ok (.aload_n 0, 1) := by decide +kernel
theorem dX7_change_1 : decode cX7_change 1 = .ok (.iload_n 1, 1) := by decide +kernel
theorem dX7_change_2 : decode cX7_change 2 = .ok (.invokevirtual 170, 3) := by decide +kernel
theorem dX7_change_5 : decode cX7_change 5 = .ok (.ifCond .eq 32, 3) := by decide +kernel
theorem dX7_change_8 : decode cX7_change 8 = .ok (.aload_n 0, 1) := by decide +kernel
theorem dX7_change_9 : decode cX7_change 9 = .ok (.iload_n 2, 1) := by decide +kernel
theorem dX7_change_10 : decode cX7_change 10 = .ok (.invokevirtual 170, 3) := by decide +kernel
theorem dX7_change_13 : decode cX7_change 13 = .ok (.ifCond .eq 24, 3) := by decide +kernel
theorem dX7_change_16 : decode cX7_change 16 = .ok (.aload_n 0, 1) := by decide +kernel
theorem dX7_change_17 : decode cX7_change 17 = .ok (.getfield 19, 3) := by decide +kernel
theorem dX7_change_20 : decode cX7_change 20 = .ok (.getfield 173, 3) := by decide +kernel
theorem dX7_change_23 : decode cX7_change 23 = .ok (.iload_n 1, 1) := by decide +kernel
theorem dX7_change_24 : decode cX7_change 24 = .ok (.iaload, 1) := by decide +kernel
theorem dX7_change_25 : decode cX7_change 25 = .ok (.aload_n 0, 1) := by decide +kernel
theorem dX7_change_26 : decode cX7_change 26 = .ok (.getfield 19, 3) := by decide +kernel
theorem dX7_change_29 : decode cX7_change 29 = .ok (.getfield 173, 3) := by decide +kernel
theorem dX7_change_32 : decode cX7_change 32 = .ok (.iload_n 2, 1) := by decide +kernel
theorem dX7_change_33 : decode cX7_change 33 = .ok (.iaload, 1) := by decide +kernel
theorem dX7_change_34 : decode cX7_change 34 = .ok (.if_icmp .eq 5, 3) := by decide +kernel
theorem dX7_change_37 : decode cX7_change 37 = .ok (.iconst (-1), 1) := by decide +kernel
theorem dX7_change_38 : decode cX7_change 38 = .ok (.ireturn, 1) := by decide +kernel
theorem dX7_change_39 : decode cX7_change 39 = .ok (.aload_n 0, 1) := by decide +kernel
theorem dX7_change_40 : decode cX7_change 40 = .ok (.getfield 19, 3) := by decide +kernel
theorem dX7_change_43 : decode cX7_change 43 = .ok (.iload_n 1, 1) := by decide +kernel
theorem dX7_change_44 : decode cX7_change 44 = .ok (.iload_n 2, 1) := by decide +kernel
theorem dX7_change_45 : decode cX7_change 45 = .ok (.invokevirtual 176, 3) := by decide +kernel
theorem dX7_change_48 : decode cX7_change 48 = .ok (.ireturn, 1) := by decide +kernel
theorem dX7_own_0 : decode cX7_own 0 = .ok (.iload_n 1, 1) := by decide +kernel
theorem dX7_own_1 : decode cX7_own 1 = .ok (.ifCond .lt 9, 3) := by decide +kernel
theorem dX7_own_4 : decode cX7_own 4 = .ok (.iload_n 1, 1) := by decide +kernel
theorem dX7_own_5 : decode cX7_own 5 = .ok (.bipush 40, 2) := by decide +kernel
theorem dX7_own_7 : decode cX7_own 7 = .ok (.if_icmp .le 5, 3) := by decide +kernel
theorem dX7_own_10 : decode cX7_own 10 = .ok (.iconst (-1), 1) := by decide +kernel
theorem dX7_own_11 : decode cX7_own 11 = .ok (.ireturn, 1) := by decide +kernel
theorem dX7_own_12 : decode cX7_own 12 = .ok (.aload_n 0, 1) := by decide +kernel
theorem dX7_own_13 : decode cX7_own 13 = .ok (.getfield 69, 3) := by decide +kernel
theorem dX7_own_16 : decode cX7_own 16 = .ok (.istore_n 2, 1) := by decide +kernel
theorem dX7_own_17 : decode cX7_own 17 = .ok (.aload_n 0, 1) := by decide +kernel
theorem dX7_own_18 : decode cX7_own 18 = .ok (.iload_n 1, 1) := by decide +kernel
theorem dX7_own_19 : decode cX7_own 19 = .ok (.putfield 69, 3) := by decide +kernel
theorem dX7_own_22 : decode cX7_own 22 = .ok (.aload_n 0, 1) := by decide +kernel
theorem dX7_own_23 : decode cX7_own 23 = .ok (.iconst 0, 1) := by decide +kernel
theorem dX7_own_24 : decode cX7_own 24 = .ok (.putfield 75, 3) := by decide +kernel
theorem dX7_own_27 : decode cX7_own 27 = .ok (.iload_n 2, 1) := by decide +kernel
theorem dX7_own_28 : decode cX7_own 28 = .ok (.ireturn, 1) := by decide +kernel
theorem dX7_from_0 : decode cX7_from 0 = .ok (.aload_n 0, 1) := by decide +kernel
theorem dX7_from_1 : decode cX7_from 1 = .ok (.iload_n 1, 1) := by decide +kernel
theorem dX7_from_2 : decode cX7_from 2 = .ok (.invokevirtual 170, 3) := by decide +kernel
theorem dX7_from_5 : decode cX7_from 5 = .ok (.ifCond .ne 5, 3) := by decide +kernel
theorem dX7_from_8 : decode cX7_from 8 = .ok (.iconst (-1), 1) := by decide +kernel
theorem dX7_from_9 : decode cX7_from 9 = .ok (.ireturn, 1) := by decide +kernel
theorem dX7_from_10 : decode cX7_from 10 = .ok (.aload_n 0, 1) := by decide +kernel
theorem dX7_from_11 : decode cX7_from 11 = .ok (.invokevirtual 145, 3) := by decide +kernel
theorem dX7_from_14 : decode cX7_from 14 = .ok (.ifCond .eq 6, 3) := by decide +kernel
theorem dX7_from_17 : decode cX7_from 17 = .ok (.bipush (-2), 2) := by decide +kernel
theorem dX7_from_19 : decode cX7_from 19 = .ok (.ireturn, 1) := by decide +kernel
theorem dX7_from_20 : decode cX7_from 20 = .ok (.aload_n 0, 1) := by decide +kernel
theorem dX7_from_21 : decode cX7_from 21 = .ok (.getfield 37, 3) := by decide +kernel
theorem dX7_from_24 : decode cX7_from 24 = .ok (.iload_n 1, 1) := by decide +kernel
theorem dX7_from_25 : decode cX7_from 25 = .ok (.invokevirtual 179, 3) := by decide +kernel
theorem dX7_from_28 : decode cX7_from 28 = .ok (.ifCond .eq 8, 3) := by decide +kernel
theorem dX7_from_31 : decode cX7_from 31 = .ok (.bipush (-4), 2) := by decide +kernel
theorem dX7_from_33 : decode cX7_from 33 = .ok (.goto 12, 3) := by decide +kernel
theorem dX7_from_36 : decode cX7_from 36 = .ok (.aload_n 0, 1) := by decide +kernel
theorem dX7_from_37 : decode cX7_from 37 = .ok (.getfield 37, 3) := by decide +kernel
theorem dX7_from_40 : decode cX7_from 40 = .ok (.getfield 182, 3) := by decide +kernel
theorem dX7_from_43 : decode cX7_from 43 = .ok (.iload_n 1, 1) := by decide +kernel
theorem dX7_from_44 : decode cX7_from 44 = .ok (.iaload, 1) := by decide +kernel
theorem dX7_from_45 : decode cX7_from 45 = .ok (.ireturn, 1) := by decide +kernel
theorem dX7_voice_0 : decode cX7_voice 0 = .ok (.aload_n 0, 1) := by decide +kernel
theorem dX7_voice_1 : decode cX7_voice 1 = .ok (.iload_n 1, 1) := by decide +kernel
theorem dX7_voice_2 : decode cX7_voice 2 = .ok (.invokevirtual 170, 3) := by decide +kernel
theorem dX7_voice_5 : decode cX7_voice 5 = .ok (.ifCond .eq 12, 3) := by decide +kernel
theorem dX7_voice_8 : decode cX7_voice 8 = .ok (.iload_n 2, 1) := by decide +kernel
theorem dX7_voice_9 : decode cX7_voice 9 = .ok (.ifCond .lt 8, 3) := by decide +kernel
theorem dX7_voice_12 : decode cX7_voice 12 = .ok (.iload_n 2, 1) := by decide +kernel
theorem dX7_voice_13 : decode cX7_voice 13 = .ok (.iconst 2, 1) := by decide +kernel
theorem dX7_voice_14 : decode cX7_voice 14 = .ok (.if_icmp .le 5, 3) := by decide +kernel
theorem dX7_voice_17 : decode cX7_voice 17 = .ok (.iconst (-1), 1) := by decide +kernel
theorem dX7_voice_18 : decode cX7_voice 18 = .ok (.ireturn, 1) := by decide +kernel
theorem dX7_voice_19 : decode cX7_voice 19 = .ok (.aload_n 0, 1) := by decide +kernel
theorem dX7_voice_20 : decode cX7_voice 20 = .ok (.invokevirtual 145, 3) := by decide +kernel
theorem dX7_voice_23 : decode cX7_voice 23 = .ok (.ifCond .eq 6, 3) := by decide +kernel
theorem dX7_voice_26 : decode cX7_voice 26 = .ok (.bipush (-2), 2) := by decide +kernel
theorem dX7_voice_28 : decode cX7_voice 28 = .ok (.ireturn, 1) := by decide +kernel
theorem dX7_voice_29 : decode cX7_voice 29 = .ok (.iload_n 2, 1) := by decide +kernel
theorem dX7_voice_30 : decode cX7_voice 30 = .ok (.ifCond .ne 13, 3) := by decide +kernel
theorem dX7_voice_33 : decode cX7_voice 33 = .ok (.aload_n 0, 1) := by decide +kernel
theorem dX7_voice_34 : decode cX7_voice 34 = .ok (.getfield 37, 3) := by decide +kernel
theorem dX7_voice_37 : decode cX7_voice 37 = .ok (.getfield 185, 3) := by decide +kernel
theorem dX7_voice_40 : decode cX7_voice 40 = .ok (.iload_n 1, 1) := by decide +kernel
theorem dX7_voice_41 : decode cX7_voice 41 = .ok (.iaload, 1) := by decide +kernel
theorem dX7_voice_42 : decode cX7_voice 42 = .ok (.ireturn, 1) := by decide +kernel
theorem dX7_voice_43 : decode cX7_voice 43 = .ok (.iload_n 2, 1) := by decide +kernel
theorem dX7_voice_44 : decode cX7_voice 44 = .ok (.iconst 1, 1) := by decide +kernel
theorem dX7_voice_45 : decode cX7_voice 45 = .ok (.if_icmp .ne 19, 3) := by decide +kernel
theorem dX7_voice_48 : decode cX7_voice 48 = .ok (.aload_n 0, 1) := by decide +kernel
theorem dX7_voice_49 : decode cX7_voice 49 = .ok (.aload_n 0, 1) := by decide +kernel
theorem dX7_voice_50 : decode cX7_voice 50 = .ok (.getfield 37, 3) := by decide +kernel
theorem dX7_voice_53 : decode cX7_voice 53 = .ok (.getfield 185, 3) := by decide +kernel
theorem dX7_voice_56 : decode cX7_voice 56 = .ok (.iload_n 1, 1) := by decide +kernel
theorem dX7_voice_57 : decode cX7_voice 57 = .ok (.iaload, 1) := by decide +kernel
theorem dX7_voice_58 : decode cX7_voice 58 = .ok (.invokevirtual 188, 3) := by decide +kernel
theorem dX7_voice_61 : decode cX7_voice 61 = .ok (.goto 12, 3) := by decide +kernel
theorem dX7_voice_64 : decode cX7_voice 64 = .ok (.aload_n 0, 1) := by decide +kernel
theorem dX7_voice_65 : decode cX7_voice 65 = .ok (.getfield 37, 3) := by decide +kernel
theorem dX7_voice_68 : decode cX7_voice 68 = .ok (.getfield 192, 3) := by decide +kernel
theorem dX7_voice_71 : decode cX7_voice 71 = .ok (.iload_n 1, 1) := by decide +kernel
theorem dX7_voice_72 : decode cX7_voice 72 = .ok (.iaload, 1) := by decide +kernel
theorem dX7_voice_73 : decode cX7_voice 73 = .ok (.ireturn, 1) := by decide +kernel
theorem dX7_voices_0 : decode cX7_voices 0 = .ok (.iload_n 1, 1) := by decide +kernel
theorem dX7_voices_1 : decode cX7_voices 1 = .ok (.invokestatic 127, 3) := by decide +kernel
theorem dX7_voices_4 : decode cX7_voices 4 = .ok (.ifCond .ne 5, 3) := by decide +kernel
theorem dX7_voices_7 : decode cX7_voices 7 = .ok (.iconst (-1), 1) := by decide +kernel
theorem dX7_voices_8 : decode cX7_voices 8 = .ok (.ireturn, 1) := by decide +kernel
theorem dX7_voices_9 : decode cX7_voices 9 = .ok (.aload_n 0, 1) := by decide +kernel
theorem dX7_voices_10 : decode cX7_voices 10 = .ok (.invokevirtual 145, 3) := by decide +kernel
theorem dX7_voices_13 : decode cX7_voices 13 = .ok (.ifCond .eq 6, 3) := by decide +kernel
theorem dX7_voices_16 : decode cX7_voices 16 = .ok (.bipush (-2), 2) := by decide +kernel
theorem dX7_voices_18 : decode cX7_voices 18 = .ok (.ireturn, 1) := by decide +kernel
theorem dX7_voices_19 : decode cX7_voices 19 = .ok (.iconst 0, 1) := by decide +kernel
theorem dX7_voices_20 : decode cX7_voices 20 = .ok (.istore_n 3, 1) := by decide +kernel
theorem dX7_voices_21 : decode cX7_voices 21 = .ok (.iconst 0, 1) := by decide +kernel
theorem dX7_voices_22 : decode cX7_voices 22 = .ok (.istore 4, 2) := by decide +kernel
theorem dX7_voices_24 : decode cX7_voices 24 = .ok (.iload 4, 2) := by decide +kernel
theorem dX7_voices_26 : decode cX7_voices 26 = .ok (.aload_n 0, 1) := by decide +kernel
theorem dX7_voices_27 : decode cX7_voices 27 = .ok (.getfield 19, 3) := by decide +kernel
theorem dX7_voices_30 : decode cX7_voices 30 = .ok (.getfield 159, 3) := by decide +kernel
theorem dX7_voices_33 : decode cX7_voices 33 = .ok (.if_icmp .ge 51, 3) := by decide +kernel
theorem dX7_voices_36 : decode cX7_voices 36 = .ok (.aload_n 0, 1) := by decide +kernel
theorem dX7_voices_37 : decode cX7_voices 37 = .ok (.getfield 19, 3) := by decide +kernel
theorem dX7_voices_40 : decode cX7_voices 40 = .ok (.getfield 173, 3) := by decide +kernel
theorem dX7_voices_43 : decode cX7_voices 43 = .ok (.iload 4, 2) := by decide +kernel
theorem dX7_voices_45 : decode cX7_voices 45 = .ok (.iaload, 1) := by decide +kernel
theorem dX7_voices_46 : decode cX7_voices 46 = .ok (.iload_n 1, 1) := by decide +kernel
theorem dX7_voices_47 : decode cX7_voices 47 = .ok (.if_icmp .ne 31, 3) := by decide +kernel
theorem dX7_voices_50 : decode cX7_voices 50 = .ok (.aload_n 0, 1) := by decide +kernel
theorem dX7_voices_51 : decode cX7_voices 51 = .ok (.getfield 19, 3) := by decide +kernel
theorem dX7_voices_54 : decode cX7_voices 54 = .ok (.iload 4, 2) := by decide +kernel
theorem dX7_voices_56 : decode cX7_voices 56 = .ok (.invokevirtual 195, 3) := by decide +kernel
theorem dX7_voices_59 : decode cX7_voices 59 = .ok (.iload_n 2, 1) := by decide +kernel
theorem dX7_voices_60 : decode cX7_voices 60 = .ok (.if_icmp .ne 18, 3) := by decide +kernel
theorem dX7_voices_63 : decode cX7_voices 63 = .ok (.aload_n 0, 1) := by decide +kernel
theorem dX7_voices_64 : decode cX7_voices 64 = .ok (.getfield 37, 3) := by decide +kernel
theorem dX7_voices_67 : decode cX7_voices 67 = .ok (.iload 4, 2) := by decide +kernel
theorem dX7_voices_69 : decode cX7_voices 69 = .ok (.invokevirtual 179, 3) := by decide +kernel
theorem dX7_voices_72 : decode cX7_voices 72 = .ok (.ifCond .eq 6, 3) := by decide +kernel
theorem dX7_voices_75 : decode cX7_voices 75 = .ok (.iinc 3 1, 3) := by decide +kernel
theorem dX7_voices_78 : decode cX7_voices 78 = .ok (.iinc 4 1, 3) := by decide +kernel
theorem dX7_voices_81 : decode cX7_voices 81 = .ok (.goto (-57), 3) := by decide +kernel
theorem dX7_voices_84 : decode cX7_voices 84 = .ok (.iload_n 3, 1) := by decide +kernel
theorem dX7_voices_85 : decode cX7_voices 85 = .ok (.ireturn, 1) := by decide +kernel
theorem dX7_grew_0 : decode cX7_grew 0 = .ok (.aload_n 0, 1) := by decide +kernel
theorem dX7_grew_1 : decode cX7_grew 1 = .ok (.iload_n 1, 1) := by decide +kernel
theorem dX7_grew_2 : decode cX7_grew 2 = .ok (.invokevirtual 170, 3) := by decide +kernel
theorem dX7_grew_5 : decode cX7_grew 5 = .ok (.ifCond .ne 6, 3) := by decide +kernel
theorem dX7_grew_8 : decode cX7_grew 8 = .ok (.ldc 198, 2) := by decide +kernel
theorem dX7_grew_10 : decode cX7_grew 10 = .ok (.ireturn, 1) := by decide +kernel
theorem dX7_grew_11 : decode cX7_grew 11 = .ok (.aload_n 0, 1) := by decide +kernel
theorem dX7_grew_12 : decode cX7_grew 12 = .ok (.invokevirtual 145, 3) := by decide +kernel
theorem dX7_grew_15 : decode cX7_grew 15 = .ok (.ifCond .eq 8, 3) := by decide +kernel
theorem dX7_grew_18 : decode cX7_grew 18 = .ok (.ldc 199, 2) := by decide +kernel
theorem dX7_grew_20 : decode cX7_grew 20 = .ok (.goto 8, 3) := by decide +kernel
theorem dX7_grew_23 : decode cX7_grew 23 = .ok (.aload_n 0, 1) := by decide +kernel
theorem dX7_grew_24 : decode cX7_grew 24 = .ok (.iload_n 1, 1) := by decide +kernel
theorem dX7_grew_25 : decode cX7_grew 25 = .ok (.invokevirtual 200, 3) := by decide +kernel
theorem dX7_grew_28 : decode cX7_grew 28 = .ok (.ireturn, 1) := by decide +kernel
theorem dX7_habit_0 : decode cX7_habit 0 = .ok (.iload_n 1, 1) := by decide +kernel
theorem dX7_habit_1 : decode cX7_habit 1 = .ok (.invokestatic 101, 3) := by decide +kernel
theorem dX7_habit_4 : decode cX7_habit 4 = .ok (.ifCond .ne 6, 3) := by decide +kernel
theorem dX7_habit_7 : decode cX7_habit 7 = .ok (.ldc 203, 2) := by decide +kernel
theorem dX7_habit_9 : decode cX7_habit 9 = .ok (.ireturn, 1) := by decide +kernel
theorem dX7_habit_10 : decode cX7_habit 10 = .ok (.aload_n 0, 1) := by decide +kernel
theorem dX7_habit_11 : decode cX7_habit 11 = .ok (.invokevirtual 145, 3) := by decide +kernel
theorem dX7_habit_14 : decode cX7_habit 14 = .ok (.ifCond .eq 6, 3) := by decide +kernel
theorem dX7_habit_17 : decode cX7_habit 17 = .ok (.ldc 204, 2) := by decide +kernel
theorem dX7_habit_19 : decode cX7_habit 19 = .ok (.ireturn, 1) := by decide +kernel
theorem dX7_habit_20 : decode cX7_habit 20 = .ok (.iconst 0, 1) := by decide +kernel
theorem dX7_habit_21 : decode cX7_habit 21 = .ok (.istore_n 2, 1) := by decide +kernel
theorem dX7_habit_22 : decode cX7_habit 22 = .ok (.iconst 0, 1) := by decide +kernel
theorem dX7_habit_23 : decode cX7_habit 23 = .ok (.istore_n 3, 1) := by decide +kernel
theorem dX7_habit_24 : decode cX7_habit 24 = .ok (.iload_n 3, 1) := by decide +kernel
theorem dX7_habit_25 : decode cX7_habit 25 = .ok (.aload_n 0, 1) := by decide +kernel
theorem dX7_habit_26 : decode cX7_habit 26 = .ok (.getfield 19, 3) := by decide +kernel
theorem dX7_habit_29 : decode cX7_habit 29 = .ok (.getfield 159, 3) := by decide +kernel
theorem dX7_habit_32 : decode cX7_habit 32 = .ok (.if_icmp .ge 29, 3) := by decide +kernel
theorem dX7_habit_35 : decode cX7_habit 35 = .ok (.aload_n 0, 1) := by decide +kernel
theorem dX7_habit_36 : decode cX7_habit 36 = .ok (.getfield 19, 3) := by decide +kernel
theorem dX7_habit_39 : decode cX7_habit 39 = .ok (.iload_n 3, 1) := by decide +kernel
theorem dX7_habit_40 : decode cX7_habit 40 = .ok (.invokevirtual 205, 3) := by decide +kernel
theorem dX7_habit_43 : decode cX7_habit 43 = .ok (.iload_n 1, 1) := by decide +kernel
theorem dX7_habit_44 : decode cX7_habit 44 = .ok (.if_icmp .ne 11, 3) := by decide +kernel
theorem dX7_habit_47 : decode cX7_habit 47 = .ok (.iload_n 2, 1) := by decide +kernel
theorem dX7_habit_48 : decode cX7_habit 48 = .ok (.aload_n 0, 1) := by decide +kernel
theorem dX7_habit_49 : decode cX7_habit 49 = .ok (.iload_n 3, 1) := by decide +kernel
theorem dX7_habit_50 : decode cX7_habit 50 = .ok (.invokevirtual 200, 3) := by decide +kernel
theorem dX7_habit_53 : decode cX7_habit 53 = .ok (.iadd, 1) := by decide +kernel
theorem dX7_habit_54 : decode cX7_habit 54 = .ok (.istore_n 2, 1) := by decide +kernel
theorem dX7_habit_55 : decode cX7_habit 55 = .ok (.iinc 3 1, 3) := by decide +kernel
theorem dX7_habit_58 : decode cX7_habit 58 = .ok (.goto (-34), 3) := by decide +kernel
theorem dX7_habit_61 : decode cX7_habit 61 = .ok (.iload_n 2, 1) := by decide +kernel
theorem dX7_habit_62 : decode cX7_habit 62 = .ok (.ireturn, 1) := by decide +kernel
theorem dX7_write_0 : decode cX7_write 0 = .ok (.iload_n 1, 1) := by decide +kernel
theorem dX7_write_1 : decode cX7_write 1 = .ok (.iconst 1, 1) := by decide +kernel
theorem dX7_write_2 : decode cX7_write 2 = .ok (.if_icmp .lt 9, 3) := by decide +kernel
theorem dX7_write_5 : decode cX7_write 5 = .ok (.iload_n 1, 1) := by decide +kernel
theorem dX7_write_6 : decode cX7_write 6 = .ok (.bipush 8, 2) := by decide +kernel
theorem dX7_write_8 : decode cX7_write 8 = .ok (.if_icmp .le 5, 3) := by decide +kernel
theorem dX7_write_11 : decode cX7_write 11 = .ok (.iconst (-1), 1) := by decide +kernel
theorem dX7_write_12 : decode cX7_write 12 = .ok (.ireturn, 1) := by decide +kernel
theorem dX7_write_13 : decode cX7_write 13 = .ok (.aload_n 0, 1) := by decide +kernel
theorem dX7_write_14 : decode cX7_write 14 = .ok (.getfield 44, 3) := by decide +kernel
theorem dX7_write_17 : decode cX7_write 17 = .ok (.getfield 208, 3) := by decide +kernel
theorem dX7_write_20 : decode cX7_write 20 = .ok (.iload_n 1, 1) := by decide +kernel
theorem dX7_write_21 : decode cX7_write 21 = .ok (.iadd, 1) := by decide +kernel
theorem dX7_write_22 : decode cX7_write 22 = .ok (.sipush 200, 3) := by decide +kernel
theorem dX7_write_25 : decode cX7_write 25 = .ok (.if_icmp .le 6, 3) := by decide +kernel
theorem dX7_write_28 : decode cX7_write 28 = .ok (.bipush (-3), 2) := by decide +kernel
theorem dX7_write_30 : decode cX7_write 30 = .ok (.ireturn, 1) := by decide +kernel
theorem dX7_write_31 : decode cX7_write 31 = .ok (.aload_n 0, 1) := by decide +kernel
theorem dX7_write_32 : decode cX7_write 32 = .ok (.getfield 44, 3) := by decide +kernel
theorem dX7_write_35 : decode cX7_write 35 = .ok (.iload_n 1, 1) := by decide +kernel
theorem dX7_write_36 : decode cX7_write 36 = .ok (.lload_n 2, 1) := by decide +kernel
theorem dX7_write_37 : decode cX7_write 37 = .ok (.invokevirtual 211, 3) := by decide +kernel
theorem dX7_write_40 : decode cX7_write 40 = .ok (.aload_n 0, 1) := by decide +kernel
theorem dX7_write_41 : decode cX7_write 41 = .ok (.getfield 44, 3) := by decide +kernel
theorem dX7_write_44 : decode cX7_write 44 = .ok (.getfield 208, 3) := by decide +kernel
theorem dX7_write_47 : decode cX7_write 47 = .ok (.ireturn, 1) := by decide +kernel
theorem dX7_wipe_0 : decode cX7_wipe 0 = .ok (.aload_n 0, 1) := by decide +kernel
theorem dX7_wipe_1 : decode cX7_wipe 1 = .ok (.getfield 44, 3) := by decide +kernel
theorem dX7_wipe_4 : decode cX7_wipe 4 = .ok (.getfield 208, 3) := by decide +kernel
theorem dX7_wipe_7 : decode cX7_wipe 7 = .ok (.istore_n 1, 1) := by decide +kernel
theorem dX7_wipe_8 : decode cX7_wipe 8 = .ok (.aload_n 0, 1) := by decide +kernel
theorem dX7_wipe_9 : decode cX7_wipe 9 = .ok (.getfield 44, 3) := by decide +kernel
theorem dX7_wipe_12 : decode cX7_wipe 12 = .ok (.iconst 0, 1) := by decide +kernel
theorem dX7_wipe_13 : decode cX7_wipe 13 = .ok (.putfield 208, 3) := by decide +kernel
theorem dX7_wipe_16 : decode cX7_wipe 16 = .ok (.iload_n 1, 1) := by decide +kernel
theorem dX7_wipe_17 : decode cX7_wipe 17 = .ok (.ireturn, 1) := by decide +kernel
theorem dX7_fault_0 : decode cX7_fault 0 = .ok (.aload_n 0, 1) := by decide +kernel
theorem dX7_fault_1 : decode cX7_fault 1 = .ok (.getfield 62, 3) := by decide +kernel
theorem dX7_fault_4 : decode cX7_fault 4 = .ok (.aload_n 0, 1) := by decide +kernel
theorem dX7_fault_5 : decode cX7_fault 5 = .ok (.getfield 44, 3) := by decide +kernel
theorem dX7_fault_8 : decode cX7_fault 8 = .ok (.invokevirtual 215, 3) := by decide +kernel
theorem dX7_fault_11 : decode cX7_fault 11 = .ok (.ireturn, 1) := by decide +kernel
theorem dX7_force_0 : decode cX7_force 0 = .ok (.aload_n 0, 1) := by decide +kernel
theorem dX7_force_1 : decode cX7_force 1 = .ok (.getfield 62, 3) := by decide +kernel
theorem dX7_force_4 : decode cX7_force 4 = .ok (.aload_n 0, 1) := by decide +kernel
theorem dX7_force_5 : decode cX7_force 5 = .ok (.getfield 44, 3) := by decide +kernel
theorem dX7_force_8 : decode cX7_force 8 = .ok (.invokevirtual 215, 3) := by decide +kernel
theorem dX7_force_11 : decode cX7_force 11 = .ok (.bipush (-4), 2) := by decide +kernel
theorem dX7_force_13 : decode cX7_force 13 = .ok (.if_icmp .eq 6, 3) := by decide +kernel
theorem dX7_force_16 : decode cX7_force 16 = .ok (.bipush (-2), 2) := by decide +kernel
theorem dX7_force_18 : decode cX7_force 18 = .ok (.ireturn, 1) := by decide +kernel
theorem dX7_force_19 : decode cX7_force 19 = .ok (.aload_n 0, 1) := by decide +kernel
theorem dX7_force_20 : decode cX7_force 20 = .ok (.getfield 58, 3) := by decide +kernel
theorem dX7_force_23 : decode cX7_force 23 = .ok (.astore_n 1, 1) := by decide +kernel
theorem dX7_force_24 : decode cX7_force 24 = .ok (.aload_n 0, 1) := by decide +kernel
theorem dX7_force_25 : decode cX7_force 25 = .ok (.aload_n 0, 1) := by decide +kernel
theorem dX7_force_26 : decode cX7_force 26 = .ok (.getfield 62, 3) := by decide +kernel
theorem dX7_force_29 : decode cX7_force 29 = .ok (.putfield 58, 3) := by decide +kernel
theorem dX7_force_32 : decode cX7_force 32 = .ok (.aload_n 0, 1) := by decide +kernel
theorem dX7_force_33 : decode cX7_force 33 = .ok (.aload_n 1, 1) := by decide +kernel
theorem dX7_force_34 : decode cX7_force 34 = .ok (.putfield 62, 3) := by decide +kernel
theorem dX7_force_37 : decode cX7_force 37 = .ok (.aload_n 0, 1) := by decide +kernel
theorem dX7_force_38 : decode cX7_force 38 = .ok (.getfield 58, 3) := by decide +kernel
theorem dX7_force_41 : decode cX7_force 41 = .ok (.getfield 219, 3) := by decide +kernel
theorem dX7_force_44 : decode cX7_force 44 = .ok (.ireturn, 1) := by decide +kernel
theorem dX7_rule_0 : decode cX7_rule 0 = .ok (.iload_n 1, 1) := by decide +kernel
theorem dX7_rule_1 : decode cX7_rule 1 = .ok (.iload_n 2, 1) := by decide +kernel
theorem dX7_rule_2 : decode cX7_rule 2 = .ok (.invokestatic 222, 3) := by decide +kernel
theorem dX7_rule_5 : decode cX7_rule 5 = .ok (.ifCond .eq 10, 3) := by decide +kernel
theorem dX7_rule_8 : decode cX7_rule 8 = .ok (.iload_n 3, 1) := by decide +kernel
theorem dX7_rule_9 : decode cX7_rule 9 = .ok (.invokestatic 130, 3) := by decide +kernel
theorem dX7_rule_12 : decode cX7_rule 12 = .ok (.ifCond .ne 5, 3) := by decide +kernel
theorem dX7_rule_15 : decode cX7_rule 15 = .ok (.iconst (-1), 1) := by decide +kernel
theorem dX7_rule_16 : decode cX7_rule 16 = .ok (.ireturn, 1) := by decide +kernel
theorem dX7_rule_17 : decode cX7_rule 17 = .ok (.aload_n 0, 1) := by decide +kernel
theorem dX7_rule_18 : decode cX7_rule 18 = .ok (.getfield 58, 3) := by decide +kernel
theorem dX7_rule_21 : decode cX7_rule 21 = .ok (.iload_n 1, 1) := by decide +kernel
theorem dX7_rule_22 : decode cX7_rule 22 = .ok (.iload_n 2, 1) := by decide +kernel
theorem dX7_rule_23 : decode cX7_rule 23 = .ok (.iload_n 3, 1) := by decide +kernel
theorem dX7_rule_24 : decode cX7_rule 24 = .ok (.invokevirtual 225, 3) := by decide +kernel
theorem dX7_rule_27 : decode cX7_rule 27 = .ok (.ireturn, 1) := by decide +kernel
theorem dX7_why_0 : decode cX7_why 0 = .ok (.iload_n 1, 1) := by decide +kernel
theorem dX7_why_1 : decode cX7_why 1 = .ok (.iload_n 2, 1) := by decide +kernel
theorem dX7_why_2 : decode cX7_why 2 = .ok (.invokestatic 222, 3) := by decide +kernel
theorem dX7_why_5 : decode cX7_why 5 = .ok (.ifCond .eq 10, 3) := by decide +kernel
theorem dX7_why_8 : decode cX7_why 8 = .ok (.iload_n 3, 1) := by decide +kernel
theorem dX7_why_9 : decode cX7_why 9 = .ok (.invokestatic 130, 3) := by decide +kernel
theorem dX7_why_12 : decode cX7_why 12 = .ok (.ifCond .ne 5, 3) := by decide +kernel
theorem dX7_why_15 : decode cX7_why 15 = .ok (.iconst (-1), 1) := by decide +kernel
theorem dX7_why_16 : decode cX7_why 16 = .ok (.ireturn, 1) := by decide +kernel
theorem dX7_why_17 : decode cX7_why 17 = .ok (.aload_n 0, 1) := by decide +kernel
theorem dX7_why_18 : decode cX7_why 18 = .ok (.getfield 58, 3) := by decide +kernel
theorem dX7_why_21 : decode cX7_why 21 = .ok (.iload_n 1, 1) := by decide +kernel
theorem dX7_why_22 : decode cX7_why 22 = .ok (.iload_n 2, 1) := by decide +kernel
theorem dX7_why_23 : decode cX7_why 23 = .ok (.iload_n 3, 1) := by decide +kernel
theorem dX7_why_24 : decode cX7_why 24 = .ok (.invokevirtual 228, 3) := by decide +kernel
theorem dX7_why_27 : decode cX7_why 27 = .ok (.ireturn, 1) := by decide +kernel
theorem dX7_quarrel_0 : decode cX7_quarrel 0 = .ok (.aload_n 0, 1) := by decide +kernel
theorem dX7_quarrel_1 : decode cX7_quarrel 1 = .ok (.getfield 58, 3) := by decide +kernel
theorem dX7_quarrel_4 : decode cX7_quarrel 4 = .ok (.invokevirtual 231, 3) := by decide +kernel
theorem dX7_quarrel_7 : decode cX7_quarrel 7 = .ok (.ireturn, 1) := by decide +kernel
theorem dX7_closet_0 : decode cX7_closet 0 = .ok (.iload_n 1, 1) := by decide +kernel
theorem dX7_closet_1 : decode cX7_closet 1 = .ok (.invokestatic 79, 3) := by decide +kernel
theorem dX7_closet_4 : decode cX7_closet 4 = .ok (.ifCond .ne 5, 3) := by decide +kernel
theorem dX7_closet_7 : decode cX7_closet 7 = .ok (.iconst (-1), 1) := by decide +kernel
theorem dX7_closet_8 : decode cX7_closet 8 = .ok (.ireturn, 1) := by decide +kernel
theorem dX7_closet_9 : decode cX7_closet 9 = .ok (.aload_n 0, 1) := by decide +kernel
theorem dX7_closet_10 : decode cX7_closet 10 = .ok (.getfield 72, 3) := by decide +kernel
theorem dX7_closet_13 : decode cX7_closet 13 = .ok (.istore_n 2, 1) := by decide +kernel
theorem dX7_closet_14 : decode cX7_closet 14 = .ok (.aload_n 0, 1) := by decide +kernel
theorem dX7_closet_15 : decode cX7_closet 15 = .ok (.iload_n 1, 1) := by decide +kernel
theorem dX7_closet_16 : decode cX7_closet 16 = .ok (.putfield 72, 3) := by decide +kernel
theorem dX7_closet_19 : decode cX7_closet 19 = .ok (.iload_n 2, 1) := by decide +kernel
theorem dX7_closet_20 : decode cX7_closet 20 = .ok (.ireturn, 1) := by decide +kernel
theorem dX7_came_0 : decode cX7_came 0 = .ok (.aload_n 0, 1) := by decide +kernel
theorem dX7_came_1 : decode cX7_came 1 = .ok (.iload_n 1, 1) := by decide +kernel
theorem dX7_came_2 : decode cX7_came 2 = .ok (.invokevirtual 170, 3) := by decide +kernel
theorem dX7_came_5 : decode cX7_came 5 = .ok (.ifCond .ne 5, 3) := by decide +kernel
theorem dX7_came_8 : decode cX7_came 8 = .ok (.iconst (-1), 1) := by decide +kernel
theorem dX7_came_9 : decode cX7_came 9 = .ok (.ireturn, 1) := by decide +kernel
theorem dX7_came_10 : decode cX7_came 10 = .ok (.aload_n 0, 1) := by decide +kernel
theorem dX7_came_11 : decode cX7_came 11 = .ok (.invokevirtual 145, 3) := by decide +kernel
theorem dX7_came_14 : decode cX7_came 14 = .ok (.ifCond .eq 6, 3) := by decide +kernel
theorem dX7_came_17 : decode cX7_came 17 = .ok (.bipush (-2), 2) := by decide +kernel
theorem dX7_came_19 : decode cX7_came 19 = .ok (.ireturn, 1) := by decide +kernel
theorem dX7_came_20 : decode cX7_came 20 = .ok (.aload_n 0, 1) := by decide +kernel
theorem dX7_came_21 : decode cX7_came 21 = .ok (.iload_n 1, 1) := by decide +kernel
theorem dX7_came_22 : decode cX7_came 22 = .ok (.invokevirtual 235, 3) := by decide +kernel
theorem dX7_came_25 : decode cX7_came 25 = .ok (.ireturn, 1) := by decide +kernel
theorem dX7_belief_0 : decode cX7_belief 0 = .ok (.iload_n 1, 1) := by decide +kernel
theorem dX7_belief_1 : decode cX7_belief 1 = .ok (.invokestatic 127, 3) := by decide +kernel
theorem dX7_belief_4 : decode cX7_belief 4 = .ok (.ifCond .eq 19, 3) := by decide +kernel
theorem dX7_belief_7 : decode cX7_belief 7 = .ok (.iload_n 2, 1) := by decide +kernel
theorem dX7_belief_8 : decode cX7_belief 8 = .ok (.invokestatic 130, 3) := by decide +kernel
theorem dX7_belief_11 : decode cX7_belief 11 = .ok (.ifCond .eq 12, 3) := by decide +kernel
theorem dX7_belief_14 : decode cX7_belief 14 = .ok (.iload_n 3, 1) := by decide +kernel
theorem dX7_belief_15 : decode cX7_belief 15 = .ok (.ifCond .lt 8, 3) := by decide +kernel
theorem dX7_belief_18 : decode cX7_belief 18 = .ok (.iload_n 3, 1) := by decide +kernel
theorem dX7_belief_19 : decode cX7_belief 19 = .ok (.iconst 1, 1) := by decide +kernel
theorem dX7_belief_20 : decode cX7_belief 20 = .ok (.if_icmp .le 6, 3) := by decide +kernel
theorem dX7_belief_23 : decode cX7_belief 23 = .ok (.ldc 203, 2) := by decide +kernel
theorem dX7_belief_25 : decode cX7_belief 25 = .ok (.ireturn, 1) := by decide +kernel
theorem dX7_belief_26 : decode cX7_belief 26 = .ok (.aload_n 0, 1) := by decide +kernel
theorem dX7_belief_27 : decode cX7_belief 27 = .ok (.invokevirtual 145, 3) := by decide +kernel
theorem dX7_belief_30 : decode cX7_belief 30 = .ok (.ifCond .eq 6, 3) := by decide +kernel
theorem dX7_belief_33 : decode cX7_belief 33 = .ok (.ldc 204, 2) := by decide +kernel
theorem dX7_belief_35 : decode cX7_belief 35 = .ok (.ireturn, 1) := by decide +kernel
theorem dX7_belief_36 : decode cX7_belief 36 = .ok (.aload_n 0, 1) := by decide +kernel
theorem dX7_belief_37 : decode cX7_belief 37 = .ok (.iload_n 1, 1) := by decide +kernel
theorem dX7_belief_38 : decode cX7_belief 38 = .ok (.iload_n 2, 1) := by decide +kernel
theorem dX7_belief_39 : decode cX7_belief 39 = .ok (.invokevirtual 238, 3) := by decide +kernel
theorem dX7_belief_42 : decode cX7_belief 42 = .ok (.istore 4, 2) := by decide +kernel
theorem dX7_belief_44 : decode cX7_belief 44 = .ok (.iload_n 3, 1) := by decide +kernel
theorem dX7_belief_45 : decode cX7_belief 45 = .ok (.ifCond .ne 6, 3) := by decide +kernel
theorem dX7_belief_48 : decode cX7_belief 48 = .ok (.iload 4, 2) := by decide +kernel
theorem dX7_belief_50 : decode cX7_belief 50 = .ok (.ireturn, 1) := by decide +kernel
theorem dX7_belief_51 : decode cX7_belief 51 = .ok (.iload 4, 2) := by decide +kernel
theorem dX7_belief_53 : decode cX7_belief 53 = .ok (.aload_n 0, 1) := by decide +kernel
theorem dX7_belief_54 : decode cX7_belief 54 = .ok (.getfield 58, 3) := by decide +kernel
theorem dX7_belief_57 : decode cX7_belief 57 = .ok (.iconst 3, 1) := by decide +kernel
theorem dX7_belief_58 : decode cX7_belief 58 = .ok (.iconst 0, 1) := by decide +kernel
theorem dX7_belief_59 : decode cX7_belief 59 = .ok (.iload_n 2, 1) := by decide +kernel
theorem dX7_belief_60 : decode cX7_belief 60 = .ok (.invokevirtual 225, 3) := by decide +kernel
theorem dX7_belief_63 : decode cX7_belief 63 = .ok (.if_icmp .lt 7, 3) := by decide +kernel
theorem dX7_belief_66 : decode cX7_belief 66 = .ok (.iconst 1, 1) := by decide +kernel
theorem dX7_belief_67 : decode cX7_belief 67 = .ok (.goto 4, 3) := by decide +kernel
theorem dX7_belief_70 : decode cX7_belief 70 = .ok (.iconst 0, 1) := by decide +kernel
theorem dX7_belief_71 : decode cX7_belief 71 = .ok (.ireturn, 1) := by decide +kernel
theorem dX7_banned_0 : decode cX7_banned 0 = .ok (.iload_n 1, 1) := by decide +kernel
theorem dX7_banned_1 : decode cX7_banned 1 = .ok (.iconst (-1), 1) := by decide +kernel
theorem dX7_banned_2 : decode cX7_banned 2 = .ok (.if_icmp .ge 5, 3) := by decide +kernel
theorem dX7_banned_5 : decode cX7_banned 5 = .ok (.iconst (-1), 1) := by decide +kernel
theorem dX7_banned_6 : decode cX7_banned 6 = .ok (.ireturn, 1) := by decide +kernel
theorem dX7_banned_7 : decode cX7_banned 7 = .ok (.aload_n 0, 1) := by decide +kernel
theorem dX7_banned_8 : decode cX7_banned 8 = .ok (.invokevirtual 145, 3) := by decide +kernel
theorem dX7_banned_11 : decode cX7_banned 11 = .ok (.ifCond .eq 6, 3) := by decide +kernel
theorem dX7_banned_14 : decode cX7_banned 14 = .ok (.bipush (-2), 2) := by decide +kernel
theorem dX7_banned_16 : decode cX7_banned 16 = .ok (.ireturn, 1) := by decide +kernel
theorem dX7_banned_17 : decode cX7_banned 17 = .ok (.iconst 0, 1) := by decide +kernel
theorem dX7_banned_18 : decode cX7_banned 18 = .ok (.istore_n 2, 1) := by decide +kernel
theorem dX7_banned_19 : decode cX7_banned 19 = .ok (.iconst 0, 1) := by decide +kernel
theorem dX7_banned_20 : decode cX7_banned 20 = .ok (.istore_n 3, 1) := by decide +kernel
theorem dX7_banned_21 : decode cX7_banned 21 = .ok (.iload_n 3, 1) := by decide +kernel
theorem dX7_banned_22 : decode cX7_banned 22 = .ok (.aload_n 0, 1) := by decide +kernel
theorem dX7_banned_23 : decode cX7_banned 23 = .ok (.getfield 19, 3) := by decide +kernel
theorem dX7_banned_26 : decode cX7_banned 26 = .ok (.getfield 159, 3) := by decide +kernel
theorem dX7_banned_29 : decode cX7_banned 29 = .ok (.if_icmp .ge 30, 3) := by decide +kernel
theorem dX7_banned_32 : decode cX7_banned 32 = .ok (.aload_n 0, 1) := by decide +kernel
theorem dX7_banned_33 : decode cX7_banned 33 = .ok (.iload_n 3, 1) := by decide +kernel
theorem dX7_banned_34 : decode cX7_banned 34 = .ok (.invokevirtual 241, 3) := by decide +kernel
theorem dX7_banned_37 : decode cX7_banned 37 = .ok (.ifCond .ne 6, 3) := by decide +kernel
theorem dX7_banned_40 : decode cX7_banned 40 = .ok (.goto 13, 3) := by decide +kernel
theorem dX7_banned_43 : decode cX7_banned 43 = .ok (.iload_n 2, 1) := by decide +kernel
theorem dX7_banned_44 : decode cX7_banned 44 = .ok (.iload_n 1, 1) := by decide +kernel
theorem dX7_banned_45 : decode cX7_banned 45 = .ok (.if_icmp .ne 5, 3) := by decide +kernel
theorem dX7_banned_48 : decode cX7_banned 48 = .ok (.iload_n 3, 1) := by decide +kernel
theorem dX7_banned_49 : decode cX7_banned 49 = .ok (.ireturn, 1) := by decide +kernel
theorem dX7_banned_50 : decode cX7_banned 50 = .ok (.iinc 2 1, 3) := by decide +kernel
theorem dX7_banned_53 : decode cX7_banned 53 = .ok (.iinc 3 1, 3) := by decide +kernel
theorem dX7_banned_56 : decode cX7_banned 56 = .ok (.goto (-35), 3) := by decide +kernel
theorem dX7_banned_59 : decode cX7_banned 59 = .ok (.iload_n 1, 1) := by decide +kernel
theorem dX7_banned_60 : decode cX7_banned 60 = .ok (.iconst (-1), 1) := by decide +kernel
theorem dX7_banned_61 : decode cX7_banned 61 = .ok (.if_icmp .ne 7, 3) := by decide +kernel
theorem dX7_banned_64 : decode cX7_banned 64 = .ok (.iload_n 2, 1) := by decide +kernel
theorem dX7_banned_65 : decode cX7_banned 65 = .ok (.goto 5, 3) := by decide +kernel
theorem dX7_banned_68 : decode cX7_banned 68 = .ok (.bipush (-4), 2) := by decide +kernel
theorem dX7_banned_70 : decode cX7_banned 70 = .ok (.ireturn, 1) := by decide +kernel
theorem dX7_truth_0 : decode cX7_truth 0 = .ok (.iload_n 1, 1) := by decide +kernel
theorem dX7_truth_1 : decode cX7_truth 1 = .ok (.invokestatic 127, 3) := by decide +kernel
theorem dX7_truth_4 : decode cX7_truth 4 = .ok (.ifCond .eq 15, 3) := by decide +kernel
theorem dX7_truth_7 : decode cX7_truth 7 = .ok (.iload_n 2, 1) := by decide +kernel
theorem dX7_truth_8 : decode cX7_truth 8 = .ok (.iconst (-1), 1) := by decide +kernel
theorem dX7_truth_9 : decode cX7_truth 9 = .ok (.if_icmp .lt 10, 3) := by decide +kernel
theorem dX7_truth_12 : decode cX7_truth 12 = .ok (.iload_n 2, 1) := by decide +kernel
theorem dX7_truth_13 : decode cX7_truth 13 = .ok (.sipush 9999, 3) := by decide +kernel
theorem dX7_truth_16 : decode cX7_truth 16 = .ok (.if_icmp .le 6, 3) := by decide +kernel
theorem dX7_truth_19 : decode cX7_truth 19 = .ok (.bipush (-100), 2) := by decide +kernel
theorem dX7_truth_21 : decode cX7_truth 21 = .ok (.ireturn, 1) := by decide +kernel
theorem dX7_truth_22 : decode cX7_truth 22 = .ok (.aload_n 0, 1) := by decide +kernel
theorem dX7_truth_23 : decode cX7_truth 23 = .ok (.getfield 19, 3) := by decide +kernel
theorem dX7_truth_26 : decode cX7_truth 26 = .ok (.getfield 244, 3) := by decide +kernel
theorem dX7_truth_29 : decode cX7_truth 29 = .ok (.iload_n 1, 1) := by decide +kernel
theorem dX7_truth_30 : decode cX7_truth 30 = .ok (.iaload, 1) := by decide +kernel
theorem dX7_truth_31 : decode cX7_truth 31 = .ok (.istore_n 3, 1) := by decide +kernel
theorem dX7_truth_32 : decode cX7_truth 32 = .ok (.aload_n 0, 1) := by decide +kernel
theorem dX7_truth_33 : decode cX7_truth 33 = .ok (.getfield 19, 3) := by decide +kernel
theorem dX7_truth_36 : decode cX7_truth 36 = .ok (.getfield 244, 3) := by decide +kernel
theorem dX7_truth_39 : decode cX7_truth 39 = .ok (.iload_n 1, 1) := by decide +kernel
theorem dX7_truth_40 : decode cX7_truth 40 = .ok (.iload_n 2, 1) := by decide +kernel
theorem dX7_truth_41 : decode cX7_truth 41 = .ok (.iastore, 1) := by decide +kernel
theorem dX7_truth_42 : decode cX7_truth 42 = .ok (.iload_n 3, 1) := by decide +kernel
theorem dX7_truth_43 : decode cX7_truth 43 = .ok (.ireturn, 1) := by decide +kernel
theorem dX7_right_0 : decode cX7_right 0 = .ok (.iload_n 1, 1) := by decide +kernel
theorem dX7_right_1 : decode cX7_right 1 = .ok (.invokestatic 101, 3) := by decide +kernel
theorem dX7_right_4 : decode cX7_right 4 = .ok (.ifCond .eq 12, 3) := by decide +kernel
theorem dX7_right_7 : decode cX7_right 7 = .ok (.iload_n 2, 1) := by decide +kernel
theorem dX7_right_8 : decode cX7_right 8 = .ok (.ifCond .lt 8, 3) := by decide +kernel
theorem dX7_right_11 : decode cX7_right 11 = .ok (.iload_n 2, 1) := by decide +kernel
theorem dX7_right_12 : decode cX7_right 12 = .ok (.iconst 2, 1) := by decide +kernel
theorem dX7_right_13 : decode cX7_right 13 = .ok (.if_icmp .le 5, 3) := by decide +kernel
theorem dX7_right_16 : decode cX7_right 16 = .ok (.iconst (-1), 1) := by decide +kernel
theorem dX7_right_17 : decode cX7_right 17 = .ok (.ireturn, 1) := by decide +kernel
theorem dX7_right_18 : decode cX7_right 18 = .ok (.aload_n 0, 1) := by decide +kernel
theorem dX7_right_19 : decode cX7_right 19 = .ok (.invokevirtual 145, 3) := by decide +kernel
theorem dX7_right_22 : decode cX7_right 22 = .ok (.ifCond .eq 6, 3) := by decide +kernel
theorem dX7_right_25 : decode cX7_right 25 = .ok (.bipush (-2), 2) := by decide +kernel
theorem dX7_right_27 : decode cX7_right 27 = .ok (.ireturn, 1) := by decide +kernel
theorem dX7_right_28 : decode cX7_right 28 = .ok (.iconst 0, 1) := by decide +kernel
theorem dX7_right_29 : decode cX7_right 29 = .ok (.istore_n 3, 1) := by decide +kernel
theorem dX7_right_30 : decode cX7_right 30 = .ok (.iconst 0, 1) := by decide +kernel
theorem dX7_right_31 : decode cX7_right 31 = .ok (.istore 4, 2) := by decide +kernel
theorem dX7_right_33 : decode cX7_right 33 = .ok (.iload 4, 2) := by decide +kernel
theorem dX7_right_35 : decode cX7_right 35 = .ok (.aload_n 0, 1) := by decide +kernel
theorem dX7_right_36 : decode cX7_right 36 = .ok (.getfield 19, 3) := by decide +kernel
theorem dX7_right_39 : decode cX7_right 39 = .ok (.getfield 159, 3) := by decide +kernel
theorem dX7_right_42 : decode cX7_right 42 = .ok (.if_icmp .ge 41, 3) := by decide +kernel
theorem dX7_right_45 : decode cX7_right 45 = .ok (.aload_n 0, 1) := by decide +kernel
theorem dX7_right_46 : decode cX7_right 46 = .ok (.getfield 19, 3) := by decide +kernel
theorem dX7_right_49 : decode cX7_right 49 = .ok (.iload 4, 2) := by decide +kernel
theorem dX7_right_51 : decode cX7_right 51 = .ok (.invokevirtual 205, 3) := by decide +kernel
theorem dX7_right_54 : decode cX7_right 54 = .ok (.iload_n 1, 1) := by decide +kernel
theorem dX7_right_55 : decode cX7_right 55 = .ok (.if_icmp .ne 22, 3) := by decide +kernel
theorem dX7_right_58 : decode cX7_right 58 = .ok (.aload_n 0, 1) := by decide +kernel
theorem dX7_right_59 : decode cX7_right 59 = .ok (.iload 4, 2) := by decide +kernel
theorem dX7_right_61 : decode cX7_right 61 = .ok (.invokevirtual 247, 3) := by decide +kernel
theorem dX7_right_64 : decode cX7_right 64 = .ok (.ifCond .eq 13, 3) := by decide +kernel
theorem dX7_right_67 : decode cX7_right 67 = .ok (.iload_n 3, 1) := by decide +kernel
theorem dX7_right_68 : decode cX7_right 68 = .ok (.aload_n 0, 1) := by decide +kernel
theorem dX7_right_69 : decode cX7_right 69 = .ok (.iload 4, 2) := by decide +kernel
theorem dX7_right_71 : decode cX7_right 71 = .ok (.iload_n 2, 1) := by decide +kernel
theorem dX7_right_72 : decode cX7_right 72 = .ok (.invokevirtual 250, 3) := by decide +kernel
theorem dX7_right_75 : decode cX7_right 75 = .ok (.iadd, 1) := by decide +kernel
theorem dX7_right_76 : decode cX7_right 76 = .ok (.istore_n 3, 1) := by decide +kernel
theorem dX7_right_77 : decode cX7_right 77 = .ok (.iinc 4 1, 3) := by decide +kernel
theorem dX7_right_80 : decode cX7_right 80 = .ok (.goto (-47), 3) := by decide +kernel
theorem dX7_right_83 : decode cX7_right 83 = .ok (.iload_n 3, 1) := by decide +kernel
theorem dX7_right_84 : decode cX7_right 84 = .ok (.ireturn, 1) := by decide +kernel
theorem dX7_beyond_0 : decode cX7_beyond 0 = .ok (.iload_n 1, 1) := by decide +kernel
theorem dX7_beyond_1 : decode cX7_beyond 1 = .ok (.iconst 1, 1) := by decide +kernel
theorem dX7_beyond_2 : decode cX7_beyond 2 = .ok (.if_icmp .lt 29, 3) := by decide +kernel
theorem dX7_beyond_5 : decode cX7_beyond 5 = .ok (.iload_n 1, 1) := by decide +kernel
theorem dX7_beyond_6 : decode cX7_beyond 6 = .ok (.bipush 15, 2) := by decide +kernel
theorem dX7_beyond_8 : decode cX7_beyond 8 = .ok (.if_icmp .gt 23, 3) := by decide +kernel
theorem dX7_beyond_11 : decode cX7_beyond 11 = .ok (.iload_n 3, 1) := by decide +kernel
theorem dX7_beyond_12 : decode cX7_beyond 12 = .ok (.iconst 2, 1) := by decide +kernel
theorem dX7_beyond_13 : decode cX7_beyond 13 = .ok (.if_icmp .lt 18, 3) := by decide +kernel
theorem dX7_beyond_16 : decode cX7_beyond 16 = .ok (.iload_n 3, 1) := by decide +kernel
theorem dX7_beyond_17 : decode cX7_beyond 17 = .ok (.bipush 10, 2) := by decide +kernel
theorem dX7_beyond_19 : decode cX7_beyond 19 = .ok (.if_icmp .gt 12, 3) := by decide +kernel
theorem dX7_beyond_22 : decode cX7_beyond 22 = .ok (.iload_n 2, 1) := by decide +kernel
theorem dX7_beyond_23 : decode cX7_beyond 23 = .ok (.ifCond .lt 8, 3) := by decide +kernel
theorem dX7_beyond_26 : decode cX7_beyond 26 = .ok (.iload_n 2, 1) := by decide +kernel
theorem dX7_beyond_27 : decode cX7_beyond 27 = .ok (.iload_n 1, 1) := by decide +kernel
theorem dX7_beyond_28 : decode cX7_beyond 28 = .ok (.if_icmp .le 7, 3) := by decide +kernel
theorem dX7_beyond_31 : decode cX7_beyond 31 = .ok (.ldc2_w 253, 3) := by decide +kernel
theorem dX7_beyond_34 : decode cX7_beyond 34 = .ok (.lreturn, 1) := by decide +kernel
theorem dX7_beyond_35 : decode cX7_beyond 35 = .ok (.lconst 0, 1) := by decide +kernel
theorem dX7_beyond_36 : decode cX7_beyond 36 = .ok (.lstore 4, 2) := by decide +kernel
theorem dX7_beyond_38 : decode cX7_beyond 38 = .ok (.iload_n 2, 1) := by decide +kernel
theorem dX7_beyond_39 : decode cX7_beyond 39 = .ok (.istore 6, 2) := by decide +kernel
theorem dX7_beyond_41 : decode cX7_beyond 41 = .ok (.iload 6, 2) := by decide +kernel
theorem dX7_beyond_43 : decode cX7_beyond 43 = .ok (.iload_n 1, 1) := by decide +kernel
theorem dX7_beyond_44 : decode cX7_beyond 44 = .ok (.if_icmp .gt 31, 3) := by decide +kernel
theorem dX7_beyond_47 : decode cX7_beyond 47 = .ok (.lload 4, 2) := by decide +kernel
theorem dX7_beyond_49 : decode cX7_beyond 49 = .ok (.iload_n 1, 1) := by decide +kernel
theorem dX7_beyond_50 : decode cX7_beyond 50 = .ok (.iload 6, 2) := by decide +kernel
theorem dX7_beyond_52 : decode cX7_beyond 52 = .ok (.invokestatic 255, 3) := by decide +kernel
theorem dX7_beyond_55 : decode cX7_beyond 55 = .ok (.iload_n 3, 1) := by decide +kernel
theorem dX7_beyond_56 : decode cX7_beyond 56 = .ok (.iconst 1, 1) := by decide +kernel
theorem dX7_beyond_57 : decode cX7_beyond 57 = .ok (.isub, 1) := by decide +kernel
theorem dX7_beyond_58 : decode cX7_beyond 58 = .ok (.iload_n 1, 1) := by decide +kernel
theorem dX7_beyond_59 : decode cX7_beyond 59 = .ok (.iload 6, 2) := by decide +kernel
theorem dX7_beyond_61 : decode cX7_beyond 61 = .ok (.isub, 1) := by decide +kernel
theorem dX7_beyond_62 : decode cX7_beyond 62 = .ok (.invokestatic 259, 3) := by decide +kernel
theorem dX7_beyond_65 : decode cX7_beyond 65 = .ok (.lmul, 1) := by decide +kernel
theorem dX7_beyond_66 : decode cX7_beyond 66 = .ok (.ladd, 1) := by decide +kernel
theorem dX7_beyond_67 : decode cX7_beyond 67 = .ok (.lstore 4, 2) := by decide +kernel
theorem dX7_beyond_69 : decode cX7_beyond 69 = .ok (.iinc 6 1, 3) := by decide +kernel
theorem dX7_beyond_72 : decode cX7_beyond 72 = .ok (.goto (-31), 3) := by decide +kernel
theorem dX7_beyond_75 : decode cX7_beyond 75 = .ok (.lload 4, 2) := by decide +kernel
theorem dX7_beyond_77 : decode cX7_beyond 77 = .ok (.lreturn, 1) := by decide +kernel
theorem dX7_known_0 : decode cX7_known 0 = .ok (.iload_n 1, 1) := by decide +kernel
theorem dX7_known_1 : decode cX7_known 1 = .ok (.invokestatic 127, 3) := by decide +kernel
theorem dX7_known_4 : decode cX7_known 4 = .ok (.ifCond .eq 19, 3) := by decide +kernel
theorem dX7_known_7 : decode cX7_known 7 = .ok (.iload_n 2, 1) := by decide +kernel
theorem dX7_known_8 : decode cX7_known 8 = .ok (.invokestatic 79, 3) := by decide +kernel
theorem dX7_known_11 : decode cX7_known 11 = .ok (.ifCond .eq 12, 3) := by decide +kernel
theorem dX7_known_14 : decode cX7_known 14 = .ok (.iload_n 3, 1) := by decide +kernel
theorem dX7_known_15 : decode cX7_known 15 = .ok (.ifCond .lt 8, 3) := by decide +kernel
theorem dX7_known_18 : decode cX7_known 18 = .ok (.iload_n 3, 1) := by decide +kernel
theorem dX7_known_19 : decode cX7_known 19 = .ok (.iconst 1, 1) := by decide +kernel
theorem dX7_known_20 : decode cX7_known 20 = .ok (.if_icmp .le 5, 3) := by decide +kernel
theorem dX7_known_23 : decode cX7_known 23 = .ok (.iconst (-1), 1) := by decide +kernel
theorem dX7_known_24 : decode cX7_known 24 = .ok (.ireturn, 1) := by decide +kernel
theorem dX7_known_25 : decode cX7_known 25 = .ok (.aload_n 0, 1) := by decide +kernel
theorem dX7_known_26 : decode cX7_known 26 = .ok (.getfield 19, 3) := by decide +kernel
theorem dX7_known_29 : decode cX7_known 29 = .ok (.iload_n 1, 1) := by decide +kernel
theorem dX7_known_30 : decode cX7_known 30 = .ok (.invokevirtual 133, 3) := by decide +kernel
theorem dX7_known_33 : decode cX7_known 33 = .ok (.ifCond .ne 6, 3) := by decide +kernel
theorem dX7_known_36 : decode cX7_known 36 = .ok (.bipush (-2), 2) := by decide +kernel
theorem dX7_known_38 : decode cX7_known 38 = .ok (.ireturn, 1) := by decide +kernel
theorem dX7_known_39 : decode cX7_known 39 = .ok (.aload_n 0, 1) := by decide +kernel
theorem dX7_known_40 : decode cX7_known 40 = .ok (.iload_n 1, 1) := by decide +kernel
theorem dX7_known_41 : decode cX7_known 41 = .ok (.iload_n 2, 1) := by decide +kernel
theorem dX7_known_42 : decode cX7_known 42 = .ok (.invokevirtual 262, 3) := by decide +kernel
theorem dX7_known_45 : decode cX7_known 45 = .ok (.istore 4, 2) := by decide +kernel
theorem dX7_known_47 : decode cX7_known 47 = .ok (.iload_n 3, 1) := by decide +kernel
theorem dX7_known_48 : decode cX7_known 48 = .ok (.ifCond .eq 10, 3) := by decide +kernel
theorem dX7_known_51 : decode cX7_known 51 = .ok (.iload 4, 2) := by decide +kernel
theorem dX7_known_53 : decode cX7_known 53 = .ok (.bipush (-4), 2) := by decide +kernel
theorem dX7_known_55 : decode cX7_known 55 = .ok (.if_icmp .ne 6, 3) := by decide +kernel
theorem dX7_known_58 : decode cX7_known 58 = .ok (.iload 4, 2) := by decide +kernel
theorem dX7_known_60 : decode cX7_known 60 = .ok (.ireturn, 1) := by decide +kernel
theorem dX7_known_61 : decode cX7_known 61 = .ok (.aload_n 0, 1) := by decide +kernel
theorem dX7_known_62 : decode cX7_known 62 = .ok (.iload_n 1, 1) := by decide +kernel
theorem dX7_known_63 : decode cX7_known 63 = .ok (.iload 4, 2) := by decide +kernel
theorem dX7_known_65 : decode cX7_known 65 = .ok (.invokevirtual 265, 3) := by decide +kernel
theorem dX7_known_68 : decode cX7_known 68 = .ok (.ireturn, 1) := by decide +kernel
theorem dX7_worth_0 : decode cX7_worth 0 = .ok (.iload_n 1, 1) := by decide +kernel
theorem dX7_worth_1 : decode cX7_worth 1 = .ok (.ifCond .lt 18, 3) := by decide +kernel
theorem dX7_worth_4 : decode cX7_worth 4 = .ok (.iload_n 1, 1) := by decide +kernel
theorem dX7_worth_5 : decode cX7_worth 5 = .ok (.bipush 6, 2) := by decide +kernel
theorem dX7_worth_7 : decode cX7_worth 7 = .ok (.if_icmp .ge 12, 3) := by decide +kernel
theorem dX7_worth_10 : decode cX7_worth 10 = .ok (.iload_n 2, 1) := by decide +kernel
