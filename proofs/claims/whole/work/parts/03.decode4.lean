theorem dX8_behind_77 : decode cX8_behind 77 = .ok (.iload_n 2, 1) := by decide +kernel
theorem dX8_behind_78 : decode cX8_behind 78 = .ok (.iastore, 1) := by decide +kernel
theorem dX8_behind_79 : decode cX8_behind 79 = .ok (.aload_n 0, 1) := by decide +kernel
theorem dX8_behind_80 : decode cX8_behind 80 = .ok (.getfield 25, 3) := by decide +kernel
theorem dX8_behind_83 : decode cX8_behind 83 = .ok (.iconst 0, 1) := by decide +kernel
theorem dX8_behind_84 : decode cX8_behind 84 = .ok (.dup2, 1) := by decide +kernel
theorem dX8_behind_85 : decode cX8_behind 85 = .ok (.iaload, 1) := by decide +kernel
theorem dX8_behind_86 : decode cX8_behind 86 = .ok (.iconst 1, 1) := by decide +kernel
theorem dX8_behind_87 : decode cX8_behind 87 = .ok (.iadd, 1) := by decide +kernel
theorem dX8_behind_88 : decode cX8_behind 88 = .ok (.iastore, 1) := by decide +kernel
theorem dX8_behind_89 : decode cX8_behind 89 = .ok (.aload_n 0, 1) := by decide +kernel
theorem dX8_behind_90 : decode cX8_behind 90 = .ok (.getfield 25, 3) := by decide +kernel
theorem dX8_behind_93 : decode cX8_behind 93 = .ok (.iconst 0, 1) := by decide +kernel
theorem dX8_behind_94 : decode cX8_behind 94 = .ok (.iaload, 1) := by decide +kernel
theorem dX8_behind_95 : decode cX8_behind 95 = .ok (.ireturn, 1) := by decide +kernel
theorem dX8_happened_0 : decode cX8_happened 0 = .ok (.iload_n 1, 1) := by decide +kernel
theorem dX8_happened_1 : decode cX8_happened 1 = .ok (.invokestatic 104, 3) := by decide +kernel
theorem dX8_happened_4 : decode cX8_happened 4 = .ok (.ifCond .eq 17, 3) := by decide +kernel
theorem dX8_happened_7 : decode cX8_happened 7 = .ok (.iload_n 2, 1) := by decide +kernel
theorem dX8_happened_8 : decode cX8_happened 8 = .ok (.invokestatic 87, 3) := by decide +kernel
theorem dX8_happened_11 : decode cX8_happened 11 = .ok (.ifCond .eq 10, 3) := by decide +kernel
theorem dX8_happened_14 : decode cX8_happened 14 = .ok (.iload_n 3, 1) := by decide +kernel
theorem dX8_happened_15 : decode cX8_happened 15 = .ok (.invokestatic 107, 3) := by decide +kernel
theorem dX8_happened_18 : decode cX8_happened 18 = .ok (.ifCond .ne 5, 3) := by decide +kernel
theorem dX8_happened_21 : decode cX8_happened 21 = .ok (.iconst (-1), 1) := by decide +kernel
theorem dX8_happened_22 : decode cX8_happened 22 = .ok (.ireturn, 1) := by decide +kernel
theorem dX8_happened_23 : decode cX8_happened 23 = .ok (.aload_n 0, 1) := by decide +kernel
theorem dX8_happened_24 : decode cX8_happened 24 = .ok (.getfield 37, 3) := by decide +kernel
theorem dX8_happened_27 : decode cX8_happened 27 = .ok (.iconst 2, 1) := by decide +kernel
theorem dX8_happened_28 : decode cX8_happened 28 = .ok (.iload_n 1, 1) := by decide +kernel
theorem dX8_happened_29 : decode cX8_happened 29 = .ok (.imul, 1) := by decide +kernel
theorem dX8_happened_30 : decode cX8_happened 30 = .ok (.iaload, 1) := by decide +kernel
theorem dX8_happened_31 : decode cX8_happened 31 = .ok (.ifCond .ge 7, 3) := by decide +kernel
theorem dX8_happened_34 : decode cX8_happened 34 = .ok (.iconst 1, 1) := by decide +kernel
theorem dX8_happened_35 : decode cX8_happened 35 = .ok (.goto 4, 3) := by decide +kernel
theorem dX8_happened_38 : decode cX8_happened 38 = .ok (.iconst 0, 1) := by decide +kernel
theorem dX8_happened_39 : decode cX8_happened 39 = .ok (.istore 4, 2) := by decide +kernel
theorem dX8_happened_41 : decode cX8_happened 41 = .ok (.iconst 0, 1) := by decide +kernel
theorem dX8_happened_42 : decode cX8_happened 42 = .ok (.istore 5, 2) := by decide +kernel
theorem dX8_happened_44 : decode cX8_happened 44 = .ok (.iload 5, 2) := by decide +kernel
theorem dX8_happened_46 : decode cX8_happened 46 = .ok (.aload_n 0, 1) := by decide +kernel
theorem dX8_happened_47 : decode cX8_happened 47 = .ok (.getfield 31, 3) := by decide +kernel
theorem dX8_happened_50 : decode cX8_happened 50 = .ok (.iconst 0, 1) := by decide +kernel
theorem dX8_happened_51 : decode cX8_happened 51 = .ok (.iaload, 1) := by decide +kernel
theorem dX8_happened_52 : decode cX8_happened 52 = .ok (.if_icmp .ge 67, 3) := by decide +kernel
theorem dX8_happened_55 : decode cX8_happened 55 = .ok (.iload 4, 2) := by decide +kernel
theorem dX8_happened_57 : decode cX8_happened 57 = .ok (.ifCond .eq 53, 3) := by decide +kernel
theorem dX8_happened_60 : decode cX8_happened 60 = .ok (.aload_n 0, 1) := by decide +kernel
theorem dX8_happened_61 : decode cX8_happened 61 = .ok (.getfield 34, 3) := by decide +kernel
theorem dX8_happened_64 : decode cX8_happened 64 = .ok (.bipush 6, 2) := by decide +kernel
theorem dX8_happened_66 : decode cX8_happened 66 = .ok (.iload 5, 2) := by decide +kernel
theorem dX8_happened_68 : decode cX8_happened 68 = .ok (.imul, 1) := by decide +kernel
theorem dX8_happened_69 : decode cX8_happened 69 = .ok (.iconst 1, 1) := by decide +kernel
theorem dX8_happened_70 : decode cX8_happened 70 = .ok (.iadd, 1) := by decide +kernel
theorem dX8_happened_71 : decode cX8_happened 71 = .ok (.iaload, 1) := by decide +kernel
theorem dX8_happened_72 : decode cX8_happened 72 = .ok (.iload_n 1, 1) := by decide +kernel
theorem dX8_happened_73 : decode cX8_happened 73 = .ok (.if_icmp .ne 33, 3) := by decide +kernel
theorem dX8_happened_76 : decode cX8_happened 76 = .ok (.aload_n 0, 1) := by decide +kernel
theorem dX8_happened_77 : decode cX8_happened 77 = .ok (.getfield 16, 3) := by decide +kernel
theorem dX8_happened_80 : decode cX8_happened 80 = .ok (.bipush 6, 2) := by decide +kernel
theorem dX8_happened_82 : decode cX8_happened 82 = .ok (.iload_n 2, 1) := by decide +kernel
theorem dX8_happened_83 : decode cX8_happened 83 = .ok (.imul, 1) := by decide +kernel
theorem dX8_happened_84 : decode cX8_happened 84 = .ok (.aload_n 0, 1) := by decide +kernel
theorem dX8_happened_85 : decode cX8_happened 85 = .ok (.getfield 22, 3) := by decide +kernel
theorem dX8_happened_88 : decode cX8_happened 88 = .ok (.iconst 3, 1) := by decide +kernel
theorem dX8_happened_89 : decode cX8_happened 89 = .ok (.aload_n 0, 1) := by decide +kernel
theorem dX8_happened_90 : decode cX8_happened 90 = .ok (.getfield 34, 3) := by decide +kernel
theorem dX8_happened_93 : decode cX8_happened 93 = .ok (.bipush 6, 2) := by decide +kernel
theorem dX8_happened_95 : decode cX8_happened 95 = .ok (.iload 5, 2) := by decide +kernel
theorem dX8_happened_97 : decode cX8_happened 97 = .ok (.imul, 1) := by decide +kernel
theorem dX8_happened_98 : decode cX8_happened 98 = .ok (.iaload, 1) := by decide +kernel
theorem dX8_happened_99 : decode cX8_happened 99 = .ok (.imul, 1) := by decide +kernel
theorem dX8_happened_100 : decode cX8_happened 100 = .ok (.iaload, 1) := by decide +kernel
theorem dX8_happened_101 : decode cX8_happened 101 = .ok (.iadd, 1) := by decide +kernel
theorem dX8_happened_102 : decode cX8_happened 102 = .ok (.iaload, 1) := by decide +kernel
theorem dX8_happened_103 : decode cX8_happened 103 = .ok (.ifCond .lt 7, 3) := by decide +kernel
theorem dX8_happened_106 : decode cX8_happened 106 = .ok (.iconst 1, 1) := by decide +kernel
theorem dX8_happened_107 : decode cX8_happened 107 = .ok (.goto 4, 3) := by decide +kernel
theorem dX8_happened_110 : decode cX8_happened 110 = .ok (.iconst 0, 1) := by decide +kernel
theorem dX8_happened_111 : decode cX8_happened 111 = .ok (.istore 4, 2) := by decide +kernel
theorem dX8_happened_113 : decode cX8_happened 113 = .ok (.iinc 5 1, 3) := by decide +kernel
theorem dX8_happened_116 : decode cX8_happened 116 = .ok (.goto (-72), 3) := by decide +kernel
theorem dX8_happened_119 : decode cX8_happened 119 = .ok (.iload 4, 2) := by decide +kernel
theorem dX8_happened_121 : decode cX8_happened 121 = .ok (.ifCond .ne 6, 3) := by decide +kernel
theorem dX8_happened_124 : decode cX8_happened 124 = .ok (.bipush (-2), 2) := by decide +kernel
theorem dX8_happened_126 : decode cX8_happened 126 = .ok (.ireturn, 1) := by decide +kernel
theorem dX8_happened_127 : decode cX8_happened 127 = .ok (.aload_n 0, 1) := by decide +kernel
theorem dX8_happened_128 : decode cX8_happened 128 = .ok (.getfield 37, 3) := by decide +kernel
theorem dX8_happened_131 : decode cX8_happened 131 = .ok (.iconst 2, 1) := by decide +kernel
theorem dX8_happened_132 : decode cX8_happened 132 = .ok (.iload_n 1, 1) := by decide +kernel
theorem dX8_happened_133 : decode cX8_happened 133 = .ok (.imul, 1) := by decide +kernel
theorem dX8_happened_134 : decode cX8_happened 134 = .ok (.iload_n 2, 1) := by decide +kernel
theorem dX8_happened_135 : decode cX8_happened 135 = .ok (.iastore, 1) := by decide +kernel
theorem dX8_happened_136 : decode cX8_happened 136 = .ok (.aload_n 0, 1) := by decide +kernel
theorem dX8_happened_137 : decode cX8_happened 137 = .ok (.getfield 37, 3) := by decide +kernel
theorem dX8_happened_140 : decode cX8_happened 140 = .ok (.iconst 2, 1) := by decide +kernel
theorem dX8_happened_141 : decode cX8_happened 141 = .ok (.iload_n 1, 1) := by decide +kernel
theorem dX8_happened_142 : decode cX8_happened 142 = .ok (.imul, 1) := by decide +kernel
theorem dX8_happened_143 : decode cX8_happened 143 = .ok (.iconst 1, 1) := by decide +kernel
theorem dX8_happened_144 : decode cX8_happened 144 = .ok (.iadd, 1) := by decide +kernel
theorem dX8_happened_145 : decode cX8_happened 145 = .ok (.iload_n 3, 1) := by decide +kernel
theorem dX8_happened_146 : decode cX8_happened 146 = .ok (.iastore, 1) := by decide +kernel
theorem dX8_happened_147 : decode cX8_happened 147 = .ok (.iconst 0, 1) := by decide +kernel
theorem dX8_happened_148 : decode cX8_happened 148 = .ok (.ireturn, 1) := by decide +kernel
theorem dX8_push_0 : decode cX8_push 0 = .ok (.aload_n 0, 1) := by decide +kernel
theorem dX8_push_1 : decode cX8_push 1 = .ok (.getfield 62, 3) := by decide +kernel
theorem dX8_push_4 : decode cX8_push 4 = .ok (.iload_n 1, 1) := by decide +kernel
theorem dX8_push_5 : decode cX8_push 5 = .ok (.iaload, 1) := by decide +kernel
theorem dX8_push_6 : decode cX8_push 6 = .ok (.aload_n 0, 1) := by decide +kernel
theorem dX8_push_7 : decode cX8_push 7 = .ok (.getfield 62, 3) := by decide +kernel
theorem dX8_push_10 : decode cX8_push 10 = .ok (.iload_n 2, 1) := by decide +kernel
theorem dX8_push_11 : decode cX8_push 11 = .ok (.iaload, 1) := by decide +kernel
theorem dX8_push_12 : decode cX8_push 12 = .ok (.iload_n 3, 1) := by decide +kernel
theorem dX8_push_13 : decode cX8_push 13 = .ok (.iadd, 1) := by decide +kernel
theorem dX8_push_14 : decode cX8_push 14 = .ok (.if_icmp .ge 22, 3) := by decide +kernel
theorem dX8_push_17 : decode cX8_push 17 = .ok (.aload_n 0, 1) := by decide +kernel
theorem dX8_push_18 : decode cX8_push 18 = .ok (.getfield 62, 3) := by decide +kernel
theorem dX8_push_21 : decode cX8_push 21 = .ok (.iload_n 1, 1) := by decide +kernel
theorem dX8_push_22 : decode cX8_push 22 = .ok (.aload_n 0, 1) := by decide +kernel
theorem dX8_push_23 : decode cX8_push 23 = .ok (.getfield 62, 3) := by decide +kernel
theorem dX8_push_26 : decode cX8_push 26 = .ok (.iload_n 2, 1) := by decide +kernel
theorem dX8_push_27 : decode cX8_push 27 = .ok (.iaload, 1) := by decide +kernel
theorem dX8_push_28 : decode cX8_push 28 = .ok (.iload_n 3, 1) := by decide +kernel
theorem dX8_push_29 : decode cX8_push 29 = .ok (.iadd, 1) := by decide +kernel
theorem dX8_push_30 : decode cX8_push 30 = .ok (.iastore, 1) := by decide +kernel
theorem dX8_push_31 : decode cX8_push 31 = .ok (.aload_n 0, 1) := by decide +kernel
theorem dX8_push_32 : decode cX8_push 32 = .ok (.iconst 1, 1) := by decide +kernel
theorem dX8_push_33 : decode cX8_push 33 = .ok (.putfield 110, 3) := by decide +kernel
theorem dX8_push_36 : decode cX8_push 36 = .ok (.aload_n 0, 1) := by decide +kernel
theorem dX8_push_37 : decode cX8_push 37 = .ok (.getfield 65, 3) := by decide +kernel
theorem dX8_push_40 : decode cX8_push 40 = .ok (.iload_n 2, 1) := by decide +kernel
theorem dX8_push_41 : decode cX8_push 41 = .ok (.iaload, 1) := by decide +kernel
theorem dX8_push_42 : decode cX8_push 42 = .ok (.aload_n 0, 1) := by decide +kernel
theorem dX8_push_43 : decode cX8_push 43 = .ok (.getfield 65, 3) := by decide +kernel
theorem dX8_push_46 : decode cX8_push 46 = .ok (.iload_n 1, 1) := by decide +kernel
theorem dX8_push_47 : decode cX8_push 47 = .ok (.iaload, 1) := by decide +kernel
theorem dX8_push_48 : decode cX8_push 48 = .ok (.iload_n 3, 1) := by decide +kernel
theorem dX8_push_49 : decode cX8_push 49 = .ok (.isub, 1) := by decide +kernel
theorem dX8_push_50 : decode cX8_push 50 = .ok (.if_icmp .le 22, 3) := by decide +kernel
theorem dX8_push_53 : decode cX8_push 53 = .ok (.aload_n 0, 1) := by decide +kernel
theorem dX8_push_54 : decode cX8_push 54 = .ok (.getfield 65, 3) := by decide +kernel
theorem dX8_push_57 : decode cX8_push 57 = .ok (.iload_n 2, 1) := by decide +kernel
theorem dX8_push_58 : decode cX8_push 58 = .ok (.aload_n 0, 1) := by decide +kernel
theorem dX8_push_59 : decode cX8_push 59 = .ok (.getfield 65, 3) := by decide +kernel
theorem dX8_push_62 : decode cX8_push 62 = .ok (.iload_n 1, 1) := by decide +kernel
theorem dX8_push_63 : decode cX8_push 63 = .ok (.iaload, 1) := by decide +kernel
theorem dX8_push_64 : decode cX8_push 64 = .ok (.iload_n 3, 1) := by decide +kernel
theorem dX8_push_65 : decode cX8_push 65 = .ok (.isub, 1) := by decide +kernel
theorem dX8_push_66 : decode cX8_push 66 = .ok (.iastore, 1) := by decide +kernel
theorem dX8_push_67 : decode cX8_push 67 = .ok (.aload_n 0, 1) := by decide +kernel
theorem dX8_push_68 : decode cX8_push 68 = .ok (.iconst 1, 1) := by decide +kernel
theorem dX8_push_69 : decode cX8_push 69 = .ok (.putfield 110, 3) := by decide +kernel
theorem dX8_push_72 : decode cX8_push 72 = .ok (.return_, 1) := by decide +kernel
theorem dX8_isLet_0 : decode cX8_isLet 0 = .ok (.iconst 1, 1) := by decide +kernel
theorem dX8_isLet_1 : decode cX8_isLet 1 = .ok (.istore_n 1, 1) := by decide +kernel
theorem dX8_isLet_2 : decode cX8_isLet 2 = .ok (.iconst 0, 1) := by decide +kernel
theorem dX8_isLet_3 : decode cX8_isLet 3 = .ok (.istore_n 2, 1) := by decide +kernel
theorem dX8_isLet_4 : decode cX8_isLet 4 = .ok (.iload_n 2, 1) := by decide +kernel
theorem dX8_isLet_5 : decode cX8_isLet 5 = .ok (.aload_n 0, 1) := by decide +kernel
theorem dX8_isLet_6 : decode cX8_isLet 6 = .ok (.getfield 19, 3) := by decide +kernel
theorem dX8_isLet_9 : decode cX8_isLet 9 = .ok (.iconst 0, 1) := by decide +kernel
theorem dX8_isLet_10 : decode cX8_isLet 10 = .ok (.iaload, 1) := by decide +kernel
theorem dX8_isLet_11 : decode cX8_isLet 11 = .ok (.if_icmp .ge 34, 3) := by decide +kernel
theorem dX8_isLet_14 : decode cX8_isLet 14 = .ok (.iload_n 1, 1) := by decide +kernel
theorem dX8_isLet_15 : decode cX8_isLet 15 = .ok (.ifCond .eq 22, 3) := by decide +kernel
theorem dX8_isLet_18 : decode cX8_isLet 18 = .ok (.aload_n 0, 1) := by decide +kernel
theorem dX8_isLet_19 : decode cX8_isLet 19 = .ok (.getfield 62, 3) := by decide +kernel
theorem dX8_isLet_22 : decode cX8_isLet 22 = .ok (.iload_n 2, 1) := by decide +kernel
theorem dX8_isLet_23 : decode cX8_isLet 23 = .ok (.iaload, 1) := by decide +kernel
theorem dX8_isLet_24 : decode cX8_isLet 24 = .ok (.aload_n 0, 1) := by decide +kernel
theorem dX8_isLet_25 : decode cX8_isLet 25 = .ok (.getfield 65, 3) := by decide +kernel
theorem dX8_isLet_28 : decode cX8_isLet 28 = .ok (.iload_n 2, 1) := by decide +kernel
theorem dX8_isLet_29 : decode cX8_isLet 29 = .ok (.iaload, 1) := by decide +kernel
theorem dX8_isLet_30 : decode cX8_isLet 30 = .ok (.if_icmp .gt 7, 3) := by decide +kernel
theorem dX8_isLet_33 : decode cX8_isLet 33 = .ok (.iconst 1, 1) := by decide +kernel
theorem dX8_isLet_34 : decode cX8_isLet 34 = .ok (.goto 4, 3) := by decide +kernel
theorem dX8_isLet_37 : decode cX8_isLet 37 = .ok (.iconst 0, 1) := by decide +kernel
theorem dX8_isLet_38 : decode cX8_isLet 38 = .ok (.istore_n 1, 1) := by decide +kernel
theorem dX8_isLet_39 : decode cX8_isLet 39 = .ok (.iinc 2 1, 3) := by decide +kernel
theorem dX8_isLet_42 : decode cX8_isLet 42 = .ok (.goto (-38), 3) := by decide +kernel
theorem dX8_isLet_45 : decode cX8_isLet 45 = .ok (.iload_n 1, 1) := by decide +kernel
theorem dX8_isLet_46 : decode cX8_isLet 46 = .ok (.ireturn, 1) := by decide +kernel
theorem dX8_layDays_0 : decode cX8_layDays 0 = .ok (.iconst 0, 1) := by decide +kernel
theorem dX8_layDays_1 : decode cX8_layDays 1 = .ok (.istore_n 3, 1) := by decide +kernel
theorem dX8_layDays_2 : decode cX8_layDays 2 = .ok (.iload_n 3, 1) := by decide +kernel
theorem dX8_layDays_3 : decode cX8_layDays 3 = .ok (.aload_n 0, 1) := by decide +kernel
theorem dX8_layDays_4 : decode cX8_layDays 4 = .ok (.getfield 19, 3) := by decide +kernel
theorem dX8_layDays_7 : decode cX8_layDays 7 = .ok (.iconst 0, 1) := by decide +kernel
theorem dX8_layDays_8 : decode cX8_layDays 8 = .ok (.iaload, 1) := by decide +kernel
theorem dX8_layDays_9 : decode cX8_layDays 9 = .ok (.if_icmp .ge 57, 3) := by decide +kernel
theorem dX8_layDays_12 : decode cX8_layDays 12 = .ok (.aload_n 0, 1) := by decide +kernel
theorem dX8_layDays_13 : decode cX8_layDays 13 = .ok (.getfield 22, 3) := by decide +kernel
theorem dX8_layDays_16 : decode cX8_layDays 16 = .ok (.iconst 3, 1) := by decide +kernel
theorem dX8_layDays_17 : decode cX8_layDays 17 = .ok (.iload_n 3, 1) := by decide +kernel
theorem dX8_layDays_18 : decode cX8_layDays 18 = .ok (.imul, 1) := by decide +kernel
theorem dX8_layDays_19 : decode cX8_layDays 19 = .ok (.iconst 2, 1) := by decide +kernel
theorem dX8_layDays_20 : decode cX8_layDays 20 = .ok (.iadd, 1) := by decide +kernel
theorem dX8_layDays_21 : decode cX8_layDays 21 = .ok (.iaload, 1) := by decide +kernel
theorem dX8_layDays_22 : decode cX8_layDays 22 = .ok (.istore 4, 2) := by decide +kernel
theorem dX8_layDays_24 : decode cX8_layDays 24 = .ok (.aload_n 0, 1) := by decide +kernel
theorem dX8_layDays_25 : decode cX8_layDays 25 = .ok (.getfield 62, 3) := by decide +kernel
theorem dX8_layDays_28 : decode cX8_layDays 28 = .ok (.iload_n 3, 1) := by decide +kernel
theorem dX8_layDays_29 : decode cX8_layDays 29 = .ok (.iload 4, 2) := by decide +kernel
theorem dX8_layDays_31 : decode cX8_layDays 31 = .ok (.ifCond .ge 7, 3) := by decide +kernel
theorem dX8_layDays_34 : decode cX8_layDays 34 = .ok (.iconst 0, 1) := by decide +kernel
theorem dX8_layDays_35 : decode cX8_layDays 35 = .ok (.goto 5, 3) := by decide +kernel
theorem dX8_layDays_38 : decode cX8_layDays 38 = .ok (.iload 4, 2) := by decide +kernel
theorem dX8_layDays_40 : decode cX8_layDays 40 = .ok (.iastore, 1) := by decide +kernel
theorem dX8_layDays_41 : decode cX8_layDays 41 = .ok (.aload_n 0, 1) := by decide +kernel
theorem dX8_layDays_42 : decode cX8_layDays 42 = .ok (.getfield 65, 3) := by decide +kernel
theorem dX8_layDays_45 : decode cX8_layDays 45 = .ok (.iload_n 3, 1) := by decide +kernel
theorem dX8_layDays_46 : decode cX8_layDays 46 = .ok (.iload 4, 2) := by decide +kernel
theorem dX8_layDays_48 : decode cX8_layDays 48 = .ok (.ifCond .ge 9, 3) := by decide +kernel
theorem dX8_layDays_51 : decode cX8_layDays 51 = .ok (.sipush 999, 3) := by decide +kernel
theorem dX8_layDays_54 : decode cX8_layDays 54 = .ok (.goto 5, 3) := by decide +kernel
theorem dX8_layDays_57 : decode cX8_layDays 57 = .ok (.iload 4, 2) := by decide +kernel
theorem dX8_layDays_59 : decode cX8_layDays 59 = .ok (.iastore, 1) := by decide +kernel
theorem dX8_layDays_60 : decode cX8_layDays 60 = .ok (.iinc 3 1, 3) := by decide +kernel
theorem dX8_layDays_63 : decode cX8_layDays 63 = .ok (.goto (-61), 3) := by decide +kernel
theorem dX8_layDays_66 : decode cX8_layDays 66 = .ok (.iconst 0, 1) := by decide +kernel
theorem dX8_layDays_67 : decode cX8_layDays 67 = .ok (.istore_n 3, 1) := by decide +kernel
theorem dX8_layDays_68 : decode cX8_layDays 68 = .ok (.iload_n 3, 1) := by decide +kernel
theorem dX8_layDays_69 : decode cX8_layDays 69 = .ok (.aload_n 0, 1) := by decide +kernel
theorem dX8_layDays_70 : decode cX8_layDays 70 = .ok (.getfield 31, 3) := by decide +kernel
theorem dX8_layDays_73 : decode cX8_layDays 73 = .ok (.iconst 0, 1) := by decide +kernel
theorem dX8_layDays_74 : decode cX8_layDays 74 = .ok (.iaload, 1) := by decide +kernel
theorem dX8_layDays_75 : decode cX8_layDays 75 = .ok (.if_icmp .ge 117, 3) := by decide +kernel
theorem dX8_layDays_78 : decode cX8_layDays 78 = .ok (.aload_n 0, 1) := by decide +kernel
theorem dX8_layDays_79 : decode cX8_layDays 79 = .ok (.getfield 34, 3) := by decide +kernel
theorem dX8_layDays_82 : decode cX8_layDays 82 = .ok (.bipush 6, 2) := by decide +kernel
theorem dX8_layDays_84 : decode cX8_layDays 84 = .ok (.iload_n 3, 1) := by decide +kernel
theorem dX8_layDays_85 : decode cX8_layDays 85 = .ok (.imul, 1) := by decide +kernel
theorem dX8_layDays_86 : decode cX8_layDays 86 = .ok (.iconst 1, 1) := by decide +kernel
theorem dX8_layDays_87 : decode cX8_layDays 87 = .ok (.iadd, 1) := by decide +kernel
theorem dX8_layDays_88 : decode cX8_layDays 88 = .ok (.iaload, 1) := by decide +kernel
theorem dX8_layDays_89 : decode cX8_layDays 89 = .ok (.istore 4, 2) := by decide +kernel
theorem dX8_layDays_91 : decode cX8_layDays 91 = .ok (.aload_n 0, 1) := by decide +kernel
theorem dX8_layDays_92 : decode cX8_layDays 92 = .ok (.getfield 34, 3) := by decide +kernel
theorem dX8_layDays_95 : decode cX8_layDays 95 = .ok (.bipush 6, 2) := by decide +kernel
theorem dX8_layDays_97 : decode cX8_layDays 97 = .ok (.iload_n 3, 1) := by decide +kernel
theorem dX8_layDays_98 : decode cX8_layDays 98 = .ok (.imul, 1) := by decide +kernel
theorem dX8_layDays_99 : decode cX8_layDays 99 = .ok (.iaload, 1) := by decide +kernel
theorem dX8_layDays_100 : decode cX8_layDays 100 = .ok (.istore 5, 2) := by decide +kernel
theorem dX8_layDays_102 : decode cX8_layDays 102 = .ok (.aload_n 0, 1) := by decide +kernel
theorem dX8_layDays_103 : decode cX8_layDays 103 = .ok (.getfield 37, 3) := by decide +kernel
theorem dX8_layDays_106 : decode cX8_layDays 106 = .ok (.iconst 2, 1) := by decide +kernel
theorem dX8_layDays_107 : decode cX8_layDays 107 = .ok (.iload 4, 2) := by decide +kernel
theorem dX8_layDays_109 : decode cX8_layDays 109 = .ok (.imul, 1) := by decide +kernel
theorem dX8_layDays_110 : decode cX8_layDays 110 = .ok (.iaload, 1) := by decide +kernel
theorem dX8_layDays_111 : decode cX8_layDays 111 = .ok (.ifCond .lt 75, 3) := by decide +kernel
theorem dX8_layDays_114 : decode cX8_layDays 114 = .ok (.aload_n 0, 1) := by decide +kernel
theorem dX8_layDays_115 : decode cX8_layDays 115 = .ok (.getfield 37, 3) := by decide +kernel
theorem dX8_layDays_118 : decode cX8_layDays 118 = .ok (.iconst 2, 1) := by decide +kernel
theorem dX8_layDays_119 : decode cX8_layDays 119 = .ok (.iload 4, 2) := by decide +kernel
theorem dX8_layDays_121 : decode cX8_layDays 121 = .ok (.imul, 1) := by decide +kernel
theorem dX8_layDays_122 : decode cX8_layDays 122 = .ok (.iconst 1, 1) := by decide +kernel
theorem dX8_layDays_123 : decode cX8_layDays 123 = .ok (.iadd, 1) := by decide +kernel
theorem dX8_layDays_124 : decode cX8_layDays 124 = .ok (.iaload, 1) := by decide +kernel
theorem dX8_layDays_125 : decode cX8_layDays 125 = .ok (.aload_n 0, 1) := by decide +kernel
theorem dX8_layDays_126 : decode cX8_layDays 126 = .ok (.getfield 16, 3) := by decide +kernel
theorem dX8_layDays_129 : decode cX8_layDays 129 = .ok (.bipush 6, 2) := by decide +kernel
theorem dX8_layDays_131 : decode cX8_layDays 131 = .ok (.aload_n 0, 1) := by decide +kernel
theorem dX8_layDays_132 : decode cX8_layDays 132 = .ok (.getfield 37, 3) := by decide +kernel
theorem dX8_layDays_135 : decode cX8_layDays 135 = .ok (.iconst 2, 1) := by decide +kernel
theorem dX8_layDays_136 : decode cX8_layDays 136 = .ok (.iload 4, 2) := by decide +kernel
theorem dX8_layDays_138 : decode cX8_layDays 138 = .ok (.imul, 1) := by decide +kernel
theorem dX8_layDays_139 : decode cX8_layDays 139 = .ok (.iaload, 1) := by decide +kernel
theorem dX8_layDays_140 : decode cX8_layDays 140 = .ok (.imul, 1) := by decide +kernel
theorem dX8_layDays_141 : decode cX8_layDays 141 = .ok (.aload_n 0, 1) := by decide +kernel
theorem dX8_layDays_142 : decode cX8_layDays 142 = .ok (.getfield 22, 3) := by decide +kernel
theorem dX8_layDays_145 : decode cX8_layDays 145 = .ok (.iconst 3, 1) := by decide +kernel
theorem dX8_layDays_146 : decode cX8_layDays 146 = .ok (.iload 5, 2) := by decide +kernel
theorem dX8_layDays_148 : decode cX8_layDays 148 = .ok (.imul, 1) := by decide +kernel
theorem dX8_layDays_149 : decode cX8_layDays 149 = .ok (.iaload, 1) := by decide +kernel
theorem dX8_layDays_150 : decode cX8_layDays 150 = .ok (.iadd, 1) := by decide +kernel
theorem dX8_layDays_151 : decode cX8_layDays 151 = .ok (.iaload, 1) := by decide +kernel
theorem dX8_layDays_152 : decode cX8_layDays 152 = .ok (.iadd, 1) := by decide +kernel
theorem dX8_layDays_153 : decode cX8_layDays 153 = .ok (.istore 6, 2) := by decide +kernel
theorem dX8_layDays_155 : decode cX8_layDays 155 = .ok (.aload_n 0, 1) := by decide +kernel
theorem dX8_layDays_156 : decode cX8_layDays 156 = .ok (.getfield 62, 3) := by decide +kernel
theorem dX8_layDays_159 : decode cX8_layDays 159 = .ok (.iload 5, 2) := by decide +kernel
theorem dX8_layDays_161 : decode cX8_layDays 161 = .ok (.iload 6, 2) := by decide +kernel
theorem dX8_layDays_163 : decode cX8_layDays 163 = .ok (.aload_n 0, 1) := by decide +kernel
theorem dX8_layDays_164 : decode cX8_layDays 164 = .ok (.getfield 62, 3) := by decide +kernel
theorem dX8_layDays_167 : decode cX8_layDays 167 = .ok (.iload 5, 2) := by decide +kernel
theorem dX8_layDays_169 : decode cX8_layDays 169 = .ok (.iaload, 1) := by decide +kernel
theorem dX8_layDays_170 : decode cX8_layDays 170 = .ok (.if_icmp .le 8, 3) := by decide +kernel
theorem dX8_layDays_173 : decode cX8_layDays 173 = .ok (.iload 6, 2) := by decide +kernel
theorem dX8_layDays_175 : decode cX8_layDays 175 = .ok (.goto 10, 3) := by decide +kernel
theorem dX8_layDays_178 : decode cX8_layDays 178 = .ok (.aload_n 0, 1) := by decide +kernel
theorem dX8_layDays_179 : decode cX8_layDays 179 = .ok (.getfield 62, 3) := by decide +kernel
theorem dX8_layDays_182 : decode cX8_layDays 182 = .ok (.iload 5, 2) := by decide +kernel
theorem dX8_layDays_184 : decode cX8_layDays 184 = .ok (.iaload, 1) := by decide +kernel
theorem dX8_layDays_185 : decode cX8_layDays 185 = .ok (.iastore, 1) := by decide +kernel
theorem dX8_layDays_186 : decode cX8_layDays 186 = .ok (.iinc 3 1, 3) := by decide +kernel
theorem dX8_layDays_189 : decode cX8_layDays 189 = .ok (.goto (-121), 3) := by decide +kernel
theorem dX8_layDays_192 : decode cX8_layDays 192 = .ok (.aload_n 0, 1) := by decide +kernel
theorem dX8_layDays_193 : decode cX8_layDays 193 = .ok (.iconst 1, 1) := by decide +kernel
theorem dX8_layDays_194 : decode cX8_layDays 194 = .ok (.putfield 110, 3) := by decide +kernel
theorem dX8_layDays_197 : decode cX8_layDays 197 = .ok (.aload_n 0, 1) := by decide +kernel
theorem dX8_layDays_198 : decode cX8_layDays 198 = .ok (.getfield 110, 3) := by decide +kernel
theorem dX8_layDays_201 : decode cX8_layDays 201 = .ok (.ifCond .eq 91, 3) := by decide +kernel
theorem dX8_layDays_204 : decode cX8_layDays 204 = .ok (.aload_n 0, 1) := by decide +kernel
theorem dX8_layDays_205 : decode cX8_layDays 205 = .ok (.invokevirtual 114, 3) := by decide +kernel
theorem dX8_layDays_208 : decode cX8_layDays 208 = .ok (.ifCond .eq 84, 3) := by decide +kernel
theorem dX8_layDays_211 : decode cX8_layDays 211 = .ok (.aload_n 0, 1) := by decide +kernel
theorem dX8_layDays_212 : decode cX8_layDays 212 = .ok (.iconst 0, 1) := by decide +kernel
theorem dX8_layDays_213 : decode cX8_layDays 213 = .ok (.putfield 110, 3) := by decide +kernel
theorem dX8_layDays_216 : decode cX8_layDays 216 = .ok (.iconst 0, 1) := by decide +kernel
theorem dX8_layDays_217 : decode cX8_layDays 217 = .ok (.istore_n 3, 1) := by decide +kernel
theorem dX8_layDays_218 : decode cX8_layDays 218 = .ok (.iload_n 3, 1) := by decide +kernel
theorem dX8_layDays_219 : decode cX8_layDays 219 = .ok (.aload_n 0, 1) := by decide +kernel
theorem dX8_layDays_220 : decode cX8_layDays 220 = .ok (.getfield 25, 3) := by decide +kernel
theorem dX8_layDays_223 : decode cX8_layDays 223 = .ok (.iconst 0, 1) := by decide +kernel
theorem dX8_layDays_224 : decode cX8_layDays 224 = .ok (.iaload, 1) := by decide +kernel
theorem dX8_layDays_225 : decode cX8_layDays 225 = .ok (.if_icmp .ge 53, 3) := by decide +kernel
theorem dX8_layDays_228 : decode cX8_layDays 228 = .ok (.aload_n 0, 1) := by decide +kernel
theorem dX8_layDays_229 : decode cX8_layDays 229 = .ok (.aload_n 0, 1) := by decide +kernel
theorem dX8_layDays_230 : decode cX8_layDays 230 = .ok (.getfield 28, 3) := by decide +kernel
theorem dX8_layDays_233 : decode cX8_layDays 233 = .ok (.iconst 2, 1) := by decide +kernel
theorem dX8_layDays_234 : decode cX8_layDays 234 = .ok (.iload_n 3, 1) := by decide +kernel
theorem dX8_layDays_235 : decode cX8_layDays 235 = .ok (.imul, 1) := by decide +kernel
theorem dX8_layDays_236 : decode cX8_layDays 236 = .ok (.iaload, 1) := by decide +kernel
theorem dX8_layDays_237 : decode cX8_layDays 237 = .ok (.aload_n 0, 1) := by decide +kernel
theorem dX8_layDays_238 : decode cX8_layDays 238 = .ok (.getfield 28, 3) := by decide +kernel
theorem dX8_layDays_241 : decode cX8_layDays 241 = .ok (.iconst 2, 1) := by decide +kernel
theorem dX8_layDays_242 : decode cX8_layDays 242 = .ok (.iload_n 3, 1) := by decide +kernel
theorem dX8_layDays_243 : decode cX8_layDays 243 = .ok (.imul, 1) := by decide +kernel
theorem dX8_layDays_244 : decode cX8_layDays 244 = .ok (.iconst 1, 1) := by decide +kernel
theorem dX8_layDays_245 : decode cX8_layDays 245 = .ok (.iadd, 1) := by decide +kernel
theorem dX8_layDays_246 : decode cX8_layDays 246 = .ok (.iaload, 1) := by decide +kernel
theorem dX8_layDays_247 : decode cX8_layDays 247 = .ok (.aload_n 0, 1) := by decide +kernel
theorem dX8_layDays_248 : decode cX8_layDays 248 = .ok (.aload_n 0, 1) := by decide +kernel
theorem dX8_layDays_249 : decode cX8_layDays 249 = .ok (.getfield 28, 3) := by decide +kernel
theorem dX8_layDays_252 : decode cX8_layDays 252 = .ok (.iconst 2, 1) := by decide +kernel
theorem dX8_layDays_253 : decode cX8_layDays 253 = .ok (.iload_n 3, 1) := by decide +kernel
theorem dX8_layDays_254 : decode cX8_layDays 254 = .ok (.imul, 1) := by decide +kernel
theorem dX8_layDays_255 : decode cX8_layDays 255 = .ok (.iconst 1, 1) := by decide +kernel
theorem dX8_layDays_256 : decode cX8_layDays 256 = .ok (.iadd, 1) := by decide +kernel
theorem dX8_layDays_257 : decode cX8_layDays 257 = .ok (.iaload, 1) := by decide +kernel
theorem dX8_layDays_258 : decode cX8_layDays 258 = .ok (.aload_n 0, 1) := by decide +kernel
theorem dX8_layDays_259 : decode cX8_layDays 259 = .ok (.getfield 28, 3) := by decide +kernel
theorem dX8_layDays_262 : decode cX8_layDays 262 = .ok (.iconst 2, 1) := by decide +kernel
theorem dX8_layDays_263 : decode cX8_layDays 263 = .ok (.iload_n 3, 1) := by decide +kernel
theorem dX8_layDays_264 : decode cX8_layDays 264 = .ok (.imul, 1) := by decide +kernel
theorem dX8_layDays_265 : decode cX8_layDays 265 = .ok (.iaload, 1) := by decide +kernel
theorem dX8_layDays_266 : decode cX8_layDays 266 = .ok (.invokevirtual 100, 3) := by decide +kernel
theorem dX8_layDays_269 : decode cX8_layDays 269 = .ok (.invokevirtual 118, 3) := by decide +kernel
theorem dX8_layDays_272 : decode cX8_layDays 272 = .ok (.iinc 3 1, 3) := by decide +kernel
theorem dX8_layDays_275 : decode cX8_layDays 275 = .ok (.goto (-57), 3) := by decide +kernel
theorem dX8_layDays_278 : decode cX8_layDays 278 = .ok (.iload_n 1, 1) := by decide +kernel
theorem dX8_layDays_279 : decode cX8_layDays 279 = .ok (.ifCond .lt (-82), 3) := by decide +kernel
theorem dX8_layDays_282 : decode cX8_layDays 282 = .ok (.aload_n 0, 1) := by decide +kernel
theorem dX8_layDays_283 : decode cX8_layDays 283 = .ok (.iload_n 1, 1) := by decide +kernel
theorem dX8_layDays_284 : decode cX8_layDays 284 = .ok (.iload_n 2, 1) := by decide +kernel
theorem dX8_layDays_285 : decode cX8_layDays 285 = .ok (.iconst 0, 1) := by decide +kernel
theorem dX8_layDays_286 : decode cX8_layDays 286 = .ok (.invokevirtual 118, 3) := by decide +kernel
theorem dX8_layDays_289 : decode cX8_layDays 289 = .ok (.goto (-92), 3) := by decide +kernel
theorem dX8_layDays_292 : decode cX8_layDays 292 = .ok (.aload_n 0, 1) := by decide +kernel
theorem dX8_layDays_293 : decode cX8_layDays 293 = .ok (.invokevirtual 114, 3) := by decide +kernel
theorem dX8_layDays_296 : decode cX8_layDays 296 = .ok (.ireturn, 1) := by decide +kernel
theorem dX8_areDays_0 : decode cX8_areDays 0 = .ok (.aload_n 0, 1) := by decide +kernel
theorem dX8_areDays_1 : decode cX8_areDays 1 = .ok (.iconst (-1), 1) := by decide +kernel
theorem dX8_areDays_2 : decode cX8_areDays 2 = .ok (.iconst (-1), 1) := by decide +kernel
theorem dX8_areDays_3 : decode cX8_areDays 3 = .ok (.invokevirtual 122, 3) := by decide +kernel
theorem dX8_areDays_6 : decode cX8_areDays 6 = .ok (.ireturn, 1) := by decide +kernel
theorem dX8_span_0 : decode cX8_span 0 = .ok (.aload_n 0, 1) := by decide +kernel
theorem dX8_span_1 : decode cX8_span 1 = .ok (.iload_n 1, 1) := by decide +kernel
theorem dX8_span_2 : decode cX8_span 2 = .ok (.invokevirtual 97, 3) := by decide +kernel
theorem dX8_span_5 : decode cX8_span 5 = .ok (.ifCond .eq 13, 3) := by decide +kernel
theorem dX8_span_8 : decode cX8_span 8 = .ok (.iload_n 2, 1) := by decide +kernel
theorem dX8_span_9 : decode cX8_span 9 = .ok (.i2l, 1) := by decide +kernel
theorem dX8_span_10 : decode cX8_span 10 = .ok (.lconst 0, 1) := by decide +kernel
theorem dX8_span_11 : decode cX8_span 11 = .ok (.lconst 1, 1) := by decide +kernel
theorem dX8_span_12 : decode cX8_span 12 = .ok (.invokestatic 79, 3) := by decide +kernel
theorem dX8_span_15 : decode cX8_span 15 = .ok (.ifCond .ne 5, 3) := by decide +kernel
theorem dX8_span_18 : decode cX8_span 18 = .ok (.iconst (-1), 1) := by decide +kernel
theorem dX8_span_19 : decode cX8_span 19 = .ok (.ireturn, 1) := by decide +kernel
theorem dX8_span_20 : decode cX8_span 20 = .ok (.aload_n 0, 1) := by decide +kernel
theorem dX8_span_21 : decode cX8_span 21 = .ok (.invokevirtual 126, 3) := by decide +kernel
theorem dX8_span_24 : decode cX8_span 24 = .ok (.ifCond .ne 8, 3) := by decide +kernel
theorem dX8_span_27 : decode cX8_span 27 = .ok (.bipush (-2), 2) := by decide +kernel
theorem dX8_span_29 : decode cX8_span 29 = .ok (.goto 22, 3) := by decide +kernel
theorem dX8_span_32 : decode cX8_span 32 = .ok (.iload_n 2, 1) := by decide +kernel
theorem dX8_span_33 : decode cX8_span 33 = .ok (.ifCond .ne 12, 3) := by decide +kernel
theorem dX8_span_36 : decode cX8_span 36 = .ok (.aload_n 0, 1) := by decide +kernel
theorem dX8_span_37 : decode cX8_span 37 = .ok (.getfield 62, 3) := by decide +kernel
theorem dX8_span_40 : decode cX8_span 40 = .ok (.iload_n 1, 1) := by decide +kernel
theorem dX8_span_41 : decode cX8_span 41 = .ok (.iaload, 1) := by decide +kernel
theorem dX8_span_42 : decode cX8_span 42 = .ok (.goto 9, 3) := by decide +kernel
theorem dX8_span_45 : decode cX8_span 45 = .ok (.aload_n 0, 1) := by decide +kernel
theorem dX8_span_46 : decode cX8_span 46 = .ok (.getfield 65, 3) := by decide +kernel
theorem dX8_span_49 : decode cX8_span 49 = .ok (.iload_n 1, 1) := by decide +kernel
theorem dX8_span_50 : decode cX8_span 50 = .ok (.iaload, 1) := by decide +kernel
theorem dX8_span_51 : decode cX8_span 51 = .ok (.ireturn, 1) := by decide +kernel
theorem dX8_ahead_0 : decode cX8_ahead 0 = .ok (.aload_n 0, 1) := by decide +kernel
theorem dX8_ahead_1 : decode cX8_ahead 1 = .ok (.iload_n 1, 1) := by decide +kernel
theorem dX8_ahead_2 : decode cX8_ahead 2 = .ok (.invokevirtual 97, 3) := by decide +kernel
theorem dX8_ahead_5 : decode cX8_ahead 5 = .ok (.ifCond .eq 11, 3) := by decide +kernel
theorem dX8_ahead_8 : decode cX8_ahead 8 = .ok (.aload_n 0, 1) := by decide +kernel
theorem dX8_ahead_9 : decode cX8_ahead 9 = .ok (.iload_n 2, 1) := by decide +kernel
theorem dX8_ahead_10 : decode cX8_ahead 10 = .ok (.invokevirtual 97, 3) := by decide +kernel
theorem dX8_ahead_13 : decode cX8_ahead 13 = .ok (.ifCond .ne 5, 3) := by decide +kernel
theorem dX8_ahead_16 : decode cX8_ahead 16 = .ok (.iconst (-1), 1) := by decide +kernel
theorem dX8_ahead_17 : decode cX8_ahead 17 = .ok (.ireturn, 1) := by decide +kernel
theorem dX8_ahead_18 : decode cX8_ahead 18 = .ok (.aload_n 0, 1) := by decide +kernel
theorem dX8_ahead_19 : decode cX8_ahead 19 = .ok (.invokevirtual 126, 3) := by decide +kernel
theorem dX8_ahead_22 : decode cX8_ahead 22 = .ok (.ifCond .ne 6, 3) := by decide +kernel
theorem dX8_ahead_25 : decode cX8_ahead 25 = .ok (.bipush (-2), 2) := by decide +kernel
theorem dX8_ahead_27 : decode cX8_ahead 27 = .ok (.ireturn, 1) := by decide +kernel
theorem dX8_ahead_28 : decode cX8_ahead 28 = .ok (.iload_n 1, 1) := by decide +kernel
theorem dX8_ahead_29 : decode cX8_ahead 29 = .ok (.iload_n 2, 1) := by decide +kernel
theorem dX8_ahead_30 : decode cX8_ahead 30 = .ok (.if_icmp .eq 12, 3) := by decide +kernel
theorem dX8_ahead_33 : decode cX8_ahead 33 = .ok (.aload_n 0, 1) := by decide +kernel
theorem dX8_ahead_34 : decode cX8_ahead 34 = .ok (.iload_n 1, 1) := by decide +kernel
theorem dX8_ahead_35 : decode cX8_ahead 35 = .ok (.iload_n 2, 1) := by decide +kernel
theorem dX8_ahead_36 : decode cX8_ahead 36 = .ok (.invokevirtual 122, 3) := by decide +kernel
theorem dX8_ahead_39 : decode cX8_ahead 39 = .ok (.ifCond .eq 7, 3) := by decide +kernel
theorem dX8_ahead_42 : decode cX8_ahead 42 = .ok (.iconst 0, 1) := by decide +kernel
theorem dX8_ahead_43 : decode cX8_ahead 43 = .ok (.goto 4, 3) := by decide +kernel
theorem dX8_ahead_46 : decode cX8_ahead 46 = .ok (.iconst 1, 1) := by decide +kernel
theorem dX8_ahead_47 : decode cX8_ahead 47 = .ok (.ireturn, 1) := by decide +kernel
theorem dX8_say_0 : decode cX8_say 0 = .ok (.aload_n 0, 1) := by decide +kernel
theorem dX8_say_1 : decode cX8_say 1 = .ok (.iload_n 1, 1) := by decide +kernel
theorem dX8_say_2 : decode cX8_say 2 = .ok (.invokevirtual 97, 3) := by decide +kernel
theorem dX8_say_5 : decode cX8_say 5 = .ok (.ifCond .eq 35, 3) := by decide +kernel
theorem dX8_say_8 : decode cX8_say 8 = .ok (.iload_n 2, 1) := by decide +kernel
theorem dX8_say_9 : decode cX8_say 9 = .ok (.invokestatic 104, 3) := by decide +kernel
theorem dX8_say_12 : decode cX8_say 12 = .ok (.ifCond .eq 28, 3) := by decide +kernel
theorem dX8_say_15 : decode cX8_say 15 = .ok (.iload_n 3, 1) := by decide +kernel
theorem dX8_say_16 : decode cX8_say 16 = .ok (.i2l, 1) := by decide +kernel
theorem dX8_say_17 : decode cX8_say 17 = .ok (.lconst 0, 1) := by decide +kernel
theorem dX8_say_18 : decode cX8_say 18 = .ok (.ldc2_w 129, 3) := by decide +kernel
theorem dX8_say_21 : decode cX8_say 21 = .ok (.invokestatic 79, 3) := by decide +kernel
theorem dX8_say_24 : decode cX8_say 24 = .ok (.ifCond .eq 16, 3) := by decide +kernel
theorem dX8_say_27 : decode cX8_say 27 = .ok (.iload 4, 2) := by decide +kernel
theorem dX8_say_29 : decode cX8_say 29 = .ok (.i2l, 1) := by decide +kernel
theorem dX8_say_30 : decode cX8_say 30 = .ok (.lconst 0, 1) := by decide +kernel
theorem dX8_say_31 : decode cX8_say 31 = .ok (.ldc2_w 131, 3) := by decide +kernel
theorem dX8_say_34 : decode cX8_say 34 = .ok (.invokestatic 79, 3) := by decide +kernel
theorem dX8_say_37 : decode cX8_say 37 = .ok (.ifCond .ne 5, 3) := by decide +kernel
theorem dX8_say_40 : decode cX8_say 40 = .ok (.iconst (-1), 1) := by decide +kernel
theorem dX8_say_41 : decode cX8_say 41 = .ok (.ireturn, 1) := by decide +kernel
theorem dX8_say_42 : decode cX8_say 42 = .ok (.aload_n 0, 1) := by decide +kernel
theorem dX8_say_43 : decode cX8_say 43 = .ok (.getfield 37, 3) := by decide +kernel
theorem dX8_say_46 : decode cX8_say 46 = .ok (.iconst 2, 1) := by decide +kernel
theorem dX8_say_47 : decode cX8_say 47 = .ok (.iload_n 2, 1) := by decide +kernel
theorem dX8_say_48 : decode cX8_say 48 = .ok (.imul, 1) := by decide +kernel
theorem dX8_say_49 : decode cX8_say 49 = .ok (.iaload, 1) := by decide +kernel
theorem dX8_say_50 : decode cX8_say 50 = .ok (.ifCond .lt 34, 3) := by decide +kernel
theorem dX8_say_53 : decode cX8_say 53 = .ok (.aload_n 0, 1) := by decide +kernel
theorem dX8_say_54 : decode cX8_say 54 = .ok (.getfield 16, 3) := by decide +kernel
theorem dX8_say_57 : decode cX8_say 57 = .ok (.bipush 6, 2) := by decide +kernel
theorem dX8_say_59 : decode cX8_say 59 = .ok (.aload_n 0, 1) := by decide +kernel
theorem dX8_say_60 : decode cX8_say 60 = .ok (.getfield 37, 3) := by decide +kernel
theorem dX8_say_63 : decode cX8_say 63 = .ok (.iconst 2, 1) := by decide +kernel
theorem dX8_say_64 : decode cX8_say 64 = .ok (.iload_n 2, 1) := by decide +kernel
theorem dX8_say_65 : decode cX8_say 65 = .ok (.imul, 1) := by decide +kernel
theorem dX8_say_66 : decode cX8_say 66 = .ok (.iaload, 1) := by decide +kernel
theorem dX8_say_67 : decode cX8_say 67 = .ok (.imul, 1) := by decide +kernel
theorem dX8_say_68 : decode cX8_say 68 = .ok (.aload_n 0, 1) := by decide +kernel
theorem dX8_say_69 : decode cX8_say 69 = .ok (.getfield 22, 3) := by decide +kernel
theorem dX8_say_72 : decode cX8_say 72 = .ok (.iconst 3, 1) := by decide +kernel
theorem dX8_say_73 : decode cX8_say 73 = .ok (.iload_n 1, 1) := by decide +kernel
theorem dX8_say_74 : decode cX8_say 74 = .ok (.imul, 1) := by decide +kernel
theorem dX8_say_75 : decode cX8_say 75 = .ok (.iaload, 1) := by decide +kernel
theorem dX8_say_76 : decode cX8_say 76 = .ok (.iadd, 1) := by decide +kernel
theorem dX8_say_77 : decode cX8_say 77 = .ok (.iaload, 1) := by decide +kernel
theorem dX8_say_78 : decode cX8_say 78 = .ok (.ifCond .ge 6, 3) := by decide +kernel
theorem dX8_say_81 : decode cX8_say 81 = .ok (.bipush (-2), 2) := by decide +kernel
theorem dX8_say_83 : decode cX8_say 83 = .ok (.ireturn, 1) := by decide +kernel
theorem dX8_say_84 : decode cX8_say 84 = .ok (.aload_n 0, 1) := by decide +kernel
theorem dX8_say_85 : decode cX8_say 85 = .ok (.getfield 31, 3) := by decide +kernel
theorem dX8_say_88 : decode cX8_say 88 = .ok (.iconst 0, 1) := by decide +kernel
theorem dX8_say_89 : decode cX8_say 89 = .ok (.iaload, 1) := by decide +kernel
theorem dX8_say_90 : decode cX8_say 90 = .ok (.bipush 30, 2) := by decide +kernel
theorem dX8_say_92 : decode cX8_say 92 = .ok (.if_icmp .ne 6, 3) := by decide +kernel
theorem dX8_say_95 : decode cX8_say 95 = .ok (.bipush (-3), 2) := by decide +kernel
theorem dX8_say_97 : decode cX8_say 97 = .ok (.ireturn, 1) := by decide +kernel
theorem dX8_say_98 : decode cX8_say 98 = .ok (.bipush 6, 2) := by decide +kernel
theorem dX8_say_100 : decode cX8_say 100 = .ok (.aload_n 0, 1) := by decide +kernel
theorem dX8_say_101 : decode cX8_say 101 = .ok (.getfield 31, 3) := by decide +kernel
theorem dX8_say_104 : decode cX8_say 104 = .ok (.iconst 0, 1) := by decide +kernel
theorem dX8_say_105 : decode cX8_say 105 = .ok (.iaload, 1) := by decide +kernel
theorem dX8_say_106 : decode cX8_say 106 = .ok (.imul, 1) := by decide +kernel
theorem dX8_say_107 : decode cX8_say 107 = .ok (.istore 7, 2) := by decide +kernel
theorem dX8_say_109 : decode cX8_say 109 = .ok (.aload_n 0, 1) := by decide +kernel
theorem dX8_say_110 : decode cX8_say 110 = .ok (.getfield 34, 3) := by decide +kernel
theorem dX8_say_113 : decode cX8_say 113 = .ok (.iload 7, 2) := by decide +kernel
theorem dX8_say_115 : decode cX8_say 115 = .ok (.iload_n 1, 1) := by decide +kernel
theorem dX8_say_116 : decode cX8_say 116 = .ok (.iastore, 1) := by decide +kernel
theorem dX8_say_117 : decode cX8_say 117 = .ok (.aload_n 0, 1) := by decide +kernel
theorem dX8_say_118 : decode cX8_say 118 = .ok (.getfield 34, 3) := by decide +kernel
theorem dX8_say_121 : decode cX8_say 121 = .ok (.iload 7, 2) := by decide +kernel
theorem dX8_say_123 : decode cX8_say 123 = .ok (.iconst 1, 1) := by decide +kernel
theorem dX8_say_124 : decode cX8_say 124 = .ok (.iadd, 1) := by decide +kernel
theorem dX8_say_125 : decode cX8_say 125 = .ok (.iload_n 2, 1) := by decide +kernel
theorem dX8_say_126 : decode cX8_say 126 = .ok (.iastore, 1) := by decide +kernel
theorem dX8_say_127 : decode cX8_say 127 = .ok (.aload_n 0, 1) := by decide +kernel
theorem dX8_say_128 : decode cX8_say 128 = .ok (.getfield 34, 3) := by decide +kernel
theorem dX8_say_131 : decode cX8_say 131 = .ok (.iload 7, 2) := by decide +kernel
theorem dX8_say_133 : decode cX8_say 133 = .ok (.iconst 2, 1) := by decide +kernel
theorem dX8_say_134 : decode cX8_say 134 = .ok (.iadd, 1) := by decide +kernel
theorem dX8_say_135 : decode cX8_say 135 = .ok (.iload_n 3, 1) := by decide +kernel
theorem dX8_say_136 : decode cX8_say 136 = .ok (.iastore, 1) := by decide +kernel
theorem dX8_say_137 : decode cX8_say 137 = .ok (.aload_n 0, 1) := by decide +kernel
theorem dX8_say_138 : decode cX8_say 138 = .ok (.getfield 34, 3) := by decide +kernel
theorem dX8_say_141 : decode cX8_say 141 = .ok (.iload 7, 2) := by decide +kernel
theorem dX8_say_143 : decode cX8_say 143 = .ok (.iconst 3, 1) := by decide +kernel
theorem dX8_say_144 : decode cX8_say 144 = .ok (.iadd, 1) := by decide +kernel
theorem dX8_say_145 : decode cX8_say 145 = .ok (.iload 4, 2) := by decide +kernel
theorem dX8_say_147 : decode cX8_say 147 = .ok (.iastore, 1) := by decide +kernel
theorem dX8_say_148 : decode cX8_say 148 = .ok (.aload_n 0, 1) := by decide +kernel
theorem dX8_say_149 : decode cX8_say 149 = .ok (.getfield 34, 3) := by decide +kernel
theorem dX8_say_152 : decode cX8_say 152 = .ok (.iload 7, 2) := by decide +kernel
theorem dX8_say_154 : decode cX8_say 154 = .ok (.iconst 4, 1) := by decide +kernel
theorem dX8_say_155 : decode cX8_say 155 = .ok (.iadd, 1) := by decide +kernel
theorem dX8_say_156 : decode cX8_say 156 = .ok (.iload 5, 2) := by decide +kernel
theorem dX8_say_158 : decode cX8_say 158 = .ok (.ifCond .eq 7, 3) := by decide +kernel
theorem dX8_say_161 : decode cX8_say 161 = .ok (.iconst 1, 1) := by decide +kernel
theorem dX8_say_162 : decode cX8_say 162 = .ok (.goto 4, 3) := by decide +kernel
theorem dX8_say_165 : decode cX8_say 165 = .ok (.iconst 0, 1) := by decide +kernel
theorem dX8_say_166 : decode cX8_say 166 = .ok (.iastore, 1) := by decide +kernel
theorem dX8_say_167 : decode cX8_say 167 = .ok (.aload_n 0, 1) := by decide +kernel
theorem dX8_say_168 : decode cX8_say 168 = .ok (.getfield 34, 3) := by decide +kernel
theorem dX8_say_171 : decode cX8_say 171 = .ok (.iload 7, 2) := by decide +kernel
theorem dX8_say_173 : decode cX8_say 173 = .ok (.iconst 5, 1) := by decide +kernel
theorem dX8_say_174 : decode cX8_say 174 = .ok (.iadd, 1) := by decide +kernel
theorem dX8_say_175 : decode cX8_say 175 = .ok (.iload 6, 2) := by decide +kernel
theorem dX8_say_177 : decode cX8_say 177 = .ok (.ifCond .eq 7, 3) := by decide +kernel
theorem dX8_say_180 : decode cX8_say 180 = .ok (.iconst 1, 1) := by decide +kernel
theorem dX8_say_181 : decode cX8_say 181 = .ok (.goto 4, 3) := by decide +kernel
theorem dX8_say_184 : decode cX8_say 184 = .ok (.iconst 0, 1) := by decide +kernel
theorem dX8_say_185 : decode cX8_say 185 = .ok (.iastore, 1) := by decide +kernel
theorem dX8_say_186 : decode cX8_say 186 = .ok (.aload_n 0, 1) := by decide +kernel
theorem dX8_say_187 : decode cX8_say 187 = .ok (.getfield 31, 3) := by decide +kernel
theorem dX8_say_190 : decode cX8_say 190 = .ok (.iconst 0, 1) := by decide +kernel
theorem dX8_say_191 : decode cX8_say 191 = .ok (.dup2, 1) := by decide +kernel
theorem dX8_say_192 : decode cX8_say 192 = .ok (.iaload, 1) := by decide +kernel
theorem dX8_say_193 : decode cX8_say 193 = .ok (.iconst 1, 1) := by decide +kernel
theorem dX8_say_194 : decode cX8_say 194 = .ok (.iadd, 1) := by decide +kernel
theorem dX8_say_195 : decode cX8_say 195 = .ok (.iastore, 1) := by decide +kernel
theorem dX8_say_196 : decode cX8_say 196 = .ok (.aload_n 0, 1) := by decide +kernel
theorem dX8_say_197 : decode cX8_say 197 = .ok (.getfield 31, 3) := by decide +kernel
theorem dX8_say_200 : decode cX8_say 200 = .ok (.iconst 0, 1) := by decide +kernel
theorem dX8_say_201 : decode cX8_say 201 = .ok (.iaload, 1) := by decide +kernel
theorem dX8_say_202 : decode cX8_say 202 = .ok (.iconst 1, 1) := by decide +kernel
theorem dX8_say_203 : decode cX8_say 203 = .ok (.isub, 1) := by decide +kernel
theorem dX8_say_204 : decode cX8_say 204 = .ok (.ireturn, 1) := by decide +kernel
theorem dX8_changeOf_0 : decode cX8_changeOf 0 = .ok (.aload_n 0, 1) := by decide +kernel
theorem dX8_changeOf_1 : decode cX8_changeOf 1 = .ok (.getfield 34, 3) := by decide +kernel
theorem dX8_changeOf_4 : decode cX8_changeOf 4 = .ok (.bipush 6, 2) := by decide +kernel
theorem dX8_changeOf_6 : decode cX8_changeOf 6 = .ok (.iload_n 1, 1) := by decide +kernel
theorem dX8_changeOf_7 : decode cX8_changeOf 7 = .ok (.imul, 1) := by decide +kernel
theorem dX8_changeOf_8 : decode cX8_changeOf 8 = .ok (.iconst 2, 1) := by decide +kernel
theorem dX8_changeOf_9 : decode cX8_changeOf 9 = .ok (.iadd, 1) := by decide +kernel
theorem dX8_changeOf_10 : decode cX8_changeOf 10 = .ok (.iaload, 1) := by decide +kernel
theorem dX8_changeOf_11 : decode cX8_changeOf 11 = .ok (.istore_n 3, 1) := by decide +kernel
theorem dX8_changeOf_12 : decode cX8_changeOf 12 = .ok (.aload_n 0, 1) := by decide +kernel
theorem dX8_changeOf_13 : decode cX8_changeOf 13 = .ok (.getfield 34, 3) := by decide +kernel
theorem dX8_changeOf_16 : decode cX8_changeOf 16 = .ok (.bipush 6, 2) := by decide +kernel
theorem dX8_changeOf_18 : decode cX8_changeOf 18 = .ok (.iload_n 2, 1) := by decide +kernel
theorem dX8_changeOf_19 : decode cX8_changeOf 19 = .ok (.imul, 1) := by decide +kernel
theorem dX8_changeOf_20 : decode cX8_changeOf 20 = .ok (.iconst 2, 1) := by decide +kernel
theorem dX8_changeOf_21 : decode cX8_changeOf 21 = .ok (.iadd, 1) := by decide +kernel
theorem dX8_changeOf_22 : decode cX8_changeOf 22 = .ok (.iaload, 1) := by decide +kernel
theorem dX8_changeOf_23 : decode cX8_changeOf 23 = .ok (.istore 4, 2) := by decide +kernel
theorem dX8_changeOf_25 : decode cX8_changeOf 25 = .ok (.iconst 0, 1) := by decide +kernel
theorem dX8_changeOf_26 : decode cX8_changeOf 26 = .ok (.istore 5, 2) := by decide +kernel
theorem dX8_changeOf_28 : decode cX8_changeOf 28 = .ok (.iconst 0, 1) := by decide +kernel
theorem dX8_changeOf_29 : decode cX8_changeOf 29 = .ok (.istore 6, 2) := by decide +kernel
theorem dX8_changeOf_31 : decode cX8_changeOf 31 = .ok (.iload 6, 2) := by decide +kernel
theorem dX8_changeOf_33 : decode cX8_changeOf 33 = .ok (.iconst 4, 1) := by decide +kernel
theorem dX8_changeOf_34 : decode cX8_changeOf 34 = .ok (.if_icmp .ge 43, 3) := by decide +kernel
theorem dX8_changeOf_37 : decode cX8_changeOf 37 = .ok (.iload 5, 2) := by decide +kernel
theorem dX8_changeOf_39 : decode cX8_changeOf 39 = .ok (.iload_n 3, 1) := by decide +kernel
theorem dX8_changeOf_40 : decode cX8_changeOf 40 = .ok (.bipush 10, 2) := by decide +kernel
theorem dX8_changeOf_42 : decode cX8_changeOf 42 = .ok (.irem, 1) := by decide +kernel
theorem dX8_changeOf_43 : decode cX8_changeOf 43 = .ok (.iload 4, 2) := by decide +kernel
theorem dX8_changeOf_45 : decode cX8_changeOf 45 = .ok (.bipush 10, 2) := by decide +kernel
theorem dX8_changeOf_47 : decode cX8_changeOf 47 = .ok (.irem, 1) := by decide +kernel
theorem dX8_changeOf_48 : decode cX8_changeOf 48 = .ok (.if_icmp .ne 7, 3) := by decide +kernel
theorem dX8_changeOf_51 : decode cX8_changeOf 51 = .ok (.iconst 0, 1) := by decide +kernel
theorem dX8_changeOf_52 : decode cX8_changeOf 52 = .ok (.goto 4, 3) := by decide +kernel
theorem dX8_changeOf_55 : decode cX8_changeOf 55 = .ok (.iconst 3, 1) := by decide +kernel
theorem dX8_changeOf_56 : decode cX8_changeOf 56 = .ok (.iadd, 1) := by decide +kernel
theorem dX8_changeOf_57 : decode cX8_changeOf 57 = .ok (.istore 5, 2) := by decide +kernel
theorem dX8_changeOf_59 : decode cX8_changeOf 59 = .ok (.iload_n 3, 1) := by decide +kernel
theorem dX8_changeOf_60 : decode cX8_changeOf 60 = .ok (.bipush 10, 2) := by decide +kernel
theorem dX8_changeOf_62 : decode cX8_changeOf 62 = .ok (.idiv, 1) := by decide +kernel
theorem dX8_changeOf_63 : decode cX8_changeOf 63 = .ok (.istore_n 3, 1) := by decide +kernel
theorem dX8_changeOf_64 : decode cX8_changeOf 64 = .ok (.iload 4, 2) := by decide +kernel
theorem dX8_changeOf_66 : decode cX8_changeOf 66 = .ok (.bipush 10, 2) := by decide +kernel
theorem dX8_changeOf_68 : decode cX8_changeOf 68 = .ok (.idiv, 1) := by decide +kernel
theorem dX8_changeOf_69 : decode cX8_changeOf 69 = .ok (.istore 4, 2) := by decide +kernel
theorem dX8_changeOf_71 : decode cX8_changeOf 71 = .ok (.iinc 6 1, 3) := by decide +kernel
theorem dX8_changeOf_74 : decode cX8_changeOf 74 = .ok (.goto (-43), 3) := by decide +kernel
theorem dX8_changeOf_77 : decode cX8_changeOf 77 = .ok (.aload_n 0, 1) := by decide +kernel
theorem dX8_changeOf_78 : decode cX8_changeOf 78 = .ok (.getfield 34, 3) := by decide +kernel
theorem dX8_changeOf_81 : decode cX8_changeOf 81 = .ok (.bipush 6, 2) := by decide +kernel
theorem dX8_changeOf_83 : decode cX8_changeOf 83 = .ok (.iload_n 1, 1) := by decide +kernel
theorem dX8_changeOf_84 : decode cX8_changeOf 84 = .ok (.imul, 1) := by decide +kernel
theorem dX8_changeOf_85 : decode cX8_changeOf 85 = .ok (.iconst 3, 1) := by decide +kernel
theorem dX8_changeOf_86 : decode cX8_changeOf 86 = .ok (.iadd, 1) := by decide +kernel
theorem dX8_changeOf_87 : decode cX8_changeOf 87 = .ok (.iaload, 1) := by decide +kernel
theorem dX8_changeOf_88 : decode cX8_changeOf 88 = .ok (.aload_n 0, 1) := by decide +kernel
theorem dX8_changeOf_89 : decode cX8_changeOf 89 = .ok (.getfield 34, 3) := by decide +kernel
theorem dX8_changeOf_92 : decode cX8_changeOf 92 = .ok (.bipush 6, 2) := by decide +kernel
theorem dX8_changeOf_94 : decode cX8_changeOf 94 = .ok (.iload_n 2, 1) := by decide +kernel
theorem dX8_changeOf_95 : decode cX8_changeOf 95 = .ok (.imul, 1) := by decide +kernel
theorem dX8_changeOf_96 : decode cX8_changeOf 96 = .ok (.iconst 3, 1) := by decide +kernel
theorem dX8_changeOf_97 : decode cX8_changeOf 97 = .ok (.iadd, 1) := by decide +kernel
theorem dX8_changeOf_98 : decode cX8_changeOf 98 = .ok (.iaload, 1) := by decide +kernel
theorem dX8_changeOf_99 : decode cX8_changeOf 99 = .ok (.ixor, 1) := by decide +kernel
theorem dX8_changeOf_100 : decode cX8_changeOf 100 = .ok (.istore 6, 2) := by decide +kernel
theorem dX8_changeOf_102 : decode cX8_changeOf 102 = .ok (.iload 6, 2) := by decide +kernel
theorem dX8_changeOf_104 : decode cX8_changeOf 104 = .ok (.ifCond .eq 18, 3) := by decide +kernel
theorem dX8_changeOf_107 : decode cX8_changeOf 107 = .ok (.iinc 5 1, 3) := by decide +kernel
theorem dX8_changeOf_110 : decode cX8_changeOf 110 = .ok (.iload 6, 2) := by decide +kernel
theorem dX8_changeOf_112 : decode cX8_changeOf 112 = .ok (.iload 6, 2) := by decide +kernel
theorem dX8_changeOf_114 : decode cX8_changeOf 114 = .ok (.iconst 1, 1) := by decide +kernel
theorem dX8_changeOf_115 : decode cX8_changeOf 115 = .ok (.isub, 1) := by decide +kernel
theorem dX8_changeOf_116 : decode cX8_changeOf 116 = .ok (.iand, 1) := by decide +kernel
theorem dX8_changeOf_117 : decode cX8_changeOf 117 = .ok (.istore 6, 2) := by decide +kernel
theorem dX8_changeOf_119 : decode cX8_changeOf 119 = .ok (.goto (-17), 3) := by decide +kernel
theorem dX8_changeOf_122 : decode cX8_changeOf 122 = .ok (.iload 5, 2) := by decide +kernel
theorem dX8_changeOf_124 : decode cX8_changeOf 124 = .ok (.ireturn, 1) := by decide +kernel
theorem dX8_change_0 : decode cX8_change 0 = .ok (.aload_n 0, 1) := by decide +kernel
theorem dX8_change_1 : decode cX8_change 1 = .ok (.iload_n 1, 1) := by decide +kernel
theorem dX8_change_2 : decode cX8_change 2 = .ok (.invokevirtual 133, 3) := by decide +kernel
theorem dX8_change_5 : decode cX8_change 5 = .ok (.ifCond .eq 45, 3) := by decide +kernel
theorem dX8_change_8 : decode cX8_change 8 = .ok (.aload_n 0, 1) := by decide +kernel
theorem dX8_change_9 : decode cX8_change 9 = .ok (.iload_n 2, 1) := by decide +kernel
theorem dX8_change_10 : decode cX8_change 10 = .ok (.invokevirtual 133, 3) := by decide +kernel
theorem dX8_change_13 : decode cX8_change 13 = .ok (.ifCond .eq 37, 3) := by decide +kernel
theorem dX8_change_16 : decode cX8_change 16 = .ok (.aload_n 0, 1) := by decide +kernel
theorem dX8_change_17 : decode cX8_change 17 = .ok (.getfield 34, 3) := by decide +kernel
theorem dX8_change_20 : decode cX8_change 20 = .ok (.bipush 6, 2) := by decide +kernel
theorem dX8_change_22 : decode cX8_change 22 = .ok (.iload_n 1, 1) := by decide +kernel
theorem dX8_change_23 : decode cX8_change 23 = .ok (.imul, 1) := by decide +kernel
theorem dX8_change_24 : decode cX8_change 24 = .ok (.iconst 1, 1) := by decide +kernel
theorem dX8_change_25 : decode cX8_change 25 = .ok (.iadd, 1) := by decide +kernel
theorem dX8_change_26 : decode cX8_change 26 = .ok (.iaload, 1) := by decide +kernel
theorem dX8_change_27 : decode cX8_change 27 = .ok (.aload_n 0, 1) := by decide +kernel
theorem dX8_change_28 : decode cX8_change 28 = .ok (.getfield 34, 3) := by decide +kernel
theorem dX8_change_31 : decode cX8_change 31 = .ok (.bipush 6, 2) := by decide +kernel
theorem dX8_change_33 : decode cX8_change 33 = .ok (.iload_n 2, 1) := by decide +kernel
theorem dX8_change_34 : decode cX8_change 34 = .ok (.imul, 1) := by decide +kernel
theorem dX8_change_35 : decode cX8_change 35 = .ok (.iconst 1, 1) := by decide +kernel
theorem dX8_change_36 : decode cX8_change 36 = .ok (.iadd, 1) := by decide +kernel
theorem dX8_change_37 : decode cX8_change 37 = .ok (.iaload, 1) := by decide +kernel
theorem dX8_change_38 : decode cX8_change 38 = .ok (.if_icmp .ne 12, 3) := by decide +kernel
theorem dX8_change_41 : decode cX8_change 41 = .ok (.aload_n 0, 1) := by decide +kernel
theorem dX8_change_42 : decode cX8_change 42 = .ok (.iload_n 1, 1) := by decide +kernel
theorem dX8_change_43 : decode cX8_change 43 = .ok (.iload_n 2, 1) := by decide +kernel
theorem dX8_change_44 : decode cX8_change 44 = .ok (.invokevirtual 136, 3) := by decide +kernel
theorem dX8_change_47 : decode cX8_change 47 = .ok (.goto 4, 3) := by decide +kernel
theorem dX8_change_50 : decode cX8_change 50 = .ok (.iconst (-1), 1) := by decide +kernel
theorem dX8_change_51 : decode cX8_change 51 = .ok (.ireturn, 1) := by decide +kernel
theorem dX8_own_0 : decode cX8_own 0 = .ok (.iload_n 1, 1) := by decide +kernel
theorem dX8_own_1 : decode cX8_own 1 = .ok (.i2l, 1) := by decide +kernel
theorem dX8_own_2 : decode cX8_own 2 = .ok (.lconst 0, 1) := by decide +kernel
theorem dX8_own_3 : decode cX8_own 3 = .ok (.ldc2_w 139, 3) := by decide +kernel
theorem dX8_own_6 : decode cX8_own 6 = .ok (.invokestatic 79, 3) := by decide +kernel
theorem dX8_own_9 : decode cX8_own 9 = .ok (.ifCond .ne 5, 3) := by decide +kernel
theorem dX8_own_12 : decode cX8_own 12 = .ok (.iconst (-1), 1) := by decide +kernel
theorem dX8_own_13 : decode cX8_own 13 = .ok (.ireturn, 1) := by decide +kernel
theorem dX8_own_14 : decode cX8_own 14 = .ok (.aload_n 0, 1) := by decide +kernel
theorem dX8_own_15 : decode cX8_own 15 = .ok (.getfield 43, 3) := by decide +kernel
theorem dX8_own_18 : decode cX8_own 18 = .ok (.istore_n 2, 1) := by decide +kernel
theorem dX8_own_19 : decode cX8_own 19 = .ok (.aload_n 0, 1) := by decide +kernel
theorem dX8_own_20 : decode cX8_own 20 = .ok (.iload_n 1, 1) := by decide +kernel
theorem dX8_own_21 : decode cX8_own 21 = .ok (.putfield 43, 3) := by decide +kernel
theorem dX8_own_24 : decode cX8_own 24 = .ok (.iload_n 2, 1) := by decide +kernel
theorem dX8_own_25 : decode cX8_own 25 = .ok (.ireturn, 1) := by decide +kernel
theorem dX8_couldCopy_0 : decode cX8_couldCopy 0 = .ok (.aload_n 0, 1) := by decide +kernel
theorem dX8_couldCopy_1 : decode cX8_couldCopy 1 = .ok (.getfield 34, 3) := by decide +kernel
theorem dX8_couldCopy_4 : decode cX8_couldCopy 4 = .ok (.bipush 6, 2) := by decide +kernel
theorem dX8_couldCopy_6 : decode cX8_couldCopy 6 = .ok (.iload_n 1, 1) := by decide +kernel
theorem dX8_couldCopy_7 : decode cX8_couldCopy 7 = .ok (.imul, 1) := by decide +kernel
theorem dX8_couldCopy_8 : decode cX8_couldCopy 8 = .ok (.iaload, 1) := by decide +kernel
theorem dX8_couldCopy_9 : decode cX8_couldCopy 9 = .ok (.istore_n 3, 1) := by decide +kernel
theorem dX8_couldCopy_10 : decode cX8_couldCopy 10 = .ok (.aload_n 0, 1) := by decide +kernel
theorem dX8_couldCopy_11 : decode cX8_couldCopy 11 = .ok (.getfield 34, 3) := by decide +kernel
theorem dX8_couldCopy_14 : decode cX8_couldCopy 14 = .ok (.bipush 6, 2) := by decide +kernel
theorem dX8_couldCopy_16 : decode cX8_couldCopy 16 = .ok (.iload_n 2, 1) := by decide +kernel
theorem dX8_couldCopy_17 : decode cX8_couldCopy 17 = .ok (.imul, 1) := by decide +kernel
theorem dX8_couldCopy_18 : decode cX8_couldCopy 18 = .ok (.iaload, 1) := by decide +kernel
theorem dX8_couldCopy_19 : decode cX8_couldCopy 19 = .ok (.istore 4, 2) := by decide +kernel
theorem dX8_couldCopy_21 : decode cX8_couldCopy 21 = .ok (.iload_n 3, 1) := by decide +kernel
theorem dX8_couldCopy_22 : decode cX8_couldCopy 22 = .ok (.iload 4, 2) := by decide +kernel
theorem dX8_couldCopy_24 : decode cX8_couldCopy 24 = .ok (.if_icmp .eq 68, 3) := by decide +kernel
theorem dX8_couldCopy_27 : decode cX8_couldCopy 27 = .ok (.aload_n 0, 1) := by decide +kernel
theorem dX8_couldCopy_28 : decode cX8_couldCopy 28 = .ok (.getfield 34, 3) := by decide +kernel
theorem dX8_couldCopy_31 : decode cX8_couldCopy 31 = .ok (.bipush 6, 2) := by decide +kernel
theorem dX8_couldCopy_33 : decode cX8_couldCopy 33 = .ok (.iload_n 1, 1) := by decide +kernel
theorem dX8_couldCopy_34 : decode cX8_couldCopy 34 = .ok (.imul, 1) := by decide +kernel
theorem dX8_couldCopy_35 : decode cX8_couldCopy 35 = .ok (.iconst 4, 1) := by decide +kernel
theorem dX8_couldCopy_36 : decode cX8_couldCopy 36 = .ok (.iadd, 1) := by decide +kernel
theorem dX8_couldCopy_37 : decode cX8_couldCopy 37 = .ok (.iaload, 1) := by decide +kernel
theorem dX8_couldCopy_38 : decode cX8_couldCopy 38 = .ok (.iconst 1, 1) := by decide +kernel
theorem dX8_couldCopy_39 : decode cX8_couldCopy 39 = .ok (.if_icmp .eq 53, 3) := by decide +kernel
theorem dX8_couldCopy_42 : decode cX8_couldCopy 42 = .ok (.aload_n 0, 1) := by decide +kernel
theorem dX8_couldCopy_43 : decode cX8_couldCopy 43 = .ok (.getfield 34, 3) := by decide +kernel
theorem dX8_couldCopy_46 : decode cX8_couldCopy 46 = .ok (.bipush 6, 2) := by decide +kernel
theorem dX8_couldCopy_48 : decode cX8_couldCopy 48 = .ok (.iload_n 1, 1) := by decide +kernel
theorem dX8_couldCopy_49 : decode cX8_couldCopy 49 = .ok (.imul, 1) := by decide +kernel
theorem dX8_couldCopy_50 : decode cX8_couldCopy 50 = .ok (.iconst 1, 1) := by decide +kernel
theorem dX8_couldCopy_51 : decode cX8_couldCopy 51 = .ok (.iadd, 1) := by decide +kernel
theorem dX8_couldCopy_52 : decode cX8_couldCopy 52 = .ok (.iaload, 1) := by decide +kernel
theorem dX8_couldCopy_53 : decode cX8_couldCopy 53 = .ok (.aload_n 0, 1) := by decide +kernel
theorem dX8_couldCopy_54 : decode cX8_couldCopy 54 = .ok (.getfield 34, 3) := by decide +kernel
theorem dX8_couldCopy_57 : decode cX8_couldCopy 57 = .ok (.bipush 6, 2) := by decide +kernel
theorem dX8_couldCopy_59 : decode cX8_couldCopy 59 = .ok (.iload_n 2, 1) := by decide +kernel
theorem dX8_couldCopy_60 : decode cX8_couldCopy 60 = .ok (.imul, 1) := by decide +kernel
theorem dX8_couldCopy_61 : decode cX8_couldCopy 61 = .ok (.iconst 1, 1) := by decide +kernel
theorem dX8_couldCopy_62 : decode cX8_couldCopy 62 = .ok (.iadd, 1) := by decide +kernel
theorem dX8_couldCopy_63 : decode cX8_couldCopy 63 = .ok (.iaload, 1) := by decide +kernel
theorem dX8_couldCopy_64 : decode cX8_couldCopy 64 = .ok (.if_icmp .ne 28, 3) := by decide +kernel
theorem dX8_couldCopy_67 : decode cX8_couldCopy 67 = .ok (.aload_n 0, 1) := by decide +kernel
theorem dX8_couldCopy_68 : decode cX8_couldCopy 68 = .ok (.getfield 34, 3) := by decide +kernel
theorem dX8_couldCopy_71 : decode cX8_couldCopy 71 = .ok (.bipush 6, 2) := by decide +kernel
theorem dX8_couldCopy_73 : decode cX8_couldCopy 73 = .ok (.iload_n 1, 1) := by decide +kernel
theorem dX8_couldCopy_74 : decode cX8_couldCopy 74 = .ok (.imul, 1) := by decide +kernel
theorem dX8_couldCopy_75 : decode cX8_couldCopy 75 = .ok (.iconst 5, 1) := by decide +kernel
theorem dX8_couldCopy_76 : decode cX8_couldCopy 76 = .ok (.iadd, 1) := by decide +kernel
theorem dX8_couldCopy_77 : decode cX8_couldCopy 77 = .ok (.iaload, 1) := by decide +kernel
theorem dX8_couldCopy_78 : decode cX8_couldCopy 78 = .ok (.aload_n 0, 1) := by decide +kernel
theorem dX8_couldCopy_79 : decode cX8_couldCopy 79 = .ok (.getfield 34, 3) := by decide +kernel
theorem dX8_couldCopy_82 : decode cX8_couldCopy 82 = .ok (.bipush 6, 2) := by decide +kernel
theorem dX8_couldCopy_84 : decode cX8_couldCopy 84 = .ok (.iload_n 2, 1) := by decide +kernel
theorem dX8_couldCopy_85 : decode cX8_couldCopy 85 = .ok (.imul, 1) := by decide +kernel
theorem dX8_couldCopy_86 : decode cX8_couldCopy 86 = .ok (.iconst 5, 1) := by decide +kernel
theorem dX8_couldCopy_87 : decode cX8_couldCopy 87 = .ok (.iadd, 1) := by decide +kernel
theorem dX8_couldCopy_88 : decode cX8_couldCopy 88 = .ok (.iaload, 1) := by decide +kernel
theorem dX8_couldCopy_89 : decode cX8_couldCopy 89 = .ok (.if_icmp .eq 5, 3) := by decide +kernel
theorem dX8_couldCopy_92 : decode cX8_couldCopy 92 = .ok (.iconst 0, 1) := by decide +kernel
theorem dX8_couldCopy_93 : decode cX8_couldCopy 93 = .ok (.ireturn, 1) := by decide +kernel
theorem dX8_couldCopy_94 : decode cX8_couldCopy 94 = .ok (.aload_n 0, 1) := by decide +kernel
theorem dX8_couldCopy_95 : decode cX8_couldCopy 95 = .ok (.iload 4, 2) := by decide +kernel
theorem dX8_couldCopy_97 : decode cX8_couldCopy 97 = .ok (.iload_n 3, 1) := by decide +kernel
theorem dX8_couldCopy_98 : decode cX8_couldCopy 98 = .ok (.invokevirtual 100, 3) := by decide +kernel
theorem dX8_couldCopy_101 : decode cX8_couldCopy 101 = .ok (.istore 5, 2) := by decide +kernel
theorem dX8_couldCopy_103 : decode cX8_couldCopy 103 = .ok (.iload 5, 2) := by decide +kernel
theorem dX8_couldCopy_105 : decode cX8_couldCopy 105 = .ok (.ifCond .lt 64, 3) := by decide +kernel
theorem dX8_couldCopy_108 : decode cX8_couldCopy 108 = .ok (.aload_n 0, 1) := by decide +kernel
theorem dX8_couldCopy_109 : decode cX8_couldCopy 109 = .ok (.getfield 65, 3) := by decide +kernel
theorem dX8_couldCopy_112 : decode cX8_couldCopy 112 = .ok (.iload_n 3, 1) := by decide +kernel
theorem dX8_couldCopy_113 : decode cX8_couldCopy 113 = .ok (.iaload, 1) := by decide +kernel
theorem dX8_couldCopy_114 : decode cX8_couldCopy 114 = .ok (.aload_n 0, 1) := by decide +kernel
theorem dX8_couldCopy_115 : decode cX8_couldCopy 115 = .ok (.getfield 62, 3) := by decide +kernel
theorem dX8_couldCopy_118 : decode cX8_couldCopy 118 = .ok (.iload 4, 2) := by decide +kernel
theorem dX8_couldCopy_120 : decode cX8_couldCopy 120 = .ok (.iaload, 1) := by decide +kernel
theorem dX8_couldCopy_121 : decode cX8_couldCopy 121 = .ok (.iload 5, 2) := by decide +kernel
theorem dX8_couldCopy_123 : decode cX8_couldCopy 123 = .ok (.iadd, 1) := by decide +kernel
theorem dX8_couldCopy_124 : decode cX8_couldCopy 124 = .ok (.if_icmp .lt 45, 3) := by decide +kernel
theorem dX8_couldCopy_127 : decode cX8_couldCopy 127 = .ok (.aload_n 0, 1) := by decide +kernel
theorem dX8_couldCopy_128 : decode cX8_couldCopy 128 = .ok (.getfield 62, 3) := by decide +kernel
theorem dX8_couldCopy_131 : decode cX8_couldCopy 131 = .ok (.iload 4, 2) := by decide +kernel
theorem dX8_couldCopy_133 : decode cX8_couldCopy 133 = .ok (.iaload, 1) := by decide +kernel
theorem dX8_couldCopy_134 : decode cX8_couldCopy 134 = .ok (.aload_n 0, 1) := by decide +kernel
theorem dX8_couldCopy_135 : decode cX8_couldCopy 135 = .ok (.getfield 62, 3) := by decide +kernel
theorem dX8_couldCopy_138 : decode cX8_couldCopy 138 = .ok (.iload_n 3, 1) := by decide +kernel
theorem dX8_couldCopy_139 : decode cX8_couldCopy 139 = .ok (.iaload, 1) := by decide +kernel
theorem dX8_couldCopy_140 : decode cX8_couldCopy 140 = .ok (.if_icmp .lt 25, 3) := by decide +kernel
theorem dX8_couldCopy_143 : decode cX8_couldCopy 143 = .ok (.aload_n 0, 1) := by decide +kernel
theorem dX8_couldCopy_144 : decode cX8_couldCopy 144 = .ok (.getfield 62, 3) := by decide +kernel
theorem dX8_couldCopy_147 : decode cX8_couldCopy 147 = .ok (.iload 4, 2) := by decide +kernel
theorem dX8_couldCopy_149 : decode cX8_couldCopy 149 = .ok (.iaload, 1) := by decide +kernel
theorem dX8_couldCopy_150 : decode cX8_couldCopy 150 = .ok (.aload_n 0, 1) := by decide +kernel
theorem dX8_couldCopy_151 : decode cX8_couldCopy 151 = .ok (.getfield 62, 3) := by decide +kernel
theorem dX8_couldCopy_154 : decode cX8_couldCopy 154 = .ok (.iload_n 3, 1) := by decide +kernel
theorem dX8_couldCopy_155 : decode cX8_couldCopy 155 = .ok (.iaload, 1) := by decide +kernel
theorem dX8_couldCopy_156 : decode cX8_couldCopy 156 = .ok (.if_icmp .ne 13, 3) := by decide +kernel
theorem dX8_couldCopy_159 : decode cX8_couldCopy 159 = .ok (.iload 4, 2) := by decide +kernel
theorem dX8_couldCopy_161 : decode cX8_couldCopy 161 = .ok (.iload_n 3, 1) := by decide +kernel
theorem dX8_couldCopy_162 : decode cX8_couldCopy 162 = .ok (.if_icmp .ge 7, 3) := by decide +kernel
theorem dX8_couldCopy_165 : decode cX8_couldCopy 165 = .ok (.iconst 1, 1) := by decide +kernel
theorem dX8_couldCopy_166 : decode cX8_couldCopy 166 = .ok (.goto 4, 3) := by decide +kernel
theorem dX8_couldCopy_169 : decode cX8_couldCopy 169 = .ok (.iconst 0, 1) := by decide +kernel
theorem dX8_couldCopy_170 : decode cX8_couldCopy 170 = .ok (.ireturn, 1) := by decide +kernel
theorem dX8_layTree_0 : decode cX8_layTree 0 = .ok (.aload_n 0, 1) := by decide +kernel
theorem dX8_layTree_1 : decode cX8_layTree 1 = .ok (.invokevirtual 126, 3) := by decide +kernel
theorem dX8_layTree_4 : decode cX8_layTree 4 = .ok (.ifCond .ne 5, 3) := by decide +kernel
theorem dX8_layTree_7 : decode cX8_layTree 7 = .ok (.iconst 0, 1) := by decide +kernel
theorem dX8_layTree_8 : decode cX8_layTree 8 = .ok (.ireturn, 1) := by decide +kernel
theorem dX8_layTree_9 : decode cX8_layTree 9 = .ok (.iconst 0, 1) := by decide +kernel
theorem dX8_layTree_10 : decode cX8_layTree 10 = .ok (.istore_n 1, 1) := by decide +kernel
theorem dX8_layTree_11 : decode cX8_layTree 11 = .ok (.iload_n 1, 1) := by decide +kernel
theorem dX8_layTree_12 : decode cX8_layTree 12 = .ok (.aload_n 0, 1) := by decide +kernel
theorem dX8_layTree_13 : decode cX8_layTree 13 = .ok (.getfield 31, 3) := by decide +kernel
theorem dX8_layTree_16 : decode cX8_layTree 16 = .ok (.iconst 0, 1) := by decide +kernel
theorem dX8_layTree_17 : decode cX8_layTree 17 = .ok (.iaload, 1) := by decide +kernel
theorem dX8_layTree_18 : decode cX8_layTree 18 = .ok (.if_icmp .ge 75, 3) := by decide +kernel
theorem dX8_layTree_21 : decode cX8_layTree 21 = .ok (.aload_n 0, 1) := by decide +kernel
theorem dX8_layTree_22 : decode cX8_layTree 22 = .ok (.getfield 68, 3) := by decide +kernel
theorem dX8_layTree_25 : decode cX8_layTree 25 = .ok (.iload_n 1, 1) := by decide +kernel
theorem dX8_layTree_26 : decode cX8_layTree 26 = .ok (.bipush (-4), 2) := by decide +kernel
theorem dX8_layTree_28 : decode cX8_layTree 28 = .ok (.iastore, 1) := by decide +kernel
theorem dX8_layTree_29 : decode cX8_layTree 29 = .ok (.aload_n 0, 1) := by decide +kernel
theorem dX8_layTree_30 : decode cX8_layTree 30 = .ok (.getfield 43, 3) := by decide +kernel
theorem dX8_layTree_33 : decode cX8_layTree 33 = .ok (.iconst 1, 1) := by decide +kernel
theorem dX8_layTree_34 : decode cX8_layTree 34 = .ok (.iadd, 1) := by decide +kernel
theorem dX8_layTree_35 : decode cX8_layTree 35 = .ok (.istore_n 2, 1) := by decide +kernel
theorem dX8_layTree_36 : decode cX8_layTree 36 = .ok (.iconst 0, 1) := by decide +kernel
theorem dX8_layTree_37 : decode cX8_layTree 37 = .ok (.istore_n 3, 1) := by decide +kernel
theorem dX8_layTree_38 : decode cX8_layTree 38 = .ok (.iload_n 3, 1) := by decide +kernel
theorem dX8_layTree_39 : decode cX8_layTree 39 = .ok (.aload_n 0, 1) := by decide +kernel
theorem dX8_layTree_40 : decode cX8_layTree 40 = .ok (.getfield 31, 3) := by decide +kernel
theorem dX8_layTree_43 : decode cX8_layTree 43 = .ok (.iconst 0, 1) := by decide +kernel
theorem dX8_layTree_44 : decode cX8_layTree 44 = .ok (.iaload, 1) := by decide +kernel
theorem dX8_layTree_45 : decode cX8_layTree 45 = .ok (.if_icmp .ge 42, 3) := by decide +kernel
theorem dX8_layTree_48 : decode cX8_layTree 48 = .ok (.aload_n 0, 1) := by decide +kernel
theorem dX8_layTree_49 : decode cX8_layTree 49 = .ok (.iload_n 1, 1) := by decide +kernel
theorem dX8_layTree_50 : decode cX8_layTree 50 = .ok (.iload_n 3, 1) := by decide +kernel
theorem dX8_layTree_51 : decode cX8_layTree 51 = .ok (.invokevirtual 141, 3) := by decide +kernel
theorem dX8_layTree_54 : decode cX8_layTree 54 = .ok (.ifCond .eq 27, 3) := by decide +kernel
theorem dX8_layTree_57 : decode cX8_layTree 57 = .ok (.aload_n 0, 1) := by decide +kernel
theorem dX8_layTree_58 : decode cX8_layTree 58 = .ok (.iload_n 1, 1) := by decide +kernel
theorem dX8_layTree_59 : decode cX8_layTree 59 = .ok (.iload_n 3, 1) := by decide +kernel
theorem dX8_layTree_60 : decode cX8_layTree 60 = .ok (.invokevirtual 136, 3) := by decide +kernel
theorem dX8_layTree_63 : decode cX8_layTree 63 = .ok (.iload_n 2, 1) := by decide +kernel
theorem dX8_layTree_64 : decode cX8_layTree 64 = .ok (.if_icmp .ge 17, 3) := by decide +kernel
theorem dX8_layTree_67 : decode cX8_layTree 67 = .ok (.aload_n 0, 1) := by decide +kernel
theorem dX8_layTree_68 : decode cX8_layTree 68 = .ok (.iload_n 1, 1) := by decide +kernel
theorem dX8_layTree_69 : decode cX8_layTree 69 = .ok (.iload_n 3, 1) := by decide +kernel
theorem dX8_layTree_70 : decode cX8_layTree 70 = .ok (.invokevirtual 136, 3) := by decide +kernel
theorem dX8_layTree_73 : decode cX8_layTree 73 = .ok (.istore_n 2, 1) := by decide +kernel
theorem dX8_layTree_74 : decode cX8_layTree 74 = .ok (.aload_n 0, 1) := by decide +kernel
theorem dX8_layTree_75 : decode cX8_layTree 75 = .ok (.getfield 68, 3) := by decide +kernel
theorem dX8_layTree_78 : decode cX8_layTree 78 = .ok (.iload_n 1, 1) := by decide +kernel
theorem dX8_layTree_79 : decode cX8_layTree 79 = .ok (.iload_n 3, 1) := by decide +kernel
theorem dX8_layTree_80 : decode cX8_layTree 80 = .ok (.iastore, 1) := by decide +kernel
theorem dX8_layTree_81 : decode cX8_layTree 81 = .ok (.iinc 3 1, 3) := by decide +kernel
theorem dX8_layTree_84 : decode cX8_layTree 84 = .ok (.goto (-46), 3) := by decide +kernel
theorem dX8_layTree_87 : decode cX8_layTree 87 = .ok (.iinc 1 1, 3) := by decide +kernel
theorem dX8_layTree_90 : decode cX8_layTree 90 = .ok (.goto (-79), 3) := by decide +kernel
theorem dX8_layTree_93 : decode cX8_layTree 93 = .ok (.iconst 1, 1) := by decide +kernel
theorem dX8_layTree_94 : decode cX8_layTree 94 = .ok (.ireturn, 1) := by decide +kernel
theorem dX8_from_0 : decode cX8_from 0 = .ok (.aload_n 0, 1) := by decide +kernel
theorem dX8_from_1 : decode cX8_from 1 = .ok (.iload_n 1, 1) := by decide +kernel
theorem dX8_from_2 : decode cX8_from 2 = .ok (.invokevirtual 133, 3) := by decide +kernel
theorem dX8_from_5 : decode cX8_from 5 = .ok (.ifCond .ne 5, 3) := by decide +kernel
theorem dX8_from_8 : decode cX8_from 8 = .ok (.iconst (-1), 1) := by decide +kernel
theorem dX8_from_9 : decode cX8_from 9 = .ok (.ireturn, 1) := by decide +kernel
theorem dX8_from_10 : decode cX8_from 10 = .ok (.aload_n 0, 1) := by decide +kernel
theorem dX8_from_11 : decode cX8_from 11 = .ok (.invokevirtual 144, 3) := by decide +kernel
theorem dX8_from_14 : decode cX8_from 14 = .ok (.ifCond .eq 12, 3) := by decide +kernel
theorem dX8_from_17 : decode cX8_from 17 = .ok (.aload_n 0, 1) := by decide +kernel
theorem dX8_from_18 : decode cX8_from 18 = .ok (.getfield 68, 3) := by decide +kernel
theorem dX8_from_21 : decode cX8_from 21 = .ok (.iload_n 1, 1) := by decide +kernel
theorem dX8_from_22 : decode cX8_from 22 = .ok (.iaload, 1) := by decide +kernel
theorem dX8_from_23 : decode cX8_from 23 = .ok (.goto 5, 3) := by decide +kernel
theorem dX8_from_26 : decode cX8_from 26 = .ok (.bipush (-2), 2) := by decide +kernel
theorem dX8_from_28 : decode cX8_from 28 = .ok (.ireturn, 1) := by decide +kernel
theorem dX8_rootOf_0 : decode cX8_rootOf 0 = .ok (.iload_n 1, 1) := by decide +kernel
theorem dX8_rootOf_1 : decode cX8_rootOf 1 = .ok (.istore_n 2, 1) := by decide +kernel
theorem dX8_rootOf_2 : decode cX8_rootOf 2 = .ok (.aload_n 0, 1) := by decide +kernel
theorem dX8_rootOf_3 : decode cX8_rootOf 3 = .ok (.getfield 68, 3) := by decide +kernel
theorem dX8_rootOf_6 : decode cX8_rootOf 6 = .ok (.iload_n 2, 1) := by decide +kernel
theorem dX8_rootOf_7 : decode cX8_rootOf 7 = .ok (.iaload, 1) := by decide +kernel
theorem dX8_rootOf_8 : decode cX8_rootOf 8 = .ok (.ifCond .lt 13, 3) := by decide +kernel
theorem dX8_rootOf_11 : decode cX8_rootOf 11 = .ok (.aload_n 0, 1) := by decide +kernel
theorem dX8_rootOf_12 : decode cX8_rootOf 12 = .ok (.getfield 68, 3) := by decide +kernel
theorem dX8_rootOf_15 : decode cX8_rootOf 15 = .ok (.iload_n 2, 1) := by decide +kernel
theorem dX8_rootOf_16 : decode cX8_rootOf 16 = .ok (.iaload, 1) := by decide +kernel
theorem dX8_rootOf_17 : decode cX8_rootOf 17 = .ok (.istore_n 2, 1) := by decide +kernel
theorem dX8_rootOf_18 : decode cX8_rootOf 18 = .ok (.goto (-16), 3) := by decide +kernel
theorem dX8_rootOf_21 : decode cX8_rootOf 21 = .ok (.iload_n 2, 1) := by decide +kernel
theorem dX8_rootOf_22 : decode cX8_rootOf 22 = .ok (.ireturn, 1) := by decide +kernel
theorem dX8_voice_0 : decode cX8_voice 0 = .ok (.aload_n 0, 1) := by decide +kernel
theorem dX8_voice_1 : decode cX8_voice 1 = .ok (.iload_n 1, 1) := by decide +kernel
theorem dX8_voice_2 : decode cX8_voice 2 = .ok (.invokevirtual 133, 3) := by decide +kernel
theorem dX8_voice_5 : decode cX8_voice 5 = .ok (.ifCond .eq 15, 3) := by decide +kernel
theorem dX8_voice_8 : decode cX8_voice 8 = .ok (.iload_n 2, 1) := by decide +kernel
theorem dX8_voice_9 : decode cX8_voice 9 = .ok (.i2l, 1) := by decide +kernel
theorem dX8_voice_10 : decode cX8_voice 10 = .ok (.lconst 0, 1) := by decide +kernel
theorem dX8_voice_11 : decode cX8_voice 11 = .ok (.ldc2_w 147, 3) := by decide +kernel
theorem dX8_voice_14 : decode cX8_voice 14 = .ok (.invokestatic 79, 3) := by decide +kernel
theorem dX8_voice_17 : decode cX8_voice 17 = .ok (.ifCond .ne 5, 3) := by decide +kernel
theorem dX8_voice_20 : decode cX8_voice 20 = .ok (.iconst (-1), 1) := by decide +kernel
theorem dX8_voice_21 : decode cX8_voice 21 = .ok (.ireturn, 1) := by decide +kernel
theorem dX8_voice_22 : decode cX8_voice 22 = .ok (.aload_n 0, 1) := by decide +kernel
theorem dX8_voice_23 : decode cX8_voice 23 = .ok (.invokevirtual 144, 3) := by decide +kernel
theorem dX8_voice_26 : decode cX8_voice 26 = .ok (.ifCond .ne 6, 3) := by decide +kernel
theorem dX8_voice_29 : decode cX8_voice 29 = .ok (.bipush (-2), 2) := by decide +kernel
theorem dX8_voice_31 : decode cX8_voice 31 = .ok (.ireturn, 1) := by decide +kernel
theorem dX8_voice_32 : decode cX8_voice 32 = .ok (.aload_n 0, 1) := by decide +kernel
theorem dX8_voice_33 : decode cX8_voice 33 = .ok (.iload_n 1, 1) := by decide +kernel
theorem dX8_voice_34 : decode cX8_voice 34 = .ok (.invokevirtual 149, 3) := by decide +kernel
theorem dX8_voice_37 : decode cX8_voice 37 = .ok (.istore_n 3, 1) := by decide +kernel
theorem dX8_voice_38 : decode cX8_voice 38 = .ok (.iload_n 2, 1) := by decide +kernel
theorem dX8_voice_39 : decode cX8_voice 39 = .ok (.ifCond .ne 5, 3) := by decide +kernel
theorem dX8_voice_42 : decode cX8_voice 42 = .ok (.iload_n 3, 1) := by decide +kernel
theorem dX8_voice_43 : decode cX8_voice 43 = .ok (.ireturn, 1) := by decide +kernel
theorem dX8_voice_44 : decode cX8_voice 44 = .ok (.iconst 0, 1) := by decide +kernel
theorem dX8_voice_45 : decode cX8_voice 45 = .ok (.istore 4, 2) := by decide +kernel
theorem dX8_voice_47 : decode cX8_voice 47 = .ok (.iload_n 2, 1) := by decide +kernel
theorem dX8_voice_48 : decode cX8_voice 48 = .ok (.iconst 1, 1) := by decide +kernel
theorem dX8_voice_49 : decode cX8_voice 49 = .ok (.if_icmp .ne 46, 3) := by decide +kernel
theorem dX8_voice_52 : decode cX8_voice 52 = .ok (.iconst 0, 1) := by decide +kernel
theorem dX8_voice_53 : decode cX8_voice 53 = .ok (.istore 5, 2) := by decide +kernel
theorem dX8_voice_55 : decode cX8_voice 55 = .ok (.iload 5, 2) := by decide +kernel
theorem dX8_voice_57 : decode cX8_voice 57 = .ok (.aload_n 0, 1) := by decide +kernel
theorem dX8_voice_58 : decode cX8_voice 58 = .ok (.getfield 31, 3) := by decide +kernel
theorem dX8_voice_61 : decode cX8_voice 61 = .ok (.iconst 0, 1) := by decide +kernel
theorem dX8_voice_62 : decode cX8_voice 62 = .ok (.iaload, 1) := by decide +kernel
theorem dX8_voice_63 : decode cX8_voice 63 = .ok (.if_icmp .ge 29, 3) := by decide +kernel
theorem dX8_voice_66 : decode cX8_voice 66 = .ok (.iload 4, 2) := by decide +kernel
theorem dX8_voice_68 : decode cX8_voice 68 = .ok (.aload_n 0, 1) := by decide +kernel
theorem dX8_voice_69 : decode cX8_voice 69 = .ok (.iload 5, 2) := by decide +kernel
theorem dX8_voice_71 : decode cX8_voice 71 = .ok (.invokevirtual 149, 3) := by decide +kernel
theorem dX8_voice_74 : decode cX8_voice 74 = .ok (.iload_n 3, 1) := by decide +kernel
theorem dX8_voice_75 : decode cX8_voice 75 = .ok (.if_icmp .ne 7, 3) := by decide +kernel
theorem dX8_voice_78 : decode cX8_voice 78 = .ok (.iconst 1, 1) := by decide +kernel
theorem dX8_voice_79 : decode cX8_voice 79 = .ok (.goto 4, 3) := by decide +kernel
theorem dX8_voice_82 : decode cX8_voice 82 = .ok (.iconst 0, 1) := by decide +kernel
theorem dX8_voice_83 : decode cX8_voice 83 = .ok (.iadd, 1) := by decide +kernel
theorem dX8_voice_84 : decode cX8_voice 84 = .ok (.istore 4, 2) := by decide +kernel
theorem dX8_voice_86 : decode cX8_voice 86 = .ok (.iinc 5 1, 3) := by decide +kernel
theorem dX8_voice_89 : decode cX8_voice 89 = .ok (.goto (-34), 3) := by decide +kernel
theorem dX8_voice_92 : decode cX8_voice 92 = .ok (.iload 4, 2) := by decide +kernel
theorem dX8_voice_94 : decode cX8_voice 94 = .ok (.ireturn, 1) := by decide +kernel
theorem dX8_voice_95 : decode cX8_voice 95 = .ok (.iload_n 1, 1) := by decide +kernel
theorem dX8_voice_96 : decode cX8_voice 96 = .ok (.istore 5, 2) := by decide +kernel
theorem dX8_voice_98 : decode cX8_voice 98 = .ok (.aload_n 0, 1) := by decide +kernel
theorem dX8_voice_99 : decode cX8_voice 99 = .ok (.getfield 68, 3) := by decide +kernel
theorem dX8_voice_102 : decode cX8_voice 102 = .ok (.iload 5, 2) := by decide +kernel
theorem dX8_voice_104 : decode cX8_voice 104 = .ok (.iaload, 1) := by decide +kernel
theorem dX8_voice_105 : decode cX8_voice 105 = .ok (.ifCond .lt 18, 3) := by decide +kernel
theorem dX8_voice_108 : decode cX8_voice 108 = .ok (.iinc 4 1, 3) := by decide +kernel
theorem dX8_voice_111 : decode cX8_voice 111 = .ok (.aload_n 0, 1) := by decide +kernel
theorem dX8_voice_112 : decode cX8_voice 112 = .ok (.getfield 68, 3) := by decide +kernel
theorem dX8_voice_115 : decode cX8_voice 115 = .ok (.iload 5, 2) := by decide +kernel
theorem dX8_voice_117 : decode cX8_voice 117 = .ok (.iaload, 1) := by decide +kernel
theorem dX8_voice_118 : decode cX8_voice 118 = .ok (.istore 5, 2) := by decide +kernel
theorem dX8_voice_120 : decode cX8_voice 120 = .ok (.goto (-22), 3) := by decide +kernel
theorem dX8_voice_123 : decode cX8_voice 123 = .ok (.iload 4, 2) := by decide +kernel
theorem dX8_voice_125 : decode cX8_voice 125 = .ok (.ireturn, 1) := by decide +kernel
theorem dX8_voices_0 : decode cX8_voices 0 = .ok (.iload_n 1, 1) := by decide +kernel
theorem dX8_voices_1 : decode cX8_voices 1 = .ok (.invokestatic 104, 3) := by decide +kernel
theorem dX8_voices_4 : decode cX8_voices 4 = .ok (.ifCond .ne 5, 3) := by decide +kernel
theorem dX8_voices_7 : decode cX8_voices 7 = .ok (.iconst (-1), 1) := by decide +kernel
theorem dX8_voices_8 : decode cX8_voices 8 = .ok (.ireturn, 1) := by decide +kernel
theorem dX8_voices_9 : decode cX8_voices 9 = .ok (.aload_n 0, 1) := by decide +kernel
theorem dX8_voices_10 : decode cX8_voices 10 = .ok (.invokevirtual 144, 3) := by decide +kernel
theorem dX8_voices_13 : decode cX8_voices 13 = .ok (.ifCond .ne 6, 3) := by decide +kernel
theorem dX8_voices_16 : decode cX8_voices 16 = .ok (.bipush (-2), 2) := by decide +kernel
theorem dX8_voices_18 : decode cX8_voices 18 = .ok (.ireturn, 1) := by decide +kernel
theorem dX8_voices_19 : decode cX8_voices 19 = .ok (.iconst 0, 1) := by decide +kernel
theorem dX8_voices_20 : decode cX8_voices 20 = .ok (.istore_n 3, 1) := by decide +kernel
theorem dX8_voices_21 : decode cX8_voices 21 = .ok (.iconst 0, 1) := by decide +kernel
theorem dX8_voices_22 : decode cX8_voices 22 = .ok (.istore 4, 2) := by decide +kernel
theorem dX8_voices_24 : decode cX8_voices 24 = .ok (.iload 4, 2) := by decide +kernel
theorem dX8_voices_26 : decode cX8_voices 26 = .ok (.aload_n 0, 1) := by decide +kernel
theorem dX8_voices_27 : decode cX8_voices 27 = .ok (.getfield 31, 3) := by decide +kernel
theorem dX8_voices_30 : decode cX8_voices 30 = .ok (.iconst 0, 1) := by decide +kernel
theorem dX8_voices_31 : decode cX8_voices 31 = .ok (.iaload, 1) := by decide +kernel
theorem dX8_voices_32 : decode cX8_voices 32 = .ok (.if_icmp .ge 67, 3) := by decide +kernel
theorem dX8_voices_35 : decode cX8_voices 35 = .ok (.iload_n 3, 1) := by decide +kernel
theorem dX8_voices_36 : decode cX8_voices 36 = .ok (.aload_n 0, 1) := by decide +kernel
theorem dX8_voices_37 : decode cX8_voices 37 = .ok (.getfield 68, 3) := by decide +kernel
theorem dX8_voices_40 : decode cX8_voices 40 = .ok (.iload 4, 2) := by decide +kernel
theorem dX8_voices_42 : decode cX8_voices 42 = .ok (.iaload, 1) := by decide +kernel
theorem dX8_voices_43 : decode cX8_voices 43 = .ok (.ifCond .ge 47, 3) := by decide +kernel
theorem dX8_voices_46 : decode cX8_voices 46 = .ok (.aload_n 0, 1) := by decide +kernel
theorem dX8_voices_47 : decode cX8_voices 47 = .ok (.getfield 34, 3) := by decide +kernel
theorem dX8_voices_50 : decode cX8_voices 50 = .ok (.bipush 6, 2) := by decide +kernel
theorem dX8_voices_52 : decode cX8_voices 52 = .ok (.iload 4, 2) := by decide +kernel
theorem dX8_voices_54 : decode cX8_voices 54 = .ok (.imul, 1) := by decide +kernel
theorem dX8_voices_55 : decode cX8_voices 55 = .ok (.iconst 1, 1) := by decide +kernel
theorem dX8_voices_56 : decode cX8_voices 56 = .ok (.iadd, 1) := by decide +kernel
theorem dX8_voices_57 : decode cX8_voices 57 = .ok (.iaload, 1) := by decide +kernel
theorem dX8_voices_58 : decode cX8_voices 58 = .ok (.iload_n 1, 1) := by decide +kernel
theorem dX8_voices_59 : decode cX8_voices 59 = .ok (.if_icmp .ne 31, 3) := by decide +kernel
theorem dX8_voices_62 : decode cX8_voices 62 = .ok (.aload_n 0, 1) := by decide +kernel
theorem dX8_voices_63 : decode cX8_voices 63 = .ok (.getfield 34, 3) := by decide +kernel
theorem dX8_voices_66 : decode cX8_voices 66 = .ok (.bipush 6, 2) := by decide +kernel
theorem dX8_voices_68 : decode cX8_voices 68 = .ok (.iload 4, 2) := by decide +kernel
theorem dX8_voices_70 : decode cX8_voices 70 = .ok (.imul, 1) := by decide +kernel
theorem dX8_voices_71 : decode cX8_voices 71 = .ok (.iconst 5, 1) := by decide +kernel
theorem dX8_voices_72 : decode cX8_voices 72 = .ok (.iadd, 1) := by decide +kernel
theorem dX8_voices_73 : decode cX8_voices 73 = .ok (.iaload, 1) := by decide +kernel
theorem dX8_voices_74 : decode cX8_voices 74 = .ok (.iload_n 2, 1) := by decide +kernel
theorem dX8_voices_75 : decode cX8_voices 75 = .ok (.ifCond .eq 7, 3) := by decide +kernel
theorem dX8_voices_78 : decode cX8_voices 78 = .ok (.iconst 1, 1) := by decide +kernel
theorem dX8_voices_79 : decode cX8_voices 79 = .ok (.goto 4, 3) := by decide +kernel
theorem dX8_voices_82 : decode cX8_voices 82 = .ok (.iconst 0, 1) := by decide +kernel
theorem dX8_voices_83 : decode cX8_voices 83 = .ok (.if_icmp .ne 7, 3) := by decide +kernel
theorem dX8_voices_86 : decode cX8_voices 86 = .ok (.iconst 1, 1) := by decide +kernel
theorem dX8_voices_87 : decode cX8_voices 87 = .ok (.goto 4, 3) := by decide +kernel
theorem dX8_voices_90 : decode cX8_voices 90 = .ok (.iconst 0, 1) := by decide +kernel
theorem dX8_voices_91 : decode cX8_voices 91 = .ok (.iadd, 1) := by decide +kernel
theorem dX8_voices_92 : decode cX8_voices 92 = .ok (.istore_n 3, 1) := by decide +kernel
theorem dX8_voices_93 : decode cX8_voices 93 = .ok (.iinc 4 1, 3) := by decide +kernel
theorem dX8_voices_96 : decode cX8_voices 96 = .ok (.goto (-72), 3) := by decide +kernel
theorem dX8_voices_99 : decode cX8_voices 99 = .ok (.iload_n 3, 1) := by decide +kernel
theorem dX8_voices_100 : decode cX8_voices 100 = .ok (.ireturn, 1) := by decide +kernel
theorem dX8_grewOf_0 : decode cX8_grewOf 0 = .ok (.aload_n 0, 1) := by decide +kernel
theorem dX8_grewOf_1 : decode cX8_grewOf 1 = .ok (.getfield 68, 3) := by decide +kernel
theorem dX8_grewOf_4 : decode cX8_grewOf 4 = .ok (.iload_n 1, 1) := by decide +kernel
theorem dX8_grewOf_5 : decode cX8_grewOf 5 = .ok (.iaload, 1) := by decide +kernel
theorem dX8_grewOf_6 : decode cX8_grewOf 6 = .ok (.ifCond .ge 7, 3) := by decide +kernel
theorem dX8_grewOf_9 : decode cX8_grewOf 9 = .ok (.iconst 0, 1) := by decide +kernel
theorem dX8_grewOf_10 : decode cX8_grewOf 10 = .ok (.goto 31, 3) := by decide +kernel
theorem dX8_grewOf_13 : decode cX8_grewOf 13 = .ok (.aload_n 0, 1) := by decide +kernel
theorem dX8_grewOf_14 : decode cX8_grewOf 14 = .ok (.getfield 34, 3) := by decide +kernel
theorem dX8_grewOf_17 : decode cX8_grewOf 17 = .ok (.bipush 6, 2) := by decide +kernel
theorem dX8_grewOf_19 : decode cX8_grewOf 19 = .ok (.iload_n 1, 1) := by decide +kernel
theorem dX8_grewOf_20 : decode cX8_grewOf 20 = .ok (.imul, 1) := by decide +kernel
theorem dX8_grewOf_21 : decode cX8_grewOf 21 = .ok (.iconst 2, 1) := by decide +kernel
theorem dX8_grewOf_22 : decode cX8_grewOf 22 = .ok (.iadd, 1) := by decide +kernel
theorem dX8_grewOf_23 : decode cX8_grewOf 23 = .ok (.iaload, 1) := by decide +kernel
theorem dX8_grewOf_24 : decode cX8_grewOf 24 = .ok (.aload_n 0, 1) := by decide +kernel
theorem dX8_grewOf_25 : decode cX8_grewOf 25 = .ok (.getfield 34, 3) := by decide +kernel
theorem dX8_grewOf_28 : decode cX8_grewOf 28 = .ok (.bipush 6, 2) := by decide +kernel
theorem dX8_grewOf_30 : decode cX8_grewOf 30 = .ok (.aload_n 0, 1) := by decide +kernel
theorem dX8_grewOf_31 : decode cX8_grewOf 31 = .ok (.getfield 68, 3) := by decide +kernel
theorem dX8_grewOf_34 : decode cX8_grewOf 34 = .ok (.iload_n 1, 1) := by decide +kernel
theorem dX8_grewOf_35 : decode cX8_grewOf 35 = .ok (.iaload, 1) := by decide +kernel
theorem dX8_grewOf_36 : decode cX8_grewOf 36 = .ok (.imul, 1) := by decide +kernel
theorem dX8_grewOf_37 : decode cX8_grewOf 37 = .ok (.iconst 2, 1) := by decide +kernel
theorem dX8_grewOf_38 : decode cX8_grewOf 38 = .ok (.iadd, 1) := by decide +kernel
theorem dX8_grewOf_39 : decode cX8_grewOf 39 = .ok (.iaload, 1) := by decide +kernel
theorem dX8_grewOf_40 : decode cX8_grewOf 40 = .ok (.isub, 1) := by decide +kernel
theorem dX8_grewOf_41 : decode cX8_grewOf 41 = .ok (.ireturn, 1) := by decide +kernel
theorem dX8_grew_0 : decode cX8_grew 0 = .ok (.aload_n 0, 1) := by decide +kernel
theorem dX8_grew_1 : decode cX8_grew 1 = .ok (.iload_n 1, 1) := by decide +kernel
theorem dX8_grew_2 : decode cX8_grew 2 = .ok (.invokevirtual 133, 3) := by decide +kernel
theorem dX8_grew_5 : decode cX8_grew 5 = .ok (.ifCond .ne 6, 3) := by decide +kernel
theorem dX8_grew_8 : decode cX8_grew 8 = .ok (.ldc 153, 2) := by decide +kernel
theorem dX8_grew_10 : decode cX8_grew 10 = .ok (.ireturn, 1) := by decide +kernel
theorem dX8_grew_11 : decode cX8_grew 11 = .ok (.aload_n 0, 1) := by decide +kernel
theorem dX8_grew_12 : decode cX8_grew 12 = .ok (.invokevirtual 144, 3) := by decide +kernel
theorem dX8_grew_15 : decode cX8_grew 15 = .ok (.ifCond .eq 11, 3) := by decide +kernel
theorem dX8_grew_18 : decode cX8_grew 18 = .ok (.aload_n 0, 1) := by decide +kernel
theorem dX8_grew_19 : decode cX8_grew 19 = .ok (.iload_n 1, 1) := by decide +kernel
theorem dX8_grew_20 : decode cX8_grew 20 = .ok (.invokevirtual 154, 3) := by decide +kernel
theorem dX8_grew_23 : decode cX8_grew 23 = .ok (.goto 5, 3) := by decide +kernel
theorem dX8_grew_26 : decode cX8_grew 26 = .ok (.ldc 157, 2) := by decide +kernel
theorem dX8_grew_28 : decode cX8_grew 28 = .ok (.ireturn, 1) := by decide +kernel
theorem dX8_writerOf_0 : decode cX8_writerOf 0 = .ok (.aload_n 0, 1) := by decide +kernel
theorem dX8_writerOf_1 : decode cX8_writerOf 1 = .ok (.getfield 22, 3) := by decide +kernel
theorem dX8_writerOf_4 : decode cX8_writerOf 4 = .ok (.iconst 3, 1) := by decide +kernel
theorem dX8_writerOf_5 : decode cX8_writerOf 5 = .ok (.aload_n 0, 1) := by decide +kernel
theorem dX8_writerOf_6 : decode cX8_writerOf 6 = .ok (.getfield 34, 3) := by decide +kernel
theorem dX8_writerOf_9 : decode cX8_writerOf 9 = .ok (.bipush 6, 2) := by decide +kernel
theorem dX8_writerOf_11 : decode cX8_writerOf 11 = .ok (.iload_n 1, 1) := by decide +kernel
theorem dX8_writerOf_12 : decode cX8_writerOf 12 = .ok (.imul, 1) := by decide +kernel
theorem dX8_writerOf_13 : decode cX8_writerOf 13 = .ok (.iaload, 1) := by decide +kernel
theorem dX8_writerOf_14 : decode cX8_writerOf 14 = .ok (.imul, 1) := by decide +kernel
theorem dX8_writerOf_15 : decode cX8_writerOf 15 = .ok (.iconst 1, 1) := by decide +kernel
theorem dX8_writerOf_16 : decode cX8_writerOf 16 = .ok (.iadd, 1) := by decide +kernel
theorem dX8_writerOf_17 : decode cX8_writerOf 17 = .ok (.iaload, 1) := by decide +kernel
theorem dX8_writerOf_18 : decode cX8_writerOf 18 = .ok (.ireturn, 1) := by decide +kernel
theorem dX8_habit_0 : decode cX8_habit 0 = .ok (.iload_n 1, 1) := by decide +kernel
theorem dX8_habit_1 : decode cX8_habit 1 = .ok (.i2l, 1) := by decide +kernel
theorem dX8_habit_2 : decode cX8_habit 2 = .ok (.lconst 0, 1) := by decide +kernel
theorem dX8_habit_3 : decode cX8_habit 3 = .ok (.ldc2_w 93, 3) := by decide +kernel
theorem dX8_habit_6 : decode cX8_habit 6 = .ok (.invokestatic 79, 3) := by decide +kernel
theorem dX8_habit_9 : decode cX8_habit 9 = .ok (.ifCond .ne 6, 3) := by decide +kernel
theorem dX8_habit_12 : decode cX8_habit 12 = .ok (.ldc 158, 2) := by decide +kernel
theorem dX8_habit_14 : decode cX8_habit 14 = .ok (.ireturn, 1) := by decide +kernel
theorem dX8_habit_15 : decode cX8_habit 15 = .ok (.aload_n 0, 1) := by decide +kernel
theorem dX8_habit_16 : decode cX8_habit 16 = .ok (.invokevirtual 144, 3) := by decide +kernel
theorem dX8_habit_19 : decode cX8_habit 19 = .ok (.ifCond .ne 6, 3) := by decide +kernel
theorem dX8_habit_22 : decode cX8_habit 22 = .ok (.ldc 159, 2) := by decide +kernel
theorem dX8_habit_24 : decode cX8_habit 24 = .ok (.ireturn, 1) := by decide +kernel
theorem dX8_habit_25 : decode cX8_habit 25 = .ok (.iconst 0, 1) := by decide +kernel
theorem dX8_habit_26 : decode cX8_habit 26 = .ok (.istore_n 2, 1) := by decide +kernel
theorem dX8_habit_27 : decode cX8_habit 27 = .ok (.iconst 0, 1) := by decide +kernel
theorem dX8_habit_28 : decode cX8_habit 28 = .ok (.istore_n 3, 1) := by decide +kernel
theorem dX8_habit_29 : decode cX8_habit 29 = .ok (.iload_n 3, 1) := by decide +kernel
theorem dX8_habit_30 : decode cX8_habit 30 = .ok (.aload_n 0, 1) := by decide +kernel
theorem dX8_habit_31 : decode cX8_habit 31 = .ok (.getfield 31, 3) := by decide +kernel
theorem dX8_habit_34 : decode cX8_habit 34 = .ok (.iconst 0, 1) := by decide +kernel
theorem dX8_habit_35 : decode cX8_habit 35 = .ok (.iaload, 1) := by decide +kernel
theorem dX8_habit_36 : decode cX8_habit 36 = .ok (.if_icmp .ge 30, 3) := by decide +kernel
theorem dX8_habit_39 : decode cX8_habit 39 = .ok (.iload_n 2, 1) := by decide +kernel
theorem dX8_habit_40 : decode cX8_habit 40 = .ok (.aload_n 0, 1) := by decide +kernel
theorem dX8_habit_41 : decode cX8_habit 41 = .ok (.iload_n 3, 1) := by decide +kernel
theorem dX8_habit_42 : decode cX8_habit 42 = .ok (.invokevirtual 160, 3) := by decide +kernel
theorem dX8_habit_45 : decode cX8_habit 45 = .ok (.iload_n 1, 1) := by decide +kernel
theorem dX8_habit_46 : decode cX8_habit 46 = .ok (.if_icmp .ne 11, 3) := by decide +kernel
theorem dX8_habit_49 : decode cX8_habit 49 = .ok (.aload_n 0, 1) := by decide +kernel
theorem dX8_habit_50 : decode cX8_habit 50 = .ok (.iload_n 3, 1) := by decide +kernel
theorem dX8_habit_51 : decode cX8_habit 51 = .ok (.invokevirtual 154, 3) := by decide +kernel
theorem dX8_habit_54 : decode cX8_habit 54 = .ok (.goto 4, 3) := by decide +kernel
theorem dX8_habit_57 : decode cX8_habit 57 = .ok (.iconst 0, 1) := by decide +kernel
theorem dX8_habit_58 : decode cX8_habit 58 = .ok (.iadd, 1) := by decide +kernel
theorem dX8_habit_59 : decode cX8_habit 59 = .ok (.istore_n 2, 1) := by decide +kernel
theorem dX8_habit_60 : decode cX8_habit 60 = .ok (.iinc 3 1, 3) := by decide +kernel
theorem dX8_habit_63 : decode cX8_habit 63 = .ok (.goto (-34), 3) := by decide +kernel
theorem dX8_habit_66 : decode cX8_habit 66 = .ok (.iload_n 2, 1) := by decide +kernel
theorem dX8_habit_67 : decode cX8_habit 67 = .ok (.ireturn, 1) := by decide +kernel
theorem dX8_write_0 : decode cX8_write 0 = .ok (.iload_n 1, 1) := by decide +kernel
theorem dX8_write_1 : decode cX8_write 1 = .ok (.i2l, 1) := by decide +kernel
theorem dX8_write_2 : decode cX8_write 2 = .ok (.lconst 1, 1) := by decide +kernel
theorem dX8_write_3 : decode cX8_write 3 = .ok (.ldc2_w 163, 3) := by decide +kernel
theorem dX8_write_6 : decode cX8_write 6 = .ok (.invokestatic 79, 3) := by decide +kernel
theorem dX8_write_9 : decode cX8_write 9 = .ok (.ifCond .ne 5, 3) := by decide +kernel
theorem dX8_write_12 : decode cX8_write 12 = .ok (.iconst (-1), 1) := by decide +kernel
theorem dX8_write_13 : decode cX8_write 13 = .ok (.ireturn, 1) := by decide +kernel
theorem dX8_write_14 : decode cX8_write 14 = .ok (.aload_n 0, 1) := by decide +kernel
theorem dX8_write_15 : decode cX8_write 15 = .ok (.getfield 165, 3) := by decide +kernel
theorem dX8_write_18 : decode cX8_write 18 = .ok (.iload_n 1, 1) := by decide +kernel
theorem dX8_write_19 : decode cX8_write 19 = .ok (.iadd, 1) := by decide +kernel
theorem dX8_write_20 : decode cX8_write 20 = .ok (.sipush 200, 3) := by decide +kernel
theorem dX8_write_23 : decode cX8_write 23 = .ok (.if_icmp .le 6, 3) := by decide +kernel
theorem dX8_write_26 : decode cX8_write 26 = .ok (.bipush (-3), 2) := by decide +kernel
theorem dX8_write_28 : decode cX8_write 28 = .ok (.ireturn, 1) := by decide +kernel
theorem dX8_write_29 : decode cX8_write 29 = .ok (.iload_n 1, 1) := by decide +kernel
theorem dX8_write_30 : decode cX8_write 30 = .ok (.iconst 1, 1) := by decide +kernel
theorem dX8_write_31 : decode cX8_write 31 = .ok (.isub, 1) := by decide +kernel
theorem dX8_write_32 : decode cX8_write 32 = .ok (.istore 4, 2) := by decide +kernel
theorem dX8_write_34 : decode cX8_write 34 = .ok (.iload 4, 2) := by decide +kernel
theorem dX8_write_36 : decode cX8_write 36 = .ok (.ifCond .lt 40, 3) := by decide +kernel
theorem dX8_write_39 : decode cX8_write 39 = .ok (.aload_n 0, 1) := by decide +kernel
theorem dX8_write_40 : decode cX8_write 40 = .ok (.getfield 47, 3) := by decide +kernel
theorem dX8_write_43 : decode cX8_write 43 = .ok (.aload_n 0, 1) := by decide +kernel
theorem dX8_write_44 : decode cX8_write 44 = .ok (.getfield 165, 3) := by decide +kernel
theorem dX8_write_47 : decode cX8_write 47 = .ok (.lload_n 2, 1) := by decide +kernel
theorem dX8_write_48 : decode cX8_write 48 = .ok (.bipush 8, 2) := by decide +kernel
theorem dX8_write_50 : decode cX8_write 50 = .ok (.iload 4, 2) := by decide +kernel
theorem dX8_write_52 : decode cX8_write 52 = .ok (.imul, 1) := by decide +kernel
theorem dX8_write_53 : decode cX8_write 53 = .ok (.lshr, 1) := by decide +kernel
theorem dX8_write_54 : decode cX8_write 54 = .ok (.ldc2_w 131, 3) := by decide +kernel
theorem dX8_write_57 : decode cX8_write 57 = .ok (.land, 1) := by decide +kernel
theorem dX8_write_58 : decode cX8_write 58 = .ok (.l2i, 1) := by decide +kernel
theorem dX8_write_59 : decode cX8_write 59 = .ok (.iastore, 1) := by decide +kernel
theorem dX8_write_60 : decode cX8_write 60 = .ok (.aload_n 0, 1) := by decide +kernel
theorem dX8_write_61 : decode cX8_write 61 = .ok (.dup, 1) := by decide +kernel
theorem dX8_write_62 : decode cX8_write 62 = .ok (.getfield 165, 3) := by decide +kernel
theorem dX8_write_65 : decode cX8_write 65 = .ok (.iconst 1, 1) := by decide +kernel
theorem dX8_write_66 : decode cX8_write 66 = .ok (.iadd, 1) := by decide +kernel
theorem dX8_write_67 : decode cX8_write 67 = .ok (.putfield 165, 3) := by decide +kernel
theorem dX8_write_70 : decode cX8_write 70 = .ok (.iinc 4 (-1), 3) := by decide +kernel
theorem dX8_write_73 : decode cX8_write 73 = .ok (.goto (-39), 3) := by decide +kernel
theorem dX8_write_76 : decode cX8_write 76 = .ok (.aload_n 0, 1) := by decide +kernel
theorem dX8_write_77 : decode cX8_write 77 = .ok (.getfield 165, 3) := by decide +kernel
theorem dX8_write_80 : decode cX8_write 80 = .ok (.ireturn, 1) := by decide +kernel
theorem dX8_wipe_0 : decode cX8_wipe 0 = .ok (.aload_n 0, 1) := by decide +kernel
theorem dX8_wipe_1 : decode cX8_wipe 1 = .ok (.getfield 165, 3) := by decide +kernel
theorem dX8_wipe_4 : decode cX8_wipe 4 = .ok (.istore_n 1, 1) := by decide +kernel
theorem dX8_wipe_5 : decode cX8_wipe 5 = .ok (.aload_n 0, 1) := by decide +kernel
theorem dX8_wipe_6 : decode cX8_wipe 6 = .ok (.iconst 0, 1) := by decide +kernel
theorem dX8_wipe_7 : decode cX8_wipe 7 = .ok (.putfield 165, 3) := by decide +kernel
theorem dX8_wipe_10 : decode cX8_wipe 10 = .ok (.iload_n 1, 1) := by decide +kernel
theorem dX8_wipe_11 : decode cX8_wipe 11 = .ok (.ireturn, 1) := by decide +kernel
theorem dX8_numbers_0 : decode cX8_numbers 0 = .ok (.iconst 0, 1) := by decide +kernel
theorem dX8_numbers_1 : decode cX8_numbers 1 = .ok (.istore_n 2, 1) := by decide +kernel
theorem dX8_numbers_2 : decode cX8_numbers 2 = .ok (.iload_n 2, 1) := by decide +kernel
theorem dX8_numbers_3 : decode cX8_numbers 3 = .ok (.iconst 4, 1) := by decide +kernel
theorem dX8_numbers_4 : decode cX8_numbers 4 = .ok (.if_icmp .ge 16, 3) := by decide +kernel
theorem dX8_numbers_7 : decode cX8_numbers 7 = .ok (.aload_n 0, 1) := by decide +kernel
theorem dX8_numbers_8 : decode cX8_numbers 8 = .ok (.getfield 71, 3) := by decide +kernel
theorem dX8_numbers_11 : decode cX8_numbers 11 = .ok (.iload_n 2, 1) := by decide +kernel
theorem dX8_numbers_12 : decode cX8_numbers 12 = .ok (.iconst 0, 1) := by decide +kernel
theorem dX8_numbers_13 : decode cX8_numbers 13 = .ok (.iastore, 1) := by decide +kernel
theorem dX8_numbers_14 : decode cX8_numbers 14 = .ok (.iinc 2 1, 3) := by decide +kernel
theorem dX8_numbers_17 : decode cX8_numbers 17 = .ok (.goto (-15), 3) := by decide +kernel
theorem dX8_numbers_20 : decode cX8_numbers 20 = .ok (.iconst 0, 1) := by decide +kernel
theorem dX8_numbers_21 : decode cX8_numbers 21 = .ok (.istore_n 2, 1) := by decide +kernel
theorem dX8_numbers_22 : decode cX8_numbers 22 = .ok (.iload_n 2, 1) := by decide +kernel
theorem dX8_numbers_23 : decode cX8_numbers 23 = .ok (.iload_n 1, 1) := by decide +kernel
theorem dX8_numbers_24 : decode cX8_numbers 24 = .ok (.if_icmp .ge 157, 3) := by decide +kernel
theorem dX8_numbers_27 : decode cX8_numbers 27 = .ok (.iconst 0, 1) := by decide +kernel
theorem dX8_numbers_28 : decode cX8_numbers 28 = .ok (.istore_n 3, 1) := by decide +kernel
theorem dX8_numbers_29 : decode cX8_numbers 29 = .ok (.iconst 0, 1) := by decide +kernel
theorem dX8_numbers_30 : decode cX8_numbers 30 = .ok (.istore 4, 2) := by decide +kernel
theorem dX8_numbers_32 : decode cX8_numbers 32 = .ok (.aload_n 0, 1) := by decide +kernel
theorem dX8_numbers_33 : decode cX8_numbers 33 = .ok (.getfield 168, 3) := by decide +kernel
theorem dX8_numbers_36 : decode cX8_numbers 36 = .ok (.aload_n 0, 1) := by decide +kernel
theorem dX8_numbers_37 : decode cX8_numbers 37 = .ok (.getfield 165, 3) := by decide +kernel
theorem dX8_numbers_40 : decode cX8_numbers 40 = .ok (.if_icmp .ge 66, 3) := by decide +kernel
theorem dX8_numbers_43 : decode cX8_numbers 43 = .ok (.aload_n 0, 1) := by decide +kernel
theorem dX8_numbers_44 : decode cX8_numbers 44 = .ok (.getfield 47, 3) := by decide +kernel
theorem dX8_numbers_47 : decode cX8_numbers 47 = .ok (.aload_n 0, 1) := by decide +kernel
theorem dX8_numbers_48 : decode cX8_numbers 48 = .ok (.getfield 168, 3) := by decide +kernel
theorem dX8_numbers_51 : decode cX8_numbers 51 = .ok (.iaload, 1) := by decide +kernel
theorem dX8_numbers_52 : decode cX8_numbers 52 = .ok (.i2l, 1) := by decide +kernel
theorem dX8_numbers_53 : decode cX8_numbers 53 = .ok (.ldc2_w 171, 3) := by decide +kernel
theorem dX8_numbers_56 : decode cX8_numbers 56 = .ok (.ldc2_w 173, 3) := by decide +kernel
theorem dX8_numbers_59 : decode cX8_numbers 59 = .ok (.invokestatic 79, 3) := by decide +kernel
theorem dX8_numbers_62 : decode cX8_numbers 62 = .ok (.ifCond .eq 44, 3) := by decide +kernel
theorem dX8_numbers_65 : decode cX8_numbers 65 = .ok (.iload_n 3, 1) := by decide +kernel
theorem dX8_numbers_66 : decode cX8_numbers 66 = .ok (.iconst 4, 1) := by decide +kernel
theorem dX8_numbers_67 : decode cX8_numbers 67 = .ok (.if_icmp .ge 39, 3) := by decide +kernel
theorem dX8_numbers_70 : decode cX8_numbers 70 = .ok (.bipush 10, 2) := by decide +kernel
theorem dX8_numbers_72 : decode cX8_numbers 72 = .ok (.iload 4, 2) := by decide +kernel
theorem dX8_numbers_74 : decode cX8_numbers 74 = .ok (.imul, 1) := by decide +kernel
theorem dX8_numbers_75 : decode cX8_numbers 75 = .ok (.aload_n 0, 1) := by decide +kernel
theorem dX8_numbers_76 : decode cX8_numbers 76 = .ok (.getfield 47, 3) := by decide +kernel
theorem dX8_numbers_79 : decode cX8_numbers 79 = .ok (.aload_n 0, 1) := by decide +kernel
theorem dX8_numbers_80 : decode cX8_numbers 80 = .ok (.getfield 168, 3) := by decide +kernel
theorem dX8_numbers_83 : decode cX8_numbers 83 = .ok (.iaload, 1) := by decide +kernel
theorem dX8_numbers_84 : decode cX8_numbers 84 = .ok (.iadd, 1) := by decide +kernel
theorem dX8_numbers_85 : decode cX8_numbers 85 = .ok (.bipush 48, 2) := by decide +kernel
theorem dX8_numbers_87 : decode cX8_numbers 87 = .ok (.isub, 1) := by decide +kernel
theorem dX8_numbers_88 : decode cX8_numbers 88 = .ok (.istore 4, 2) := by decide +kernel
theorem dX8_numbers_90 : decode cX8_numbers 90 = .ok (.iinc 3 1, 3) := by decide +kernel
theorem dX8_numbers_93 : decode cX8_numbers 93 = .ok (.aload_n 0, 1) := by decide +kernel
theorem dX8_numbers_94 : decode cX8_numbers 94 = .ok (.dup, 1) := by decide +kernel
theorem dX8_numbers_95 : decode cX8_numbers 95 = .ok (.getfield 168, 3) := by decide +kernel
theorem dX8_numbers_98 : decode cX8_numbers 98 = .ok (.iconst 1, 1) := by decide +kernel
theorem dX8_numbers_99 : decode cX8_numbers 99 = .ok (.iadd, 1) := by decide +kernel
theorem dX8_numbers_100 : decode cX8_numbers 100 = .ok (.putfield 168, 3) := by decide +kernel
theorem dX8_numbers_103 : decode cX8_numbers 103 = .ok (.goto (-71), 3) := by decide +kernel
theorem dX8_numbers_106 : decode cX8_numbers 106 = .ok (.iload_n 3, 1) := by decide +kernel
theorem dX8_numbers_107 : decode cX8_numbers 107 = .ok (.i2l, 1) := by decide +kernel
theorem dX8_numbers_108 : decode cX8_numbers 108 = .ok (.lconst 1, 1) := by decide +kernel
theorem dX8_numbers_109 : decode cX8_numbers 109 = .ok (.ldc2_w 175, 3) := by decide +kernel
theorem dX8_numbers_112 : decode cX8_numbers 112 = .ok (.invokestatic 79, 3) := by decide +kernel
theorem dX8_numbers_115 : decode cX8_numbers 115 = .ok (.ifCond .eq 40, 3) := by decide +kernel
theorem dX8_numbers_118 : decode cX8_numbers 118 = .ok (.aload_n 0, 1) := by decide +kernel
theorem dX8_numbers_119 : decode cX8_numbers 119 = .ok (.getfield 168, 3) := by decide +kernel
theorem dX8_numbers_122 : decode cX8_numbers 122 = .ok (.aload_n 0, 1) := by decide +kernel
theorem dX8_numbers_123 : decode cX8_numbers 123 = .ok (.getfield 165, 3) := by decide +kernel
theorem dX8_numbers_126 : decode cX8_numbers 126 = .ok (.if_icmp .eq 29, 3) := by decide +kernel
theorem dX8_numbers_129 : decode cX8_numbers 129 = .ok (.aload_n 0, 1) := by decide +kernel
theorem dX8_numbers_130 : decode cX8_numbers 130 = .ok (.getfield 47, 3) := by decide +kernel
theorem dX8_numbers_133 : decode cX8_numbers 133 = .ok (.aload_n 0, 1) := by decide +kernel
theorem dX8_numbers_134 : decode cX8_numbers 134 = .ok (.getfield 168, 3) := by decide +kernel
theorem dX8_numbers_137 : decode cX8_numbers 137 = .ok (.iaload, 1) := by decide +kernel
theorem dX8_numbers_138 : decode cX8_numbers 138 = .ok (.iload_n 2, 1) := by decide +kernel
theorem dX8_numbers_139 : decode cX8_numbers 139 = .ok (.iload_n 1, 1) := by decide +kernel
theorem dX8_numbers_140 : decode cX8_numbers 140 = .ok (.iconst 1, 1) := by decide +kernel
theorem dX8_numbers_141 : decode cX8_numbers 141 = .ok (.isub, 1) := by decide +kernel
theorem dX8_numbers_142 : decode cX8_numbers 142 = .ok (.if_icmp .ge 8, 3) := by decide +kernel
theorem dX8_numbers_145 : decode cX8_numbers 145 = .ok (.bipush 44, 2) := by decide +kernel
theorem dX8_numbers_147 : decode cX8_numbers 147 = .ok (.goto 5, 3) := by decide +kernel
theorem dX8_numbers_150 : decode cX8_numbers 150 = .ok (.bipush 59, 2) := by decide +kernel
theorem dX8_numbers_152 : decode cX8_numbers 152 = .ok (.if_icmp .eq 5, 3) := by decide +kernel
theorem dX8_numbers_155 : decode cX8_numbers 155 = .ok (.iconst 0, 1) := by decide +kernel
theorem dX8_numbers_156 : decode cX8_numbers 156 = .ok (.ireturn, 1) := by decide +kernel
theorem dX8_numbers_157 : decode cX8_numbers 157 = .ok (.aload_n 0, 1) := by decide +kernel
theorem dX8_numbers_158 : decode cX8_numbers 158 = .ok (.getfield 71, 3) := by decide +kernel
theorem dX8_numbers_161 : decode cX8_numbers 161 = .ok (.iload_n 2, 1) := by decide +kernel
theorem dX8_numbers_162 : decode cX8_numbers 162 = .ok (.iload 4, 2) := by decide +kernel
theorem dX8_numbers_164 : decode cX8_numbers 164 = .ok (.iastore, 1) := by decide +kernel
theorem dX8_numbers_165 : decode cX8_numbers 165 = .ok (.aload_n 0, 1) := by decide +kernel
theorem dX8_numbers_166 : decode cX8_numbers 166 = .ok (.dup, 1) := by decide +kernel
theorem dX8_numbers_167 : decode cX8_numbers 167 = .ok (.getfield 168, 3) := by decide +kernel
theorem dX8_numbers_170 : decode cX8_numbers 170 = .ok (.iconst 1, 1) := by decide +kernel
theorem dX8_numbers_171 : decode cX8_numbers 171 = .ok (.iadd, 1) := by decide +kernel
theorem dX8_numbers_172 : decode cX8_numbers 172 = .ok (.putfield 168, 3) := by decide +kernel
theorem dX8_numbers_175 : decode cX8_numbers 175 = .ok (.iinc 2 1, 3) := by decide +kernel
theorem dX8_numbers_178 : decode cX8_numbers 178 = .ok (.goto (-156), 3) := by decide +kernel
theorem dX8_numbers_181 : decode cX8_numbers 181 = .ok (.iconst 1, 1) := by decide +kernel
theorem dX8_numbers_182 : decode cX8_numbers 182 = .ok (.ireturn, 1) := by decide +kernel
theorem dX8_item_0 : decode cX8_item 0 = .ok (.aload_n 0, 1) := by decide +kernel
theorem dX8_item_1 : decode cX8_item 1 = .ok (.getfield 47, 3) := by decide +kernel
theorem dX8_item_4 : decode cX8_item 4 = .ok (.aload_n 0, 1) := by decide +kernel
theorem dX8_item_5 : decode cX8_item 5 = .ok (.getfield 168, 3) := by decide +kernel
theorem dX8_item_8 : decode cX8_item 8 = .ok (.iaload, 1) := by decide +kernel
theorem dX8_item_9 : decode cX8_item 9 = .ok (.istore_n 1, 1) := by decide +kernel
theorem dX8_item_10 : decode cX8_item 10 = .ok (.aload_n 0, 1) := by decide +kernel
theorem dX8_item_11 : decode cX8_item 11 = .ok (.dup, 1) := by decide +kernel
theorem dX8_item_12 : decode cX8_item 12 = .ok (.getfield 168, 3) := by decide +kernel
theorem dX8_item_15 : decode cX8_item 15 = .ok (.iconst 1, 1) := by decide +kernel
theorem dX8_item_16 : decode cX8_item 16 = .ok (.iadd, 1) := by decide +kernel
theorem dX8_item_17 : decode cX8_item 17 = .ok (.putfield 168, 3) := by decide +kernel
theorem dX8_item_20 : decode cX8_item 20 = .ok (.iload_n 1, 1) := by decide +kernel
theorem dX8_item_21 : decode cX8_item 21 = .ok (.lookupswitch 257 #[(98, 156), (110, 204), (111, 150), (118, 102), (119, 59), (120, 179)], 59) := by decide +kernel
theorem dX8_item_80 : decode cX8_item 80 = .ok (.aload_n 0, 1) := by decide +kernel
theorem dX8_item_81 : decode cX8_item 81 = .ok (.iconst 3, 1) := by decide +kernel
theorem dX8_item_82 : decode cX8_item 82 = .ok (.invokevirtual 177, 3) := by decide +kernel
theorem dX8_item_85 : decode cX8_item 85 = .ok (.ifCond .eq 36, 3) := by decide +kernel
theorem dX8_item_88 : decode cX8_item 88 = .ok (.aload_n 0, 1) := by decide +kernel
theorem dX8_item_89 : decode cX8_item 89 = .ok (.getfield 71, 3) := by decide +kernel
theorem dX8_item_92 : decode cX8_item 92 = .ok (.iconst 0, 1) := by decide +kernel
theorem dX8_item_93 : decode cX8_item 93 = .ok (.iaload, 1) := by decide +kernel
theorem dX8_item_94 : decode cX8_item 94 = .ok (.invokestatic 87, 3) := by decide +kernel
theorem dX8_item_97 : decode cX8_item 97 = .ok (.ifCond .eq 24, 3) := by decide +kernel
theorem dX8_item_100 : decode cX8_item 100 = .ok (.aload_n 0, 1) := by decide +kernel
theorem dX8_item_101 : decode cX8_item 101 = .ok (.getfield 71, 3) := by decide +kernel
theorem dX8_item_104 : decode cX8_item 104 = .ok (.iconst 1, 1) := by decide +kernel
theorem dX8_item_105 : decode cX8_item 105 = .ok (.iaload, 1) := by decide +kernel
theorem dX8_item_106 : decode cX8_item 106 = .ok (.i2l, 1) := by decide +kernel
theorem dX8_item_107 : decode cX8_item 107 = .ok (.lconst 0, 1) := by decide +kernel
theorem dX8_item_108 : decode cX8_item 108 = .ok (.ldc2_w 180, 3) := by decide +kernel
theorem dX8_item_111 : decode cX8_item 111 = .ok (.invokestatic 79, 3) := by decide +kernel
theorem dX8_item_114 : decode cX8_item 114 = .ok (.ifCond .eq 7, 3) := by decide +kernel
theorem dX8_item_117 : decode cX8_item 117 = .ok (.iconst 1, 1) := by decide +kernel
theorem dX8_item_118 : decode cX8_item 118 = .ok (.goto 4, 3) := by decide +kernel
theorem dX8_item_121 : decode cX8_item 121 = .ok (.iconst 0, 1) := by decide +kernel
theorem dX8_item_122 : decode cX8_item 122 = .ok (.ireturn, 1) := by decide +kernel
theorem dX8_item_123 : decode cX8_item 123 = .ok (.aload_n 0, 1) := by decide +kernel
theorem dX8_item_124 : decode cX8_item 124 = .ok (.iconst 3, 1) := by decide +kernel
theorem dX8_item_125 : decode cX8_item 125 = .ok (.invokevirtual 177, 3) := by decide +kernel
theorem dX8_item_128 : decode cX8_item 128 = .ok (.ifCond .eq 41, 3) := by decide +kernel
theorem dX8_item_131 : decode cX8_item 131 = .ok (.aload_n 0, 1) := by decide +kernel
theorem dX8_item_132 : decode cX8_item 132 = .ok (.getfield 71, 3) := by decide +kernel
theorem dX8_item_135 : decode cX8_item 135 = .ok (.iconst 0, 1) := by decide +kernel
theorem dX8_item_136 : decode cX8_item 136 = .ok (.iaload, 1) := by decide +kernel
theorem dX8_item_137 : decode cX8_item 137 = .ok (.i2l, 1) := by decide +kernel
theorem dX8_item_138 : decode cX8_item 138 = .ok (.lconst 0, 1) := by decide +kernel
theorem dX8_item_139 : decode cX8_item 139 = .ok (.ldc2_w 93, 3) := by decide +kernel
theorem dX8_item_142 : decode cX8_item 142 = .ok (.invokestatic 79, 3) := by decide +kernel
theorem dX8_item_145 : decode cX8_item 145 = .ok (.ifCond .eq 24, 3) := by decide +kernel
theorem dX8_item_148 : decode cX8_item 148 = .ok (.aload_n 0, 1) := by decide +kernel
theorem dX8_item_149 : decode cX8_item 149 = .ok (.getfield 71, 3) := by decide +kernel
theorem dX8_item_152 : decode cX8_item 152 = .ok (.iconst 1, 1) := by decide +kernel
theorem dX8_item_153 : decode cX8_item 153 = .ok (.iaload, 1) := by decide +kernel
theorem dX8_item_154 : decode cX8_item 154 = .ok (.i2l, 1) := by decide +kernel
theorem dX8_item_155 : decode cX8_item 155 = .ok (.lconst 0, 1) := by decide +kernel
theorem dX8_item_156 : decode cX8_item 156 = .ok (.ldc2_w 180, 3) := by decide +kernel
theorem dX8_item_159 : decode cX8_item 159 = .ok (.invokestatic 79, 3) := by decide +kernel
theorem dX8_item_162 : decode cX8_item 162 = .ok (.ifCond .eq 7, 3) := by decide +kernel
theorem dX8_item_165 : decode cX8_item 165 = .ok (.iconst 1, 1) := by decide +kernel
theorem dX8_item_166 : decode cX8_item 166 = .ok (.goto 4, 3) := by decide +kernel
theorem dX8_item_169 : decode cX8_item 169 = .ok (.iconst 0, 1) := by decide +kernel
theorem dX8_item_170 : decode cX8_item 170 = .ok (.ireturn, 1) := by decide +kernel
theorem dX8_item_171 : decode cX8_item 171 = .ok (.aload_n 0, 1) := by decide +kernel
theorem dX8_item_172 : decode cX8_item 172 = .ok (.iconst 2, 1) := by decide +kernel
theorem dX8_item_173 : decode cX8_item 173 = .ok (.invokevirtual 177, 3) := by decide +kernel
theorem dX8_item_176 : decode cX8_item 176 = .ok (.ireturn, 1) := by decide +kernel
theorem dX8_item_177 : decode cX8_item 177 = .ok (.aload_n 0, 1) := by decide +kernel
theorem dX8_item_178 : decode cX8_item 178 = .ok (.iconst 2, 1) := by decide +kernel
theorem dX8_item_179 : decode cX8_item 179 = .ok (.invokevirtual 177, 3) := by decide +kernel
theorem dX8_item_182 : decode cX8_item 182 = .ok (.ifCond .eq 16, 3) := by decide +kernel
theorem dX8_item_185 : decode cX8_item 185 = .ok (.aload_n 0, 1) := by decide +kernel
theorem dX8_item_186 : decode cX8_item 186 = .ok (.getfield 71, 3) := by decide +kernel
theorem dX8_item_189 : decode cX8_item 189 = .ok (.iconst 0, 1) := by decide +kernel
theorem dX8_item_190 : decode cX8_item 190 = .ok (.iaload, 1) := by decide +kernel
theorem dX8_item_191 : decode cX8_item 191 = .ok (.ifCond .le 7, 3) := by decide +kernel
theorem dX8_item_194 : decode cX8_item 194 = .ok (.iconst 1, 1) := by decide +kernel
theorem dX8_item_195 : decode cX8_item 195 = .ok (.goto 4, 3) := by decide +kernel
theorem dX8_item_198 : decode cX8_item 198 = .ok (.iconst 0, 1) := by decide +kernel
theorem dX8_item_199 : decode cX8_item 199 = .ok (.ireturn, 1) := by decide +kernel
theorem dX8_item_200 : decode cX8_item 200 = .ok (.aload_n 0, 1) := by decide +kernel
theorem dX8_item_201 : decode cX8_item 201 = .ok (.iconst 2, 1) := by decide +kernel
theorem dX8_item_202 : decode cX8_item 202 = .ok (.invokevirtual 177, 3) := by decide +kernel
theorem dX8_item_205 : decode cX8_item 205 = .ok (.ifCond .eq 18, 3) := by decide +kernel
theorem dX8_item_208 : decode cX8_item 208 = .ok (.aload_n 0, 1) := by decide +kernel
theorem dX8_item_209 : decode cX8_item 209 = .ok (.getfield 71, 3) := by decide +kernel
theorem dX8_item_212 : decode cX8_item 212 = .ok (.iconst 0, 1) := by decide +kernel
theorem dX8_item_213 : decode cX8_item 213 = .ok (.iaload, 1) := by decide +kernel
theorem dX8_item_214 : decode cX8_item 214 = .ok (.bipush 10, 2) := by decide +kernel
theorem dX8_item_216 : decode cX8_item 216 = .ok (.if_icmp .ge 7, 3) := by decide +kernel
theorem dX8_item_219 : decode cX8_item 219 = .ok (.iconst 1, 1) := by decide +kernel
theorem dX8_item_220 : decode cX8_item 220 = .ok (.goto 4, 3) := by decide +kernel
theorem dX8_item_223 : decode cX8_item 223 = .ok (.iconst 0, 1) := by decide +kernel
theorem dX8_item_224 : decode cX8_item 224 = .ok (.ireturn, 1) := by decide +kernel
theorem dX8_item_225 : decode cX8_item 225 = .ok (.aload_n 0, 1) := by decide +kernel
theorem dX8_item_226 : decode cX8_item 226 = .ok (.iconst 4, 1) := by decide +kernel
theorem dX8_item_227 : decode cX8_item 227 = .ok (.invokevirtual 177, 3) := by decide +kernel
theorem dX8_item_230 : decode cX8_item 230 = .ok (.ifCond .eq 46, 3) := by decide +kernel
theorem dX8_item_233 : decode cX8_item 233 = .ok (.aload_n 0, 1) := by decide +kernel
theorem dX8_item_234 : decode cX8_item 234 = .ok (.getfield 71, 3) := by decide +kernel
theorem dX8_item_237 : decode cX8_item 237 = .ok (.iconst 0, 1) := by decide +kernel
theorem dX8_item_238 : decode cX8_item 238 = .ok (.iaload, 1) := by decide +kernel
theorem dX8_item_239 : decode cX8_item 239 = .ok (.invokestatic 87, 3) := by decide +kernel
theorem dX8_item_242 : decode cX8_item 242 = .ok (.ifCond .eq 34, 3) := by decide +kernel
theorem dX8_item_245 : decode cX8_item 245 = .ok (.aload_n 0, 1) := by decide +kernel
theorem dX8_item_246 : decode cX8_item 246 = .ok (.getfield 71, 3) := by decide +kernel
theorem dX8_item_249 : decode cX8_item 249 = .ok (.iconst 1, 1) := by decide +kernel
theorem dX8_item_250 : decode cX8_item 250 = .ok (.iaload, 1) := by decide +kernel
theorem dX8_item_251 : decode cX8_item 251 = .ok (.invokestatic 104, 3) := by decide +kernel
theorem dX8_item_254 : decode cX8_item 254 = .ok (.ifCond .eq 22, 3) := by decide +kernel
theorem dX8_item_257 : decode cX8_item 257 = .ok (.aload_n 0, 1) := by decide +kernel
theorem dX8_item_258 : decode cX8_item 258 = .ok (.getfield 71, 3) := by decide +kernel
theorem dX8_item_261 : decode cX8_item 261 = .ok (.iconst 2, 1) := by decide +kernel
theorem dX8_item_262 : decode cX8_item 262 = .ok (.iaload, 1) := by decide +kernel
theorem dX8_item_263 : decode cX8_item 263 = .ok (.aload_n 0, 1) := by decide +kernel
theorem dX8_item_264 : decode cX8_item 264 = .ok (.getfield 71, 3) := by decide +kernel
theorem dX8_item_267 : decode cX8_item 267 = .ok (.iconst 3, 1) := by decide +kernel
theorem dX8_item_268 : decode cX8_item 268 = .ok (.iaload, 1) := by decide +kernel
theorem dX8_item_269 : decode cX8_item 269 = .ok (.if_icmp .gt 7, 3) := by decide +kernel
theorem dX8_item_272 : decode cX8_item 272 = .ok (.iconst 1, 1) := by decide +kernel
theorem dX8_item_273 : decode cX8_item 273 = .ok (.goto 4, 3) := by decide +kernel
theorem dX8_item_276 : decode cX8_item 276 = .ok (.iconst 0, 1) := by decide +kernel
theorem dX8_item_277 : decode cX8_item 277 = .ok (.ireturn, 1) := by decide +kernel
theorem dX8_item_278 : decode cX8_item 278 = .ok (.iconst 0, 1) := by decide +kernel
theorem dX8_item_279 : decode cX8_item 279 = .ok (.ireturn, 1) := by decide +kernel
theorem dX8_readAll_0 : decode cX8_readAll 0 = .ok (.aload_n 0, 1) := by decide +kernel
theorem dX8_readAll_1 : decode cX8_readAll 1 = .ok (.getfield 50, 3) := by decide +kernel
theorem dX8_readAll_4 : decode cX8_readAll 4 = .ok (.iconst 0, 1) := by decide +kernel
theorem dX8_readAll_5 : decode cX8_readAll 5 = .ok (.iconst 0, 1) := by decide +kernel
theorem dX8_readAll_6 : decode cX8_readAll 6 = .ok (.iastore, 1) := by decide +kernel
theorem dX8_readAll_7 : decode cX8_readAll 7 = .ok (.aload_n 0, 1) := by decide +kernel
theorem dX8_readAll_8 : decode cX8_readAll 8 = .ok (.iconst 0, 1) := by decide +kernel
theorem dX8_readAll_9 : decode cX8_readAll 9 = .ok (.putfield 168, 3) := by decide +kernel
theorem dX8_readAll_12 : decode cX8_readAll 12 = .ok (.aload_n 0, 1) := by decide +kernel
theorem dX8_readAll_13 : decode cX8_readAll 13 = .ok (.getfield 168, 3) := by decide +kernel
theorem dX8_readAll_16 : decode cX8_readAll 16 = .ok (.aload_n 0, 1) := by decide +kernel
theorem dX8_readAll_17 : decode cX8_readAll 17 = .ok (.getfield 165, 3) := by decide +kernel
theorem dX8_readAll_20 : decode cX8_readAll 20 = .ok (.if_icmp .ge 171, 3) := by decide +kernel
theorem dX8_readAll_23 : decode cX8_readAll 23 = .ok (.aload_n 0, 1) := by decide +kernel
theorem dX8_readAll_24 : decode cX8_readAll 24 = .ok (.getfield 168, 3) := by decide +kernel
theorem dX8_readAll_27 : decode cX8_readAll 27 = .ok (.istore_n 1, 1) := by decide +kernel
theorem dX8_readAll_28 : decode cX8_readAll 28 = .ok (.aload_n 0, 1) := by decide +kernel
theorem dX8_readAll_29 : decode cX8_readAll 29 = .ok (.invokevirtual 182, 3) := by decide +kernel
theorem dX8_readAll_32 : decode cX8_readAll 32 = .ok (.ifCond .ne 5, 3) := by decide +kernel
theorem dX8_readAll_35 : decode cX8_readAll 35 = .ok (.iload_n 1, 1) := by decide +kernel
theorem dX8_readAll_36 : decode cX8_readAll 36 = .ok (.ireturn, 1) := by decide +kernel
theorem dX8_readAll_37 : decode cX8_readAll 37 = .ok (.iconst 5, 1) := by decide +kernel
theorem dX8_readAll_38 : decode cX8_readAll 38 = .ok (.aload_n 0, 1) := by decide +kernel
theorem dX8_readAll_39 : decode cX8_readAll 39 = .ok (.getfield 50, 3) := by decide +kernel
theorem dX8_readAll_42 : decode cX8_readAll 42 = .ok (.iconst 0, 1) := by decide +kernel
