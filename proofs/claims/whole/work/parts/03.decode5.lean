theorem dX8_readAll_43 : decode cX8_readAll 43 = .ok (.iaload, 1) := by decide +kernel
theorem dX8_readAll_44 : decode cX8_readAll 44 = .ok (.imul, 1) := by decide +kernel
theorem dX8_readAll_45 : decode cX8_readAll 45 = .ok (.istore_n 2, 1) := by decide +kernel
theorem dX8_readAll_46 : decode cX8_readAll 46 = .ok (.aload_n 0, 1) := by decide +kernel
theorem dX8_readAll_47 : decode cX8_readAll 47 = .ok (.getfield 47, 3) := by decide +kernel
theorem dX8_readAll_50 : decode cX8_readAll 50 = .ok (.iload_n 1, 1) := by decide +kernel
theorem dX8_readAll_51 : decode cX8_readAll 51 = .ok (.iaload, 1) := by decide +kernel
theorem dX8_readAll_52 : decode cX8_readAll 52 = .ok (.istore_n 3, 1) := by decide +kernel
theorem dX8_readAll_53 : decode cX8_readAll 53 = .ok (.iload_n 3, 1) := by decide +kernel
theorem dX8_readAll_54 : decode cX8_readAll 54 = .ok (.bipush 111, 2) := by decide +kernel
theorem dX8_readAll_56 : decode cX8_readAll 56 = .ok (.if_icmp .eq 15, 3) := by decide +kernel
theorem dX8_readAll_59 : decode cX8_readAll 59 = .ok (.iload_n 3, 1) := by decide +kernel
theorem dX8_readAll_60 : decode cX8_readAll 60 = .ok (.bipush 98, 2) := by decide +kernel
theorem dX8_readAll_62 : decode cX8_readAll 62 = .ok (.if_icmp .eq 9, 3) := by decide +kernel
theorem dX8_readAll_65 : decode cX8_readAll 65 = .ok (.iload_n 3, 1) := by decide +kernel
theorem dX8_readAll_66 : decode cX8_readAll 66 = .ok (.bipush 120, 2) := by decide +kernel
theorem dX8_readAll_68 : decode cX8_readAll 68 = .ok (.if_icmp .ne 7, 3) := by decide +kernel
theorem dX8_readAll_71 : decode cX8_readAll 71 = .ok (.iconst 1, 1) := by decide +kernel
theorem dX8_readAll_72 : decode cX8_readAll 72 = .ok (.goto 4, 3) := by decide +kernel
theorem dX8_readAll_75 : decode cX8_readAll 75 = .ok (.iconst 0, 1) := by decide +kernel
theorem dX8_readAll_76 : decode cX8_readAll 76 = .ok (.istore 4, 2) := by decide +kernel
theorem dX8_readAll_78 : decode cX8_readAll 78 = .ok (.aload_n 0, 1) := by decide +kernel
theorem dX8_readAll_79 : decode cX8_readAll 79 = .ok (.getfield 53, 3) := by decide +kernel
theorem dX8_readAll_82 : decode cX8_readAll 82 = .ok (.iload_n 2, 1) := by decide +kernel
theorem dX8_readAll_83 : decode cX8_readAll 83 = .ok (.iload_n 3, 1) := by decide +kernel
theorem dX8_readAll_84 : decode cX8_readAll 84 = .ok (.iastore, 1) := by decide +kernel
theorem dX8_readAll_85 : decode cX8_readAll 85 = .ok (.aload_n 0, 1) := by decide +kernel
theorem dX8_readAll_86 : decode cX8_readAll 86 = .ok (.getfield 53, 3) := by decide +kernel
theorem dX8_readAll_89 : decode cX8_readAll 89 = .ok (.iload_n 2, 1) := by decide +kernel
theorem dX8_readAll_90 : decode cX8_readAll 90 = .ok (.iconst 1, 1) := by decide +kernel
theorem dX8_readAll_91 : decode cX8_readAll 91 = .ok (.iadd, 1) := by decide +kernel
theorem dX8_readAll_92 : decode cX8_readAll 92 = .ok (.iload 4, 2) := by decide +kernel
theorem dX8_readAll_94 : decode cX8_readAll 94 = .ok (.ifCond .eq 7, 3) := by decide +kernel
theorem dX8_readAll_97 : decode cX8_readAll 97 = .ok (.iconst 0, 1) := by decide +kernel
theorem dX8_readAll_98 : decode cX8_readAll 98 = .ok (.goto 9, 3) := by decide +kernel
theorem dX8_readAll_101 : decode cX8_readAll 101 = .ok (.aload_n 0, 1) := by decide +kernel
theorem dX8_readAll_102 : decode cX8_readAll 102 = .ok (.getfield 71, 3) := by decide +kernel
theorem dX8_readAll_105 : decode cX8_readAll 105 = .ok (.iconst 0, 1) := by decide +kernel
theorem dX8_readAll_106 : decode cX8_readAll 106 = .ok (.iaload, 1) := by decide +kernel
theorem dX8_readAll_107 : decode cX8_readAll 107 = .ok (.iastore, 1) := by decide +kernel
theorem dX8_readAll_108 : decode cX8_readAll 108 = .ok (.aload_n 0, 1) := by decide +kernel
theorem dX8_readAll_109 : decode cX8_readAll 109 = .ok (.getfield 53, 3) := by decide +kernel
theorem dX8_readAll_112 : decode cX8_readAll 112 = .ok (.iload_n 2, 1) := by decide +kernel
theorem dX8_readAll_113 : decode cX8_readAll 113 = .ok (.iconst 2, 1) := by decide +kernel
theorem dX8_readAll_114 : decode cX8_readAll 114 = .ok (.iadd, 1) := by decide +kernel
theorem dX8_readAll_115 : decode cX8_readAll 115 = .ok (.iload 4, 2) := by decide +kernel
theorem dX8_readAll_117 : decode cX8_readAll 117 = .ok (.ifCond .eq 12, 3) := by decide +kernel
theorem dX8_readAll_120 : decode cX8_readAll 120 = .ok (.aload_n 0, 1) := by decide +kernel
theorem dX8_readAll_121 : decode cX8_readAll 121 = .ok (.getfield 71, 3) := by decide +kernel
theorem dX8_readAll_124 : decode cX8_readAll 124 = .ok (.iconst 0, 1) := by decide +kernel
theorem dX8_readAll_125 : decode cX8_readAll 125 = .ok (.iaload, 1) := by decide +kernel
theorem dX8_readAll_126 : decode cX8_readAll 126 = .ok (.goto 9, 3) := by decide +kernel
theorem dX8_readAll_129 : decode cX8_readAll 129 = .ok (.aload_n 0, 1) := by decide +kernel
theorem dX8_readAll_130 : decode cX8_readAll 130 = .ok (.getfield 71, 3) := by decide +kernel
theorem dX8_readAll_133 : decode cX8_readAll 133 = .ok (.iconst 1, 1) := by decide +kernel
theorem dX8_readAll_134 : decode cX8_readAll 134 = .ok (.iaload, 1) := by decide +kernel
theorem dX8_readAll_135 : decode cX8_readAll 135 = .ok (.iastore, 1) := by decide +kernel
theorem dX8_readAll_136 : decode cX8_readAll 136 = .ok (.aload_n 0, 1) := by decide +kernel
theorem dX8_readAll_137 : decode cX8_readAll 137 = .ok (.getfield 53, 3) := by decide +kernel
theorem dX8_readAll_140 : decode cX8_readAll 140 = .ok (.iload_n 2, 1) := by decide +kernel
theorem dX8_readAll_141 : decode cX8_readAll 141 = .ok (.iconst 3, 1) := by decide +kernel
theorem dX8_readAll_142 : decode cX8_readAll 142 = .ok (.iadd, 1) := by decide +kernel
theorem dX8_readAll_143 : decode cX8_readAll 143 = .ok (.iload 4, 2) := by decide +kernel
theorem dX8_readAll_145 : decode cX8_readAll 145 = .ok (.ifCond .eq 12, 3) := by decide +kernel
theorem dX8_readAll_148 : decode cX8_readAll 148 = .ok (.aload_n 0, 1) := by decide +kernel
theorem dX8_readAll_149 : decode cX8_readAll 149 = .ok (.getfield 71, 3) := by decide +kernel
theorem dX8_readAll_152 : decode cX8_readAll 152 = .ok (.iconst 1, 1) := by decide +kernel
theorem dX8_readAll_153 : decode cX8_readAll 153 = .ok (.iaload, 1) := by decide +kernel
theorem dX8_readAll_154 : decode cX8_readAll 154 = .ok (.goto 9, 3) := by decide +kernel
theorem dX8_readAll_157 : decode cX8_readAll 157 = .ok (.aload_n 0, 1) := by decide +kernel
theorem dX8_readAll_158 : decode cX8_readAll 158 = .ok (.getfield 71, 3) := by decide +kernel
theorem dX8_readAll_161 : decode cX8_readAll 161 = .ok (.iconst 2, 1) := by decide +kernel
theorem dX8_readAll_162 : decode cX8_readAll 162 = .ok (.iaload, 1) := by decide +kernel
theorem dX8_readAll_163 : decode cX8_readAll 163 = .ok (.iastore, 1) := by decide +kernel
theorem dX8_readAll_164 : decode cX8_readAll 164 = .ok (.aload_n 0, 1) := by decide +kernel
theorem dX8_readAll_165 : decode cX8_readAll 165 = .ok (.getfield 53, 3) := by decide +kernel
theorem dX8_readAll_168 : decode cX8_readAll 168 = .ok (.iload_n 2, 1) := by decide +kernel
theorem dX8_readAll_169 : decode cX8_readAll 169 = .ok (.iconst 4, 1) := by decide +kernel
theorem dX8_readAll_170 : decode cX8_readAll 170 = .ok (.iadd, 1) := by decide +kernel
theorem dX8_readAll_171 : decode cX8_readAll 171 = .ok (.aload_n 0, 1) := by decide +kernel
theorem dX8_readAll_172 : decode cX8_readAll 172 = .ok (.getfield 71, 3) := by decide +kernel
theorem dX8_readAll_175 : decode cX8_readAll 175 = .ok (.iconst 3, 1) := by decide +kernel
theorem dX8_readAll_176 : decode cX8_readAll 176 = .ok (.iaload, 1) := by decide +kernel
theorem dX8_readAll_177 : decode cX8_readAll 177 = .ok (.iastore, 1) := by decide +kernel
theorem dX8_readAll_178 : decode cX8_readAll 178 = .ok (.aload_n 0, 1) := by decide +kernel
theorem dX8_readAll_179 : decode cX8_readAll 179 = .ok (.getfield 50, 3) := by decide +kernel
theorem dX8_readAll_182 : decode cX8_readAll 182 = .ok (.iconst 0, 1) := by decide +kernel
theorem dX8_readAll_183 : decode cX8_readAll 183 = .ok (.dup2, 1) := by decide +kernel
theorem dX8_readAll_184 : decode cX8_readAll 184 = .ok (.iaload, 1) := by decide +kernel
theorem dX8_readAll_185 : decode cX8_readAll 185 = .ok (.iconst 1, 1) := by decide +kernel
theorem dX8_readAll_186 : decode cX8_readAll 186 = .ok (.iadd, 1) := by decide +kernel
theorem dX8_readAll_187 : decode cX8_readAll 187 = .ok (.iastore, 1) := by decide +kernel
theorem dX8_readAll_188 : decode cX8_readAll 188 = .ok (.goto (-176), 3) := by decide +kernel
theorem dX8_readAll_191 : decode cX8_readAll 191 = .ok (.bipush (-4), 2) := by decide +kernel
theorem dX8_readAll_193 : decode cX8_readAll 193 = .ok (.ireturn, 1) := by decide +kernel
theorem dX8_fault_0 : decode cX8_fault 0 = .ok (.aload_n 0, 1) := by decide +kernel
theorem dX8_fault_1 : decode cX8_fault 1 = .ok (.invokevirtual 185, 3) := by decide +kernel
theorem dX8_fault_4 : decode cX8_fault 4 = .ok (.ireturn, 1) := by decide +kernel
theorem dX8_force_0 : decode cX8_force 0 = .ok (.aload_n 0, 1) := by decide +kernel
theorem dX8_force_1 : decode cX8_force 1 = .ok (.invokevirtual 185, 3) := by decide +kernel
theorem dX8_force_4 : decode cX8_force 4 = .ok (.bipush (-4), 2) := by decide +kernel
theorem dX8_force_6 : decode cX8_force 6 = .ok (.if_icmp .eq 6, 3) := by decide +kernel
theorem dX8_force_9 : decode cX8_force 9 = .ok (.bipush (-2), 2) := by decide +kernel
theorem dX8_force_11 : decode cX8_force 11 = .ok (.ireturn, 1) := by decide +kernel
theorem dX8_force_12 : decode cX8_force 12 = .ok (.aload_n 0, 1) := by decide +kernel
theorem dX8_force_13 : decode cX8_force 13 = .ok (.getfield 50, 3) := by decide +kernel
theorem dX8_force_16 : decode cX8_force 16 = .ok (.iconst 1, 1) := by decide +kernel
theorem dX8_force_17 : decode cX8_force 17 = .ok (.aload_n 0, 1) := by decide +kernel
theorem dX8_force_18 : decode cX8_force 18 = .ok (.getfield 50, 3) := by decide +kernel
theorem dX8_force_21 : decode cX8_force 21 = .ok (.iconst 0, 1) := by decide +kernel
theorem dX8_force_22 : decode cX8_force 22 = .ok (.iaload, 1) := by decide +kernel
theorem dX8_force_23 : decode cX8_force 23 = .ok (.iastore, 1) := by decide +kernel
theorem dX8_force_24 : decode cX8_force 24 = .ok (.iconst 0, 1) := by decide +kernel
theorem dX8_force_25 : decode cX8_force 25 = .ok (.istore_n 1, 1) := by decide +kernel
theorem dX8_force_26 : decode cX8_force 26 = .ok (.iload_n 1, 1) := by decide +kernel
theorem dX8_force_27 : decode cX8_force 27 = .ok (.sipush 200, 3) := by decide +kernel
theorem dX8_force_30 : decode cX8_force 30 = .ok (.if_icmp .ge 25, 3) := by decide +kernel
theorem dX8_force_33 : decode cX8_force 33 = .ok (.aload_n 0, 1) := by decide +kernel
theorem dX8_force_34 : decode cX8_force 34 = .ok (.getfield 53, 3) := by decide +kernel
theorem dX8_force_37 : decode cX8_force 37 = .ok (.sipush 200, 3) := by decide +kernel
theorem dX8_force_40 : decode cX8_force 40 = .ok (.iload_n 1, 1) := by decide +kernel
theorem dX8_force_41 : decode cX8_force 41 = .ok (.iadd, 1) := by decide +kernel
theorem dX8_force_42 : decode cX8_force 42 = .ok (.aload_n 0, 1) := by decide +kernel
theorem dX8_force_43 : decode cX8_force 43 = .ok (.getfield 53, 3) := by decide +kernel
theorem dX8_force_46 : decode cX8_force 46 = .ok (.iload_n 1, 1) := by decide +kernel
theorem dX8_force_47 : decode cX8_force 47 = .ok (.iaload, 1) := by decide +kernel
theorem dX8_force_48 : decode cX8_force 48 = .ok (.iastore, 1) := by decide +kernel
theorem dX8_force_49 : decode cX8_force 49 = .ok (.iinc 1 1, 3) := by decide +kernel
theorem dX8_force_52 : decode cX8_force 52 = .ok (.goto (-26), 3) := by decide +kernel
theorem dX8_force_55 : decode cX8_force 55 = .ok (.aload_n 0, 1) := by decide +kernel
theorem dX8_force_56 : decode cX8_force 56 = .ok (.getfield 50, 3) := by decide +kernel
theorem dX8_force_59 : decode cX8_force 59 = .ok (.iconst 1, 1) := by decide +kernel
theorem dX8_force_60 : decode cX8_force 60 = .ok (.iaload, 1) := by decide +kernel
theorem dX8_force_61 : decode cX8_force 61 = .ok (.ireturn, 1) := by decide +kernel
theorem dX8_letterOf_0 : decode cX8_letterOf 0 = .ok (.iload_n 0, 1) := by decide +kernel
theorem dX8_letterOf_1 : decode cX8_letterOf 1 = .ok (.ifCond .ne 8, 3) := by decide +kernel
theorem dX8_letterOf_4 : decode cX8_letterOf 4 = .ok (.bipush 119, 2) := by decide +kernel
theorem dX8_letterOf_6 : decode cX8_letterOf 6 = .ok (.goto 35, 3) := by decide +kernel
theorem dX8_letterOf_9 : decode cX8_letterOf 9 = .ok (.iload_n 0, 1) := by decide +kernel
theorem dX8_letterOf_10 : decode cX8_letterOf 10 = .ok (.iconst 1, 1) := by decide +kernel
theorem dX8_letterOf_11 : decode cX8_letterOf 11 = .ok (.if_icmp .ne 8, 3) := by decide +kernel
theorem dX8_letterOf_14 : decode cX8_letterOf 14 = .ok (.bipush 118, 2) := by decide +kernel
theorem dX8_letterOf_16 : decode cX8_letterOf 16 = .ok (.goto 25, 3) := by decide +kernel
theorem dX8_letterOf_19 : decode cX8_letterOf 19 = .ok (.iload_n 0, 1) := by decide +kernel
theorem dX8_letterOf_20 : decode cX8_letterOf 20 = .ok (.iconst 2, 1) := by decide +kernel
theorem dX8_letterOf_21 : decode cX8_letterOf 21 = .ok (.if_icmp .ne 8, 3) := by decide +kernel
theorem dX8_letterOf_24 : decode cX8_letterOf 24 = .ok (.bipush 111, 2) := by decide +kernel
theorem dX8_letterOf_26 : decode cX8_letterOf 26 = .ok (.goto 15, 3) := by decide +kernel
theorem dX8_letterOf_29 : decode cX8_letterOf 29 = .ok (.iload_n 0, 1) := by decide +kernel
theorem dX8_letterOf_30 : decode cX8_letterOf 30 = .ok (.iconst 3, 1) := by decide +kernel
theorem dX8_letterOf_31 : decode cX8_letterOf 31 = .ok (.if_icmp .ne 8, 3) := by decide +kernel
theorem dX8_letterOf_34 : decode cX8_letterOf 34 = .ok (.bipush 98, 2) := by decide +kernel
theorem dX8_letterOf_36 : decode cX8_letterOf 36 = .ok (.goto 5, 3) := by decide +kernel
theorem dX8_letterOf_39 : decode cX8_letterOf 39 = .ok (.bipush 120, 2) := by decide +kernel
theorem dX8_letterOf_41 : decode cX8_letterOf 41 = .ok (.ireturn, 1) := by decide +kernel
theorem dX8_whyOf_0 : decode cX8_whyOf 0 = .ok (.bipush (-4), 2) := by decide +kernel
theorem dX8_whyOf_2 : decode cX8_whyOf 2 = .ok (.istore 4, 2) := by decide +kernel
theorem dX8_whyOf_4 : decode cX8_whyOf 4 = .ok (.iconst 0, 1) := by decide +kernel
theorem dX8_whyOf_5 : decode cX8_whyOf 5 = .ok (.istore 5, 2) := by decide +kernel
theorem dX8_whyOf_7 : decode cX8_whyOf 7 = .ok (.iload 5, 2) := by decide +kernel
theorem dX8_whyOf_9 : decode cX8_whyOf 9 = .ok (.aload_n 0, 1) := by decide +kernel
theorem dX8_whyOf_10 : decode cX8_whyOf 10 = .ok (.getfield 50, 3) := by decide +kernel
theorem dX8_whyOf_13 : decode cX8_whyOf 13 = .ok (.iconst 1, 1) := by decide +kernel
theorem dX8_whyOf_14 : decode cX8_whyOf 14 = .ok (.iaload, 1) := by decide +kernel
theorem dX8_whyOf_15 : decode cX8_whyOf 15 = .ok (.if_icmp .ge 85, 3) := by decide +kernel
theorem dX8_whyOf_18 : decode cX8_whyOf 18 = .ok (.sipush 200, 3) := by decide +kernel
theorem dX8_whyOf_21 : decode cX8_whyOf 21 = .ok (.iconst 5, 1) := by decide +kernel
theorem dX8_whyOf_22 : decode cX8_whyOf 22 = .ok (.iload 5, 2) := by decide +kernel
theorem dX8_whyOf_24 : decode cX8_whyOf 24 = .ok (.imul, 1) := by decide +kernel
theorem dX8_whyOf_25 : decode cX8_whyOf 25 = .ok (.iadd, 1) := by decide +kernel
theorem dX8_whyOf_26 : decode cX8_whyOf 26 = .ok (.istore 6, 2) := by decide +kernel
theorem dX8_whyOf_28 : decode cX8_whyOf 28 = .ok (.aload_n 0, 1) := by decide +kernel
theorem dX8_whyOf_29 : decode cX8_whyOf 29 = .ok (.getfield 53, 3) := by decide +kernel
theorem dX8_whyOf_32 : decode cX8_whyOf 32 = .ok (.iload 6, 2) := by decide +kernel
theorem dX8_whyOf_34 : decode cX8_whyOf 34 = .ok (.iaload, 1) := by decide +kernel
theorem dX8_whyOf_35 : decode cX8_whyOf 35 = .ok (.iload_n 1, 1) := by decide +kernel
theorem dX8_whyOf_36 : decode cX8_whyOf 36 = .ok (.invokestatic 189, 3) := by decide +kernel
theorem dX8_whyOf_39 : decode cX8_whyOf 39 = .ok (.if_icmp .ne 38, 3) := by decide +kernel
theorem dX8_whyOf_42 : decode cX8_whyOf 42 = .ok (.iload_n 1, 1) := by decide +kernel
theorem dX8_whyOf_43 : decode cX8_whyOf 43 = .ok (.iconst 1, 1) := by decide +kernel
theorem dX8_whyOf_44 : decode cX8_whyOf 44 = .ok (.if_icmp .gt 16, 3) := by decide +kernel
theorem dX8_whyOf_47 : decode cX8_whyOf 47 = .ok (.aload_n 0, 1) := by decide +kernel
theorem dX8_whyOf_48 : decode cX8_whyOf 48 = .ok (.getfield 53, 3) := by decide +kernel
theorem dX8_whyOf_51 : decode cX8_whyOf 51 = .ok (.iload 6, 2) := by decide +kernel
theorem dX8_whyOf_53 : decode cX8_whyOf 53 = .ok (.iconst 1, 1) := by decide +kernel
theorem dX8_whyOf_54 : decode cX8_whyOf 54 = .ok (.iadd, 1) := by decide +kernel
theorem dX8_whyOf_55 : decode cX8_whyOf 55 = .ok (.iaload, 1) := by decide +kernel
theorem dX8_whyOf_56 : decode cX8_whyOf 56 = .ok (.iload_n 2, 1) := by decide +kernel
theorem dX8_whyOf_57 : decode cX8_whyOf 57 = .ok (.if_icmp .ne 20, 3) := by decide +kernel
theorem dX8_whyOf_60 : decode cX8_whyOf 60 = .ok (.aload_n 0, 1) := by decide +kernel
theorem dX8_whyOf_61 : decode cX8_whyOf 61 = .ok (.getfield 53, 3) := by decide +kernel
theorem dX8_whyOf_64 : decode cX8_whyOf 64 = .ok (.iload 6, 2) := by decide +kernel
theorem dX8_whyOf_66 : decode cX8_whyOf 66 = .ok (.iconst 3, 1) := by decide +kernel
theorem dX8_whyOf_67 : decode cX8_whyOf 67 = .ok (.iadd, 1) := by decide +kernel
theorem dX8_whyOf_68 : decode cX8_whyOf 68 = .ok (.iaload, 1) := by decide +kernel
theorem dX8_whyOf_69 : decode cX8_whyOf 69 = .ok (.iload_n 3, 1) := by decide +kernel
theorem dX8_whyOf_70 : decode cX8_whyOf 70 = .ok (.if_icmp .gt 7, 3) := by decide +kernel
theorem dX8_whyOf_73 : decode cX8_whyOf 73 = .ok (.iconst 1, 1) := by decide +kernel
theorem dX8_whyOf_74 : decode cX8_whyOf 74 = .ok (.goto 4, 3) := by decide +kernel
theorem dX8_whyOf_77 : decode cX8_whyOf 77 = .ok (.iconst 0, 1) := by decide +kernel
theorem dX8_whyOf_78 : decode cX8_whyOf 78 = .ok (.istore 7, 2) := by decide +kernel
theorem dX8_whyOf_80 : decode cX8_whyOf 80 = .ok (.iload 7, 2) := by decide +kernel
theorem dX8_whyOf_82 : decode cX8_whyOf 82 = .ok (.ifCond .eq 8, 3) := by decide +kernel
theorem dX8_whyOf_85 : decode cX8_whyOf 85 = .ok (.iload 5, 2) := by decide +kernel
theorem dX8_whyOf_87 : decode cX8_whyOf 87 = .ok (.goto 5, 3) := by decide +kernel
theorem dX8_whyOf_90 : decode cX8_whyOf 90 = .ok (.iload 4, 2) := by decide +kernel
theorem dX8_whyOf_92 : decode cX8_whyOf 92 = .ok (.istore 4, 2) := by decide +kernel
theorem dX8_whyOf_94 : decode cX8_whyOf 94 = .ok (.iinc 5 1, 3) := by decide +kernel
theorem dX8_whyOf_97 : decode cX8_whyOf 97 = .ok (.goto (-90), 3) := by decide +kernel
theorem dX8_whyOf_100 : decode cX8_whyOf 100 = .ok (.iload 4, 2) := by decide +kernel
theorem dX8_whyOf_102 : decode cX8_whyOf 102 = .ok (.ireturn, 1) := by decide +kernel
theorem dX8_ruleOf_0 : decode cX8_ruleOf 0 = .ok (.aload_n 0, 1) := by decide +kernel
theorem dX8_ruleOf_1 : decode cX8_ruleOf 1 = .ok (.iload_n 1, 1) := by decide +kernel
theorem dX8_ruleOf_2 : decode cX8_ruleOf 2 = .ok (.iload_n 2, 1) := by decide +kernel
theorem dX8_ruleOf_3 : decode cX8_ruleOf 3 = .ok (.iload_n 3, 1) := by decide +kernel
theorem dX8_ruleOf_4 : decode cX8_ruleOf 4 = .ok (.invokevirtual 192, 3) := by decide +kernel
theorem dX8_ruleOf_7 : decode cX8_ruleOf 7 = .ok (.istore 4, 2) := by decide +kernel
theorem dX8_ruleOf_9 : decode cX8_ruleOf 9 = .ok (.iload 4, 2) := by decide +kernel
theorem dX8_ruleOf_11 : decode cX8_ruleOf 11 = .ok (.bipush (-4), 2) := by decide +kernel
theorem dX8_ruleOf_13 : decode cX8_ruleOf 13 = .ok (.if_icmp .eq 17, 3) := by decide +kernel
theorem dX8_ruleOf_16 : decode cX8_ruleOf 16 = .ok (.aload_n 0, 1) := by decide +kernel
theorem dX8_ruleOf_17 : decode cX8_ruleOf 17 = .ok (.getfield 53, 3) := by decide +kernel
theorem dX8_ruleOf_20 : decode cX8_ruleOf 20 = .ok (.sipush 202, 3) := by decide +kernel
theorem dX8_ruleOf_23 : decode cX8_ruleOf 23 = .ok (.iconst 5, 1) := by decide +kernel
theorem dX8_ruleOf_24 : decode cX8_ruleOf 24 = .ok (.iload 4, 2) := by decide +kernel
theorem dX8_ruleOf_26 : decode cX8_ruleOf 26 = .ok (.imul, 1) := by decide +kernel
theorem dX8_ruleOf_27 : decode cX8_ruleOf 27 = .ok (.iadd, 1) := by decide +kernel
theorem dX8_ruleOf_28 : decode cX8_ruleOf 28 = .ok (.iaload, 1) := by decide +kernel
theorem dX8_ruleOf_29 : decode cX8_ruleOf 29 = .ok (.ireturn, 1) := by decide +kernel
theorem dX8_ruleOf_30 : decode cX8_ruleOf 30 = .ok (.iload_n 1, 1) := by decide +kernel
theorem dX8_ruleOf_31 : decode cX8_ruleOf 31 = .ok (.ifCond .ne 8, 3) := by decide +kernel
theorem dX8_ruleOf_34 : decode cX8_ruleOf 34 = .ok (.bipush 10, 2) := by decide +kernel
theorem dX8_ruleOf_36 : decode cX8_ruleOf 36 = .ok (.goto 34, 3) := by decide +kernel
theorem dX8_ruleOf_39 : decode cX8_ruleOf 39 = .ok (.iload_n 1, 1) := by decide +kernel
theorem dX8_ruleOf_40 : decode cX8_ruleOf 40 = .ok (.iconst 1, 1) := by decide +kernel
theorem dX8_ruleOf_41 : decode cX8_ruleOf 41 = .ok (.if_icmp .ne 7, 3) := by decide +kernel
theorem dX8_ruleOf_44 : decode cX8_ruleOf 44 = .ok (.iconst 0, 1) := by decide +kernel
theorem dX8_ruleOf_45 : decode cX8_ruleOf 45 = .ok (.goto 25, 3) := by decide +kernel
theorem dX8_ruleOf_48 : decode cX8_ruleOf 48 = .ok (.iload_n 1, 1) := by decide +kernel
theorem dX8_ruleOf_49 : decode cX8_ruleOf 49 = .ok (.iconst 2, 1) := by decide +kernel
theorem dX8_ruleOf_50 : decode cX8_ruleOf 50 = .ok (.if_icmp .ne 9, 3) := by decide +kernel
theorem dX8_ruleOf_53 : decode cX8_ruleOf 53 = .ok (.sipush 999, 3) := by decide +kernel
theorem dX8_ruleOf_56 : decode cX8_ruleOf 56 = .ok (.goto 14, 3) := by decide +kernel
theorem dX8_ruleOf_59 : decode cX8_ruleOf 59 = .ok (.iload_n 1, 1) := by decide +kernel
theorem dX8_ruleOf_60 : decode cX8_ruleOf 60 = .ok (.iconst 3, 1) := by decide +kernel
theorem dX8_ruleOf_61 : decode cX8_ruleOf 61 = .ok (.if_icmp .ne 8, 3) := by decide +kernel
theorem dX8_ruleOf_64 : decode cX8_ruleOf 64 = .ok (.bipush 20, 2) := by decide +kernel
theorem dX8_ruleOf_66 : decode cX8_ruleOf 66 = .ok (.goto 4, 3) := by decide +kernel
theorem dX8_ruleOf_69 : decode cX8_ruleOf 69 = .ok (.iconst 1, 1) := by decide +kernel
theorem dX8_ruleOf_70 : decode cX8_ruleOf 70 = .ok (.ireturn, 1) := by decide +kernel
theorem dX8_isAsked_0 : decode cX8_isAsked 0 = .ok (.iload_n 0, 1) := by decide +kernel
theorem dX8_isAsked_1 : decode cX8_isAsked 1 = .ok (.i2l, 1) := by decide +kernel
theorem dX8_isAsked_2 : decode cX8_isAsked 2 = .ok (.lconst 0, 1) := by decide +kernel
theorem dX8_isAsked_3 : decode cX8_isAsked 3 = .ok (.ldc2_w 196, 3) := by decide +kernel
theorem dX8_isAsked_6 : decode cX8_isAsked 6 = .ok (.invokestatic 79, 3) := by decide +kernel
theorem dX8_isAsked_9 : decode cX8_isAsked 9 = .ok (.ifCond .eq 41, 3) := by decide +kernel
theorem dX8_isAsked_12 : decode cX8_isAsked 12 = .ok (.iload_n 0, 1) := by decide +kernel
theorem dX8_isAsked_13 : decode cX8_isAsked 13 = .ok (.iconst 1, 1) := by decide +kernel
theorem dX8_isAsked_14 : decode cX8_isAsked 14 = .ok (.if_icmp .gt 25, 3) := by decide +kernel
theorem dX8_isAsked_17 : decode cX8_isAsked 17 = .ok (.iload_n 1, 1) := by decide +kernel
theorem dX8_isAsked_18 : decode cX8_isAsked 18 = .ok (.i2l, 1) := by decide +kernel
theorem dX8_isAsked_19 : decode cX8_isAsked 19 = .ok (.lconst 0, 1) := by decide +kernel
theorem dX8_isAsked_20 : decode cX8_isAsked 20 = .ok (.iload_n 0, 1) := by decide +kernel
theorem dX8_isAsked_21 : decode cX8_isAsked 21 = .ok (.ifCond .ne 9, 3) := by decide +kernel
theorem dX8_isAsked_24 : decode cX8_isAsked 24 = .ok (.ldc2_w 77, 3) := by decide +kernel
theorem dX8_isAsked_27 : decode cX8_isAsked 27 = .ok (.goto 6, 3) := by decide +kernel
theorem dX8_isAsked_30 : decode cX8_isAsked 30 = .ok (.ldc2_w 93, 3) := by decide +kernel
theorem dX8_isAsked_33 : decode cX8_isAsked 33 = .ok (.invokestatic 79, 3) := by decide +kernel
theorem dX8_isAsked_36 : decode cX8_isAsked 36 = .ok (.ifCond .eq 14, 3) := by decide +kernel
theorem dX8_isAsked_39 : decode cX8_isAsked 39 = .ok (.iload_n 2, 1) := by decide +kernel
theorem dX8_isAsked_40 : decode cX8_isAsked 40 = .ok (.invokestatic 107, 3) := by decide +kernel
theorem dX8_isAsked_43 : decode cX8_isAsked 43 = .ok (.ifCond .eq 7, 3) := by decide +kernel
theorem dX8_isAsked_46 : decode cX8_isAsked 46 = .ok (.iconst 1, 1) := by decide +kernel
theorem dX8_isAsked_47 : decode cX8_isAsked 47 = .ok (.goto 4, 3) := by decide +kernel
theorem dX8_isAsked_50 : decode cX8_isAsked 50 = .ok (.iconst 0, 1) := by decide +kernel
theorem dX8_isAsked_51 : decode cX8_isAsked 51 = .ok (.ireturn, 1) := by decide +kernel
theorem dX8_rule_0 : decode cX8_rule 0 = .ok (.iload_n 1, 1) := by decide +kernel
theorem dX8_rule_1 : decode cX8_rule 1 = .ok (.iload_n 2, 1) := by decide +kernel
theorem dX8_rule_2 : decode cX8_rule 2 = .ok (.iload_n 3, 1) := by decide +kernel
theorem dX8_rule_3 : decode cX8_rule 3 = .ok (.invokestatic 198, 3) := by decide +kernel
theorem dX8_rule_6 : decode cX8_rule 6 = .ok (.ifCond .eq 13, 3) := by decide +kernel
theorem dX8_rule_9 : decode cX8_rule 9 = .ok (.aload_n 0, 1) := by decide +kernel
theorem dX8_rule_10 : decode cX8_rule 10 = .ok (.iload_n 1, 1) := by decide +kernel
theorem dX8_rule_11 : decode cX8_rule 11 = .ok (.iload_n 2, 1) := by decide +kernel
theorem dX8_rule_12 : decode cX8_rule 12 = .ok (.iload_n 3, 1) := by decide +kernel
theorem dX8_rule_13 : decode cX8_rule 13 = .ok (.invokevirtual 202, 3) := by decide +kernel
theorem dX8_rule_16 : decode cX8_rule 16 = .ok (.goto 4, 3) := by decide +kernel
theorem dX8_rule_19 : decode cX8_rule 19 = .ok (.iconst (-1), 1) := by decide +kernel
theorem dX8_rule_20 : decode cX8_rule 20 = .ok (.ireturn, 1) := by decide +kernel
theorem dX8_why_0 : decode cX8_why 0 = .ok (.iload_n 1, 1) := by decide +kernel
theorem dX8_why_1 : decode cX8_why 1 = .ok (.iload_n 2, 1) := by decide +kernel
theorem dX8_why_2 : decode cX8_why 2 = .ok (.iload_n 3, 1) := by decide +kernel
theorem dX8_why_3 : decode cX8_why 3 = .ok (.invokestatic 198, 3) := by decide +kernel
theorem dX8_why_6 : decode cX8_why 6 = .ok (.ifCond .eq 13, 3) := by decide +kernel
theorem dX8_why_9 : decode cX8_why 9 = .ok (.aload_n 0, 1) := by decide +kernel
theorem dX8_why_10 : decode cX8_why 10 = .ok (.iload_n 1, 1) := by decide +kernel
theorem dX8_why_11 : decode cX8_why 11 = .ok (.iload_n 2, 1) := by decide +kernel
theorem dX8_why_12 : decode cX8_why 12 = .ok (.iload_n 3, 1) := by decide +kernel
theorem dX8_why_13 : decode cX8_why 13 = .ok (.invokevirtual 192, 3) := by decide +kernel
theorem dX8_why_16 : decode cX8_why 16 = .ok (.goto 4, 3) := by decide +kernel
theorem dX8_why_19 : decode cX8_why 19 = .ok (.iconst (-1), 1) := by decide +kernel
theorem dX8_why_20 : decode cX8_why 20 = .ok (.ireturn, 1) := by decide +kernel
theorem dX8_quarrel_0 : decode cX8_quarrel 0 = .ok (.iconst 0, 1) := by decide +kernel
theorem dX8_quarrel_1 : decode cX8_quarrel 1 = .ok (.istore_n 1, 1) := by decide +kernel
theorem dX8_quarrel_2 : decode cX8_quarrel 2 = .ok (.iload_n 1, 1) := by decide +kernel
theorem dX8_quarrel_3 : decode cX8_quarrel 3 = .ok (.aload_n 0, 1) := by decide +kernel
theorem dX8_quarrel_4 : decode cX8_quarrel 4 = .ok (.getfield 50, 3) := by decide +kernel
theorem dX8_quarrel_7 : decode cX8_quarrel 7 = .ok (.iconst 1, 1) := by decide +kernel
theorem dX8_quarrel_8 : decode cX8_quarrel 8 = .ok (.iaload, 1) := by decide +kernel
theorem dX8_quarrel_9 : decode cX8_quarrel 9 = .ok (.if_icmp .ge 152, 3) := by decide +kernel
theorem dX8_quarrel_12 : decode cX8_quarrel 12 = .ok (.iload_n 1, 1) := by decide +kernel
theorem dX8_quarrel_13 : decode cX8_quarrel 13 = .ok (.iconst 1, 1) := by decide +kernel
theorem dX8_quarrel_14 : decode cX8_quarrel 14 = .ok (.iadd, 1) := by decide +kernel
theorem dX8_quarrel_15 : decode cX8_quarrel 15 = .ok (.istore_n 2, 1) := by decide +kernel
theorem dX8_quarrel_16 : decode cX8_quarrel 16 = .ok (.iload_n 2, 1) := by decide +kernel
theorem dX8_quarrel_17 : decode cX8_quarrel 17 = .ok (.aload_n 0, 1) := by decide +kernel
theorem dX8_quarrel_18 : decode cX8_quarrel 18 = .ok (.getfield 50, 3) := by decide +kernel
theorem dX8_quarrel_21 : decode cX8_quarrel 21 = .ok (.iconst 1, 1) := by decide +kernel
theorem dX8_quarrel_22 : decode cX8_quarrel 22 = .ok (.iaload, 1) := by decide +kernel
theorem dX8_quarrel_23 : decode cX8_quarrel 23 = .ok (.if_icmp .ge 132, 3) := by decide +kernel
theorem dX8_quarrel_26 : decode cX8_quarrel 26 = .ok (.sipush 200, 3) := by decide +kernel
theorem dX8_quarrel_29 : decode cX8_quarrel 29 = .ok (.iconst 5, 1) := by decide +kernel
theorem dX8_quarrel_30 : decode cX8_quarrel 30 = .ok (.iload_n 1, 1) := by decide +kernel
theorem dX8_quarrel_31 : decode cX8_quarrel 31 = .ok (.imul, 1) := by decide +kernel
theorem dX8_quarrel_32 : decode cX8_quarrel 32 = .ok (.iadd, 1) := by decide +kernel
theorem dX8_quarrel_33 : decode cX8_quarrel 33 = .ok (.istore_n 3, 1) := by decide +kernel
theorem dX8_quarrel_34 : decode cX8_quarrel 34 = .ok (.sipush 200, 3) := by decide +kernel
theorem dX8_quarrel_37 : decode cX8_quarrel 37 = .ok (.iconst 5, 1) := by decide +kernel
theorem dX8_quarrel_38 : decode cX8_quarrel 38 = .ok (.iload_n 2, 1) := by decide +kernel
theorem dX8_quarrel_39 : decode cX8_quarrel 39 = .ok (.imul, 1) := by decide +kernel
theorem dX8_quarrel_40 : decode cX8_quarrel 40 = .ok (.iadd, 1) := by decide +kernel
theorem dX8_quarrel_41 : decode cX8_quarrel 41 = .ok (.istore 4, 2) := by decide +kernel
theorem dX8_quarrel_43 : decode cX8_quarrel 43 = .ok (.aload_n 0, 1) := by decide +kernel
theorem dX8_quarrel_44 : decode cX8_quarrel 44 = .ok (.getfield 53, 3) := by decide +kernel
theorem dX8_quarrel_47 : decode cX8_quarrel 47 = .ok (.iload_n 3, 1) := by decide +kernel
theorem dX8_quarrel_48 : decode cX8_quarrel 48 = .ok (.iaload, 1) := by decide +kernel
theorem dX8_quarrel_49 : decode cX8_quarrel 49 = .ok (.bipush 110, 2) := by decide +kernel
theorem dX8_quarrel_51 : decode cX8_quarrel 51 = .ok (.if_icmp .eq 63, 3) := by decide +kernel
theorem dX8_quarrel_54 : decode cX8_quarrel 54 = .ok (.aload_n 0, 1) := by decide +kernel
theorem dX8_quarrel_55 : decode cX8_quarrel 55 = .ok (.getfield 53, 3) := by decide +kernel
theorem dX8_quarrel_58 : decode cX8_quarrel 58 = .ok (.iload_n 3, 1) := by decide +kernel
theorem dX8_quarrel_59 : decode cX8_quarrel 59 = .ok (.iaload, 1) := by decide +kernel
theorem dX8_quarrel_60 : decode cX8_quarrel 60 = .ok (.aload_n 0, 1) := by decide +kernel
theorem dX8_quarrel_61 : decode cX8_quarrel 61 = .ok (.getfield 53, 3) := by decide +kernel
theorem dX8_quarrel_64 : decode cX8_quarrel 64 = .ok (.iload 4, 2) := by decide +kernel
theorem dX8_quarrel_66 : decode cX8_quarrel 66 = .ok (.iaload, 1) := by decide +kernel
theorem dX8_quarrel_67 : decode cX8_quarrel 67 = .ok (.if_icmp .ne 47, 3) := by decide +kernel
theorem dX8_quarrel_70 : decode cX8_quarrel 70 = .ok (.aload_n 0, 1) := by decide +kernel
theorem dX8_quarrel_71 : decode cX8_quarrel 71 = .ok (.getfield 53, 3) := by decide +kernel
theorem dX8_quarrel_74 : decode cX8_quarrel 74 = .ok (.iload_n 3, 1) := by decide +kernel
theorem dX8_quarrel_75 : decode cX8_quarrel 75 = .ok (.iconst 1, 1) := by decide +kernel
theorem dX8_quarrel_76 : decode cX8_quarrel 76 = .ok (.iadd, 1) := by decide +kernel
theorem dX8_quarrel_77 : decode cX8_quarrel 77 = .ok (.iaload, 1) := by decide +kernel
theorem dX8_quarrel_78 : decode cX8_quarrel 78 = .ok (.aload_n 0, 1) := by decide +kernel
theorem dX8_quarrel_79 : decode cX8_quarrel 79 = .ok (.getfield 53, 3) := by decide +kernel
theorem dX8_quarrel_82 : decode cX8_quarrel 82 = .ok (.iload 4, 2) := by decide +kernel
theorem dX8_quarrel_84 : decode cX8_quarrel 84 = .ok (.iconst 1, 1) := by decide +kernel
theorem dX8_quarrel_85 : decode cX8_quarrel 85 = .ok (.iadd, 1) := by decide +kernel
theorem dX8_quarrel_86 : decode cX8_quarrel 86 = .ok (.iaload, 1) := by decide +kernel
theorem dX8_quarrel_87 : decode cX8_quarrel 87 = .ok (.if_icmp .ne 27, 3) := by decide +kernel
theorem dX8_quarrel_90 : decode cX8_quarrel 90 = .ok (.aload_n 0, 1) := by decide +kernel
theorem dX8_quarrel_91 : decode cX8_quarrel 91 = .ok (.getfield 53, 3) := by decide +kernel
theorem dX8_quarrel_94 : decode cX8_quarrel 94 = .ok (.iload_n 3, 1) := by decide +kernel
theorem dX8_quarrel_95 : decode cX8_quarrel 95 = .ok (.iconst 3, 1) := by decide +kernel
theorem dX8_quarrel_96 : decode cX8_quarrel 96 = .ok (.iadd, 1) := by decide +kernel
theorem dX8_quarrel_97 : decode cX8_quarrel 97 = .ok (.iaload, 1) := by decide +kernel
theorem dX8_quarrel_98 : decode cX8_quarrel 98 = .ok (.aload_n 0, 1) := by decide +kernel
theorem dX8_quarrel_99 : decode cX8_quarrel 99 = .ok (.getfield 53, 3) := by decide +kernel
theorem dX8_quarrel_102 : decode cX8_quarrel 102 = .ok (.iload 4, 2) := by decide +kernel
theorem dX8_quarrel_104 : decode cX8_quarrel 104 = .ok (.iconst 3, 1) := by decide +kernel
theorem dX8_quarrel_105 : decode cX8_quarrel 105 = .ok (.iadd, 1) := by decide +kernel
theorem dX8_quarrel_106 : decode cX8_quarrel 106 = .ok (.iaload, 1) := by decide +kernel
theorem dX8_quarrel_107 : decode cX8_quarrel 107 = .ok (.if_icmp .ne 7, 3) := by decide +kernel
theorem dX8_quarrel_110 : decode cX8_quarrel 110 = .ok (.iconst 1, 1) := by decide +kernel
theorem dX8_quarrel_111 : decode cX8_quarrel 111 = .ok (.goto 4, 3) := by decide +kernel
theorem dX8_quarrel_114 : decode cX8_quarrel 114 = .ok (.iconst 0, 1) := by decide +kernel
theorem dX8_quarrel_115 : decode cX8_quarrel 115 = .ok (.istore 5, 2) := by decide +kernel
theorem dX8_quarrel_117 : decode cX8_quarrel 117 = .ok (.iload 5, 2) := by decide +kernel
theorem dX8_quarrel_119 : decode cX8_quarrel 119 = .ok (.ifCond .eq 30, 3) := by decide +kernel
theorem dX8_quarrel_122 : decode cX8_quarrel 122 = .ok (.aload_n 0, 1) := by decide +kernel
theorem dX8_quarrel_123 : decode cX8_quarrel 123 = .ok (.getfield 53, 3) := by decide +kernel
theorem dX8_quarrel_126 : decode cX8_quarrel 126 = .ok (.iload_n 3, 1) := by decide +kernel
theorem dX8_quarrel_127 : decode cX8_quarrel 127 = .ok (.iconst 2, 1) := by decide +kernel
theorem dX8_quarrel_128 : decode cX8_quarrel 128 = .ok (.iadd, 1) := by decide +kernel
theorem dX8_quarrel_129 : decode cX8_quarrel 129 = .ok (.iaload, 1) := by decide +kernel
theorem dX8_quarrel_130 : decode cX8_quarrel 130 = .ok (.aload_n 0, 1) := by decide +kernel
theorem dX8_quarrel_131 : decode cX8_quarrel 131 = .ok (.getfield 53, 3) := by decide +kernel
theorem dX8_quarrel_134 : decode cX8_quarrel 134 = .ok (.iload 4, 2) := by decide +kernel
theorem dX8_quarrel_136 : decode cX8_quarrel 136 = .ok (.iconst 2, 1) := by decide +kernel
theorem dX8_quarrel_137 : decode cX8_quarrel 137 = .ok (.iadd, 1) := by decide +kernel
theorem dX8_quarrel_138 : decode cX8_quarrel 138 = .ok (.iaload, 1) := by decide +kernel
theorem dX8_quarrel_139 : decode cX8_quarrel 139 = .ok (.if_icmp .eq 10, 3) := by decide +kernel
theorem dX8_quarrel_142 : decode cX8_quarrel 142 = .ok (.bipush 100, 2) := by decide +kernel
theorem dX8_quarrel_144 : decode cX8_quarrel 144 = .ok (.iload_n 1, 1) := by decide +kernel
theorem dX8_quarrel_145 : decode cX8_quarrel 145 = .ok (.imul, 1) := by decide +kernel
theorem dX8_quarrel_146 : decode cX8_quarrel 146 = .ok (.iload_n 2, 1) := by decide +kernel
theorem dX8_quarrel_147 : decode cX8_quarrel 147 = .ok (.iadd, 1) := by decide +kernel
theorem dX8_quarrel_148 : decode cX8_quarrel 148 = .ok (.ireturn, 1) := by decide +kernel
theorem dX8_quarrel_149 : decode cX8_quarrel 149 = .ok (.iinc 2 1, 3) := by decide +kernel
theorem dX8_quarrel_152 : decode cX8_quarrel 152 = .ok (.goto (-136), 3) := by decide +kernel
theorem dX8_quarrel_155 : decode cX8_quarrel 155 = .ok (.iinc 1 1, 3) := by decide +kernel
theorem dX8_quarrel_158 : decode cX8_quarrel 158 = .ok (.goto (-156), 3) := by decide +kernel
theorem dX8_quarrel_161 : decode cX8_quarrel 161 = .ok (.bipush (-4), 2) := by decide +kernel
theorem dX8_quarrel_163 : decode cX8_quarrel 163 = .ok (.ireturn, 1) := by decide +kernel
theorem dX8_closet_0 : decode cX8_closet 0 = .ok (.iload_n 1, 1) := by decide +kernel
theorem dX8_closet_1 : decode cX8_closet 1 = .ok (.invokestatic 87, 3) := by decide +kernel
theorem dX8_closet_4 : decode cX8_closet 4 = .ok (.ifCond .ne 5, 3) := by decide +kernel
theorem dX8_closet_7 : decode cX8_closet 7 = .ok (.iconst (-1), 1) := by decide +kernel
theorem dX8_closet_8 : decode cX8_closet 8 = .ok (.ireturn, 1) := by decide +kernel
theorem dX8_closet_9 : decode cX8_closet 9 = .ok (.aload_n 0, 1) := by decide +kernel
theorem dX8_closet_10 : decode cX8_closet 10 = .ok (.getfield 205, 3) := by decide +kernel
theorem dX8_closet_13 : decode cX8_closet 13 = .ok (.istore_n 2, 1) := by decide +kernel
theorem dX8_closet_14 : decode cX8_closet 14 = .ok (.aload_n 0, 1) := by decide +kernel
theorem dX8_closet_15 : decode cX8_closet 15 = .ok (.iload_n 1, 1) := by decide +kernel
theorem dX8_closet_16 : decode cX8_closet 16 = .ok (.putfield 205, 3) := by decide +kernel
theorem dX8_closet_19 : decode cX8_closet 19 = .ok (.iload_n 2, 1) := by decide +kernel
theorem dX8_closet_20 : decode cX8_closet 20 = .ok (.ireturn, 1) := by decide +kernel
theorem dX8_cameOf_0 : decode cX8_cameOf 0 = .ok (.aload_n 0, 1) := by decide +kernel
theorem dX8_cameOf_1 : decode cX8_cameOf 1 = .ok (.getfield 34, 3) := by decide +kernel
theorem dX8_cameOf_4 : decode cX8_cameOf 4 = .ok (.bipush 6, 2) := by decide +kernel
theorem dX8_cameOf_6 : decode cX8_cameOf 6 = .ok (.iload_n 1, 1) := by decide +kernel
theorem dX8_cameOf_7 : decode cX8_cameOf 7 = .ok (.imul, 1) := by decide +kernel
theorem dX8_cameOf_8 : decode cX8_cameOf 8 = .ok (.iaload, 1) := by decide +kernel
theorem dX8_cameOf_9 : decode cX8_cameOf 9 = .ok (.istore_n 2, 1) := by decide +kernel
theorem dX8_cameOf_10 : decode cX8_cameOf 10 = .ok (.aload_n 0, 1) := by decide +kernel
theorem dX8_cameOf_11 : decode cX8_cameOf 11 = .ok (.getfield 16, 3) := by decide +kernel
theorem dX8_cameOf_14 : decode cX8_cameOf 14 = .ok (.bipush 6, 2) := by decide +kernel
theorem dX8_cameOf_16 : decode cX8_cameOf 16 = .ok (.aload_n 0, 1) := by decide +kernel
theorem dX8_cameOf_17 : decode cX8_cameOf 17 = .ok (.getfield 22, 3) := by decide +kernel
theorem dX8_cameOf_20 : decode cX8_cameOf 20 = .ok (.iconst 3, 1) := by decide +kernel
theorem dX8_cameOf_21 : decode cX8_cameOf 21 = .ok (.iload_n 2, 1) := by decide +kernel
theorem dX8_cameOf_22 : decode cX8_cameOf 22 = .ok (.imul, 1) := by decide +kernel
theorem dX8_cameOf_23 : decode cX8_cameOf 23 = .ok (.iaload, 1) := by decide +kernel
theorem dX8_cameOf_24 : decode cX8_cameOf 24 = .ok (.imul, 1) := by decide +kernel
theorem dX8_cameOf_25 : decode cX8_cameOf 25 = .ok (.aload_n 0, 1) := by decide +kernel
theorem dX8_cameOf_26 : decode cX8_cameOf 26 = .ok (.getfield 205, 3) := by decide +kernel
theorem dX8_cameOf_29 : decode cX8_cameOf 29 = .ok (.iadd, 1) := by decide +kernel
theorem dX8_cameOf_30 : decode cX8_cameOf 30 = .ok (.iaload, 1) := by decide +kernel
theorem dX8_cameOf_31 : decode cX8_cameOf 31 = .ok (.istore_n 3, 1) := by decide +kernel
theorem dX8_cameOf_32 : decode cX8_cameOf 32 = .ok (.iload_n 3, 1) := by decide +kernel
theorem dX8_cameOf_33 : decode cX8_cameOf 33 = .ok (.ifCond .ge 8, 3) := by decide +kernel
theorem dX8_cameOf_36 : decode cX8_cameOf 36 = .ok (.bipush (-4), 2) := by decide +kernel
theorem dX8_cameOf_38 : decode cX8_cameOf 38 = .ok (.goto 11, 3) := by decide +kernel
theorem dX8_cameOf_41 : decode cX8_cameOf 41 = .ok (.aload_n 0, 1) := by decide +kernel
theorem dX8_cameOf_42 : decode cX8_cameOf 42 = .ok (.getfield 62, 3) := by decide +kernel
theorem dX8_cameOf_45 : decode cX8_cameOf 45 = .ok (.iload_n 2, 1) := by decide +kernel
theorem dX8_cameOf_46 : decode cX8_cameOf 46 = .ok (.iaload, 1) := by decide +kernel
theorem dX8_cameOf_47 : decode cX8_cameOf 47 = .ok (.iload_n 3, 1) := by decide +kernel
theorem dX8_cameOf_48 : decode cX8_cameOf 48 = .ok (.iadd, 1) := by decide +kernel
theorem dX8_cameOf_49 : decode cX8_cameOf 49 = .ok (.ireturn, 1) := by decide +kernel
theorem dX8_came_0 : decode cX8_came 0 = .ok (.aload_n 0, 1) := by decide +kernel
theorem dX8_came_1 : decode cX8_came 1 = .ok (.iload_n 1, 1) := by decide +kernel
theorem dX8_came_2 : decode cX8_came 2 = .ok (.invokevirtual 133, 3) := by decide +kernel
theorem dX8_came_5 : decode cX8_came 5 = .ok (.ifCond .ne 5, 3) := by decide +kernel
theorem dX8_came_8 : decode cX8_came 8 = .ok (.iconst (-1), 1) := by decide +kernel
theorem dX8_came_9 : decode cX8_came 9 = .ok (.ireturn, 1) := by decide +kernel
theorem dX8_came_10 : decode cX8_came 10 = .ok (.aload_n 0, 1) := by decide +kernel
theorem dX8_came_11 : decode cX8_came 11 = .ok (.invokevirtual 126, 3) := by decide +kernel
theorem dX8_came_14 : decode cX8_came 14 = .ok (.ifCond .eq 11, 3) := by decide +kernel
theorem dX8_came_17 : decode cX8_came 17 = .ok (.aload_n 0, 1) := by decide +kernel
theorem dX8_came_18 : decode cX8_came 18 = .ok (.iload_n 1, 1) := by decide +kernel
theorem dX8_came_19 : decode cX8_came 19 = .ok (.invokevirtual 208, 3) := by decide +kernel
theorem dX8_came_22 : decode cX8_came 22 = .ok (.goto 5, 3) := by decide +kernel
theorem dX8_came_25 : decode cX8_came 25 = .ok (.bipush (-2), 2) := by decide +kernel
theorem dX8_came_27 : decode cX8_came 27 = .ok (.ireturn, 1) := by decide +kernel
theorem dX8_isHeard_0 : decode cX8_isHeard 0 = .ok (.aload_n 0, 1) := by decide +kernel
theorem dX8_isHeard_1 : decode cX8_isHeard 1 = .ok (.iconst 2, 1) := by decide +kernel
theorem dX8_isHeard_2 : decode cX8_isHeard 2 = .ok (.iconst 0, 1) := by decide +kernel
theorem dX8_isHeard_3 : decode cX8_isHeard 3 = .ok (.iload_n 2, 1) := by decide +kernel
theorem dX8_isHeard_4 : decode cX8_isHeard 4 = .ok (.invokevirtual 202, 3) := by decide +kernel
theorem dX8_isHeard_7 : decode cX8_isHeard 7 = .ok (.istore_n 3, 1) := by decide +kernel
theorem dX8_isHeard_8 : decode cX8_isHeard 8 = .ok (.iconst 0, 1) := by decide +kernel
theorem dX8_isHeard_9 : decode cX8_isHeard 9 = .ok (.istore 4, 2) := by decide +kernel
theorem dX8_isHeard_11 : decode cX8_isHeard 11 = .ok (.iconst 0, 1) := by decide +kernel
theorem dX8_isHeard_12 : decode cX8_isHeard 12 = .ok (.istore 5, 2) := by decide +kernel
theorem dX8_isHeard_14 : decode cX8_isHeard 14 = .ok (.iload 5, 2) := by decide +kernel
theorem dX8_isHeard_16 : decode cX8_isHeard 16 = .ok (.aload_n 0, 1) := by decide +kernel
theorem dX8_isHeard_17 : decode cX8_isHeard 17 = .ok (.getfield 31, 3) := by decide +kernel
theorem dX8_isHeard_20 : decode cX8_isHeard 20 = .ok (.iconst 0, 1) := by decide +kernel
theorem dX8_isHeard_21 : decode cX8_isHeard 21 = .ok (.iaload, 1) := by decide +kernel
theorem dX8_isHeard_22 : decode cX8_isHeard 22 = .ok (.if_icmp .ge 71, 3) := by decide +kernel
theorem dX8_isHeard_25 : decode cX8_isHeard 25 = .ok (.aload_n 0, 1) := by decide +kernel
theorem dX8_isHeard_26 : decode cX8_isHeard 26 = .ok (.iload 5, 2) := by decide +kernel
theorem dX8_isHeard_28 : decode cX8_isHeard 28 = .ok (.invokevirtual 208, 3) := by decide +kernel
theorem dX8_isHeard_31 : decode cX8_isHeard 31 = .ok (.istore 6, 2) := by decide +kernel
theorem dX8_isHeard_33 : decode cX8_isHeard 33 = .ok (.iload 4, 2) := by decide +kernel
theorem dX8_isHeard_35 : decode cX8_isHeard 35 = .ok (.ifCond .ne 45, 3) := by decide +kernel
theorem dX8_isHeard_38 : decode cX8_isHeard 38 = .ok (.aload_n 0, 1) := by decide +kernel
theorem dX8_isHeard_39 : decode cX8_isHeard 39 = .ok (.iload 5, 2) := by decide +kernel
theorem dX8_isHeard_41 : decode cX8_isHeard 41 = .ok (.invokevirtual 149, 3) := by decide +kernel
theorem dX8_isHeard_44 : decode cX8_isHeard 44 = .ok (.iload_n 1, 1) := by decide +kernel
theorem dX8_isHeard_45 : decode cX8_isHeard 45 = .ok (.if_icmp .ne 39, 3) := by decide +kernel
theorem dX8_isHeard_48 : decode cX8_isHeard 48 = .ok (.iload 6, 2) := by decide +kernel
theorem dX8_isHeard_50 : decode cX8_isHeard 50 = .ok (.ifCond .lt 34, 3) := by decide +kernel
theorem dX8_isHeard_53 : decode cX8_isHeard 53 = .ok (.iload 6, 2) := by decide +kernel
theorem dX8_isHeard_55 : decode cX8_isHeard 55 = .ok (.iload_n 2, 1) := by decide +kernel
theorem dX8_isHeard_56 : decode cX8_isHeard 56 = .ok (.if_icmp .gt 28, 3) := by decide +kernel
theorem dX8_isHeard_59 : decode cX8_isHeard 59 = .ok (.iload_n 2, 1) := by decide +kernel
theorem dX8_isHeard_60 : decode cX8_isHeard 60 = .ok (.aload_n 0, 1) := by decide +kernel
theorem dX8_isHeard_61 : decode cX8_isHeard 61 = .ok (.getfield 62, 3) := by decide +kernel
theorem dX8_isHeard_64 : decode cX8_isHeard 64 = .ok (.aload_n 0, 1) := by decide +kernel
theorem dX8_isHeard_65 : decode cX8_isHeard 65 = .ok (.getfield 34, 3) := by decide +kernel
theorem dX8_isHeard_68 : decode cX8_isHeard 68 = .ok (.bipush 6, 2) := by decide +kernel
theorem dX8_isHeard_70 : decode cX8_isHeard 70 = .ok (.iload 5, 2) := by decide +kernel
theorem dX8_isHeard_72 : decode cX8_isHeard 72 = .ok (.imul, 1) := by decide +kernel
theorem dX8_isHeard_73 : decode cX8_isHeard 73 = .ok (.iaload, 1) := by decide +kernel
theorem dX8_isHeard_74 : decode cX8_isHeard 74 = .ok (.iaload, 1) := by decide +kernel
theorem dX8_isHeard_75 : decode cX8_isHeard 75 = .ok (.isub, 1) := by decide +kernel
theorem dX8_isHeard_76 : decode cX8_isHeard 76 = .ok (.iload_n 3, 1) := by decide +kernel
theorem dX8_isHeard_77 : decode cX8_isHeard 77 = .ok (.if_icmp .gt 7, 3) := by decide +kernel
theorem dX8_isHeard_80 : decode cX8_isHeard 80 = .ok (.iconst 1, 1) := by decide +kernel
theorem dX8_isHeard_81 : decode cX8_isHeard 81 = .ok (.goto 4, 3) := by decide +kernel
theorem dX8_isHeard_84 : decode cX8_isHeard 84 = .ok (.iconst 0, 1) := by decide +kernel
theorem dX8_isHeard_85 : decode cX8_isHeard 85 = .ok (.istore 4, 2) := by decide +kernel
theorem dX8_isHeard_87 : decode cX8_isHeard 87 = .ok (.iinc 5 1, 3) := by decide +kernel
theorem dX8_isHeard_90 : decode cX8_isHeard 90 = .ok (.goto (-76), 3) := by decide +kernel
theorem dX8_isHeard_93 : decode cX8_isHeard 93 = .ok (.iload 4, 2) := by decide +kernel
theorem dX8_isHeard_95 : decode cX8_isHeard 95 = .ok (.ireturn, 1) := by decide +kernel
theorem dX8_belief_0 : decode cX8_belief 0 = .ok (.iload_n 1, 1) := by decide +kernel
theorem dX8_belief_1 : decode cX8_belief 1 = .ok (.invokestatic 104, 3) := by decide +kernel
theorem dX8_belief_4 : decode cX8_belief 4 = .ok (.ifCond .eq 20, 3) := by decide +kernel
theorem dX8_belief_7 : decode cX8_belief 7 = .ok (.iload_n 2, 1) := by decide +kernel
theorem dX8_belief_8 : decode cX8_belief 8 = .ok (.invokestatic 107, 3) := by decide +kernel
theorem dX8_belief_11 : decode cX8_belief 11 = .ok (.ifCond .eq 13, 3) := by decide +kernel
theorem dX8_belief_14 : decode cX8_belief 14 = .ok (.iload_n 3, 1) := by decide +kernel
theorem dX8_belief_15 : decode cX8_belief 15 = .ok (.i2l, 1) := by decide +kernel
theorem dX8_belief_16 : decode cX8_belief 16 = .ok (.lconst 0, 1) := by decide +kernel
theorem dX8_belief_17 : decode cX8_belief 17 = .ok (.lconst 1, 1) := by decide +kernel
theorem dX8_belief_18 : decode cX8_belief 18 = .ok (.invokestatic 79, 3) := by decide +kernel
theorem dX8_belief_21 : decode cX8_belief 21 = .ok (.ifCond .ne 6, 3) := by decide +kernel
theorem dX8_belief_24 : decode cX8_belief 24 = .ok (.ldc 158, 2) := by decide +kernel
theorem dX8_belief_26 : decode cX8_belief 26 = .ok (.ireturn, 1) := by decide +kernel
theorem dX8_belief_27 : decode cX8_belief 27 = .ok (.aload_n 0, 1) := by decide +kernel
theorem dX8_belief_28 : decode cX8_belief 28 = .ok (.invokevirtual 144, 3) := by decide +kernel
theorem dX8_belief_31 : decode cX8_belief 31 = .ok (.ifCond .ne 6, 3) := by decide +kernel
theorem dX8_belief_34 : decode cX8_belief 34 = .ok (.ldc 159, 2) := by decide +kernel
theorem dX8_belief_36 : decode cX8_belief 36 = .ok (.ireturn, 1) := by decide +kernel
theorem dX8_belief_37 : decode cX8_belief 37 = .ok (.iconst 0, 1) := by decide +kernel
theorem dX8_belief_38 : decode cX8_belief 38 = .ok (.istore 4, 2) := by decide +kernel
theorem dX8_belief_40 : decode cX8_belief 40 = .ok (.iconst 0, 1) := by decide +kernel
theorem dX8_belief_41 : decode cX8_belief 41 = .ok (.istore 5, 2) := by decide +kernel
theorem dX8_belief_43 : decode cX8_belief 43 = .ok (.iload 5, 2) := by decide +kernel
theorem dX8_belief_45 : decode cX8_belief 45 = .ok (.aload_n 0, 1) := by decide +kernel
theorem dX8_belief_46 : decode cX8_belief 46 = .ok (.getfield 31, 3) := by decide +kernel
theorem dX8_belief_49 : decode cX8_belief 49 = .ok (.iconst 0, 1) := by decide +kernel
theorem dX8_belief_50 : decode cX8_belief 50 = .ok (.iaload, 1) := by decide +kernel
theorem dX8_belief_51 : decode cX8_belief 51 = .ok (.if_icmp .ge 120, 3) := by decide +kernel
theorem dX8_belief_54 : decode cX8_belief 54 = .ok (.aload_n 0, 1) := by decide +kernel
theorem dX8_belief_55 : decode cX8_belief 55 = .ok (.getfield 68, 3) := by decide +kernel
theorem dX8_belief_58 : decode cX8_belief 58 = .ok (.iload 5, 2) := by decide +kernel
theorem dX8_belief_60 : decode cX8_belief 60 = .ok (.iaload, 1) := by decide +kernel
theorem dX8_belief_61 : decode cX8_belief 61 = .ok (.ifCond .ge 104, 3) := by decide +kernel
theorem dX8_belief_64 : decode cX8_belief 64 = .ok (.aload_n 0, 1) := by decide +kernel
theorem dX8_belief_65 : decode cX8_belief 65 = .ok (.getfield 34, 3) := by decide +kernel
theorem dX8_belief_68 : decode cX8_belief 68 = .ok (.bipush 6, 2) := by decide +kernel
theorem dX8_belief_70 : decode cX8_belief 70 = .ok (.iload 5, 2) := by decide +kernel
theorem dX8_belief_72 : decode cX8_belief 72 = .ok (.imul, 1) := by decide +kernel
theorem dX8_belief_73 : decode cX8_belief 73 = .ok (.iconst 1, 1) := by decide +kernel
theorem dX8_belief_74 : decode cX8_belief 74 = .ok (.iadd, 1) := by decide +kernel
theorem dX8_belief_75 : decode cX8_belief 75 = .ok (.iaload, 1) := by decide +kernel
theorem dX8_belief_76 : decode cX8_belief 76 = .ok (.iload_n 1, 1) := by decide +kernel
theorem dX8_belief_77 : decode cX8_belief 77 = .ok (.if_icmp .ne 88, 3) := by decide +kernel
theorem dX8_belief_80 : decode cX8_belief 80 = .ok (.aload_n 0, 1) := by decide +kernel
theorem dX8_belief_81 : decode cX8_belief 81 = .ok (.iload 5, 2) := by decide +kernel
theorem dX8_belief_83 : decode cX8_belief 83 = .ok (.iload_n 2, 1) := by decide +kernel
theorem dX8_belief_84 : decode cX8_belief 84 = .ok (.invokevirtual 211, 3) := by decide +kernel
theorem dX8_belief_87 : decode cX8_belief 87 = .ok (.ifCond .eq 78, 3) := by decide +kernel
theorem dX8_belief_90 : decode cX8_belief 90 = .ok (.aload_n 0, 1) := by decide +kernel
theorem dX8_belief_91 : decode cX8_belief 91 = .ok (.iconst 0, 1) := by decide +kernel
theorem dX8_belief_92 : decode cX8_belief 92 = .ok (.aload_n 0, 1) := by decide +kernel
theorem dX8_belief_93 : decode cX8_belief 93 = .ok (.getfield 22, 3) := by decide +kernel
theorem dX8_belief_96 : decode cX8_belief 96 = .ok (.iconst 3, 1) := by decide +kernel
theorem dX8_belief_97 : decode cX8_belief 97 = .ok (.aload_n 0, 1) := by decide +kernel
theorem dX8_belief_98 : decode cX8_belief 98 = .ok (.getfield 34, 3) := by decide +kernel
theorem dX8_belief_101 : decode cX8_belief 101 = .ok (.bipush 6, 2) := by decide +kernel
theorem dX8_belief_103 : decode cX8_belief 103 = .ok (.iload 5, 2) := by decide +kernel
theorem dX8_belief_105 : decode cX8_belief 105 = .ok (.imul, 1) := by decide +kernel
theorem dX8_belief_106 : decode cX8_belief 106 = .ok (.iaload, 1) := by decide +kernel
theorem dX8_belief_107 : decode cX8_belief 107 = .ok (.imul, 1) := by decide +kernel
theorem dX8_belief_108 : decode cX8_belief 108 = .ok (.iaload, 1) := by decide +kernel
theorem dX8_belief_109 : decode cX8_belief 109 = .ok (.iload_n 2, 1) := by decide +kernel
theorem dX8_belief_110 : decode cX8_belief 110 = .ok (.invokevirtual 202, 3) := by decide +kernel
theorem dX8_belief_113 : decode cX8_belief 113 = .ok (.aload_n 0, 1) := by decide +kernel
theorem dX8_belief_114 : decode cX8_belief 114 = .ok (.iconst 1, 1) := by decide +kernel
theorem dX8_belief_115 : decode cX8_belief 115 = .ok (.aload_n 0, 1) := by decide +kernel
theorem dX8_belief_116 : decode cX8_belief 116 = .ok (.iload 5, 2) := by decide +kernel
theorem dX8_belief_118 : decode cX8_belief 118 = .ok (.invokevirtual 160, 3) := by decide +kernel
theorem dX8_belief_121 : decode cX8_belief 121 = .ok (.iload_n 2, 1) := by decide +kernel
theorem dX8_belief_122 : decode cX8_belief 122 = .ok (.invokevirtual 202, 3) := by decide +kernel
theorem dX8_belief_125 : decode cX8_belief 125 = .ok (.iadd, 1) := by decide +kernel
theorem dX8_belief_126 : decode cX8_belief 126 = .ok (.istore 6, 2) := by decide +kernel
theorem dX8_belief_128 : decode cX8_belief 128 = .ok (.iload 4, 2) := by decide +kernel
theorem dX8_belief_130 : decode cX8_belief 130 = .ok (.aload_n 0, 1) := by decide +kernel
theorem dX8_belief_131 : decode cX8_belief 131 = .ok (.getfield 34, 3) := by decide +kernel
theorem dX8_belief_134 : decode cX8_belief 134 = .ok (.bipush 6, 2) := by decide +kernel
theorem dX8_belief_136 : decode cX8_belief 136 = .ok (.iload 5, 2) := by decide +kernel
theorem dX8_belief_138 : decode cX8_belief 138 = .ok (.imul, 1) := by decide +kernel
theorem dX8_belief_139 : decode cX8_belief 139 = .ok (.iconst 5, 1) := by decide +kernel
theorem dX8_belief_140 : decode cX8_belief 140 = .ok (.iadd, 1) := by decide +kernel
theorem dX8_belief_141 : decode cX8_belief 141 = .ok (.iaload, 1) := by decide +kernel
theorem dX8_belief_142 : decode cX8_belief 142 = .ok (.iconst 1, 1) := by decide +kernel
theorem dX8_belief_143 : decode cX8_belief 143 = .ok (.if_icmp .ne 17, 3) := by decide +kernel
theorem dX8_belief_146 : decode cX8_belief 146 = .ok (.iload 6, 2) := by decide +kernel
theorem dX8_belief_148 : decode cX8_belief 148 = .ok (.ineg, 1) := by decide +kernel
theorem dX8_belief_149 : decode cX8_belief 149 = .ok (.aload_n 0, 1) := by decide +kernel
theorem dX8_belief_150 : decode cX8_belief 150 = .ok (.iconst 4, 1) := by decide +kernel
theorem dX8_belief_151 : decode cX8_belief 151 = .ok (.iconst 0, 1) := by decide +kernel
theorem dX8_belief_152 : decode cX8_belief 152 = .ok (.iload_n 2, 1) := by decide +kernel
theorem dX8_belief_153 : decode cX8_belief 153 = .ok (.invokevirtual 202, 3) := by decide +kernel
theorem dX8_belief_156 : decode cX8_belief 156 = .ok (.imul, 1) := by decide +kernel
theorem dX8_belief_157 : decode cX8_belief 157 = .ok (.goto 5, 3) := by decide +kernel
theorem dX8_belief_160 : decode cX8_belief 160 = .ok (.iload 6, 2) := by decide +kernel
theorem dX8_belief_162 : decode cX8_belief 162 = .ok (.iadd, 1) := by decide +kernel
theorem dX8_belief_163 : decode cX8_belief 163 = .ok (.istore 4, 2) := by decide +kernel
theorem dX8_belief_165 : decode cX8_belief 165 = .ok (.iinc 5 1, 3) := by decide +kernel
theorem dX8_belief_168 : decode cX8_belief 168 = .ok (.goto (-125), 3) := by decide +kernel
theorem dX8_belief_171 : decode cX8_belief 171 = .ok (.iload_n 3, 1) := by decide +kernel
theorem dX8_belief_172 : decode cX8_belief 172 = .ok (.ifCond .ne 8, 3) := by decide +kernel
theorem dX8_belief_175 : decode cX8_belief 175 = .ok (.iload 4, 2) := by decide +kernel
theorem dX8_belief_177 : decode cX8_belief 177 = .ok (.goto 20, 3) := by decide +kernel
theorem dX8_belief_180 : decode cX8_belief 180 = .ok (.iload 4, 2) := by decide +kernel
theorem dX8_belief_182 : decode cX8_belief 182 = .ok (.aload_n 0, 1) := by decide +kernel
theorem dX8_belief_183 : decode cX8_belief 183 = .ok (.iconst 3, 1) := by decide +kernel
theorem dX8_belief_184 : decode cX8_belief 184 = .ok (.iconst 0, 1) := by decide +kernel
theorem dX8_belief_185 : decode cX8_belief 185 = .ok (.iload_n 2, 1) := by decide +kernel
theorem dX8_belief_186 : decode cX8_belief 186 = .ok (.invokevirtual 202, 3) := by decide +kernel
theorem dX8_belief_189 : decode cX8_belief 189 = .ok (.if_icmp .lt 7, 3) := by decide +kernel
theorem dX8_belief_192 : decode cX8_belief 192 = .ok (.iconst 1, 1) := by decide +kernel
theorem dX8_belief_193 : decode cX8_belief 193 = .ok (.goto 4, 3) := by decide +kernel
theorem dX8_belief_196 : decode cX8_belief 196 = .ok (.iconst 0, 1) := by decide +kernel
theorem dX8_belief_197 : decode cX8_belief 197 = .ok (.ireturn, 1) := by decide +kernel
theorem dX8_isBanned_0 : decode cX8_isBanned 0 = .ok (.aload_n 0, 1) := by decide +kernel
theorem dX8_isBanned_1 : decode cX8_isBanned 1 = .ok (.getfield 34, 3) := by decide +kernel
theorem dX8_isBanned_4 : decode cX8_isBanned 4 = .ok (.bipush 6, 2) := by decide +kernel
theorem dX8_isBanned_6 : decode cX8_isBanned 6 = .ok (.iload_n 1, 1) := by decide +kernel
theorem dX8_isBanned_7 : decode cX8_isBanned 7 = .ok (.imul, 1) := by decide +kernel
theorem dX8_isBanned_8 : decode cX8_isBanned 8 = .ok (.iaload, 1) := by decide +kernel
theorem dX8_isBanned_9 : decode cX8_isBanned 9 = .ok (.istore_n 2, 1) := by decide +kernel
theorem dX8_isBanned_10 : decode cX8_isBanned 10 = .ok (.iconst 0, 1) := by decide +kernel
theorem dX8_isBanned_11 : decode cX8_isBanned 11 = .ok (.istore_n 3, 1) := by decide +kernel
theorem dX8_isBanned_12 : decode cX8_isBanned 12 = .ok (.iconst 0, 1) := by decide +kernel
theorem dX8_isBanned_13 : decode cX8_isBanned 13 = .ok (.istore 4, 2) := by decide +kernel
theorem dX8_isBanned_15 : decode cX8_isBanned 15 = .ok (.iload 4, 2) := by decide +kernel
theorem dX8_isBanned_17 : decode cX8_isBanned 17 = .ok (.aload_n 0, 1) := by decide +kernel
theorem dX8_isBanned_18 : decode cX8_isBanned 18 = .ok (.getfield 50, 3) := by decide +kernel
theorem dX8_isBanned_21 : decode cX8_isBanned 21 = .ok (.iconst 1, 1) := by decide +kernel
theorem dX8_isBanned_22 : decode cX8_isBanned 22 = .ok (.iaload, 1) := by decide +kernel
theorem dX8_isBanned_23 : decode cX8_isBanned 23 = .ok (.if_icmp .ge 132, 3) := by decide +kernel
theorem dX8_isBanned_26 : decode cX8_isBanned 26 = .ok (.sipush 200, 3) := by decide +kernel
theorem dX8_isBanned_29 : decode cX8_isBanned 29 = .ok (.iconst 5, 1) := by decide +kernel
theorem dX8_isBanned_30 : decode cX8_isBanned 30 = .ok (.iload 4, 2) := by decide +kernel
theorem dX8_isBanned_32 : decode cX8_isBanned 32 = .ok (.imul, 1) := by decide +kernel
theorem dX8_isBanned_33 : decode cX8_isBanned 33 = .ok (.iadd, 1) := by decide +kernel
theorem dX8_isBanned_34 : decode cX8_isBanned 34 = .ok (.istore 5, 2) := by decide +kernel
theorem dX8_isBanned_36 : decode cX8_isBanned 36 = .ok (.aload_n 0, 1) := by decide +kernel
theorem dX8_isBanned_37 : decode cX8_isBanned 37 = .ok (.getfield 53, 3) := by decide +kernel
theorem dX8_isBanned_40 : decode cX8_isBanned 40 = .ok (.iload 5, 2) := by decide +kernel
theorem dX8_isBanned_42 : decode cX8_isBanned 42 = .ok (.iaload, 1) := by decide +kernel
theorem dX8_isBanned_43 : decode cX8_isBanned 43 = .ok (.bipush 110, 2) := by decide +kernel
theorem dX8_isBanned_45 : decode cX8_isBanned 45 = .ok (.if_icmp .ne 50, 3) := by decide +kernel
theorem dX8_isBanned_48 : decode cX8_isBanned 48 = .ok (.aload_n 0, 1) := by decide +kernel
theorem dX8_isBanned_49 : decode cX8_isBanned 49 = .ok (.getfield 53, 3) := by decide +kernel
theorem dX8_isBanned_52 : decode cX8_isBanned 52 = .ok (.iload 5, 2) := by decide +kernel
theorem dX8_isBanned_54 : decode cX8_isBanned 54 = .ok (.iconst 1, 1) := by decide +kernel
theorem dX8_isBanned_55 : decode cX8_isBanned 55 = .ok (.iadd, 1) := by decide +kernel
theorem dX8_isBanned_56 : decode cX8_isBanned 56 = .ok (.iaload, 1) := by decide +kernel
theorem dX8_isBanned_57 : decode cX8_isBanned 57 = .ok (.aload_n 0, 1) := by decide +kernel
theorem dX8_isBanned_58 : decode cX8_isBanned 58 = .ok (.getfield 22, 3) := by decide +kernel
theorem dX8_isBanned_61 : decode cX8_isBanned 61 = .ok (.iconst 3, 1) := by decide +kernel
theorem dX8_isBanned_62 : decode cX8_isBanned 62 = .ok (.iload_n 2, 1) := by decide +kernel
theorem dX8_isBanned_63 : decode cX8_isBanned 63 = .ok (.imul, 1) := by decide +kernel
theorem dX8_isBanned_64 : decode cX8_isBanned 64 = .ok (.iaload, 1) := by decide +kernel
theorem dX8_isBanned_65 : decode cX8_isBanned 65 = .ok (.if_icmp .ne 30, 3) := by decide +kernel
theorem dX8_isBanned_68 : decode cX8_isBanned 68 = .ok (.aload_n 0, 1) := by decide +kernel
theorem dX8_isBanned_69 : decode cX8_isBanned 69 = .ok (.getfield 53, 3) := by decide +kernel
theorem dX8_isBanned_72 : decode cX8_isBanned 72 = .ok (.iload 5, 2) := by decide +kernel
theorem dX8_isBanned_74 : decode cX8_isBanned 74 = .ok (.iconst 2, 1) := by decide +kernel
theorem dX8_isBanned_75 : decode cX8_isBanned 75 = .ok (.iadd, 1) := by decide +kernel
theorem dX8_isBanned_76 : decode cX8_isBanned 76 = .ok (.iaload, 1) := by decide +kernel
theorem dX8_isBanned_77 : decode cX8_isBanned 77 = .ok (.aload_n 0, 1) := by decide +kernel
theorem dX8_isBanned_78 : decode cX8_isBanned 78 = .ok (.getfield 34, 3) := by decide +kernel
theorem dX8_isBanned_81 : decode cX8_isBanned 81 = .ok (.bipush 6, 2) := by decide +kernel
theorem dX8_isBanned_83 : decode cX8_isBanned 83 = .ok (.iload_n 1, 1) := by decide +kernel
theorem dX8_isBanned_84 : decode cX8_isBanned 84 = .ok (.imul, 1) := by decide +kernel
theorem dX8_isBanned_85 : decode cX8_isBanned 85 = .ok (.iconst 1, 1) := by decide +kernel
theorem dX8_isBanned_86 : decode cX8_isBanned 86 = .ok (.iadd, 1) := by decide +kernel
theorem dX8_isBanned_87 : decode cX8_isBanned 87 = .ok (.iaload, 1) := by decide +kernel
theorem dX8_isBanned_88 : decode cX8_isBanned 88 = .ok (.if_icmp .ne 7, 3) := by decide +kernel
theorem dX8_isBanned_91 : decode cX8_isBanned 91 = .ok (.iconst 1, 1) := by decide +kernel
theorem dX8_isBanned_92 : decode cX8_isBanned 92 = .ok (.goto 4, 3) := by decide +kernel
theorem dX8_isBanned_95 : decode cX8_isBanned 95 = .ok (.iconst 0, 1) := by decide +kernel
theorem dX8_isBanned_96 : decode cX8_isBanned 96 = .ok (.istore 6, 2) := by decide +kernel
theorem dX8_isBanned_98 : decode cX8_isBanned 98 = .ok (.iload_n 3, 1) := by decide +kernel
theorem dX8_isBanned_99 : decode cX8_isBanned 99 = .ok (.ifCond .ne 44, 3) := by decide +kernel
theorem dX8_isBanned_102 : decode cX8_isBanned 102 = .ok (.iload 6, 2) := by decide +kernel
theorem dX8_isBanned_104 : decode cX8_isBanned 104 = .ok (.ifCond .eq 43, 3) := by decide +kernel
theorem dX8_isBanned_107 : decode cX8_isBanned 107 = .ok (.aload_n 0, 1) := by decide +kernel
theorem dX8_isBanned_108 : decode cX8_isBanned 108 = .ok (.getfield 53, 3) := by decide +kernel
theorem dX8_isBanned_111 : decode cX8_isBanned 111 = .ok (.iload 5, 2) := by decide +kernel
theorem dX8_isBanned_113 : decode cX8_isBanned 113 = .ok (.iconst 3, 1) := by decide +kernel
theorem dX8_isBanned_114 : decode cX8_isBanned 114 = .ok (.iadd, 1) := by decide +kernel
theorem dX8_isBanned_115 : decode cX8_isBanned 115 = .ok (.iaload, 1) := by decide +kernel
theorem dX8_isBanned_116 : decode cX8_isBanned 116 = .ok (.aload_n 0, 1) := by decide +kernel
theorem dX8_isBanned_117 : decode cX8_isBanned 117 = .ok (.getfield 65, 3) := by decide +kernel
theorem dX8_isBanned_120 : decode cX8_isBanned 120 = .ok (.iload_n 2, 1) := by decide +kernel
theorem dX8_isBanned_121 : decode cX8_isBanned 121 = .ok (.iaload, 1) := by decide +kernel
theorem dX8_isBanned_122 : decode cX8_isBanned 122 = .ok (.if_icmp .gt 25, 3) := by decide +kernel
theorem dX8_isBanned_125 : decode cX8_isBanned 125 = .ok (.aload_n 0, 1) := by decide +kernel
theorem dX8_isBanned_126 : decode cX8_isBanned 126 = .ok (.getfield 53, 3) := by decide +kernel
theorem dX8_isBanned_129 : decode cX8_isBanned 129 = .ok (.iload 5, 2) := by decide +kernel
theorem dX8_isBanned_131 : decode cX8_isBanned 131 = .ok (.iconst 4, 1) := by decide +kernel
theorem dX8_isBanned_132 : decode cX8_isBanned 132 = .ok (.iadd, 1) := by decide +kernel
theorem dX8_isBanned_133 : decode cX8_isBanned 133 = .ok (.iaload, 1) := by decide +kernel
theorem dX8_isBanned_134 : decode cX8_isBanned 134 = .ok (.aload_n 0, 1) := by decide +kernel
theorem dX8_isBanned_135 : decode cX8_isBanned 135 = .ok (.getfield 62, 3) := by decide +kernel
theorem dX8_isBanned_138 : decode cX8_isBanned 138 = .ok (.iload_n 2, 1) := by decide +kernel
theorem dX8_isBanned_139 : decode cX8_isBanned 139 = .ok (.iaload, 1) := by decide +kernel
theorem dX8_isBanned_140 : decode cX8_isBanned 140 = .ok (.if_icmp .lt 7, 3) := by decide +kernel
theorem dX8_isBanned_143 : decode cX8_isBanned 143 = .ok (.iconst 1, 1) := by decide +kernel
theorem dX8_isBanned_144 : decode cX8_isBanned 144 = .ok (.goto 4, 3) := by decide +kernel
theorem dX8_isBanned_147 : decode cX8_isBanned 147 = .ok (.iconst 0, 1) := by decide +kernel
theorem dX8_isBanned_148 : decode cX8_isBanned 148 = .ok (.istore_n 3, 1) := by decide +kernel
theorem dX8_isBanned_149 : decode cX8_isBanned 149 = .ok (.iinc 4 1, 3) := by decide +kernel
theorem dX8_isBanned_152 : decode cX8_isBanned 152 = .ok (.goto (-137), 3) := by decide +kernel
theorem dX8_isBanned_155 : decode cX8_isBanned 155 = .ok (.iload_n 3, 1) := by decide +kernel
theorem dX8_isBanned_156 : decode cX8_isBanned 156 = .ok (.ireturn, 1) := by decide +kernel
theorem dX8_banned_0 : decode cX8_banned 0 = .ok (.iload_n 1, 1) := by decide +kernel
theorem dX8_banned_1 : decode cX8_banned 1 = .ok (.iconst (-1), 1) := by decide +kernel
theorem dX8_banned_2 : decode cX8_banned 2 = .ok (.if_icmp .ge 5, 3) := by decide +kernel
theorem dX8_banned_5 : decode cX8_banned 5 = .ok (.iconst (-1), 1) := by decide +kernel
theorem dX8_banned_6 : decode cX8_banned 6 = .ok (.ireturn, 1) := by decide +kernel
theorem dX8_banned_7 : decode cX8_banned 7 = .ok (.aload_n 0, 1) := by decide +kernel
theorem dX8_banned_8 : decode cX8_banned 8 = .ok (.invokevirtual 126, 3) := by decide +kernel
theorem dX8_banned_11 : decode cX8_banned 11 = .ok (.ifCond .ne 6, 3) := by decide +kernel
theorem dX8_banned_14 : decode cX8_banned 14 = .ok (.bipush (-2), 2) := by decide +kernel
theorem dX8_banned_16 : decode cX8_banned 16 = .ok (.ireturn, 1) := by decide +kernel
theorem dX8_banned_17 : decode cX8_banned 17 = .ok (.iconst 0, 1) := by decide +kernel
theorem dX8_banned_18 : decode cX8_banned 18 = .ok (.istore_n 2, 1) := by decide +kernel
theorem dX8_banned_19 : decode cX8_banned 19 = .ok (.iconst 0, 1) := by decide +kernel
theorem dX8_banned_20 : decode cX8_banned 20 = .ok (.istore_n 3, 1) := by decide +kernel
theorem dX8_banned_21 : decode cX8_banned 21 = .ok (.iload_n 3, 1) := by decide +kernel
theorem dX8_banned_22 : decode cX8_banned 22 = .ok (.aload_n 0, 1) := by decide +kernel
theorem dX8_banned_23 : decode cX8_banned 23 = .ok (.getfield 31, 3) := by decide +kernel
theorem dX8_banned_26 : decode cX8_banned 26 = .ok (.iconst 0, 1) := by decide +kernel
theorem dX8_banned_27 : decode cX8_banned 27 = .ok (.iaload, 1) := by decide +kernel
theorem dX8_banned_28 : decode cX8_banned 28 = .ok (.if_icmp .ge 27, 3) := by decide +kernel
theorem dX8_banned_31 : decode cX8_banned 31 = .ok (.aload_n 0, 1) := by decide +kernel
theorem dX8_banned_32 : decode cX8_banned 32 = .ok (.iload_n 3, 1) := by decide +kernel
theorem dX8_banned_33 : decode cX8_banned 33 = .ok (.invokevirtual 214, 3) := by decide +kernel
theorem dX8_banned_36 : decode cX8_banned 36 = .ok (.ifCond .eq 13, 3) := by decide +kernel
theorem dX8_banned_39 : decode cX8_banned 39 = .ok (.iload_n 2, 1) := by decide +kernel
theorem dX8_banned_40 : decode cX8_banned 40 = .ok (.iload_n 1, 1) := by decide +kernel
theorem dX8_banned_41 : decode cX8_banned 41 = .ok (.if_icmp .ne 5, 3) := by decide +kernel
theorem dX8_banned_44 : decode cX8_banned 44 = .ok (.iload_n 3, 1) := by decide +kernel
theorem dX8_banned_45 : decode cX8_banned 45 = .ok (.ireturn, 1) := by decide +kernel
theorem dX8_banned_46 : decode cX8_banned 46 = .ok (.iinc 2 1, 3) := by decide +kernel
theorem dX8_banned_49 : decode cX8_banned 49 = .ok (.iinc 3 1, 3) := by decide +kernel
theorem dX8_banned_52 : decode cX8_banned 52 = .ok (.goto (-31), 3) := by decide +kernel
theorem dX8_banned_55 : decode cX8_banned 55 = .ok (.iload_n 1, 1) := by decide +kernel
theorem dX8_banned_56 : decode cX8_banned 56 = .ok (.ifCond .ge 7, 3) := by decide +kernel
theorem dX8_banned_59 : decode cX8_banned 59 = .ok (.iload_n 2, 1) := by decide +kernel
theorem dX8_banned_60 : decode cX8_banned 60 = .ok (.goto 5, 3) := by decide +kernel
theorem dX8_banned_63 : decode cX8_banned 63 = .ok (.bipush (-4), 2) := by decide +kernel
theorem dX8_banned_65 : decode cX8_banned 65 = .ok (.ireturn, 1) := by decide +kernel
theorem dX8_truth_0 : decode cX8_truth 0 = .ok (.iload_n 1, 1) := by decide +kernel
theorem dX8_truth_1 : decode cX8_truth 1 = .ok (.invokestatic 104, 3) := by decide +kernel
theorem dX8_truth_4 : decode cX8_truth 4 = .ok (.ifCond .eq 17, 3) := by decide +kernel
theorem dX8_truth_7 : decode cX8_truth 7 = .ok (.iload_n 2, 1) := by decide +kernel
theorem dX8_truth_8 : decode cX8_truth 8 = .ok (.i2l, 1) := by decide +kernel
theorem dX8_truth_9 : decode cX8_truth 9 = .ok (.ldc2_w 95, 3) := by decide +kernel
theorem dX8_truth_12 : decode cX8_truth 12 = .ok (.ldc2_w 129, 3) := by decide +kernel
theorem dX8_truth_15 : decode cX8_truth 15 = .ok (.invokestatic 79, 3) := by decide +kernel
theorem dX8_truth_18 : decode cX8_truth 18 = .ok (.ifCond .ne 6, 3) := by decide +kernel
theorem dX8_truth_21 : decode cX8_truth 21 = .ok (.bipush (-100), 2) := by decide +kernel
theorem dX8_truth_23 : decode cX8_truth 23 = .ok (.ireturn, 1) := by decide +kernel
theorem dX8_truth_24 : decode cX8_truth 24 = .ok (.aload_n 0, 1) := by decide +kernel
theorem dX8_truth_25 : decode cX8_truth 25 = .ok (.getfield 40, 3) := by decide +kernel
theorem dX8_truth_28 : decode cX8_truth 28 = .ok (.iload_n 1, 1) := by decide +kernel
theorem dX8_truth_29 : decode cX8_truth 29 = .ok (.iaload, 1) := by decide +kernel
theorem dX8_truth_30 : decode cX8_truth 30 = .ok (.istore_n 3, 1) := by decide +kernel
theorem dX8_truth_31 : decode cX8_truth 31 = .ok (.aload_n 0, 1) := by decide +kernel
theorem dX8_truth_32 : decode cX8_truth 32 = .ok (.getfield 40, 3) := by decide +kernel
theorem dX8_truth_35 : decode cX8_truth 35 = .ok (.iload_n 1, 1) := by decide +kernel
theorem dX8_truth_36 : decode cX8_truth 36 = .ok (.iload_n 2, 1) := by decide +kernel
theorem dX8_truth_37 : decode cX8_truth 37 = .ok (.iastore, 1) := by decide +kernel
theorem dX8_truth_38 : decode cX8_truth 38 = .ok (.iload_n 3, 1) := by decide +kernel
theorem dX8_truth_39 : decode cX8_truth 39 = .ok (.ireturn, 1) := by decide +kernel
theorem dX8_right_0 : decode cX8_right 0 = .ok (.iload_n 1, 1) := by decide +kernel
theorem dX8_right_1 : decode cX8_right 1 = .ok (.i2l, 1) := by decide +kernel
theorem dX8_right_2 : decode cX8_right 2 = .ok (.lconst 0, 1) := by decide +kernel
theorem dX8_right_3 : decode cX8_right 3 = .ok (.ldc2_w 93, 3) := by decide +kernel
theorem dX8_right_6 : decode cX8_right 6 = .ok (.invokestatic 79, 3) := by decide +kernel
theorem dX8_right_9 : decode cX8_right 9 = .ok (.ifCond .eq 15, 3) := by decide +kernel
theorem dX8_right_12 : decode cX8_right 12 = .ok (.iload_n 2, 1) := by decide +kernel
theorem dX8_right_13 : decode cX8_right 13 = .ok (.i2l, 1) := by decide +kernel
theorem dX8_right_14 : decode cX8_right 14 = .ok (.lconst 0, 1) := by decide +kernel
theorem dX8_right_15 : decode cX8_right 15 = .ok (.ldc2_w 147, 3) := by decide +kernel
theorem dX8_right_18 : decode cX8_right 18 = .ok (.invokestatic 79, 3) := by decide +kernel
theorem dX8_right_21 : decode cX8_right 21 = .ok (.ifCond .ne 5, 3) := by decide +kernel
theorem dX8_right_24 : decode cX8_right 24 = .ok (.iconst (-1), 1) := by decide +kernel
theorem dX8_right_25 : decode cX8_right 25 = .ok (.ireturn, 1) := by decide +kernel
theorem dX8_right_26 : decode cX8_right 26 = .ok (.aload_n 0, 1) := by decide +kernel
theorem dX8_right_27 : decode cX8_right 27 = .ok (.invokevirtual 144, 3) := by decide +kernel
theorem dX8_right_30 : decode cX8_right 30 = .ok (.ifCond .ne 6, 3) := by decide +kernel
theorem dX8_right_33 : decode cX8_right 33 = .ok (.bipush (-2), 2) := by decide +kernel
theorem dX8_right_35 : decode cX8_right 35 = .ok (.ireturn, 1) := by decide +kernel
theorem dX8_right_36 : decode cX8_right 36 = .ok (.iconst 0, 1) := by decide +kernel
theorem dX8_right_37 : decode cX8_right 37 = .ok (.istore_n 3, 1) := by decide +kernel
theorem dX8_right_38 : decode cX8_right 38 = .ok (.iconst 0, 1) := by decide +kernel
theorem dX8_right_39 : decode cX8_right 39 = .ok (.istore 4, 2) := by decide +kernel
theorem dX8_right_41 : decode cX8_right 41 = .ok (.iload 4, 2) := by decide +kernel
theorem dX8_right_43 : decode cX8_right 43 = .ok (.aload_n 0, 1) := by decide +kernel
theorem dX8_right_44 : decode cX8_right 44 = .ok (.getfield 31, 3) := by decide +kernel
theorem dX8_right_47 : decode cX8_right 47 = .ok (.iconst 0, 1) := by decide +kernel
theorem dX8_right_48 : decode cX8_right 48 = .ok (.iaload, 1) := by decide +kernel
theorem dX8_right_49 : decode cX8_right 49 = .ok (.if_icmp .ge 127, 3) := by decide +kernel
theorem dX8_right_52 : decode cX8_right 52 = .ok (.aload_n 0, 1) := by decide +kernel
theorem dX8_right_53 : decode cX8_right 53 = .ok (.getfield 40, 3) := by decide +kernel
theorem dX8_right_56 : decode cX8_right 56 = .ok (.aload_n 0, 1) := by decide +kernel
theorem dX8_right_57 : decode cX8_right 57 = .ok (.getfield 34, 3) := by decide +kernel
theorem dX8_right_60 : decode cX8_right 60 = .ok (.bipush 6, 2) := by decide +kernel
theorem dX8_right_62 : decode cX8_right 62 = .ok (.iload 4, 2) := by decide +kernel
theorem dX8_right_64 : decode cX8_right 64 = .ok (.imul, 1) := by decide +kernel
theorem dX8_right_65 : decode cX8_right 65 = .ok (.iconst 1, 1) := by decide +kernel
theorem dX8_right_66 : decode cX8_right 66 = .ok (.iadd, 1) := by decide +kernel
theorem dX8_right_67 : decode cX8_right 67 = .ok (.iaload, 1) := by decide +kernel
theorem dX8_right_68 : decode cX8_right 68 = .ok (.iaload, 1) := by decide +kernel
theorem dX8_right_69 : decode cX8_right 69 = .ok (.istore 5, 2) := by decide +kernel
theorem dX8_right_71 : decode cX8_right 71 = .ok (.aload_n 0, 1) := by decide +kernel
theorem dX8_right_72 : decode cX8_right 72 = .ok (.getfield 68, 3) := by decide +kernel
theorem dX8_right_75 : decode cX8_right 75 = .ok (.iload 4, 2) := by decide +kernel
theorem dX8_right_77 : decode cX8_right 77 = .ok (.iaload, 1) := by decide +kernel
theorem dX8_right_78 : decode cX8_right 78 = .ok (.ifCond .ge 92, 3) := by decide +kernel
theorem dX8_right_81 : decode cX8_right 81 = .ok (.aload_n 0, 1) := by decide +kernel
theorem dX8_right_82 : decode cX8_right 82 = .ok (.iload 4, 2) := by decide +kernel
theorem dX8_right_84 : decode cX8_right 84 = .ok (.invokevirtual 160, 3) := by decide +kernel
theorem dX8_right_87 : decode cX8_right 87 = .ok (.iload_n 1, 1) := by decide +kernel
theorem dX8_right_88 : decode cX8_right 88 = .ok (.if_icmp .ne 82, 3) := by decide +kernel
theorem dX8_right_91 : decode cX8_right 91 = .ok (.aload_n 0, 1) := by decide +kernel
theorem dX8_right_92 : decode cX8_right 92 = .ok (.getfield 34, 3) := by decide +kernel
theorem dX8_right_95 : decode cX8_right 95 = .ok (.bipush 6, 2) := by decide +kernel
theorem dX8_right_97 : decode cX8_right 97 = .ok (.iload 4, 2) := by decide +kernel
theorem dX8_right_99 : decode cX8_right 99 = .ok (.imul, 1) := by decide +kernel
theorem dX8_right_100 : decode cX8_right 100 = .ok (.iconst 5, 1) := by decide +kernel
theorem dX8_right_101 : decode cX8_right 101 = .ok (.iadd, 1) := by decide +kernel
theorem dX8_right_102 : decode cX8_right 102 = .ok (.iaload, 1) := by decide +kernel
theorem dX8_right_103 : decode cX8_right 103 = .ok (.ifCond .ne 67, 3) := by decide +kernel
theorem dX8_right_106 : decode cX8_right 106 = .ok (.iload 5, 2) := by decide +kernel
theorem dX8_right_108 : decode cX8_right 108 = .ok (.ifCond .lt 62, 3) := by decide +kernel
theorem dX8_right_111 : decode cX8_right 111 = .ok (.aload_n 0, 1) := by decide +kernel
theorem dX8_right_112 : decode cX8_right 112 = .ok (.getfield 34, 3) := by decide +kernel
theorem dX8_right_115 : decode cX8_right 115 = .ok (.bipush 6, 2) := by decide +kernel
theorem dX8_right_117 : decode cX8_right 117 = .ok (.iload 4, 2) := by decide +kernel
theorem dX8_right_119 : decode cX8_right 119 = .ok (.imul, 1) := by decide +kernel
theorem dX8_right_120 : decode cX8_right 120 = .ok (.iconst 2, 1) := by decide +kernel
theorem dX8_right_121 : decode cX8_right 121 = .ok (.iadd, 1) := by decide +kernel
theorem dX8_right_122 : decode cX8_right 122 = .ok (.iaload, 1) := by decide +kernel
theorem dX8_right_123 : decode cX8_right 123 = .ok (.iload 5, 2) := by decide +kernel
theorem dX8_right_125 : decode cX8_right 125 = .ok (.isub, 1) := by decide +kernel
theorem dX8_right_126 : decode cX8_right 126 = .ok (.istore 6, 2) := by decide +kernel
theorem dX8_right_128 : decode cX8_right 128 = .ok (.iload_n 3, 1) := by decide +kernel
theorem dX8_right_129 : decode cX8_right 129 = .ok (.iload_n 2, 1) := by decide +kernel
theorem dX8_right_130 : decode cX8_right 130 = .ok (.ifCond .ne 16, 3) := by decide +kernel
theorem dX8_right_133 : decode cX8_right 133 = .ok (.iload 6, 2) := by decide +kernel
theorem dX8_right_135 : decode cX8_right 135 = .ok (.ifCond .ne 7, 3) := by decide +kernel
theorem dX8_right_138 : decode cX8_right 138 = .ok (.iconst 1, 1) := by decide +kernel
theorem dX8_right_139 : decode cX8_right 139 = .ok (.goto 29, 3) := by decide +kernel
theorem dX8_right_142 : decode cX8_right 142 = .ok (.iconst 0, 1) := by decide +kernel
theorem dX8_right_143 : decode cX8_right 143 = .ok (.goto 25, 3) := by decide +kernel
theorem dX8_right_146 : decode cX8_right 146 = .ok (.iload_n 2, 1) := by decide +kernel
theorem dX8_right_147 : decode cX8_right 147 = .ok (.iconst 1, 1) := by decide +kernel
theorem dX8_right_148 : decode cX8_right 148 = .ok (.if_icmp .ne 7, 3) := by decide +kernel
theorem dX8_right_151 : decode cX8_right 151 = .ok (.iconst 1, 1) := by decide +kernel
theorem dX8_right_152 : decode cX8_right 152 = .ok (.goto 16, 3) := by decide +kernel
theorem dX8_right_155 : decode cX8_right 155 = .ok (.iload 6, 2) := by decide +kernel
theorem dX8_right_157 : decode cX8_right 157 = .ok (.ifCond .ge 9, 3) := by decide +kernel
theorem dX8_right_160 : decode cX8_right 160 = .ok (.iload 6, 2) := by decide +kernel
theorem dX8_right_162 : decode cX8_right 162 = .ok (.ineg, 1) := by decide +kernel
theorem dX8_right_163 : decode cX8_right 163 = .ok (.goto 5, 3) := by decide +kernel
theorem dX8_right_166 : decode cX8_right 166 = .ok (.iload 6, 2) := by decide +kernel
theorem dX8_right_168 : decode cX8_right 168 = .ok (.iadd, 1) := by decide +kernel
theorem dX8_right_169 : decode cX8_right 169 = .ok (.istore_n 3, 1) := by decide +kernel
theorem dX8_right_170 : decode cX8_right 170 = .ok (.iinc 4 1, 3) := by decide +kernel
theorem dX8_right_173 : decode cX8_right 173 = .ok (.goto (-132), 3) := by decide +kernel
theorem dX8_right_176 : decode cX8_right 176 = .ok (.iload_n 3, 1) := by decide +kernel
theorem dX8_right_177 : decode cX8_right 177 = .ok (.ireturn, 1) := by decide +kernel
theorem dX8_beyond_0 : decode cX8_beyond 0 = .ok (.iload_n 1, 1) := by decide +kernel
theorem dX8_beyond_1 : decode cX8_beyond 1 = .ok (.i2l, 1) := by decide +kernel
theorem dX8_beyond_2 : decode cX8_beyond 2 = .ok (.lconst 1, 1) := by decide +kernel
theorem dX8_beyond_3 : decode cX8_beyond 3 = .ok (.ldc2_w 217, 3) := by decide +kernel
theorem dX8_beyond_6 : decode cX8_beyond 6 = .ok (.invokestatic 79, 3) := by decide +kernel
theorem dX8_beyond_9 : decode cX8_beyond 9 = .ok (.ifCond .eq 28, 3) := by decide +kernel
theorem dX8_beyond_12 : decode cX8_beyond 12 = .ok (.iload_n 2, 1) := by decide +kernel
theorem dX8_beyond_13 : decode cX8_beyond 13 = .ok (.i2l, 1) := by decide +kernel
theorem dX8_beyond_14 : decode cX8_beyond 14 = .ok (.lconst 0, 1) := by decide +kernel
theorem dX8_beyond_15 : decode cX8_beyond 15 = .ok (.iload_n 1, 1) := by decide +kernel
theorem dX8_beyond_16 : decode cX8_beyond 16 = .ok (.i2l, 1) := by decide +kernel
theorem dX8_beyond_17 : decode cX8_beyond 17 = .ok (.invokestatic 79, 3) := by decide +kernel
theorem dX8_beyond_20 : decode cX8_beyond 20 = .ok (.ifCond .eq 17, 3) := by decide +kernel
theorem dX8_beyond_23 : decode cX8_beyond 23 = .ok (.iload_n 3, 1) := by decide +kernel
theorem dX8_beyond_24 : decode cX8_beyond 24 = .ok (.i2l, 1) := by decide +kernel
theorem dX8_beyond_25 : decode cX8_beyond 25 = .ok (.ldc2_w 147, 3) := by decide +kernel
theorem dX8_beyond_28 : decode cX8_beyond 28 = .ok (.ldc2_w 219, 3) := by decide +kernel
theorem dX8_beyond_31 : decode cX8_beyond 31 = .ok (.invokestatic 79, 3) := by decide +kernel
theorem dX8_beyond_34 : decode cX8_beyond 34 = .ok (.ifCond .ne 7, 3) := by decide +kernel
theorem dX8_beyond_37 : decode cX8_beyond 37 = .ok (.ldc2_w 95, 3) := by decide +kernel
theorem dX8_beyond_40 : decode cX8_beyond 40 = .ok (.lreturn, 1) := by decide +kernel
theorem dX8_beyond_41 : decode cX8_beyond 41 = .ok (.lconst 0, 1) := by decide +kernel
theorem dX8_beyond_42 : decode cX8_beyond 42 = .ok (.lstore 4, 2) := by decide +kernel
theorem dX8_beyond_44 : decode cX8_beyond 44 = .ok (.iload_n 2, 1) := by decide +kernel
theorem dX8_beyond_45 : decode cX8_beyond 45 = .ok (.istore 6, 2) := by decide +kernel
theorem dX8_beyond_47 : decode cX8_beyond 47 = .ok (.iload 6, 2) := by decide +kernel
theorem dX8_beyond_49 : decode cX8_beyond 49 = .ok (.iload_n 1, 1) := by decide +kernel
theorem dX8_beyond_50 : decode cX8_beyond 50 = .ok (.if_icmp .gt 77, 3) := by decide +kernel
theorem dX8_beyond_53 : decode cX8_beyond 53 = .ok (.lconst 1, 1) := by decide +kernel
theorem dX8_beyond_54 : decode cX8_beyond 54 = .ok (.lstore 7, 2) := by decide +kernel
theorem dX8_beyond_56 : decode cX8_beyond 56 = .ok (.iconst 1, 1) := by decide +kernel
theorem dX8_beyond_57 : decode cX8_beyond 57 = .ok (.istore 9, 2) := by decide +kernel
theorem dX8_beyond_59 : decode cX8_beyond 59 = .ok (.iload 9, 2) := by decide +kernel
theorem dX8_beyond_61 : decode cX8_beyond 61 = .ok (.iload 6, 2) := by decide +kernel
theorem dX8_beyond_63 : decode cX8_beyond 63 = .ok (.if_icmp .gt 26, 3) := by decide +kernel
theorem dX8_beyond_66 : decode cX8_beyond 66 = .ok (.lload 7, 2) := by decide +kernel
theorem dX8_beyond_68 : decode cX8_beyond 68 = .ok (.iload_n 1, 1) := by decide +kernel
theorem dX8_beyond_69 : decode cX8_beyond 69 = .ok (.iload 6, 2) := by decide +kernel
theorem dX8_beyond_71 : decode cX8_beyond 71 = .ok (.isub, 1) := by decide +kernel
theorem dX8_beyond_72 : decode cX8_beyond 72 = .ok (.iload 9, 2) := by decide +kernel
theorem dX8_beyond_74 : decode cX8_beyond 74 = .ok (.iadd, 1) := by decide +kernel
theorem dX8_beyond_75 : decode cX8_beyond 75 = .ok (.i2l, 1) := by decide +kernel
theorem dX8_beyond_76 : decode cX8_beyond 76 = .ok (.lmul, 1) := by decide +kernel
theorem dX8_beyond_77 : decode cX8_beyond 77 = .ok (.iload 9, 2) := by decide +kernel
theorem dX8_beyond_79 : decode cX8_beyond 79 = .ok (.i2l, 1) := by decide +kernel
theorem dX8_beyond_80 : decode cX8_beyond 80 = .ok (.ldiv, 1) := by decide +kernel
theorem dX8_beyond_81 : decode cX8_beyond 81 = .ok (.lstore 7, 2) := by decide +kernel
theorem dX8_beyond_83 : decode cX8_beyond 83 = .ok (.iinc 9 1, 3) := by decide +kernel
theorem dX8_beyond_86 : decode cX8_beyond 86 = .ok (.goto (-27), 3) := by decide +kernel
theorem dX8_beyond_89 : decode cX8_beyond 89 = .ok (.iload 6, 2) := by decide +kernel
theorem dX8_beyond_91 : decode cX8_beyond 91 = .ok (.istore 9, 2) := by decide +kernel
theorem dX8_beyond_93 : decode cX8_beyond 93 = .ok (.iload 9, 2) := by decide +kernel
theorem dX8_beyond_95 : decode cX8_beyond 95 = .ok (.iload_n 1, 1) := by decide +kernel
theorem dX8_beyond_96 : decode cX8_beyond 96 = .ok (.if_icmp .ge 18, 3) := by decide +kernel
theorem dX8_beyond_99 : decode cX8_beyond 99 = .ok (.lload 7, 2) := by decide +kernel
theorem dX8_beyond_101 : decode cX8_beyond 101 = .ok (.iload_n 3, 1) := by decide +kernel
theorem dX8_beyond_102 : decode cX8_beyond 102 = .ok (.iconst 1, 1) := by decide +kernel
theorem dX8_beyond_103 : decode cX8_beyond 103 = .ok (.isub, 1) := by decide +kernel
theorem dX8_beyond_104 : decode cX8_beyond 104 = .ok (.i2l, 1) := by decide +kernel
theorem dX8_beyond_105 : decode cX8_beyond 105 = .ok (.lmul, 1) := by decide +kernel
theorem dX8_beyond_106 : decode cX8_beyond 106 = .ok (.lstore 7, 2) := by decide +kernel
theorem dX8_beyond_108 : decode cX8_beyond 108 = .ok (.iinc 9 1, 3) := by decide +kernel
theorem dX8_beyond_111 : decode cX8_beyond 111 = .ok (.goto (-18), 3) := by decide +kernel
theorem dX8_beyond_114 : decode cX8_beyond 114 = .ok (.lload 4, 2) := by decide +kernel
theorem dX8_beyond_116 : decode cX8_beyond 116 = .ok (.lload 7, 2) := by decide +kernel
theorem dX8_beyond_118 : decode cX8_beyond 118 = .ok (.ladd, 1) := by decide +kernel
theorem dX8_beyond_119 : decode cX8_beyond 119 = .ok (.lstore 4, 2) := by decide +kernel
theorem dX8_beyond_121 : decode cX8_beyond 121 = .ok (.iinc 6 1, 3) := by decide +kernel
theorem dX8_beyond_124 : decode cX8_beyond 124 = .ok (.goto (-77), 3) := by decide +kernel
theorem dX8_beyond_127 : decode cX8_beyond 127 = .ok (.lload 4, 2) := by decide +kernel
theorem dX8_beyond_129 : decode cX8_beyond 129 = .ok (.lreturn, 1) := by decide +kernel
theorem dX8_knownIn_0 : decode cX8_knownIn 0 = .ok (.aload_n 0, 1) := by decide +kernel
theorem dX8_knownIn_1 : decode cX8_knownIn 1 = .ok (.getfield 16, 3) := by decide +kernel
theorem dX8_knownIn_4 : decode cX8_knownIn 4 = .ok (.bipush 6, 2) := by decide +kernel
theorem dX8_knownIn_6 : decode cX8_knownIn 6 = .ok (.aload_n 0, 1) := by decide +kernel
theorem dX8_knownIn_7 : decode cX8_knownIn 7 = .ok (.getfield 37, 3) := by decide +kernel
theorem dX8_knownIn_10 : decode cX8_knownIn 10 = .ok (.iconst 2, 1) := by decide +kernel
theorem dX8_knownIn_11 : decode cX8_knownIn 11 = .ok (.iload_n 1, 1) := by decide +kernel
theorem dX8_knownIn_12 : decode cX8_knownIn 12 = .ok (.imul, 1) := by decide +kernel
theorem dX8_knownIn_13 : decode cX8_knownIn 13 = .ok (.iaload, 1) := by decide +kernel
theorem dX8_knownIn_14 : decode cX8_knownIn 14 = .ok (.imul, 1) := by decide +kernel
theorem dX8_knownIn_15 : decode cX8_knownIn 15 = .ok (.iload_n 2, 1) := by decide +kernel
theorem dX8_knownIn_16 : decode cX8_knownIn 16 = .ok (.iadd, 1) := by decide +kernel
theorem dX8_knownIn_17 : decode cX8_knownIn 17 = .ok (.iaload, 1) := by decide +kernel
theorem dX8_knownIn_18 : decode cX8_knownIn 18 = .ok (.istore_n 3, 1) := by decide +kernel
theorem dX8_knownIn_19 : decode cX8_knownIn 19 = .ok (.iload_n 3, 1) := by decide +kernel
theorem dX8_knownIn_20 : decode cX8_knownIn 20 = .ok (.ifCond .ge 8, 3) := by decide +kernel
theorem dX8_knownIn_23 : decode cX8_knownIn 23 = .ok (.bipush (-4), 2) := by decide +kernel
theorem dX8_knownIn_25 : decode cX8_knownIn 25 = .ok (.goto 15, 3) := by decide +kernel
theorem dX8_knownIn_28 : decode cX8_knownIn 28 = .ok (.aload_n 0, 1) := by decide +kernel
theorem dX8_knownIn_29 : decode cX8_knownIn 29 = .ok (.getfield 37, 3) := by decide +kernel
theorem dX8_knownIn_32 : decode cX8_knownIn 32 = .ok (.iconst 2, 1) := by decide +kernel
theorem dX8_knownIn_33 : decode cX8_knownIn 33 = .ok (.iload_n 1, 1) := by decide +kernel
theorem dX8_knownIn_34 : decode cX8_knownIn 34 = .ok (.imul, 1) := by decide +kernel
theorem dX8_knownIn_35 : decode cX8_knownIn 35 = .ok (.iconst 1, 1) := by decide +kernel
theorem dX8_knownIn_36 : decode cX8_knownIn 36 = .ok (.iadd, 1) := by decide +kernel
theorem dX8_knownIn_37 : decode cX8_knownIn 37 = .ok (.iaload, 1) := by decide +kernel
theorem dX8_knownIn_38 : decode cX8_knownIn 38 = .ok (.iload_n 3, 1) := by decide +kernel
theorem dX8_knownIn_39 : decode cX8_knownIn 39 = .ok (.iadd, 1) := by decide +kernel
theorem dX8_knownIn_40 : decode cX8_knownIn 40 = .ok (.ireturn, 1) := by decide +kernel
theorem dX8_known_0 : decode cX8_known 0 = .ok (.iload_n 1, 1) := by decide +kernel
theorem dX8_known_1 : decode cX8_known 1 = .ok (.invokestatic 104, 3) := by decide +kernel
theorem dX8_known_4 : decode cX8_known 4 = .ok (.ifCond .eq 20, 3) := by decide +kernel
theorem dX8_known_7 : decode cX8_known 7 = .ok (.iload_n 2, 1) := by decide +kernel
theorem dX8_known_8 : decode cX8_known 8 = .ok (.invokestatic 87, 3) := by decide +kernel
theorem dX8_known_11 : decode cX8_known 11 = .ok (.ifCond .eq 13, 3) := by decide +kernel
theorem dX8_known_14 : decode cX8_known 14 = .ok (.iload_n 3, 1) := by decide +kernel
theorem dX8_known_15 : decode cX8_known 15 = .ok (.i2l, 1) := by decide +kernel
theorem dX8_known_16 : decode cX8_known 16 = .ok (.lconst 0, 1) := by decide +kernel
theorem dX8_known_17 : decode cX8_known 17 = .ok (.lconst 1, 1) := by decide +kernel
theorem dX8_known_18 : decode cX8_known 18 = .ok (.invokestatic 79, 3) := by decide +kernel
theorem dX8_known_21 : decode cX8_known 21 = .ok (.ifCond .ne 5, 3) := by decide +kernel
theorem dX8_known_24 : decode cX8_known 24 = .ok (.iconst (-1), 1) := by decide +kernel
theorem dX8_known_25 : decode cX8_known 25 = .ok (.ireturn, 1) := by decide +kernel
theorem dX8_known_26 : decode cX8_known 26 = .ok (.aload_n 0, 1) := by decide +kernel
theorem dX8_known_27 : decode cX8_known 27 = .ok (.getfield 37, 3) := by decide +kernel
theorem dX8_known_30 : decode cX8_known 30 = .ok (.iconst 2, 1) := by decide +kernel
theorem dX8_known_31 : decode cX8_known 31 = .ok (.iload_n 1, 1) := by decide +kernel
theorem dX8_known_32 : decode cX8_known 32 = .ok (.imul, 1) := by decide +kernel
theorem dX8_known_33 : decode cX8_known 33 = .ok (.iaload, 1) := by decide +kernel
theorem dX8_known_34 : decode cX8_known 34 = .ok (.ifCond .ge 6, 3) := by decide +kernel
theorem dX8_known_37 : decode cX8_known 37 = .ok (.bipush (-2), 2) := by decide +kernel
theorem dX8_known_39 : decode cX8_known 39 = .ok (.ireturn, 1) := by decide +kernel
theorem dX8_known_40 : decode cX8_known 40 = .ok (.aload_n 0, 1) := by decide +kernel
theorem dX8_known_41 : decode cX8_known 41 = .ok (.iload_n 1, 1) := by decide +kernel
theorem dX8_known_42 : decode cX8_known 42 = .ok (.iload_n 2, 1) := by decide +kernel
theorem dX8_known_43 : decode cX8_known 43 = .ok (.invokevirtual 221, 3) := by decide +kernel
theorem dX8_known_46 : decode cX8_known 46 = .ok (.istore 4, 2) := by decide +kernel
theorem dX8_known_48 : decode cX8_known 48 = .ok (.iload_n 3, 1) := by decide +kernel
theorem dX8_known_49 : decode cX8_known 49 = .ok (.ifCond .eq 8, 3) := by decide +kernel
theorem dX8_known_52 : decode cX8_known 52 = .ok (.iload 4, 2) := by decide +kernel
theorem dX8_known_54 : decode cX8_known 54 = .ok (.ifCond .ge 6, 3) := by decide +kernel
theorem dX8_known_57 : decode cX8_known 57 = .ok (.iload 4, 2) := by decide +kernel
theorem dX8_known_59 : decode cX8_known 59 = .ok (.ireturn, 1) := by decide +kernel
theorem dX8_known_60 : decode cX8_known 60 = .ok (.bipush (-4), 2) := by decide +kernel
theorem dX8_known_62 : decode cX8_known 62 = .ok (.istore 5, 2) := by decide +kernel
theorem dX8_known_64 : decode cX8_known 64 = .ok (.iconst 0, 1) := by decide +kernel
theorem dX8_known_65 : decode cX8_known 65 = .ok (.istore 6, 2) := by decide +kernel
theorem dX8_known_67 : decode cX8_known 67 = .ok (.iload 6, 2) := by decide +kernel
theorem dX8_known_69 : decode cX8_known 69 = .ok (.bipush 6, 2) := by decide +kernel
theorem dX8_known_71 : decode cX8_known 71 = .ok (.if_icmp .ge 52, 3) := by decide +kernel
theorem dX8_known_74 : decode cX8_known 74 = .ok (.aload_n 0, 1) := by decide +kernel
theorem dX8_known_75 : decode cX8_known 75 = .ok (.iload_n 1, 1) := by decide +kernel
theorem dX8_known_76 : decode cX8_known 76 = .ok (.iload 6, 2) := by decide +kernel
theorem dX8_known_78 : decode cX8_known 78 = .ok (.invokevirtual 221, 3) := by decide +kernel
theorem dX8_known_81 : decode cX8_known 81 = .ok (.istore 7, 2) := by decide +kernel
theorem dX8_known_83 : decode cX8_known 83 = .ok (.iload 7, 2) := by decide +kernel
theorem dX8_known_85 : decode cX8_known 85 = .ok (.iload 4, 2) := by decide +kernel
theorem dX8_known_87 : decode cX8_known 87 = .ok (.if_icmp .le 26, 3) := by decide +kernel
theorem dX8_known_90 : decode cX8_known 90 = .ok (.iload 5, 2) := by decide +kernel
theorem dX8_known_92 : decode cX8_known 92 = .ok (.ifCond .lt 13, 3) := by decide +kernel
theorem dX8_known_95 : decode cX8_known 95 = .ok (.iload 7, 2) := by decide +kernel
theorem dX8_known_97 : decode cX8_known 97 = .ok (.iload 4, 2) := by decide +kernel
theorem dX8_known_99 : decode cX8_known 99 = .ok (.isub, 1) := by decide +kernel
theorem dX8_known_100 : decode cX8_known 100 = .ok (.iload 5, 2) := by decide +kernel
theorem dX8_known_102 : decode cX8_known 102 = .ok (.if_icmp .ge 11, 3) := by decide +kernel
theorem dX8_known_105 : decode cX8_known 105 = .ok (.iload 7, 2) := by decide +kernel
theorem dX8_known_107 : decode cX8_known 107 = .ok (.iload 4, 2) := by decide +kernel
theorem dX8_known_109 : decode cX8_known 109 = .ok (.isub, 1) := by decide +kernel
theorem dX8_known_110 : decode cX8_known 110 = .ok (.goto 5, 3) := by decide +kernel
theorem dX8_known_113 : decode cX8_known 113 = .ok (.iload 5, 2) := by decide +kernel
theorem dX8_known_115 : decode cX8_known 115 = .ok (.istore 5, 2) := by decide +kernel
theorem dX8_known_117 : decode cX8_known 117 = .ok (.iinc 6 1, 3) := by decide +kernel
theorem dX8_known_120 : decode cX8_known 120 = .ok (.goto (-53), 3) := by decide +kernel
theorem dX8_known_123 : decode cX8_known 123 = .ok (.iload 5, 2) := by decide +kernel
theorem dX8_known_125 : decode cX8_known 125 = .ok (.ireturn, 1) := by decide +kernel
theorem dX8_worth_0 : decode cX8_worth 0 = .ok (.iload_n 1, 1) := by decide +kernel
theorem dX8_worth_1 : decode cX8_worth 1 = .ok (.i2l, 1) := by decide +kernel
theorem dX8_worth_2 : decode cX8_worth 2 = .ok (.lconst 0, 1) := by decide +kernel
theorem dX8_worth_3 : decode cX8_worth 3 = .ok (.ldc2_w 77, 3) := by decide +kernel
theorem dX8_worth_6 : decode cX8_worth 6 = .ok (.invokestatic 79, 3) := by decide +kernel
theorem dX8_worth_9 : decode cX8_worth 9 = .ok (.ifCond .eq 29, 3) := by decide +kernel
theorem dX8_worth_12 : decode cX8_worth 12 = .ok (.iload_n 2, 1) := by decide +kernel
theorem dX8_worth_13 : decode cX8_worth 13 = .ok (.i2l, 1) := by decide +kernel
theorem dX8_worth_14 : decode cX8_worth 14 = .ok (.lconst 0, 1) := by decide +kernel
theorem dX8_worth_15 : decode cX8_worth 15 = .ok (.ldc2_w 175, 3) := by decide +kernel
theorem dX8_worth_18 : decode cX8_worth 18 = .ok (.invokestatic 79, 3) := by decide +kernel
theorem dX8_worth_21 : decode cX8_worth 21 = .ok (.ifCond .eq 17, 3) := by decide +kernel
theorem dX8_worth_24 : decode cX8_worth 24 = .ok (.iload_n 3, 1) := by decide +kernel
theorem dX8_worth_25 : decode cX8_worth 25 = .ok (.i2l, 1) := by decide +kernel
theorem dX8_worth_26 : decode cX8_worth 26 = .ok (.ldc2_w 224, 3) := by decide +kernel
theorem dX8_worth_29 : decode cX8_worth 29 = .ok (.ldc2_w 226, 3) := by decide +kernel
theorem dX8_worth_32 : decode cX8_worth 32 = .ok (.invokestatic 79, 3) := by decide +kernel
theorem dX8_worth_35 : decode cX8_worth 35 = .ok (.ifCond .ne 7, 3) := by decide +kernel
theorem dX8_worth_38 : decode cX8_worth 38 = .ok (.sipush (-10000), 3) := by decide +kernel
theorem dX8_worth_41 : decode cX8_worth 41 = .ok (.ireturn, 1) := by decide +kernel
theorem dX8_worth_42 : decode cX8_worth 42 = .ok (.aload_n 0, 1) := by decide +kernel
theorem dX8_worth_43 : decode cX8_worth 43 = .ok (.getfield 56, 3) := by decide +kernel
theorem dX8_worth_46 : decode cX8_worth 46 = .ok (.iconst 4, 1) := by decide +kernel
theorem dX8_worth_47 : decode cX8_worth 47 = .ok (.iload_n 1, 1) := by decide +kernel
theorem dX8_worth_48 : decode cX8_worth 48 = .ok (.imul, 1) := by decide +kernel
theorem dX8_worth_49 : decode cX8_worth 49 = .ok (.iload_n 2, 1) := by decide +kernel
theorem dX8_worth_50 : decode cX8_worth 50 = .ok (.iadd, 1) := by decide +kernel
theorem dX8_worth_51 : decode cX8_worth 51 = .ok (.iaload, 1) := by decide +kernel
theorem dX8_worth_52 : decode cX8_worth 52 = .ok (.istore 4, 2) := by decide +kernel
theorem dX8_worth_54 : decode cX8_worth 54 = .ok (.aload_n 0, 1) := by decide +kernel
theorem dX8_worth_55 : decode cX8_worth 55 = .ok (.getfield 56, 3) := by decide +kernel
theorem dX8_worth_58 : decode cX8_worth 58 = .ok (.iconst 4, 1) := by decide +kernel
theorem dX8_worth_59 : decode cX8_worth 59 = .ok (.iload_n 1, 1) := by decide +kernel
theorem dX8_worth_60 : decode cX8_worth 60 = .ok (.imul, 1) := by decide +kernel
theorem dX8_worth_61 : decode cX8_worth 61 = .ok (.iload_n 2, 1) := by decide +kernel
theorem dX8_worth_62 : decode cX8_worth 62 = .ok (.iadd, 1) := by decide +kernel
theorem dX8_worth_63 : decode cX8_worth 63 = .ok (.iload_n 3, 1) := by decide +kernel
theorem dX8_worth_64 : decode cX8_worth 64 = .ok (.iastore, 1) := by decide +kernel
theorem dX8_worth_65 : decode cX8_worth 65 = .ok (.iload 4, 2) := by decide +kernel
theorem dX8_worth_67 : decode cX8_worth 67 = .ok (.ireturn, 1) := by decide +kernel
theorem dX8_buy_0 : decode cX8_buy 0 = .ok (.iload_n 1, 1) := by decide +kernel
theorem dX8_buy_1 : decode cX8_buy 1 = .ok (.i2l, 1) := by decide +kernel
theorem dX8_buy_2 : decode cX8_buy 2 = .ok (.lconst 1, 1) := by decide +kernel
theorem dX8_buy_3 : decode cX8_buy 3 = .ok (.ldc2_w 228, 3) := by decide +kernel
theorem dX8_buy_6 : decode cX8_buy 6 = .ok (.invokestatic 79, 3) := by decide +kernel
theorem dX8_buy_9 : decode cX8_buy 9 = .ok (.ifCond .eq 27, 3) := by decide +kernel
theorem dX8_buy_12 : decode cX8_buy 12 = .ok (.iload_n 2, 1) := by decide +kernel
theorem dX8_buy_13 : decode cX8_buy 13 = .ok (.i2l, 1) := by decide +kernel
theorem dX8_buy_14 : decode cX8_buy 14 = .ok (.lconst 1, 1) := by decide +kernel
theorem dX8_buy_15 : decode cX8_buy 15 = .ok (.ldc2_w 217, 3) := by decide +kernel
theorem dX8_buy_18 : decode cX8_buy 18 = .ok (.invokestatic 79, 3) := by decide +kernel
theorem dX8_buy_21 : decode cX8_buy 21 = .ok (.ifCond .eq 15, 3) := by decide +kernel
theorem dX8_buy_24 : decode cX8_buy 24 = .ok (.iload_n 3, 1) := by decide +kernel
theorem dX8_buy_25 : decode cX8_buy 25 = .ok (.i2l, 1) := by decide +kernel
theorem dX8_buy_26 : decode cX8_buy 26 = .ok (.lconst 0, 1) := by decide +kernel
theorem dX8_buy_27 : decode cX8_buy 27 = .ok (.ldc2_w 175, 3) := by decide +kernel
theorem dX8_buy_30 : decode cX8_buy 30 = .ok (.invokestatic 79, 3) := by decide +kernel
theorem dX8_buy_33 : decode cX8_buy 33 = .ok (.ifCond .ne 7, 3) := by decide +kernel
theorem dX8_buy_36 : decode cX8_buy 36 = .ok (.sipush (-10000), 3) := by decide +kernel
theorem dX8_buy_39 : decode cX8_buy 39 = .ok (.ireturn, 1) := by decide +kernel
theorem dX8_buy_40 : decode cX8_buy 40 = .ok (.bipush (-4), 2) := by decide +kernel
theorem dX8_buy_42 : decode cX8_buy 42 = .ok (.istore 4, 2) := by decide +kernel
theorem dX8_buy_44 : decode cX8_buy 44 = .ok (.iconst 0, 1) := by decide +kernel
theorem dX8_buy_45 : decode cX8_buy 45 = .ok (.istore 5, 2) := by decide +kernel
theorem dX8_buy_47 : decode cX8_buy 47 = .ok (.bipush (-4), 2) := by decide +kernel
theorem dX8_buy_49 : decode cX8_buy 49 = .ok (.istore 6, 2) := by decide +kernel
theorem dX8_buy_51 : decode cX8_buy 51 = .ok (.iconst 0, 1) := by decide +kernel
theorem dX8_buy_52 : decode cX8_buy 52 = .ok (.istore 7, 2) := by decide +kernel
theorem dX8_buy_54 : decode cX8_buy 54 = .ok (.iconst 0, 1) := by decide +kernel
theorem dX8_buy_55 : decode cX8_buy 55 = .ok (.istore 8, 2) := by decide +kernel
theorem dX8_buy_57 : decode cX8_buy 57 = .ok (.iload 8, 2) := by decide +kernel
theorem dX8_buy_59 : decode cX8_buy 59 = .ok (.iload_n 1, 1) := by decide +kernel
theorem dX8_buy_60 : decode cX8_buy 60 = .ok (.if_icmp .ge 192, 3) := by decide +kernel
theorem dX8_buy_63 : decode cX8_buy 63 = .ok (.ldc 230, 2) := by decide +kernel
theorem dX8_buy_65 : decode cX8_buy 65 = .ok (.istore 9, 2) := by decide +kernel
theorem dX8_buy_67 : decode cX8_buy 67 = .ok (.iconst (-1), 1) := by decide +kernel
theorem dX8_buy_68 : decode cX8_buy 68 = .ok (.istore 10, 2) := by decide +kernel
theorem dX8_buy_70 : decode cX8_buy 70 = .ok (.iconst 0, 1) := by decide +kernel
theorem dX8_buy_71 : decode cX8_buy 71 = .ok (.istore 11, 2) := by decide +kernel
theorem dX8_buy_73 : decode cX8_buy 73 = .ok (.iload 11, 2) := by decide +kernel
theorem dX8_buy_75 : decode cX8_buy 75 = .ok (.iconst 4, 1) := by decide +kernel
theorem dX8_buy_76 : decode cX8_buy 76 = .ok (.if_icmp .ge 126, 3) := by decide +kernel
theorem dX8_buy_79 : decode cX8_buy 79 = .ok (.iload_n 2, 1) := by decide +kernel
theorem dX8_buy_80 : decode cX8_buy 80 = .ok (.iload 11, 2) := by decide +kernel
theorem dX8_buy_82 : decode cX8_buy 82 = .ok (.ishr, 1) := by decide +kernel
theorem dX8_buy_83 : decode cX8_buy 83 = .ok (.iconst 1, 1) := by decide +kernel
theorem dX8_buy_84 : decode cX8_buy 84 = .ok (.iand, 1) := by decide +kernel
theorem dX8_buy_85 : decode cX8_buy 85 = .ok (.iconst 1, 1) := by decide +kernel
theorem dX8_buy_86 : decode cX8_buy 86 = .ok (.if_icmp .ne 110, 3) := by decide +kernel
theorem dX8_buy_89 : decode cX8_buy 89 = .ok (.ldc 153, 2) := by decide +kernel
theorem dX8_buy_91 : decode cX8_buy 91 = .ok (.istore 12, 2) := by decide +kernel
theorem dX8_buy_93 : decode cX8_buy 93 = .ok (.iconst 0, 1) := by decide +kernel
theorem dX8_buy_94 : decode cX8_buy 94 = .ok (.istore 13, 2) := by decide +kernel
theorem dX8_buy_96 : decode cX8_buy 96 = .ok (.iload 13, 2) := by decide +kernel
theorem dX8_buy_98 : decode cX8_buy 98 = .ok (.iload_n 1, 1) := by decide +kernel
theorem dX8_buy_99 : decode cX8_buy 99 = .ok (.if_icmp .ge 45, 3) := by decide +kernel
theorem dX8_buy_102 : decode cX8_buy 102 = .ok (.aload_n 0, 1) := by decide +kernel
theorem dX8_buy_103 : decode cX8_buy 103 = .ok (.getfield 56, 3) := by decide +kernel
theorem dX8_buy_106 : decode cX8_buy 106 = .ok (.iconst 4, 1) := by decide +kernel
theorem dX8_buy_107 : decode cX8_buy 107 = .ok (.iload 13, 2) := by decide +kernel
theorem dX8_buy_109 : decode cX8_buy 109 = .ok (.imul, 1) := by decide +kernel
theorem dX8_buy_110 : decode cX8_buy 110 = .ok (.iload 11, 2) := by decide +kernel
theorem dX8_buy_112 : decode cX8_buy 112 = .ok (.iadd, 1) := by decide +kernel
theorem dX8_buy_113 : decode cX8_buy 113 = .ok (.iaload, 1) := by decide +kernel
theorem dX8_buy_114 : decode cX8_buy 114 = .ok (.iload 12, 2) := by decide +kernel
theorem dX8_buy_116 : decode cX8_buy 116 = .ok (.if_icmp .le 18, 3) := by decide +kernel
theorem dX8_buy_119 : decode cX8_buy 119 = .ok (.aload_n 0, 1) := by decide +kernel
theorem dX8_buy_120 : decode cX8_buy 120 = .ok (.getfield 56, 3) := by decide +kernel
theorem dX8_buy_123 : decode cX8_buy 123 = .ok (.iconst 4, 1) := by decide +kernel
theorem dX8_buy_124 : decode cX8_buy 124 = .ok (.iload 13, 2) := by decide +kernel
theorem dX8_buy_126 : decode cX8_buy 126 = .ok (.imul, 1) := by decide +kernel
theorem dX8_buy_127 : decode cX8_buy 127 = .ok (.iload 11, 2) := by decide +kernel
theorem dX8_buy_129 : decode cX8_buy 129 = .ok (.iadd, 1) := by decide +kernel
theorem dX8_buy_130 : decode cX8_buy 130 = .ok (.iaload, 1) := by decide +kernel
theorem dX8_buy_131 : decode cX8_buy 131 = .ok (.goto 5, 3) := by decide +kernel
theorem dX8_buy_134 : decode cX8_buy 134 = .ok (.iload 12, 2) := by decide +kernel
theorem dX8_buy_136 : decode cX8_buy 136 = .ok (.istore 12, 2) := by decide +kernel
theorem dX8_buy_138 : decode cX8_buy 138 = .ok (.iinc 13 1, 3) := by decide +kernel
theorem dX8_buy_141 : decode cX8_buy 141 = .ok (.goto (-45), 3) := by decide +kernel
theorem dX8_buy_144 : decode cX8_buy 144 = .ok (.aload_n 0, 1) := by decide +kernel
theorem dX8_buy_145 : decode cX8_buy 145 = .ok (.getfield 56, 3) := by decide +kernel
theorem dX8_buy_148 : decode cX8_buy 148 = .ok (.iconst 4, 1) := by decide +kernel
theorem dX8_buy_149 : decode cX8_buy 149 = .ok (.iload 8, 2) := by decide +kernel
theorem dX8_buy_151 : decode cX8_buy 151 = .ok (.imul, 1) := by decide +kernel
theorem dX8_buy_152 : decode cX8_buy 152 = .ok (.iload 11, 2) := by decide +kernel
theorem dX8_buy_154 : decode cX8_buy 154 = .ok (.iadd, 1) := by decide +kernel
theorem dX8_buy_155 : decode cX8_buy 155 = .ok (.iaload, 1) := by decide +kernel
theorem dX8_buy_156 : decode cX8_buy 156 = .ok (.istore 13, 2) := by decide +kernel
theorem dX8_buy_158 : decode cX8_buy 158 = .ok (.iload 13, 2) := by decide +kernel
theorem dX8_buy_160 : decode cX8_buy 160 = .ok (.iload 9, 2) := by decide +kernel
theorem dX8_buy_162 : decode cX8_buy 162 = .ok (.if_icmp .ge 8, 3) := by decide +kernel
theorem dX8_buy_165 : decode cX8_buy 165 = .ok (.iload 13, 2) := by decide +kernel
theorem dX8_buy_167 : decode cX8_buy 167 = .ok (.goto 5, 3) := by decide +kernel
theorem dX8_buy_170 : decode cX8_buy 170 = .ok (.iload 9, 2) := by decide +kernel
theorem dX8_buy_172 : decode cX8_buy 172 = .ok (.istore 9, 2) := by decide +kernel
theorem dX8_buy_174 : decode cX8_buy 174 = .ok (.iload 12, 2) := by decide +kernel
theorem dX8_buy_176 : decode cX8_buy 176 = .ok (.iload 13, 2) := by decide +kernel
theorem dX8_buy_178 : decode cX8_buy 178 = .ok (.isub, 1) := by decide +kernel
theorem dX8_buy_179 : decode cX8_buy 179 = .ok (.iload 10, 2) := by decide +kernel
theorem dX8_buy_181 : decode cX8_buy 181 = .ok (.if_icmp .le 11, 3) := by decide +kernel
theorem dX8_buy_184 : decode cX8_buy 184 = .ok (.iload 12, 2) := by decide +kernel
theorem dX8_buy_186 : decode cX8_buy 186 = .ok (.iload 13, 2) := by decide +kernel
theorem dX8_buy_188 : decode cX8_buy 188 = .ok (.isub, 1) := by decide +kernel
theorem dX8_buy_189 : decode cX8_buy 189 = .ok (.goto 5, 3) := by decide +kernel
theorem dX8_buy_192 : decode cX8_buy 192 = .ok (.iload 10, 2) := by decide +kernel
theorem dX8_buy_194 : decode cX8_buy 194 = .ok (.istore 10, 2) := by decide +kernel
theorem dX8_buy_196 : decode cX8_buy 196 = .ok (.iinc 11 1, 3) := by decide +kernel
theorem dX8_buy_199 : decode cX8_buy 199 = .ok (.goto (-126), 3) := by decide +kernel
theorem dX8_buy_202 : decode cX8_buy 202 = .ok (.iload 4, 2) := by decide +kernel
theorem dX8_buy_204 : decode cX8_buy 204 = .ok (.bipush (-4), 2) := by decide +kernel
theorem dX8_buy_206 : decode cX8_buy 206 = .ok (.if_icmp .eq 10, 3) := by decide +kernel
theorem dX8_buy_209 : decode cX8_buy 209 = .ok (.iload 9, 2) := by decide +kernel
theorem dX8_buy_211 : decode cX8_buy 211 = .ok (.iload 5, 2) := by decide +kernel
theorem dX8_buy_213 : decode cX8_buy 213 = .ok (.if_icmp .le 11, 3) := by decide +kernel
theorem dX8_buy_216 : decode cX8_buy 216 = .ok (.iload 8, 2) := by decide +kernel
theorem dX8_buy_218 : decode cX8_buy 218 = .ok (.istore 4, 2) := by decide +kernel
theorem dX8_buy_220 : decode cX8_buy 220 = .ok (.iload 9, 2) := by decide +kernel
theorem dX8_buy_222 : decode cX8_buy 222 = .ok (.istore 5, 2) := by decide +kernel
theorem dX8_buy_224 : decode cX8_buy 224 = .ok (.iload 6, 2) := by decide +kernel
theorem dX8_buy_226 : decode cX8_buy 226 = .ok (.bipush (-4), 2) := by decide +kernel
theorem dX8_buy_228 : decode cX8_buy 228 = .ok (.if_icmp .eq 10, 3) := by decide +kernel
theorem dX8_buy_231 : decode cX8_buy 231 = .ok (.iload 10, 2) := by decide +kernel
theorem dX8_buy_233 : decode cX8_buy 233 = .ok (.iload 7, 2) := by decide +kernel
theorem dX8_buy_235 : decode cX8_buy 235 = .ok (.if_icmp .ge 11, 3) := by decide +kernel
theorem dX8_buy_238 : decode cX8_buy 238 = .ok (.iload 8, 2) := by decide +kernel
theorem dX8_buy_240 : decode cX8_buy 240 = .ok (.istore 6, 2) := by decide +kernel
theorem dX8_buy_242 : decode cX8_buy 242 = .ok (.iload 10, 2) := by decide +kernel
theorem dX8_buy_244 : decode cX8_buy 244 = .ok (.istore 7, 2) := by decide +kernel
theorem dX8_buy_246 : decode cX8_buy 246 = .ok (.iinc 8 1, 3) := by decide +kernel
theorem dX8_buy_249 : decode cX8_buy 249 = .ok (.goto (-192), 3) := by decide +kernel
theorem dX8_buy_252 : decode cX8_buy 252 = .ok (.iload_n 3, 1) := by decide +kernel
theorem dX8_buy_253 : decode cX8_buy 253 = .ok (.ifCond .ne 8, 3) := by decide +kernel
theorem dX8_buy_256 : decode cX8_buy 256 = .ok (.iload 4, 2) := by decide +kernel
theorem dX8_buy_258 : decode cX8_buy 258 = .ok (.goto 25, 3) := by decide +kernel
theorem dX8_buy_261 : decode cX8_buy 261 = .ok (.iload_n 3, 1) := by decide +kernel
theorem dX8_buy_262 : decode cX8_buy 262 = .ok (.iconst 1, 1) := by decide +kernel
theorem dX8_buy_263 : decode cX8_buy 263 = .ok (.if_icmp .ne 8, 3) := by decide +kernel
theorem dX8_buy_266 : decode cX8_buy 266 = .ok (.iload 5, 2) := by decide +kernel
theorem dX8_buy_268 : decode cX8_buy 268 = .ok (.goto 15, 3) := by decide +kernel
theorem dX8_buy_271 : decode cX8_buy 271 = .ok (.iload_n 3, 1) := by decide +kernel
theorem dX8_buy_272 : decode cX8_buy 272 = .ok (.iconst 2, 1) := by decide +kernel
theorem dX8_buy_273 : decode cX8_buy 273 = .ok (.if_icmp .ne 8, 3) := by decide +kernel
theorem dX8_buy_276 : decode cX8_buy 276 = .ok (.iload 6, 2) := by decide +kernel
theorem dX8_buy_278 : decode cX8_buy 278 = .ok (.goto 5, 3) := by decide +kernel
theorem dX8_buy_281 : decode cX8_buy 281 = .ok (.iload 7, 2) := by decide +kernel
theorem dX8_buy_283 : decode cX8_buy 283 = .ok (.ireturn, 1) := by decide +kernel
theorem dX8_copy_0 : decode cX8_copy 0 = .ok (.aload_n 0, 1) := by decide +kernel
theorem dX8_copy_1 : decode cX8_copy 1 = .ok (.getfield 19, 3) := by decide +kernel
theorem dX8_copy_4 : decode cX8_copy 4 = .ok (.iload_n 2, 1) := by decide +kernel
theorem dX8_copy_5 : decode cX8_copy 5 = .ok (.aload_n 0, 1) := by decide +kernel
theorem dX8_copy_6 : decode cX8_copy 6 = .ok (.getfield 19, 3) := by decide +kernel
theorem dX8_copy_9 : decode cX8_copy 9 = .ok (.iload_n 1, 1) := by decide +kernel
theorem dX8_copy_10 : decode cX8_copy 10 = .ok (.iaload, 1) := by decide +kernel
theorem dX8_copy_11 : decode cX8_copy 11 = .ok (.iastore, 1) := by decide +kernel
theorem dX8_copy_12 : decode cX8_copy 12 = .ok (.aload_n 0, 1) := by decide +kernel
theorem dX8_copy_13 : decode cX8_copy 13 = .ok (.getfield 25, 3) := by decide +kernel
theorem dX8_copy_16 : decode cX8_copy 16 = .ok (.iload_n 2, 1) := by decide +kernel
theorem dX8_copy_17 : decode cX8_copy 17 = .ok (.aload_n 0, 1) := by decide +kernel
theorem dX8_copy_18 : decode cX8_copy 18 = .ok (.getfield 25, 3) := by decide +kernel
theorem dX8_copy_21 : decode cX8_copy 21 = .ok (.iload_n 1, 1) := by decide +kernel
theorem dX8_copy_22 : decode cX8_copy 22 = .ok (.iaload, 1) := by decide +kernel
theorem dX8_copy_23 : decode cX8_copy 23 = .ok (.iastore, 1) := by decide +kernel
theorem dX8_copy_24 : decode cX8_copy 24 = .ok (.aload_n 0, 1) := by decide +kernel
theorem dX8_copy_25 : decode cX8_copy 25 = .ok (.getfield 31, 3) := by decide +kernel
theorem dX8_copy_28 : decode cX8_copy 28 = .ok (.iload_n 2, 1) := by decide +kernel
theorem dX8_copy_29 : decode cX8_copy 29 = .ok (.aload_n 0, 1) := by decide +kernel
theorem dX8_copy_30 : decode cX8_copy 30 = .ok (.getfield 31, 3) := by decide +kernel
theorem dX8_copy_33 : decode cX8_copy 33 = .ok (.iload_n 1, 1) := by decide +kernel
theorem dX8_copy_34 : decode cX8_copy 34 = .ok (.iaload, 1) := by decide +kernel
theorem dX8_copy_35 : decode cX8_copy 35 = .ok (.iastore, 1) := by decide +kernel
theorem dX8_copy_36 : decode cX8_copy 36 = .ok (.iconst 0, 1) := by decide +kernel
theorem dX8_copy_37 : decode cX8_copy 37 = .ok (.istore_n 3, 1) := by decide +kernel
theorem dX8_copy_38 : decode cX8_copy 38 = .ok (.iload_n 3, 1) := by decide +kernel
theorem dX8_copy_39 : decode cX8_copy 39 = .ok (.bipush 36, 2) := by decide +kernel
theorem dX8_copy_41 : decode cX8_copy 41 = .ok (.if_icmp .ge 31, 3) := by decide +kernel
theorem dX8_copy_44 : decode cX8_copy 44 = .ok (.aload_n 0, 1) := by decide +kernel
theorem dX8_copy_45 : decode cX8_copy 45 = .ok (.getfield 22, 3) := by decide +kernel
theorem dX8_copy_48 : decode cX8_copy 48 = .ok (.bipush 36, 2) := by decide +kernel
theorem dX8_copy_50 : decode cX8_copy 50 = .ok (.iload_n 2, 1) := by decide +kernel
theorem dX8_copy_51 : decode cX8_copy 51 = .ok (.imul, 1) := by decide +kernel
theorem dX8_copy_52 : decode cX8_copy 52 = .ok (.iload_n 3, 1) := by decide +kernel
theorem dX8_copy_53 : decode cX8_copy 53 = .ok (.iadd, 1) := by decide +kernel
theorem dX8_copy_54 : decode cX8_copy 54 = .ok (.aload_n 0, 1) := by decide +kernel
theorem dX8_copy_55 : decode cX8_copy 55 = .ok (.getfield 22, 3) := by decide +kernel
theorem dX8_copy_58 : decode cX8_copy 58 = .ok (.bipush 36, 2) := by decide +kernel
theorem dX8_copy_60 : decode cX8_copy 60 = .ok (.iload_n 1, 1) := by decide +kernel
theorem dX8_copy_61 : decode cX8_copy 61 = .ok (.imul, 1) := by decide +kernel
theorem dX8_copy_62 : decode cX8_copy 62 = .ok (.iload_n 3, 1) := by decide +kernel
theorem dX8_copy_63 : decode cX8_copy 63 = .ok (.iadd, 1) := by decide +kernel
theorem dX8_copy_64 : decode cX8_copy 64 = .ok (.iaload, 1) := by decide +kernel
theorem dX8_copy_65 : decode cX8_copy 65 = .ok (.iastore, 1) := by decide +kernel
theorem dX8_copy_66 : decode cX8_copy 66 = .ok (.iinc 3 1, 3) := by decide +kernel
theorem dX8_copy_69 : decode cX8_copy 69 = .ok (.goto (-31), 3) := by decide +kernel
theorem dX8_copy_72 : decode cX8_copy 72 = .ok (.iconst 0, 1) := by decide +kernel
theorem dX8_copy_73 : decode cX8_copy 73 = .ok (.istore_n 3, 1) := by decide +kernel
theorem dX8_copy_74 : decode cX8_copy 74 = .ok (.iload_n 3, 1) := by decide +kernel
theorem dX8_copy_75 : decode cX8_copy 75 = .ok (.bipush 40, 2) := by decide +kernel
theorem dX8_copy_77 : decode cX8_copy 77 = .ok (.if_icmp .ge 31, 3) := by decide +kernel
theorem dX8_copy_80 : decode cX8_copy 80 = .ok (.aload_n 0, 1) := by decide +kernel
theorem dX8_copy_81 : decode cX8_copy 81 = .ok (.getfield 28, 3) := by decide +kernel
theorem dX8_copy_84 : decode cX8_copy 84 = .ok (.bipush 40, 2) := by decide +kernel
theorem dX8_copy_86 : decode cX8_copy 86 = .ok (.iload_n 2, 1) := by decide +kernel
theorem dX8_copy_87 : decode cX8_copy 87 = .ok (.imul, 1) := by decide +kernel
theorem dX8_copy_88 : decode cX8_copy 88 = .ok (.iload_n 3, 1) := by decide +kernel
theorem dX8_copy_89 : decode cX8_copy 89 = .ok (.iadd, 1) := by decide +kernel
theorem dX8_copy_90 : decode cX8_copy 90 = .ok (.aload_n 0, 1) := by decide +kernel
theorem dX8_copy_91 : decode cX8_copy 91 = .ok (.getfield 28, 3) := by decide +kernel
theorem dX8_copy_94 : decode cX8_copy 94 = .ok (.bipush 40, 2) := by decide +kernel
theorem dX8_copy_96 : decode cX8_copy 96 = .ok (.iload_n 1, 1) := by decide +kernel
theorem dX8_copy_97 : decode cX8_copy 97 = .ok (.imul, 1) := by decide +kernel
theorem dX8_copy_98 : decode cX8_copy 98 = .ok (.iload_n 3, 1) := by decide +kernel
theorem dX8_copy_99 : decode cX8_copy 99 = .ok (.iadd, 1) := by decide +kernel
theorem dX8_copy_100 : decode cX8_copy 100 = .ok (.iaload, 1) := by decide +kernel
theorem dX8_copy_101 : decode cX8_copy 101 = .ok (.iastore, 1) := by decide +kernel
theorem dX8_copy_102 : decode cX8_copy 102 = .ok (.iinc 3 1, 3) := by decide +kernel
theorem dX8_copy_105 : decode cX8_copy 105 = .ok (.goto (-31), 3) := by decide +kernel
theorem dX8_copy_108 : decode cX8_copy 108 = .ok (.iconst 0, 1) := by decide +kernel
theorem dX8_copy_109 : decode cX8_copy 109 = .ok (.istore_n 3, 1) := by decide +kernel
theorem dX8_copy_110 : decode cX8_copy 110 = .ok (.iload_n 3, 1) := by decide +kernel
theorem dX8_copy_111 : decode cX8_copy 111 = .ok (.sipush 180, 3) := by decide +kernel
theorem dX8_copy_114 : decode cX8_copy 114 = .ok (.if_icmp .ge 33, 3) := by decide +kernel
theorem dX8_copy_117 : decode cX8_copy 117 = .ok (.aload_n 0, 1) := by decide +kernel
theorem dX8_copy_118 : decode cX8_copy 118 = .ok (.getfield 34, 3) := by decide +kernel
theorem dX8_copy_121 : decode cX8_copy 121 = .ok (.sipush 180, 3) := by decide +kernel
theorem dX8_copy_124 : decode cX8_copy 124 = .ok (.iload_n 2, 1) := by decide +kernel
theorem dX8_copy_125 : decode cX8_copy 125 = .ok (.imul, 1) := by decide +kernel
theorem dX8_copy_126 : decode cX8_copy 126 = .ok (.iload_n 3, 1) := by decide +kernel
theorem dX8_copy_127 : decode cX8_copy 127 = .ok (.iadd, 1) := by decide +kernel
theorem dX8_copy_128 : decode cX8_copy 128 = .ok (.aload_n 0, 1) := by decide +kernel
theorem dX8_copy_129 : decode cX8_copy 129 = .ok (.getfield 34, 3) := by decide +kernel
theorem dX8_copy_132 : decode cX8_copy 132 = .ok (.sipush 180, 3) := by decide +kernel
theorem dX8_copy_135 : decode cX8_copy 135 = .ok (.iload_n 1, 1) := by decide +kernel
theorem dX8_copy_136 : decode cX8_copy 136 = .ok (.imul, 1) := by decide +kernel
theorem dX8_copy_137 : decode cX8_copy 137 = .ok (.iload_n 3, 1) := by decide +kernel
theorem dX8_copy_138 : decode cX8_copy 138 = .ok (.iadd, 1) := by decide +kernel
theorem dX8_copy_139 : decode cX8_copy 139 = .ok (.iaload, 1) := by decide +kernel
theorem dX8_copy_140 : decode cX8_copy 140 = .ok (.iastore, 1) := by decide +kernel
theorem dX8_copy_141 : decode cX8_copy 141 = .ok (.iinc 3 1, 3) := by decide +kernel
theorem dX8_copy_144 : decode cX8_copy 144 = .ok (.goto (-34), 3) := by decide +kernel
theorem dX8_copy_147 : decode cX8_copy 147 = .ok (.iconst 0, 1) := by decide +kernel
theorem dX8_copy_148 : decode cX8_copy 148 = .ok (.istore_n 3, 1) := by decide +kernel
theorem dX8_copy_149 : decode cX8_copy 149 = .ok (.iload_n 3, 1) := by decide +kernel
theorem dX8_copy_150 : decode cX8_copy 150 = .ok (.bipush 20, 2) := by decide +kernel
theorem dX8_copy_152 : decode cX8_copy 152 = .ok (.if_icmp .ge 31, 3) := by decide +kernel
theorem dX8_copy_155 : decode cX8_copy 155 = .ok (.aload_n 0, 1) := by decide +kernel
theorem dX8_copy_156 : decode cX8_copy 156 = .ok (.getfield 37, 3) := by decide +kernel
theorem dX8_copy_159 : decode cX8_copy 159 = .ok (.bipush 20, 2) := by decide +kernel
theorem dX8_copy_161 : decode cX8_copy 161 = .ok (.iload_n 2, 1) := by decide +kernel
theorem dX8_copy_162 : decode cX8_copy 162 = .ok (.imul, 1) := by decide +kernel
theorem dX8_copy_163 : decode cX8_copy 163 = .ok (.iload_n 3, 1) := by decide +kernel
theorem dX8_copy_164 : decode cX8_copy 164 = .ok (.iadd, 1) := by decide +kernel
theorem dX8_copy_165 : decode cX8_copy 165 = .ok (.aload_n 0, 1) := by decide +kernel
theorem dX8_copy_166 : decode cX8_copy 166 = .ok (.getfield 37, 3) := by decide +kernel
theorem dX8_copy_169 : decode cX8_copy 169 = .ok (.bipush 20, 2) := by decide +kernel
theorem dX8_copy_171 : decode cX8_copy 171 = .ok (.iload_n 1, 1) := by decide +kernel
theorem dX8_copy_172 : decode cX8_copy 172 = .ok (.imul, 1) := by decide +kernel
theorem dX8_copy_173 : decode cX8_copy 173 = .ok (.iload_n 3, 1) := by decide +kernel
theorem dX8_copy_174 : decode cX8_copy 174 = .ok (.iadd, 1) := by decide +kernel
theorem dX8_copy_175 : decode cX8_copy 175 = .ok (.iaload, 1) := by decide +kernel
theorem dX8_copy_176 : decode cX8_copy 176 = .ok (.iastore, 1) := by decide +kernel
theorem dX8_copy_177 : decode cX8_copy 177 = .ok (.iinc 3 1, 3) := by decide +kernel
theorem dX8_copy_180 : decode cX8_copy 180 = .ok (.goto (-31), 3) := by decide +kernel
theorem dX8_copy_183 : decode cX8_copy 183 = .ok (.iconst 0, 1) := by decide +kernel
theorem dX8_copy_184 : decode cX8_copy 184 = .ok (.istore_n 3, 1) := by decide +kernel
theorem dX8_copy_185 : decode cX8_copy 185 = .ok (.iload_n 3, 1) := by decide +kernel
theorem dX8_copy_186 : decode cX8_copy 186 = .ok (.bipush 10, 2) := by decide +kernel
theorem dX8_copy_188 : decode cX8_copy 188 = .ok (.if_icmp .ge 31, 3) := by decide +kernel
theorem dX8_copy_191 : decode cX8_copy 191 = .ok (.aload_n 0, 1) := by decide +kernel
theorem dX8_copy_192 : decode cX8_copy 192 = .ok (.getfield 40, 3) := by decide +kernel
theorem dX8_copy_195 : decode cX8_copy 195 = .ok (.bipush 10, 2) := by decide +kernel
theorem dX8_copy_197 : decode cX8_copy 197 = .ok (.iload_n 2, 1) := by decide +kernel
theorem dX8_copy_198 : decode cX8_copy 198 = .ok (.imul, 1) := by decide +kernel
theorem dX8_copy_199 : decode cX8_copy 199 = .ok (.iload_n 3, 1) := by decide +kernel
theorem dX8_copy_200 : decode cX8_copy 200 = .ok (.iadd, 1) := by decide +kernel
theorem dX8_copy_201 : decode cX8_copy 201 = .ok (.aload_n 0, 1) := by decide +kernel
theorem dX8_copy_202 : decode cX8_copy 202 = .ok (.getfield 40, 3) := by decide +kernel
theorem dX8_copy_205 : decode cX8_copy 205 = .ok (.bipush 10, 2) := by decide +kernel
theorem dX8_copy_207 : decode cX8_copy 207 = .ok (.iload_n 1, 1) := by decide +kernel
theorem dX8_copy_208 : decode cX8_copy 208 = .ok (.imul, 1) := by decide +kernel
theorem dX8_copy_209 : decode cX8_copy 209 = .ok (.iload_n 3, 1) := by decide +kernel
theorem dX8_copy_210 : decode cX8_copy 210 = .ok (.iadd, 1) := by decide +kernel
theorem dX8_copy_211 : decode cX8_copy 211 = .ok (.iaload, 1) := by decide +kernel
theorem dX8_copy_212 : decode cX8_copy 212 = .ok (.iastore, 1) := by decide +kernel
theorem dX8_copy_213 : decode cX8_copy 213 = .ok (.iinc 3 1, 3) := by decide +kernel
theorem dX8_copy_216 : decode cX8_copy 216 = .ok (.goto (-31), 3) := by decide +kernel
theorem dX8_copy_219 : decode cX8_copy 219 = .ok (.return_, 1) := by decide +kernel
theorem dX8_keep_0 : decode cX8_keep 0 = .ok (.aload_n 0, 1) := by decide +kernel
theorem dX8_keep_1 : decode cX8_keep 1 = .ok (.getfield 231, 3) := by decide +kernel
theorem dX8_keep_4 : decode cX8_keep 4 = .ok (.iconst 2, 1) := by decide +kernel
theorem dX8_keep_5 : decode cX8_keep 5 = .ok (.if_icmp .ne 6, 3) := by decide +kernel
theorem dX8_keep_8 : decode cX8_keep 8 = .ok (.bipush (-3), 2) := by decide +kernel
theorem dX8_keep_10 : decode cX8_keep 10 = .ok (.ireturn, 1) := by decide +kernel
theorem dX8_keep_11 : decode cX8_keep 11 = .ok (.aload_n 0, 1) := by decide +kernel
theorem dX8_keep_12 : decode cX8_keep 12 = .ok (.iconst 0, 1) := by decide +kernel
theorem dX8_keep_13 : decode cX8_keep 13 = .ok (.iconst 1, 1) := by decide +kernel
theorem dX8_keep_14 : decode cX8_keep 14 = .ok (.aload_n 0, 1) := by decide +kernel
theorem dX8_keep_15 : decode cX8_keep 15 = .ok (.getfield 231, 3) := by decide +kernel
theorem dX8_keep_18 : decode cX8_keep 18 = .ok (.iadd, 1) := by decide +kernel
theorem dX8_keep_19 : decode cX8_keep 19 = .ok (.invokevirtual 234, 3) := by decide +kernel
theorem dX8_keep_22 : decode cX8_keep 22 = .ok (.aload_n 0, 1) := by decide +kernel
theorem dX8_keep_23 : decode cX8_keep 23 = .ok (.dup, 1) := by decide +kernel
theorem dX8_keep_24 : decode cX8_keep 24 = .ok (.getfield 231, 3) := by decide +kernel
theorem dX8_keep_27 : decode cX8_keep 27 = .ok (.iconst 1, 1) := by decide +kernel
theorem dX8_keep_28 : decode cX8_keep 28 = .ok (.iadd, 1) := by decide +kernel
theorem dX8_keep_29 : decode cX8_keep 29 = .ok (.putfield 231, 3) := by decide +kernel
theorem dX8_keep_32 : decode cX8_keep 32 = .ok (.aload_n 0, 1) := by decide +kernel
theorem dX8_keep_33 : decode cX8_keep 33 = .ok (.getfield 231, 3) := by decide +kernel
theorem dX8_keep_36 : decode cX8_keep 36 = .ok (.ireturn, 1) := by decide +kernel
