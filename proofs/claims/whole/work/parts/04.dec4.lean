theorem dX9_furthest_153 : decode cX9_furthest 153 = .ok (.iinc 6 1, 3) := by decide +kernel
theorem dX9_furthest_156 : decode cX9_furthest 156 = .ok (.goto (-49), 3) := by decide +kernel
theorem dX9_furthest_159 : decode cX9_furthest 159 = .ok (.iinc 5 1, 3) := by decide +kernel
theorem dX9_furthest_162 : decode cX9_furthest 162 = .ok (.goto (-106), 3) := by decide +kernel
theorem dX9_furthest_165 : decode cX9_furthest 165 = .ok (.iload_n 2, 1) := by decide +kernel
theorem dX9_furthest_166 : decode cX9_furthest 166 = .ok (.ifCond .ne 7, 3) := by decide +kernel
theorem dX9_furthest_169 : decode cX9_furthest 169 = .ok (.iload_n 3, 1) := by decide +kernel
theorem dX9_furthest_170 : decode cX9_furthest 170 = .ok (.goto 19, 3) := by decide +kernel
theorem dX9_furthest_173 : decode cX9_furthest 173 = .ok (.iload_n 2, 1) := by decide +kernel
theorem dX9_furthest_174 : decode cX9_furthest 174 = .ok (.iconst 1, 1) := by decide +kernel
theorem dX9_furthest_175 : decode cX9_furthest 175 = .ok (.if_icmp .ne 12, 3) := by decide +kernel
theorem dX9_furthest_178 : decode cX9_furthest 178 = .ok (.aload_n 0, 1) := by decide +kernel
theorem dX9_furthest_179 : decode cX9_furthest 179 = .ok (.getfield 38, 3) := by decide +kernel
theorem dX9_furthest_182 : decode cX9_furthest 182 = .ok (.iload_n 3, 1) := by decide +kernel
theorem dX9_furthest_183 : decode cX9_furthest 183 = .ok (.iaload, 1) := by decide +kernel
theorem dX9_furthest_184 : decode cX9_furthest 184 = .ok (.goto 5, 3) := by decide +kernel
theorem dX9_furthest_187 : decode cX9_furthest 187 = .ok (.iload 4, 2) := by decide +kernel
theorem dX9_furthest_189 : decode cX9_furthest 189 = .ok (.ireturn, 1) := by decide +kernel
theorem dX9_gathersBoth_0 : decode cX9_gathersBoth 0 = .ok (.iconst 0, 1) := by decide +kernel
theorem dX9_gathersBoth_1 : decode cX9_gathersBoth 1 = .ok (.istore_n 1, 1) := by decide +kernel
theorem dX9_gathersBoth_2 : decode cX9_gathersBoth 2 = .ok (.iload_n 1, 1) := by decide +kernel
theorem dX9_gathersBoth_3 : decode cX9_gathersBoth 3 = .ok (.sipush 1296, 3) := by decide +kernel
theorem dX9_gathersBoth_6 : decode cX9_gathersBoth 6 = .ok (.if_icmp .ge 33, 3) := by decide +kernel
theorem dX9_gathersBoth_9 : decode cX9_gathersBoth 9 = .ok (.aload_n 0, 1) := by decide +kernel
theorem dX9_gathersBoth_10 : decode cX9_gathersBoth 10 = .ok (.getfield 41, 3) := by decide +kernel
theorem dX9_gathersBoth_13 : decode cX9_gathersBoth 13 = .ok (.iload_n 1, 1) := by decide +kernel
theorem dX9_gathersBoth_14 : decode cX9_gathersBoth 14 = .ok (.iload_n 1, 1) := by decide +kernel
theorem dX9_gathersBoth_15 : decode cX9_gathersBoth 15 = .ok (.bipush 36, 2) := by decide +kernel
theorem dX9_gathersBoth_17 : decode cX9_gathersBoth 17 = .ok (.idiv, 1) := by decide +kernel
theorem dX9_gathersBoth_18 : decode cX9_gathersBoth 18 = .ok (.iload_n 1, 1) := by decide +kernel
theorem dX9_gathersBoth_19 : decode cX9_gathersBoth 19 = .ok (.bipush 36, 2) := by decide +kernel
theorem dX9_gathersBoth_21 : decode cX9_gathersBoth 21 = .ok (.irem, 1) := by decide +kernel
theorem dX9_gathersBoth_22 : decode cX9_gathersBoth 22 = .ok (.if_icmp .ne 7, 3) := by decide +kernel
theorem dX9_gathersBoth_25 : decode cX9_gathersBoth 25 = .ok (.iconst 0, 1) := by decide +kernel
theorem dX9_gathersBoth_26 : decode cX9_gathersBoth 26 = .ok (.goto 6, 3) := by decide +kernel
theorem dX9_gathersBoth_29 : decode cX9_gathersBoth 29 = .ok (.ldc_w 369, 3) := by decide +kernel
theorem dX9_gathersBoth_32 : decode cX9_gathersBoth 32 = .ok (.iastore, 1) := by decide +kernel
theorem dX9_gathersBoth_33 : decode cX9_gathersBoth 33 = .ok (.iinc 1 1, 3) := by decide +kernel
theorem dX9_gathersBoth_36 : decode cX9_gathersBoth 36 = .ok (.goto (-34), 3) := by decide +kernel
theorem dX9_gathersBoth_39 : decode cX9_gathersBoth 39 = .ok (.iconst 1, 1) := by decide +kernel
theorem dX9_gathersBoth_40 : decode cX9_gathersBoth 40 = .ok (.istore_n 1, 1) := by decide +kernel
theorem dX9_gathersBoth_41 : decode cX9_gathersBoth 41 = .ok (.iload_n 1, 1) := by decide +kernel
theorem dX9_gathersBoth_42 : decode cX9_gathersBoth 42 = .ok (.ifCond .eq 81, 3) := by decide +kernel
theorem dX9_gathersBoth_45 : decode cX9_gathersBoth 45 = .ok (.iconst 0, 1) := by decide +kernel
theorem dX9_gathersBoth_46 : decode cX9_gathersBoth 46 = .ok (.istore_n 1, 1) := by decide +kernel
theorem dX9_gathersBoth_47 : decode cX9_gathersBoth 47 = .ok (.iconst 0, 1) := by decide +kernel
theorem dX9_gathersBoth_48 : decode cX9_gathersBoth 48 = .ok (.istore_n 2, 1) := by decide +kernel
theorem dX9_gathersBoth_49 : decode cX9_gathersBoth 49 = .ok (.iload_n 2, 1) := by decide +kernel
theorem dX9_gathersBoth_50 : decode cX9_gathersBoth 50 = .ok (.sipush 1296, 3) := by decide +kernel
theorem dX9_gathersBoth_53 : decode cX9_gathersBoth 53 = .ok (.if_icmp .ge 67, 3) := by decide +kernel
theorem dX9_gathersBoth_56 : decode cX9_gathersBoth 56 = .ok (.iconst 0, 1) := by decide +kernel
theorem dX9_gathersBoth_57 : decode cX9_gathersBoth 57 = .ok (.istore_n 3, 1) := by decide +kernel
theorem dX9_gathersBoth_58 : decode cX9_gathersBoth 58 = .ok (.iload_n 3, 1) := by decide +kernel
theorem dX9_gathersBoth_59 : decode cX9_gathersBoth 59 = .ok (.bipush 8, 2) := by decide +kernel
theorem dX9_gathersBoth_61 : decode cX9_gathersBoth 61 = .ok (.if_icmp .ge 53, 3) := by decide +kernel
theorem dX9_gathersBoth_64 : decode cX9_gathersBoth 64 = .ok (.aload_n 0, 1) := by decide +kernel
theorem dX9_gathersBoth_65 : decode cX9_gathersBoth 65 = .ok (.getfield 41, 3) := by decide +kernel
theorem dX9_gathersBoth_68 : decode cX9_gathersBoth 68 = .ok (.aload_n 0, 1) := by decide +kernel
theorem dX9_gathersBoth_69 : decode cX9_gathersBoth 69 = .ok (.iload_n 2, 1) := by decide +kernel
theorem dX9_gathersBoth_70 : decode cX9_gathersBoth 70 = .ok (.iload_n 3, 1) := by decide +kernel
theorem dX9_gathersBoth_71 : decode cX9_gathersBoth 71 = .ok (.invokevirtual 388, 3) := by decide +kernel
theorem dX9_gathersBoth_74 : decode cX9_gathersBoth 74 = .ok (.iaload, 1) := by decide +kernel
theorem dX9_gathersBoth_75 : decode cX9_gathersBoth 75 = .ok (.iconst 1, 1) := by decide +kernel
theorem dX9_gathersBoth_76 : decode cX9_gathersBoth 76 = .ok (.iadd, 1) := by decide +kernel
theorem dX9_gathersBoth_77 : decode cX9_gathersBoth 77 = .ok (.istore 4, 2) := by decide +kernel
theorem dX9_gathersBoth_79 : decode cX9_gathersBoth 79 = .ok (.iload 4, 2) := by decide +kernel
theorem dX9_gathersBoth_81 : decode cX9_gathersBoth 81 = .ok (.aload_n 0, 1) := by decide +kernel
theorem dX9_gathersBoth_82 : decode cX9_gathersBoth 82 = .ok (.getfield 41, 3) := by decide +kernel
theorem dX9_gathersBoth_85 : decode cX9_gathersBoth 85 = .ok (.iload_n 2, 1) := by decide +kernel
theorem dX9_gathersBoth_86 : decode cX9_gathersBoth 86 = .ok (.iaload, 1) := by decide +kernel
theorem dX9_gathersBoth_87 : decode cX9_gathersBoth 87 = .ok (.if_icmp .ge 21, 3) := by decide +kernel
theorem dX9_gathersBoth_90 : decode cX9_gathersBoth 90 = .ok (.iload 4, 2) := by decide +kernel
theorem dX9_gathersBoth_92 : decode cX9_gathersBoth 92 = .ok (.ldc_w 369, 3) := by decide +kernel
theorem dX9_gathersBoth_95 : decode cX9_gathersBoth 95 = .ok (.if_icmp .ge 13, 3) := by decide +kernel
theorem dX9_gathersBoth_98 : decode cX9_gathersBoth 98 = .ok (.aload_n 0, 1) := by decide +kernel
theorem dX9_gathersBoth_99 : decode cX9_gathersBoth 99 = .ok (.getfield 41, 3) := by decide +kernel
theorem dX9_gathersBoth_102 : decode cX9_gathersBoth 102 = .ok (.iload_n 2, 1) := by decide +kernel
theorem dX9_gathersBoth_103 : decode cX9_gathersBoth 103 = .ok (.iload 4, 2) := by decide +kernel
theorem dX9_gathersBoth_105 : decode cX9_gathersBoth 105 = .ok (.iastore, 1) := by decide +kernel
theorem dX9_gathersBoth_106 : decode cX9_gathersBoth 106 = .ok (.iconst 1, 1) := by decide +kernel
theorem dX9_gathersBoth_107 : decode cX9_gathersBoth 107 = .ok (.istore_n 1, 1) := by decide +kernel
theorem dX9_gathersBoth_108 : decode cX9_gathersBoth 108 = .ok (.iinc 3 1, 3) := by decide +kernel
theorem dX9_gathersBoth_111 : decode cX9_gathersBoth 111 = .ok (.goto (-53), 3) := by decide +kernel
theorem dX9_gathersBoth_114 : decode cX9_gathersBoth 114 = .ok (.iinc 2 1, 3) := by decide +kernel
theorem dX9_gathersBoth_117 : decode cX9_gathersBoth 117 = .ok (.goto (-68), 3) := by decide +kernel
theorem dX9_gathersBoth_120 : decode cX9_gathersBoth 120 = .ok (.goto (-79), 3) := by decide +kernel
theorem dX9_gathersBoth_123 : decode cX9_gathersBoth 123 = .ok (.return_, 1) := by decide +kernel
theorem dX9_bothLead_0 : decode cX9_bothLead 0 = .ok (.bipush 36, 2) := by decide +kernel
theorem dX9_bothLead_2 : decode cX9_bothLead 2 = .ok (.aload_n 0, 1) := by decide +kernel
theorem dX9_bothLead_3 : decode cX9_bothLead 3 = .ok (.getfield 32, 3) := by decide +kernel
theorem dX9_bothLead_6 : decode cX9_bothLead 6 = .ok (.bipush 8, 2) := by decide +kernel
theorem dX9_bothLead_8 : decode cX9_bothLead 8 = .ok (.iload_n 1, 1) := by decide +kernel
theorem dX9_bothLead_9 : decode cX9_bothLead 9 = .ok (.bipush 36, 2) := by decide +kernel
theorem dX9_bothLead_11 : decode cX9_bothLead 11 = .ok (.idiv, 1) := by decide +kernel
theorem dX9_bothLead_12 : decode cX9_bothLead 12 = .ok (.imul, 1) := by decide +kernel
theorem dX9_bothLead_13 : decode cX9_bothLead 13 = .ok (.iload_n 2, 1) := by decide +kernel
theorem dX9_bothLead_14 : decode cX9_bothLead 14 = .ok (.iadd, 1) := by decide +kernel
theorem dX9_bothLead_15 : decode cX9_bothLead 15 = .ok (.iaload, 1) := by decide +kernel
theorem dX9_bothLead_16 : decode cX9_bothLead 16 = .ok (.imul, 1) := by decide +kernel
theorem dX9_bothLead_17 : decode cX9_bothLead 17 = .ok (.aload_n 0, 1) := by decide +kernel
theorem dX9_bothLead_18 : decode cX9_bothLead 18 = .ok (.getfield 35, 3) := by decide +kernel
theorem dX9_bothLead_21 : decode cX9_bothLead 21 = .ok (.bipush 8, 2) := by decide +kernel
theorem dX9_bothLead_23 : decode cX9_bothLead 23 = .ok (.iload_n 1, 1) := by decide +kernel
theorem dX9_bothLead_24 : decode cX9_bothLead 24 = .ok (.bipush 36, 2) := by decide +kernel
theorem dX9_bothLead_26 : decode cX9_bothLead 26 = .ok (.irem, 1) := by decide +kernel
theorem dX9_bothLead_27 : decode cX9_bothLead 27 = .ok (.imul, 1) := by decide +kernel
theorem dX9_bothLead_28 : decode cX9_bothLead 28 = .ok (.iload_n 2, 1) := by decide +kernel
theorem dX9_bothLead_29 : decode cX9_bothLead 29 = .ok (.iadd, 1) := by decide +kernel
theorem dX9_bothLead_30 : decode cX9_bothLead 30 = .ok (.iaload, 1) := by decide +kernel
theorem dX9_bothLead_31 : decode cX9_bothLead 31 = .ok (.iadd, 1) := by decide +kernel
theorem dX9_bothLead_32 : decode cX9_bothLead 32 = .ok (.ireturn, 1) := by decide +kernel
theorem dX9_meet_0 : decode cX9_meet 0 = .ok (.aload_n 0, 1) := by decide +kernel
theorem dX9_meet_1 : decode cX9_meet 1 = .ok (.iload_n 1, 1) := by decide +kernel
theorem dX9_meet_2 : decode cX9_meet 2 = .ok (.invokevirtual 95, 3) := by decide +kernel
theorem dX9_meet_5 : decode cX9_meet 5 = .ok (.ifCond .eq 26, 3) := by decide +kernel
theorem dX9_meet_8 : decode cX9_meet 8 = .ok (.aload_n 0, 1) := by decide +kernel
theorem dX9_meet_9 : decode cX9_meet 9 = .ok (.iload_n 2, 1) := by decide +kernel
theorem dX9_meet_10 : decode cX9_meet 10 = .ok (.invokevirtual 95, 3) := by decide +kernel
theorem dX9_meet_13 : decode cX9_meet 13 = .ok (.ifCond .eq 18, 3) := by decide +kernel
theorem dX9_meet_16 : decode cX9_meet 16 = .ok (.iload_n 1, 1) := by decide +kernel
theorem dX9_meet_17 : decode cX9_meet 17 = .ok (.iload_n 2, 1) := by decide +kernel
theorem dX9_meet_18 : decode cX9_meet 18 = .ok (.if_icmp .eq 13, 3) := by decide +kernel
theorem dX9_meet_21 : decode cX9_meet 21 = .ok (.iload_n 3, 1) := by decide +kernel
theorem dX9_meet_22 : decode cX9_meet 22 = .ok (.i2l, 1) := by decide +kernel
theorem dX9_meet_23 : decode cX9_meet 23 = .ok (.lconst 0, 1) := by decide +kernel
theorem dX9_meet_24 : decode cX9_meet 24 = .ok (.lconst 1, 1) := by decide +kernel
theorem dX9_meet_25 : decode cX9_meet 25 = .ok (.invokestatic 83, 3) := by decide +kernel
theorem dX9_meet_28 : decode cX9_meet 28 = .ok (.ifCond .ne 6, 3) := by decide +kernel
theorem dX9_meet_31 : decode cX9_meet 31 = .ok (.bipush (-2), 2) := by decide +kernel
theorem dX9_meet_33 : decode cX9_meet 33 = .ok (.ireturn, 1) := by decide +kernel
theorem dX9_meet_34 : decode cX9_meet 34 = .ok (.aload_n 0, 1) := by decide +kernel
theorem dX9_meet_35 : decode cX9_meet 35 = .ok (.iload_n 1, 1) := by decide +kernel
theorem dX9_meet_36 : decode cX9_meet 36 = .ok (.aload_n 0, 1) := by decide +kernel
theorem dX9_meet_37 : decode cX9_meet 37 = .ok (.getfield 32, 3) := by decide +kernel
theorem dX9_meet_40 : decode cX9_meet 40 = .ok (.invokevirtual 370, 3) := by decide +kernel
theorem dX9_meet_43 : decode cX9_meet 43 = .ok (.aload_n 0, 1) := by decide +kernel
theorem dX9_meet_44 : decode cX9_meet 44 = .ok (.iload_n 2, 1) := by decide +kernel
theorem dX9_meet_45 : decode cX9_meet 45 = .ok (.aload_n 0, 1) := by decide +kernel
theorem dX9_meet_46 : decode cX9_meet 46 = .ok (.getfield 35, 3) := by decide +kernel
theorem dX9_meet_49 : decode cX9_meet 49 = .ok (.invokevirtual 370, 3) := by decide +kernel
theorem dX9_meet_52 : decode cX9_meet 52 = .ok (.aload_n 0, 1) := by decide +kernel
theorem dX9_meet_53 : decode cX9_meet 53 = .ok (.invokevirtual 391, 3) := by decide +kernel
theorem dX9_meet_56 : decode cX9_meet 56 = .ok (.bipush 36, 2) := by decide +kernel
theorem dX9_meet_58 : decode cX9_meet 58 = .ok (.aload_n 0, 1) := by decide +kernel
theorem dX9_meet_59 : decode cX9_meet 59 = .ok (.getfield 29, 3) := by decide +kernel
theorem dX9_meet_62 : decode cX9_meet 62 = .ok (.iconst 3, 1) := by decide +kernel
theorem dX9_meet_63 : decode cX9_meet 63 = .ok (.iload_n 1, 1) := by decide +kernel
theorem dX9_meet_64 : decode cX9_meet 64 = .ok (.imul, 1) := by decide +kernel
theorem dX9_meet_65 : decode cX9_meet 65 = .ok (.iconst 1, 1) := by decide +kernel
theorem dX9_meet_66 : decode cX9_meet 66 = .ok (.iadd, 1) := by decide +kernel
theorem dX9_meet_67 : decode cX9_meet 67 = .ok (.iaload, 1) := by decide +kernel
theorem dX9_meet_68 : decode cX9_meet 68 = .ok (.imul, 1) := by decide +kernel
theorem dX9_meet_69 : decode cX9_meet 69 = .ok (.aload_n 0, 1) := by decide +kernel
theorem dX9_meet_70 : decode cX9_meet 70 = .ok (.getfield 29, 3) := by decide +kernel
theorem dX9_meet_73 : decode cX9_meet 73 = .ok (.iconst 3, 1) := by decide +kernel
theorem dX9_meet_74 : decode cX9_meet 74 = .ok (.iload_n 2, 1) := by decide +kernel
theorem dX9_meet_75 : decode cX9_meet 75 = .ok (.imul, 1) := by decide +kernel
theorem dX9_meet_76 : decode cX9_meet 76 = .ok (.iconst 1, 1) := by decide +kernel
theorem dX9_meet_77 : decode cX9_meet 77 = .ok (.iadd, 1) := by decide +kernel
theorem dX9_meet_78 : decode cX9_meet 78 = .ok (.iaload, 1) := by decide +kernel
theorem dX9_meet_79 : decode cX9_meet 79 = .ok (.iadd, 1) := by decide +kernel
theorem dX9_meet_80 : decode cX9_meet 80 = .ok (.istore 4, 2) := by decide +kernel
theorem dX9_meet_82 : decode cX9_meet 82 = .ok (.aload_n 0, 1) := by decide +kernel
theorem dX9_meet_83 : decode cX9_meet 83 = .ok (.getfield 41, 3) := by decide +kernel
theorem dX9_meet_86 : decode cX9_meet 86 = .ok (.iload 4, 2) := by decide +kernel
theorem dX9_meet_88 : decode cX9_meet 88 = .ok (.iaload, 1) := by decide +kernel
theorem dX9_meet_89 : decode cX9_meet 89 = .ok (.ldc_w 369, 3) := by decide +kernel
theorem dX9_meet_92 : decode cX9_meet 92 = .ok (.if_icmp .eq 7, 3) := by decide +kernel
theorem dX9_meet_95 : decode cX9_meet 95 = .ok (.iload_n 3, 1) := by decide +kernel
theorem dX9_meet_96 : decode cX9_meet 96 = .ok (.ifCond .ne 28, 3) := by decide +kernel
theorem dX9_meet_99 : decode cX9_meet 99 = .ok (.aload_n 0, 1) := by decide +kernel
theorem dX9_meet_100 : decode cX9_meet 100 = .ok (.getfield 41, 3) := by decide +kernel
theorem dX9_meet_103 : decode cX9_meet 103 = .ok (.iload 4, 2) := by decide +kernel
theorem dX9_meet_105 : decode cX9_meet 105 = .ok (.iaload, 1) := by decide +kernel
theorem dX9_meet_106 : decode cX9_meet 106 = .ok (.ldc_w 369, 3) := by decide +kernel
theorem dX9_meet_109 : decode cX9_meet 109 = .ok (.if_icmp .ne 7, 3) := by decide +kernel
theorem dX9_meet_112 : decode cX9_meet 112 = .ok (.iconst (-1), 1) := by decide +kernel
theorem dX9_meet_113 : decode cX9_meet 113 = .ok (.goto 10, 3) := by decide +kernel
theorem dX9_meet_116 : decode cX9_meet 116 = .ok (.aload_n 0, 1) := by decide +kernel
theorem dX9_meet_117 : decode cX9_meet 117 = .ok (.getfield 41, 3) := by decide +kernel
theorem dX9_meet_120 : decode cX9_meet 120 = .ok (.iload 4, 2) := by decide +kernel
theorem dX9_meet_122 : decode cX9_meet 122 = .ok (.iaload, 1) := by decide +kernel
theorem dX9_meet_123 : decode cX9_meet 123 = .ok (.ireturn, 1) := by decide +kernel
theorem dX9_meet_124 : decode cX9_meet 124 = .ok (.aload_n 0, 1) := by decide +kernel
theorem dX9_meet_125 : decode cX9_meet 125 = .ok (.getfield 41, 3) := by decide +kernel
theorem dX9_meet_128 : decode cX9_meet 128 = .ok (.iload 4, 2) := by decide +kernel
theorem dX9_meet_130 : decode cX9_meet 130 = .ok (.iaload, 1) := by decide +kernel
theorem dX9_meet_131 : decode cX9_meet 131 = .ok (.ifCond .le 50, 3) := by decide +kernel
theorem dX9_meet_134 : decode cX9_meet 134 = .ok (.iconst 0, 1) := by decide +kernel
theorem dX9_meet_135 : decode cX9_meet 135 = .ok (.istore 5, 2) := by decide +kernel
theorem dX9_meet_137 : decode cX9_meet 137 = .ok (.aload_n 0, 1) := by decide +kernel
theorem dX9_meet_138 : decode cX9_meet 138 = .ok (.getfield 41, 3) := by decide +kernel
theorem dX9_meet_141 : decode cX9_meet 141 = .ok (.aload_n 0, 1) := by decide +kernel
theorem dX9_meet_142 : decode cX9_meet 142 = .ok (.iload 4, 2) := by decide +kernel
theorem dX9_meet_144 : decode cX9_meet 144 = .ok (.iload 5, 2) := by decide +kernel
theorem dX9_meet_146 : decode cX9_meet 146 = .ok (.invokevirtual 388, 3) := by decide +kernel
theorem dX9_meet_149 : decode cX9_meet 149 = .ok (.iaload, 1) := by decide +kernel
theorem dX9_meet_150 : decode cX9_meet 150 = .ok (.aload_n 0, 1) := by decide +kernel
theorem dX9_meet_151 : decode cX9_meet 151 = .ok (.getfield 41, 3) := by decide +kernel
theorem dX9_meet_154 : decode cX9_meet 154 = .ok (.iload 4, 2) := by decide +kernel
theorem dX9_meet_156 : decode cX9_meet 156 = .ok (.iaload, 1) := by decide +kernel
theorem dX9_meet_157 : decode cX9_meet 157 = .ok (.iconst 1, 1) := by decide +kernel
theorem dX9_meet_158 : decode cX9_meet 158 = .ok (.isub, 1) := by decide +kernel
theorem dX9_meet_159 : decode cX9_meet 159 = .ok (.if_icmp .eq 9, 3) := by decide +kernel
theorem dX9_meet_162 : decode cX9_meet 162 = .ok (.iinc 5 1, 3) := by decide +kernel
theorem dX9_meet_165 : decode cX9_meet 165 = .ok (.goto (-28), 3) := by decide +kernel
theorem dX9_meet_168 : decode cX9_meet 168 = .ok (.aload_n 0, 1) := by decide +kernel
theorem dX9_meet_169 : decode cX9_meet 169 = .ok (.iload 4, 2) := by decide +kernel
theorem dX9_meet_171 : decode cX9_meet 171 = .ok (.iload 5, 2) := by decide +kernel
theorem dX9_meet_173 : decode cX9_meet 173 = .ok (.invokevirtual 388, 3) := by decide +kernel
theorem dX9_meet_176 : decode cX9_meet 176 = .ok (.istore 4, 2) := by decide +kernel
theorem dX9_meet_178 : decode cX9_meet 178 = .ok (.goto (-54), 3) := by decide +kernel
theorem dX9_meet_181 : decode cX9_meet 181 = .ok (.iload 4, 2) := by decide +kernel
theorem dX9_meet_183 : decode cX9_meet 183 = .ok (.bipush 36, 2) := by decide +kernel
theorem dX9_meet_185 : decode cX9_meet 185 = .ok (.irem, 1) := by decide +kernel
theorem dX9_meet_186 : decode cX9_meet 186 = .ok (.ireturn, 1) := by decide +kernel
theorem dX9_rows_0 : decode cX9_rows 0 = .ok (.aload_n 0, 1) := by decide +kernel
theorem dX9_rows_1 : decode cX9_rows 1 = .ok (.iload_n 1, 1) := by decide +kernel
theorem dX9_rows_2 : decode cX9_rows 2 = .ok (.invokevirtual 95, 3) := by decide +kernel
theorem dX9_rows_5 : decode cX9_rows 5 = .ok (.ifCond .eq 22, 3) := by decide +kernel
theorem dX9_rows_8 : decode cX9_rows 8 = .ok (.iload_n 2, 1) := by decide +kernel
theorem dX9_rows_9 : decode cX9_rows 9 = .ok (.invokestatic 91, 3) := by decide +kernel
theorem dX9_rows_12 : decode cX9_rows 12 = .ok (.ifCond .eq 15, 3) := by decide +kernel
theorem dX9_rows_15 : decode cX9_rows 15 = .ok (.iload_n 3, 1) := by decide +kernel
theorem dX9_rows_16 : decode cX9_rows 16 = .ok (.i2l, 1) := by decide +kernel
theorem dX9_rows_17 : decode cX9_rows 17 = .ok (.lconst 0, 1) := by decide +kernel
theorem dX9_rows_18 : decode cX9_rows 18 = .ok (.ldc2_w 394, 3) := by decide +kernel
theorem dX9_rows_21 : decode cX9_rows 21 = .ok (.invokestatic 83, 3) := by decide +kernel
theorem dX9_rows_24 : decode cX9_rows 24 = .ok (.ifCond .ne 7, 3) := by decide +kernel
theorem dX9_rows_27 : decode cX9_rows 27 = .ok (.ldc2_w 378, 3) := by decide +kernel
theorem dX9_rows_30 : decode cX9_rows 30 = .ok (.lreturn, 1) := by decide +kernel
theorem dX9_rows_31 : decode cX9_rows 31 = .ok (.aload_n 0, 1) := by decide +kernel
theorem dX9_rows_32 : decode cX9_rows 32 = .ok (.iload_n 1, 1) := by decide +kernel
theorem dX9_rows_33 : decode cX9_rows 33 = .ok (.aload_n 0, 1) := by decide +kernel
theorem dX9_rows_34 : decode cX9_rows 34 = .ok (.getfield 32, 3) := by decide +kernel
theorem dX9_rows_37 : decode cX9_rows 37 = .ok (.invokevirtual 370, 3) := by decide +kernel
theorem dX9_rows_40 : decode cX9_rows 40 = .ok (.iconst 0, 1) := by decide +kernel
theorem dX9_rows_41 : decode cX9_rows 41 = .ok (.istore 4, 2) := by decide +kernel
theorem dX9_rows_43 : decode cX9_rows 43 = .ok (.iload 4, 2) := by decide +kernel
theorem dX9_rows_45 : decode cX9_rows 45 = .ok (.bipush 36, 2) := by decide +kernel
theorem dX9_rows_47 : decode cX9_rows 47 = .ok (.if_icmp .ge 36, 3) := by decide +kernel
theorem dX9_rows_50 : decode cX9_rows 50 = .ok (.aload_n 0, 1) := by decide +kernel
theorem dX9_rows_51 : decode cX9_rows 51 = .ok (.getfield 44, 3) := by decide +kernel
theorem dX9_rows_54 : decode cX9_rows 54 = .ok (.iload 4, 2) := by decide +kernel
theorem dX9_rows_56 : decode cX9_rows 56 = .ok (.iload 4, 2) := by decide +kernel
theorem dX9_rows_58 : decode cX9_rows 58 = .ok (.aload_n 0, 1) := by decide +kernel
theorem dX9_rows_59 : decode cX9_rows 59 = .ok (.getfield 29, 3) := by decide +kernel
theorem dX9_rows_62 : decode cX9_rows 62 = .ok (.iconst 3, 1) := by decide +kernel
theorem dX9_rows_63 : decode cX9_rows 63 = .ok (.iload_n 1, 1) := by decide +kernel
theorem dX9_rows_64 : decode cX9_rows 64 = .ok (.imul, 1) := by decide +kernel
theorem dX9_rows_65 : decode cX9_rows 65 = .ok (.iconst 1, 1) := by decide +kernel
theorem dX9_rows_66 : decode cX9_rows 66 = .ok (.iadd, 1) := by decide +kernel
theorem dX9_rows_67 : decode cX9_rows 67 = .ok (.iaload, 1) := by decide +kernel
theorem dX9_rows_68 : decode cX9_rows 68 = .ok (.if_icmp .ne 7, 3) := by decide +kernel
theorem dX9_rows_71 : decode cX9_rows 71 = .ok (.lconst 1, 1) := by decide +kernel
theorem dX9_rows_72 : decode cX9_rows 72 = .ok (.goto 4, 3) := by decide +kernel
theorem dX9_rows_75 : decode cX9_rows 75 = .ok (.lconst 0, 1) := by decide +kernel
theorem dX9_rows_76 : decode cX9_rows 76 = .ok (.lastore, 1) := by decide +kernel
theorem dX9_rows_77 : decode cX9_rows 77 = .ok (.iinc 4 1, 3) := by decide +kernel
theorem dX9_rows_80 : decode cX9_rows 80 = .ok (.goto (-37), 3) := by decide +kernel
theorem dX9_rows_83 : decode cX9_rows 83 = .ok (.iconst 0, 1) := by decide +kernel
theorem dX9_rows_84 : decode cX9_rows 84 = .ok (.istore 4, 2) := by decide +kernel
theorem dX9_rows_86 : decode cX9_rows 86 = .ok (.iload 4, 2) := by decide +kernel
theorem dX9_rows_88 : decode cX9_rows 88 = .ok (.iload_n 3, 1) := by decide +kernel
theorem dX9_rows_89 : decode cX9_rows 89 = .ok (.if_icmp .ge 105, 3) := by decide +kernel
theorem dX9_rows_92 : decode cX9_rows 92 = .ok (.iconst 0, 1) := by decide +kernel
theorem dX9_rows_93 : decode cX9_rows 93 = .ok (.istore 5, 2) := by decide +kernel
theorem dX9_rows_95 : decode cX9_rows 95 = .ok (.iload 5, 2) := by decide +kernel
theorem dX9_rows_97 : decode cX9_rows 97 = .ok (.bipush 36, 2) := by decide +kernel
theorem dX9_rows_99 : decode cX9_rows 99 = .ok (.if_icmp .ge 17, 3) := by decide +kernel
theorem dX9_rows_102 : decode cX9_rows 102 = .ok (.aload_n 0, 1) := by decide +kernel
theorem dX9_rows_103 : decode cX9_rows 103 = .ok (.getfield 48, 3) := by decide +kernel
theorem dX9_rows_106 : decode cX9_rows 106 = .ok (.iload 5, 2) := by decide +kernel
theorem dX9_rows_108 : decode cX9_rows 108 = .ok (.lconst 0, 1) := by decide +kernel
theorem dX9_rows_109 : decode cX9_rows 109 = .ok (.lastore, 1) := by decide +kernel
theorem dX9_rows_110 : decode cX9_rows 110 = .ok (.iinc 5 1, 3) := by decide +kernel
theorem dX9_rows_113 : decode cX9_rows 113 = .ok (.goto (-18), 3) := by decide +kernel
theorem dX9_rows_116 : decode cX9_rows 116 = .ok (.iconst 0, 1) := by decide +kernel
theorem dX9_rows_117 : decode cX9_rows 117 = .ok (.istore 5, 2) := by decide +kernel
theorem dX9_rows_119 : decode cX9_rows 119 = .ok (.iload 5, 2) := by decide +kernel
theorem dX9_rows_121 : decode cX9_rows 121 = .ok (.sipush 288, 3) := by decide +kernel
theorem dX9_rows_124 : decode cX9_rows 124 = .ok (.if_icmp .ge 34, 3) := by decide +kernel
theorem dX9_rows_127 : decode cX9_rows 127 = .ok (.aload_n 0, 1) := by decide +kernel
theorem dX9_rows_128 : decode cX9_rows 128 = .ok (.getfield 48, 3) := by decide +kernel
theorem dX9_rows_131 : decode cX9_rows 131 = .ok (.aload_n 0, 1) := by decide +kernel
theorem dX9_rows_132 : decode cX9_rows 132 = .ok (.getfield 32, 3) := by decide +kernel
theorem dX9_rows_135 : decode cX9_rows 135 = .ok (.iload 5, 2) := by decide +kernel
theorem dX9_rows_137 : decode cX9_rows 137 = .ok (.iaload, 1) := by decide +kernel
theorem dX9_rows_138 : decode cX9_rows 138 = .ok (.dup2, 1) := by decide +kernel
theorem dX9_rows_139 : decode cX9_rows 139 = .ok (.laload, 1) := by decide +kernel
theorem dX9_rows_140 : decode cX9_rows 140 = .ok (.aload_n 0, 1) := by decide +kernel
theorem dX9_rows_141 : decode cX9_rows 141 = .ok (.getfield 44, 3) := by decide +kernel
theorem dX9_rows_144 : decode cX9_rows 144 = .ok (.iload 5, 2) := by decide +kernel
theorem dX9_rows_146 : decode cX9_rows 146 = .ok (.bipush 8, 2) := by decide +kernel
theorem dX9_rows_148 : decode cX9_rows 148 = .ok (.idiv, 1) := by decide +kernel
theorem dX9_rows_149 : decode cX9_rows 149 = .ok (.laload, 1) := by decide +kernel
theorem dX9_rows_150 : decode cX9_rows 150 = .ok (.ladd, 1) := by decide +kernel
theorem dX9_rows_151 : decode cX9_rows 151 = .ok (.lastore, 1) := by decide +kernel
theorem dX9_rows_152 : decode cX9_rows 152 = .ok (.iinc 5 1, 3) := by decide +kernel
theorem dX9_rows_155 : decode cX9_rows 155 = .ok (.goto (-36), 3) := by decide +kernel
theorem dX9_rows_158 : decode cX9_rows 158 = .ok (.iconst 0, 1) := by decide +kernel
theorem dX9_rows_159 : decode cX9_rows 159 = .ok (.istore 5, 2) := by decide +kernel
theorem dX9_rows_161 : decode cX9_rows 161 = .ok (.iload 5, 2) := by decide +kernel
theorem dX9_rows_163 : decode cX9_rows 163 = .ok (.bipush 36, 2) := by decide +kernel
theorem dX9_rows_165 : decode cX9_rows 165 = .ok (.if_icmp .ge 23, 3) := by decide +kernel
theorem dX9_rows_168 : decode cX9_rows 168 = .ok (.aload_n 0, 1) := by decide +kernel
theorem dX9_rows_169 : decode cX9_rows 169 = .ok (.getfield 44, 3) := by decide +kernel
theorem dX9_rows_172 : decode cX9_rows 172 = .ok (.iload 5, 2) := by decide +kernel
theorem dX9_rows_174 : decode cX9_rows 174 = .ok (.aload_n 0, 1) := by decide +kernel
theorem dX9_rows_175 : decode cX9_rows 175 = .ok (.getfield 48, 3) := by decide +kernel
theorem dX9_rows_178 : decode cX9_rows 178 = .ok (.iload 5, 2) := by decide +kernel
theorem dX9_rows_180 : decode cX9_rows 180 = .ok (.laload, 1) := by decide +kernel
theorem dX9_rows_181 : decode cX9_rows 181 = .ok (.lastore, 1) := by decide +kernel
theorem dX9_rows_182 : decode cX9_rows 182 = .ok (.iinc 5 1, 3) := by decide +kernel
theorem dX9_rows_185 : decode cX9_rows 185 = .ok (.goto (-24), 3) := by decide +kernel
theorem dX9_rows_188 : decode cX9_rows 188 = .ok (.iinc 4 1, 3) := by decide +kernel
theorem dX9_rows_191 : decode cX9_rows 191 = .ok (.goto (-105), 3) := by decide +kernel
theorem dX9_rows_194 : decode cX9_rows 194 = .ok (.aload_n 0, 1) := by decide +kernel
theorem dX9_rows_195 : decode cX9_rows 195 = .ok (.getfield 44, 3) := by decide +kernel
theorem dX9_rows_198 : decode cX9_rows 198 = .ok (.iload_n 2, 1) := by decide +kernel
theorem dX9_rows_199 : decode cX9_rows 199 = .ok (.laload, 1) := by decide +kernel
theorem dX9_rows_200 : decode cX9_rows 200 = .ok (.lreturn, 1) := by decide +kernel
theorem dX9_highest_0 : decode cX9_highest 0 = .ok (.iload_n 1, 1) := by decide +kernel
theorem dX9_highest_1 : decode cX9_highest 1 = .ok (.i2l, 1) := by decide +kernel
theorem dX9_highest_2 : decode cX9_highest 2 = .ok (.lconst 0, 1) := by decide +kernel
theorem dX9_highest_3 : decode cX9_highest 3 = .ok (.lconst 1, 1) := by decide +kernel
theorem dX9_highest_4 : decode cX9_highest 4 = .ok (.invokestatic 83, 3) := by decide +kernel
theorem dX9_highest_7 : decode cX9_highest 7 = .ok (.ifCond .ne 6, 3) := by decide +kernel
theorem dX9_highest_10 : decode cX9_highest 10 = .ok (.bipush (-2), 2) := by decide +kernel
theorem dX9_highest_12 : decode cX9_highest 12 = .ok (.ireturn, 1) := by decide +kernel
theorem dX9_highest_13 : decode cX9_highest 13 = .ok (.iconst (-1), 1) := by decide +kernel
theorem dX9_highest_14 : decode cX9_highest 14 = .ok (.istore_n 2, 1) := by decide +kernel
theorem dX9_highest_15 : decode cX9_highest 15 = .ok (.iconst (-1), 1) := by decide +kernel
theorem dX9_highest_16 : decode cX9_highest 16 = .ok (.istore_n 3, 1) := by decide +kernel
theorem dX9_highest_17 : decode cX9_highest 17 = .ok (.iconst 0, 1) := by decide +kernel
theorem dX9_highest_18 : decode cX9_highest 18 = .ok (.istore 4, 2) := by decide +kernel
theorem dX9_highest_20 : decode cX9_highest 20 = .ok (.iload 4, 2) := by decide +kernel
theorem dX9_highest_22 : decode cX9_highest 22 = .ok (.aload_n 0, 1) := by decide +kernel
theorem dX9_highest_23 : decode cX9_highest 23 = .ok (.getfield 80, 3) := by decide +kernel
theorem dX9_highest_26 : decode cX9_highest 26 = .ok (.if_icmp .ge 29, 3) := by decide +kernel
theorem dX9_highest_29 : decode cX9_highest 29 = .ok (.aload_n 0, 1) := by decide +kernel
theorem dX9_highest_30 : decode cX9_highest 30 = .ok (.iload 4, 2) := by decide +kernel
theorem dX9_highest_32 : decode cX9_highest 32 = .ok (.invokevirtual 136, 3) := by decide +kernel
theorem dX9_highest_35 : decode cX9_highest 35 = .ok (.istore 5, 2) := by decide +kernel
theorem dX9_highest_37 : decode cX9_highest 37 = .ok (.iload 5, 2) := by decide +kernel
theorem dX9_highest_39 : decode cX9_highest 39 = .ok (.iload_n 3, 1) := by decide +kernel
theorem dX9_highest_40 : decode cX9_highest 40 = .ok (.if_icmp .le 9, 3) := by decide +kernel
theorem dX9_highest_43 : decode cX9_highest 43 = .ok (.iload 4, 2) := by decide +kernel
theorem dX9_highest_45 : decode cX9_highest 45 = .ok (.istore_n 2, 1) := by decide +kernel
theorem dX9_highest_46 : decode cX9_highest 46 = .ok (.iload 5, 2) := by decide +kernel
theorem dX9_highest_48 : decode cX9_highest 48 = .ok (.istore_n 3, 1) := by decide +kernel
theorem dX9_highest_49 : decode cX9_highest 49 = .ok (.iinc 4 1, 3) := by decide +kernel
theorem dX9_highest_52 : decode cX9_highest 52 = .ok (.goto (-32), 3) := by decide +kernel
theorem dX9_highest_55 : decode cX9_highest 55 = .ok (.iload_n 1, 1) := by decide +kernel
theorem dX9_highest_56 : decode cX9_highest 56 = .ok (.ifCond .ne 7, 3) := by decide +kernel
theorem dX9_highest_59 : decode cX9_highest 59 = .ok (.iload_n 2, 1) := by decide +kernel
theorem dX9_highest_60 : decode cX9_highest 60 = .ok (.goto 4, 3) := by decide +kernel
theorem dX9_highest_63 : decode cX9_highest 63 = .ok (.iload_n 3, 1) := by decide +kernel
theorem dX9_highest_64 : decode cX9_highest 64 = .ok (.ireturn, 1) := by decide +kernel
theorem dX9_toldBad_0 : decode cX9_toldBad 0 = .ok (.iload_n 1, 1) := by decide +kernel
theorem dX9_toldBad_1 : decode cX9_toldBad 1 = .ok (.invokestatic 366, 3) := by decide +kernel
theorem dX9_toldBad_4 : decode cX9_toldBad 4 = .ok (.ifCond .eq 15, 3) := by decide +kernel
theorem dX9_toldBad_7 : decode cX9_toldBad 7 = .ok (.aload_n 0, 1) := by decide +kernel
theorem dX9_toldBad_8 : decode cX9_toldBad 8 = .ok (.iload_n 2, 1) := by decide +kernel
theorem dX9_toldBad_9 : decode cX9_toldBad 9 = .ok (.invokevirtual 95, 3) := by decide +kernel
theorem dX9_toldBad_12 : decode cX9_toldBad 12 = .ok (.ifCond .eq 7, 3) := by decide +kernel
theorem dX9_toldBad_15 : decode cX9_toldBad 15 = .ok (.iload_n 3, 1) := by decide +kernel
theorem dX9_toldBad_16 : decode cX9_toldBad 16 = .ok (.ifCond .ne 6, 3) := by decide +kernel
theorem dX9_toldBad_19 : decode cX9_toldBad 19 = .ok (.bipush (-2), 2) := by decide +kernel
theorem dX9_toldBad_21 : decode cX9_toldBad 21 = .ok (.ireturn, 1) := by decide +kernel
theorem dX9_toldBad_22 : decode cX9_toldBad 22 = .ok (.aload_n 0, 1) := by decide +kernel
theorem dX9_toldBad_23 : decode cX9_toldBad 23 = .ok (.getfield 60, 3) := by decide +kernel
theorem dX9_toldBad_26 : decode cX9_toldBad 26 = .ok (.iload_n 1, 1) := by decide +kernel
theorem dX9_toldBad_27 : decode cX9_toldBad 27 = .ok (.baload, 1) := by decide +kernel
theorem dX9_toldBad_28 : decode cX9_toldBad 28 = .ok (.ifCond .ne 6, 3) := by decide +kernel
theorem dX9_toldBad_31 : decode cX9_toldBad 31 = .ok (.bipush (-11), 2) := by decide +kernel
theorem dX9_toldBad_33 : decode cX9_toldBad 33 = .ok (.ireturn, 1) := by decide +kernel
theorem dX9_toldBad_34 : decode cX9_toldBad 34 = .ok (.aload_n 0, 1) := by decide +kernel
theorem dX9_toldBad_35 : decode cX9_toldBad 35 = .ok (.getfield 67, 3) := by decide +kernel
theorem dX9_toldBad_38 : decode cX9_toldBad 38 = .ok (.iload_n 1, 1) := by decide +kernel
theorem dX9_toldBad_39 : decode cX9_toldBad 39 = .ok (.iaload, 1) := by decide +kernel
theorem dX9_toldBad_40 : decode cX9_toldBad 40 = .ok (.bipush 20, 2) := by decide +kernel
theorem dX9_toldBad_42 : decode cX9_toldBad 42 = .ok (.if_icmp .le 6, 3) := by decide +kernel
theorem dX9_toldBad_45 : decode cX9_toldBad 45 = .ok (.bipush (-2), 2) := by decide +kernel
theorem dX9_toldBad_47 : decode cX9_toldBad 47 = .ok (.ireturn, 1) := by decide +kernel
theorem dX9_toldBad_48 : decode cX9_toldBad 48 = .ok (.iconst 0, 1) := by decide +kernel
theorem dX9_toldBad_49 : decode cX9_toldBad 49 = .ok (.istore 4, 2) := by decide +kernel
theorem dX9_toldBad_51 : decode cX9_toldBad 51 = .ok (.iload 4, 2) := by decide +kernel
theorem dX9_toldBad_53 : decode cX9_toldBad 53 = .ok (.aload_n 0, 1) := by decide +kernel
theorem dX9_toldBad_54 : decode cX9_toldBad 54 = .ok (.getfield 67, 3) := by decide +kernel
theorem dX9_toldBad_57 : decode cX9_toldBad 57 = .ok (.iload_n 1, 1) := by decide +kernel
theorem dX9_toldBad_58 : decode cX9_toldBad 58 = .ok (.iaload, 1) := by decide +kernel
theorem dX9_toldBad_59 : decode cX9_toldBad 59 = .ok (.if_icmp .ge 30, 3) := by decide +kernel
theorem dX9_toldBad_62 : decode cX9_toldBad 62 = .ok (.aload_n 0, 1) := by decide +kernel
theorem dX9_toldBad_63 : decode cX9_toldBad 63 = .ok (.getfield 70, 3) := by decide +kernel
theorem dX9_toldBad_66 : decode cX9_toldBad 66 = .ok (.bipush 40, 2) := by decide +kernel
theorem dX9_toldBad_68 : decode cX9_toldBad 68 = .ok (.iload_n 1, 1) := by decide +kernel
theorem dX9_toldBad_69 : decode cX9_toldBad 69 = .ok (.imul, 1) := by decide +kernel
theorem dX9_toldBad_70 : decode cX9_toldBad 70 = .ok (.iload 4, 2) := by decide +kernel
theorem dX9_toldBad_72 : decode cX9_toldBad 72 = .ok (.iadd, 1) := by decide +kernel
theorem dX9_toldBad_73 : decode cX9_toldBad 73 = .ok (.iaload, 1) := by decide +kernel
theorem dX9_toldBad_74 : decode cX9_toldBad 74 = .ok (.invokestatic 91, 3) := by decide +kernel
theorem dX9_toldBad_77 : decode cX9_toldBad 77 = .ok (.ifCond .ne 6, 3) := by decide +kernel
theorem dX9_toldBad_80 : decode cX9_toldBad 80 = .ok (.bipush (-2), 2) := by decide +kernel
theorem dX9_toldBad_82 : decode cX9_toldBad 82 = .ok (.ireturn, 1) := by decide +kernel
theorem dX9_toldBad_83 : decode cX9_toldBad 83 = .ok (.iinc 4 1, 3) := by decide +kernel
theorem dX9_toldBad_86 : decode cX9_toldBad 86 = .ok (.goto (-35), 3) := by decide +kernel
theorem dX9_toldBad_89 : decode cX9_toldBad 89 = .ok (.iconst 0, 1) := by decide +kernel
theorem dX9_toldBad_90 : decode cX9_toldBad 90 = .ok (.ireturn, 1) := by decide +kernel
theorem dX9_ahead_0 : decode cX9_ahead 0 = .ok (.iload_n 3, 1) := by decide +kernel
theorem dX9_ahead_1 : decode cX9_ahead 1 = .ok (.ifCond .ne 16, 3) := by decide +kernel
theorem dX9_ahead_4 : decode cX9_ahead 4 = .ok (.aload_n 0, 1) := by decide +kernel
theorem dX9_ahead_5 : decode cX9_ahead 5 = .ok (.getfield 29, 3) := by decide +kernel
theorem dX9_ahead_8 : decode cX9_ahead 8 = .ok (.iconst 3, 1) := by decide +kernel
theorem dX9_ahead_9 : decode cX9_ahead 9 = .ok (.iload_n 2, 1) := by decide +kernel
theorem dX9_ahead_10 : decode cX9_ahead 10 = .ok (.imul, 1) := by decide +kernel
theorem dX9_ahead_11 : decode cX9_ahead 11 = .ok (.iconst 1, 1) := by decide +kernel
theorem dX9_ahead_12 : decode cX9_ahead 12 = .ok (.iadd, 1) := by decide +kernel
theorem dX9_ahead_13 : decode cX9_ahead 13 = .ok (.iaload, 1) := by decide +kernel
theorem dX9_ahead_14 : decode cX9_ahead 14 = .ok (.goto 16, 3) := by decide +kernel
theorem dX9_ahead_17 : decode cX9_ahead 17 = .ok (.aload_n 0, 1) := by decide +kernel
theorem dX9_ahead_18 : decode cX9_ahead 18 = .ok (.getfield 70, 3) := by decide +kernel
theorem dX9_ahead_21 : decode cX9_ahead 21 = .ok (.bipush 40, 2) := by decide +kernel
theorem dX9_ahead_23 : decode cX9_ahead 23 = .ok (.iload_n 1, 1) := by decide +kernel
theorem dX9_ahead_24 : decode cX9_ahead 24 = .ok (.imul, 1) := by decide +kernel
theorem dX9_ahead_25 : decode cX9_ahead 25 = .ok (.iload_n 3, 1) := by decide +kernel
theorem dX9_ahead_26 : decode cX9_ahead 26 = .ok (.iadd, 1) := by decide +kernel
theorem dX9_ahead_27 : decode cX9_ahead 27 = .ok (.iconst 1, 1) := by decide +kernel
theorem dX9_ahead_28 : decode cX9_ahead 28 = .ok (.isub, 1) := by decide +kernel
theorem dX9_ahead_29 : decode cX9_ahead 29 = .ok (.iaload, 1) := by decide +kernel
theorem dX9_ahead_30 : decode cX9_ahead 30 = .ok (.ireturn, 1) := by decide +kernel
theorem dX9_wordsAt_0 : decode cX9_wordsAt 0 = .ok (.aload_n 0, 1) := by decide +kernel
theorem dX9_wordsAt_1 : decode cX9_wordsAt 1 = .ok (.iload_n 1, 1) := by decide +kernel
theorem dX9_wordsAt_2 : decode cX9_wordsAt 2 = .ok (.iload_n 2, 1) := by decide +kernel
theorem dX9_wordsAt_3 : decode cX9_wordsAt 3 = .ok (.iload_n 3, 1) := by decide +kernel
theorem dX9_wordsAt_4 : decode cX9_wordsAt 4 = .ok (.invokevirtual 396, 3) := by decide +kernel
theorem dX9_wordsAt_7 : decode cX9_wordsAt 7 = .ok (.istore 5, 2) := by decide +kernel
theorem dX9_wordsAt_9 : decode cX9_wordsAt 9 = .ok (.iconst 0, 1) := by decide +kernel
theorem dX9_wordsAt_10 : decode cX9_wordsAt 10 = .ok (.istore 6, 2) := by decide +kernel
theorem dX9_wordsAt_12 : decode cX9_wordsAt 12 = .ok (.bipush 8, 2) := by decide +kernel
theorem dX9_wordsAt_14 : decode cX9_wordsAt 14 = .ok (.istore 7, 2) := by decide +kernel
theorem dX9_wordsAt_16 : decode cX9_wordsAt 16 = .ok (.bipush 7, 2) := by decide +kernel
theorem dX9_wordsAt_18 : decode cX9_wordsAt 18 = .ok (.istore 8, 2) := by decide +kernel
theorem dX9_wordsAt_20 : decode cX9_wordsAt 20 = .ok (.iload 8, 2) := by decide +kernel
theorem dX9_wordsAt_22 : decode cX9_wordsAt 22 = .ok (.ifCond .lt 39, 3) := by decide +kernel
theorem dX9_wordsAt_25 : decode cX9_wordsAt 25 = .ok (.aload_n 0, 1) := by decide +kernel
theorem dX9_wordsAt_26 : decode cX9_wordsAt 26 = .ok (.iload_n 2, 1) := by decide +kernel
theorem dX9_wordsAt_27 : decode cX9_wordsAt 27 = .ok (.iload 5, 2) := by decide +kernel
theorem dX9_wordsAt_29 : decode cX9_wordsAt 29 = .ok (.iload 8, 2) := by decide +kernel
theorem dX9_wordsAt_31 : decode cX9_wordsAt 31 = .ok (.invokevirtual 132, 3) := by decide +kernel
theorem dX9_wordsAt_34 : decode cX9_wordsAt 34 = .ok (.aload_n 0, 1) := by decide +kernel
theorem dX9_wordsAt_35 : decode cX9_wordsAt 35 = .ok (.getfield 70, 3) := by decide +kernel
theorem dX9_wordsAt_38 : decode cX9_wordsAt 38 = .ok (.bipush 40, 2) := by decide +kernel
theorem dX9_wordsAt_40 : decode cX9_wordsAt 40 = .ok (.iload_n 1, 1) := by decide +kernel
theorem dX9_wordsAt_41 : decode cX9_wordsAt 41 = .ok (.imul, 1) := by decide +kernel
theorem dX9_wordsAt_42 : decode cX9_wordsAt 42 = .ok (.iload_n 3, 1) := by decide +kernel
theorem dX9_wordsAt_43 : decode cX9_wordsAt 43 = .ok (.iadd, 1) := by decide +kernel
theorem dX9_wordsAt_44 : decode cX9_wordsAt 44 = .ok (.iaload, 1) := by decide +kernel
theorem dX9_wordsAt_45 : decode cX9_wordsAt 45 = .ok (.if_icmp .ne 10, 3) := by decide +kernel
theorem dX9_wordsAt_48 : decode cX9_wordsAt 48 = .ok (.iinc 6 1, 3) := by decide +kernel
theorem dX9_wordsAt_51 : decode cX9_wordsAt 51 = .ok (.iload 8, 2) := by decide +kernel
theorem dX9_wordsAt_53 : decode cX9_wordsAt 53 = .ok (.istore 7, 2) := by decide +kernel
theorem dX9_wordsAt_55 : decode cX9_wordsAt 55 = .ok (.iinc 8 (-1), 3) := by decide +kernel
theorem dX9_wordsAt_58 : decode cX9_wordsAt 58 = .ok (.goto (-38), 3) := by decide +kernel
theorem dX9_wordsAt_61 : decode cX9_wordsAt 61 = .ok (.iload 4, 2) := by decide +kernel
theorem dX9_wordsAt_63 : decode cX9_wordsAt 63 = .ok (.ifCond .eq 8, 3) := by decide +kernel
theorem dX9_wordsAt_66 : decode cX9_wordsAt 66 = .ok (.iload 6, 2) := by decide +kernel
theorem dX9_wordsAt_68 : decode cX9_wordsAt 68 = .ok (.goto 5, 3) := by decide +kernel
theorem dX9_wordsAt_71 : decode cX9_wordsAt 71 = .ok (.iload 7, 2) := by decide +kernel
theorem dX9_wordsAt_73 : decode cX9_wordsAt 73 = .ok (.ireturn, 1) := by decide +kernel
theorem dX9_firstOther_0 : decode cX9_firstOther 0 = .ok (.iconst 0, 1) := by decide +kernel
theorem dX9_firstOther_1 : decode cX9_firstOther 1 = .ok (.istore_n 3, 1) := by decide +kernel
theorem dX9_firstOther_2 : decode cX9_firstOther 2 = .ok (.iload_n 3, 1) := by decide +kernel
theorem dX9_firstOther_3 : decode cX9_firstOther 3 = .ok (.aload_n 0, 1) := by decide +kernel
theorem dX9_firstOther_4 : decode cX9_firstOther 4 = .ok (.getfield 67, 3) := by decide +kernel
theorem dX9_firstOther_7 : decode cX9_firstOther 7 = .ok (.iload_n 1, 1) := by decide +kernel
theorem dX9_firstOther_8 : decode cX9_firstOther 8 = .ok (.iaload, 1) := by decide +kernel
theorem dX9_firstOther_9 : decode cX9_firstOther 9 = .ok (.if_icmp .ge 22, 3) := by decide +kernel
theorem dX9_firstOther_12 : decode cX9_firstOther 12 = .ok (.aload_n 0, 1) := by decide +kernel
theorem dX9_firstOther_13 : decode cX9_firstOther 13 = .ok (.iload_n 1, 1) := by decide +kernel
theorem dX9_firstOther_14 : decode cX9_firstOther 14 = .ok (.iload_n 2, 1) := by decide +kernel
theorem dX9_firstOther_15 : decode cX9_firstOther 15 = .ok (.iload_n 3, 1) := by decide +kernel
theorem dX9_firstOther_16 : decode cX9_firstOther 16 = .ok (.iconst 1, 1) := by decide +kernel
theorem dX9_firstOther_17 : decode cX9_firstOther 17 = .ok (.invokevirtual 399, 3) := by decide +kernel
theorem dX9_firstOther_20 : decode cX9_firstOther 20 = .ok (.ifCond .ne 5, 3) := by decide +kernel
theorem dX9_firstOther_23 : decode cX9_firstOther 23 = .ok (.iload_n 3, 1) := by decide +kernel
theorem dX9_firstOther_24 : decode cX9_firstOther 24 = .ok (.ireturn, 1) := by decide +kernel
theorem dX9_firstOther_25 : decode cX9_firstOther 25 = .ok (.iinc 3 1, 3) := by decide +kernel
theorem dX9_firstOther_28 : decode cX9_firstOther 28 = .ok (.goto (-26), 3) := by decide +kernel
theorem dX9_firstOther_31 : decode cX9_firstOther 31 = .ok (.iconst (-1), 1) := by decide +kernel
theorem dX9_firstOther_32 : decode cX9_firstOther 32 = .ok (.ireturn, 1) := by decide +kernel
theorem dX9_firstRow_0 : decode cX9_firstRow 0 = .ok (.aload_n 0, 1) := by decide +kernel
theorem dX9_firstRow_1 : decode cX9_firstRow 1 = .ok (.iload_n 1, 1) := by decide +kernel
theorem dX9_firstRow_2 : decode cX9_firstRow 2 = .ok (.iload_n 2, 1) := by decide +kernel
theorem dX9_firstRow_3 : decode cX9_firstRow 3 = .ok (.invokevirtual 403, 3) := by decide +kernel
theorem dX9_firstRow_6 : decode cX9_firstRow 6 = .ok (.iconst (-1), 1) := by decide +kernel
theorem dX9_firstRow_7 : decode cX9_firstRow 7 = .ok (.if_icmp .eq 5, 3) := by decide +kernel
theorem dX9_firstRow_10 : decode cX9_firstRow 10 = .ok (.iconst 0, 1) := by decide +kernel
theorem dX9_firstRow_11 : decode cX9_firstRow 11 = .ok (.ireturn, 1) := by decide +kernel
theorem dX9_firstRow_12 : decode cX9_firstRow 12 = .ok (.aload_n 0, 1) := by decide +kernel
theorem dX9_firstRow_13 : decode cX9_firstRow 13 = .ok (.getfield 67, 3) := by decide +kernel
theorem dX9_firstRow_16 : decode cX9_firstRow 16 = .ok (.iload_n 1, 1) := by decide +kernel
theorem dX9_firstRow_17 : decode cX9_firstRow 17 = .ok (.iaload, 1) := by decide +kernel
theorem dX9_firstRow_18 : decode cX9_firstRow 18 = .ok (.bipush 9, 2) := by decide +kernel
theorem dX9_firstRow_20 : decode cX9_firstRow 20 = .ok (.if_icmp .le 5, 3) := by decide +kernel
theorem dX9_firstRow_23 : decode cX9_firstRow 23 = .ok (.iconst (-1), 1) := by decide +kernel
theorem dX9_firstRow_24 : decode cX9_firstRow 24 = .ok (.ireturn, 1) := by decide +kernel
theorem dX9_firstRow_25 : decode cX9_firstRow 25 = .ok (.iconst 0, 1) := by decide +kernel
theorem dX9_firstRow_26 : decode cX9_firstRow 26 = .ok (.istore_n 3, 1) := by decide +kernel
theorem dX9_firstRow_27 : decode cX9_firstRow 27 = .ok (.iconst 0, 1) := by decide +kernel
theorem dX9_firstRow_28 : decode cX9_firstRow 28 = .ok (.istore 4, 2) := by decide +kernel
theorem dX9_firstRow_30 : decode cX9_firstRow 30 = .ok (.iload 4, 2) := by decide +kernel
theorem dX9_firstRow_32 : decode cX9_firstRow 32 = .ok (.aload_n 0, 1) := by decide +kernel
theorem dX9_firstRow_33 : decode cX9_firstRow 33 = .ok (.getfield 67, 3) := by decide +kernel
theorem dX9_firstRow_36 : decode cX9_firstRow 36 = .ok (.iload_n 1, 1) := by decide +kernel
theorem dX9_firstRow_37 : decode cX9_firstRow 37 = .ok (.iaload, 1) := by decide +kernel
theorem dX9_firstRow_38 : decode cX9_firstRow 38 = .ok (.if_icmp .ge 26, 3) := by decide +kernel
theorem dX9_firstRow_41 : decode cX9_firstRow 41 = .ok (.bipush 10, 2) := by decide +kernel
theorem dX9_firstRow_43 : decode cX9_firstRow 43 = .ok (.iload_n 3, 1) := by decide +kernel
theorem dX9_firstRow_44 : decode cX9_firstRow 44 = .ok (.imul, 1) := by decide +kernel
theorem dX9_firstRow_45 : decode cX9_firstRow 45 = .ok (.aload_n 0, 1) := by decide +kernel
theorem dX9_firstRow_46 : decode cX9_firstRow 46 = .ok (.iload_n 1, 1) := by decide +kernel
theorem dX9_firstRow_47 : decode cX9_firstRow 47 = .ok (.iload_n 2, 1) := by decide +kernel
theorem dX9_firstRow_48 : decode cX9_firstRow 48 = .ok (.iload 4, 2) := by decide +kernel
theorem dX9_firstRow_50 : decode cX9_firstRow 50 = .ok (.iconst 0, 1) := by decide +kernel
theorem dX9_firstRow_51 : decode cX9_firstRow 51 = .ok (.invokevirtual 399, 3) := by decide +kernel
theorem dX9_firstRow_54 : decode cX9_firstRow 54 = .ok (.iadd, 1) := by decide +kernel
theorem dX9_firstRow_55 : decode cX9_firstRow 55 = .ok (.iconst 1, 1) := by decide +kernel
theorem dX9_firstRow_56 : decode cX9_firstRow 56 = .ok (.iadd, 1) := by decide +kernel
theorem dX9_firstRow_57 : decode cX9_firstRow 57 = .ok (.istore_n 3, 1) := by decide +kernel
theorem dX9_firstRow_58 : decode cX9_firstRow 58 = .ok (.iinc 4 1, 3) := by decide +kernel
theorem dX9_firstRow_61 : decode cX9_firstRow 61 = .ok (.goto (-31), 3) := by decide +kernel
theorem dX9_firstRow_64 : decode cX9_firstRow 64 = .ok (.iload_n 3, 1) := by decide +kernel
theorem dX9_firstRow_65 : decode cX9_firstRow 65 = .ok (.ireturn, 1) := by decide +kernel
theorem dX9_tells_0 : decode cX9_tells 0 = .ok (.aload_n 0, 1) := by decide +kernel
theorem dX9_tells_1 : decode cX9_tells 1 = .ok (.iload_n 1, 1) := by decide +kernel
theorem dX9_tells_2 : decode cX9_tells 2 = .ok (.iload_n 2, 1) := by decide +kernel
theorem dX9_tells_3 : decode cX9_tells 3 = .ok (.iload_n 3, 1) := by decide +kernel
theorem dX9_tells_4 : decode cX9_tells 4 = .ok (.i2l, 1) := by decide +kernel
theorem dX9_tells_5 : decode cX9_tells 5 = .ok (.lconst 0, 1) := by decide +kernel
theorem dX9_tells_6 : decode cX9_tells 6 = .ok (.ldc2_w 122, 3) := by decide +kernel
theorem dX9_tells_9 : decode cX9_tells 9 = .ok (.invokestatic 83, 3) := by decide +kernel
theorem dX9_tells_12 : decode cX9_tells 12 = .ok (.invokevirtual 406, 3) := by decide +kernel
theorem dX9_tells_15 : decode cX9_tells 15 = .ok (.istore 4, 2) := by decide +kernel
theorem dX9_tells_17 : decode cX9_tells 17 = .ok (.iload 4, 2) := by decide +kernel
theorem dX9_tells_19 : decode cX9_tells 19 = .ok (.ifCond .eq 6, 3) := by decide +kernel
theorem dX9_tells_22 : decode cX9_tells 22 = .ok (.iload 4, 2) := by decide +kernel
theorem dX9_tells_24 : decode cX9_tells 24 = .ok (.ireturn, 1) := by decide +kernel
theorem dX9_tells_25 : decode cX9_tells 25 = .ok (.iload_n 3, 1) := by decide +kernel
theorem dX9_tells_26 : decode cX9_tells 26 = .ok (.iconst 2, 1) := by decide +kernel
theorem dX9_tells_27 : decode cX9_tells 27 = .ok (.if_icmp .ge 23, 3) := by decide +kernel
theorem dX9_tells_30 : decode cX9_tells 30 = .ok (.iload_n 3, 1) := by decide +kernel
theorem dX9_tells_31 : decode cX9_tells 31 = .ok (.ifCond .ne 12, 3) := by decide +kernel
theorem dX9_tells_34 : decode cX9_tells 34 = .ok (.aload_n 0, 1) := by decide +kernel
theorem dX9_tells_35 : decode cX9_tells 35 = .ok (.iload_n 1, 1) := by decide +kernel
theorem dX9_tells_36 : decode cX9_tells 36 = .ok (.iload_n 2, 1) := by decide +kernel
theorem dX9_tells_37 : decode cX9_tells 37 = .ok (.invokevirtual 403, 3) := by decide +kernel
theorem dX9_tells_40 : decode cX9_tells 40 = .ok (.goto 9, 3) := by decide +kernel
theorem dX9_tells_43 : decode cX9_tells 43 = .ok (.aload_n 0, 1) := by decide +kernel
theorem dX9_tells_44 : decode cX9_tells 44 = .ok (.iload_n 1, 1) := by decide +kernel
theorem dX9_tells_45 : decode cX9_tells 45 = .ok (.iload_n 2, 1) := by decide +kernel
theorem dX9_tells_46 : decode cX9_tells 46 = .ok (.invokevirtual 410, 3) := by decide +kernel
theorem dX9_tells_49 : decode cX9_tells 49 = .ok (.ireturn, 1) := by decide +kernel
theorem dX9_tells_50 : decode cX9_tells 50 = .ok (.iconst 0, 1) := by decide +kernel
theorem dX9_tells_51 : decode cX9_tells 51 = .ok (.istore 5, 2) := by decide +kernel
theorem dX9_tells_53 : decode cX9_tells 53 = .ok (.iload_n 3, 1) := by decide +kernel
theorem dX9_tells_54 : decode cX9_tells 54 = .ok (.iconst 2, 1) := by decide +kernel
theorem dX9_tells_55 : decode cX9_tells 55 = .ok (.if_icmp .ne 49, 3) := by decide +kernel
theorem dX9_tells_58 : decode cX9_tells 58 = .ok (.iconst 0, 1) := by decide +kernel
theorem dX9_tells_59 : decode cX9_tells 59 = .ok (.istore 6, 2) := by decide +kernel
theorem dX9_tells_61 : decode cX9_tells 61 = .ok (.iload 6, 2) := by decide +kernel
theorem dX9_tells_63 : decode cX9_tells 63 = .ok (.aload_n 0, 1) := by decide +kernel
theorem dX9_tells_64 : decode cX9_tells 64 = .ok (.getfield 67, 3) := by decide +kernel
theorem dX9_tells_67 : decode cX9_tells 67 = .ok (.iload_n 1, 1) := by decide +kernel
theorem dX9_tells_68 : decode cX9_tells 68 = .ok (.iaload, 1) := by decide +kernel
theorem dX9_tells_69 : decode cX9_tells 69 = .ok (.if_icmp .ge 32, 3) := by decide +kernel
theorem dX9_tells_72 : decode cX9_tells 72 = .ok (.iload 5, 2) := by decide +kernel
theorem dX9_tells_74 : decode cX9_tells 74 = .ok (.aload_n 0, 1) := by decide +kernel
theorem dX9_tells_75 : decode cX9_tells 75 = .ok (.iload_n 1, 1) := by decide +kernel
theorem dX9_tells_76 : decode cX9_tells 76 = .ok (.iload_n 2, 1) := by decide +kernel
theorem dX9_tells_77 : decode cX9_tells 77 = .ok (.iload 6, 2) := by decide +kernel
theorem dX9_tells_79 : decode cX9_tells 79 = .ok (.iconst 1, 1) := by decide +kernel
theorem dX9_tells_80 : decode cX9_tells 80 = .ok (.invokevirtual 399, 3) := by decide +kernel
theorem dX9_tells_83 : decode cX9_tells 83 = .ok (.iconst 1, 1) := by decide +kernel
theorem dX9_tells_84 : decode cX9_tells 84 = .ok (.if_icmp .ne 7, 3) := by decide +kernel
theorem dX9_tells_87 : decode cX9_tells 87 = .ok (.iconst 1, 1) := by decide +kernel
theorem dX9_tells_88 : decode cX9_tells 88 = .ok (.goto 4, 3) := by decide +kernel
theorem dX9_tells_91 : decode cX9_tells 91 = .ok (.iconst 0, 1) := by decide +kernel
theorem dX9_tells_92 : decode cX9_tells 92 = .ok (.iadd, 1) := by decide +kernel
theorem dX9_tells_93 : decode cX9_tells 93 = .ok (.istore 5, 2) := by decide +kernel
theorem dX9_tells_95 : decode cX9_tells 95 = .ok (.iinc 6 1, 3) := by decide +kernel
theorem dX9_tells_98 : decode cX9_tells 98 = .ok (.goto (-37), 3) := by decide +kernel
theorem dX9_tells_101 : decode cX9_tells 101 = .ok (.iload 5, 2) := by decide +kernel
theorem dX9_tells_103 : decode cX9_tells 103 = .ok (.ireturn, 1) := by decide +kernel
theorem dX9_tells_104 : decode cX9_tells 104 = .ok (.iload_n 3, 1) := by decide +kernel
theorem dX9_tells_105 : decode cX9_tells 105 = .ok (.iconst 3, 1) := by decide +kernel
theorem dX9_tells_106 : decode cX9_tells 106 = .ok (.if_icmp .ne 7, 3) := by decide +kernel
theorem dX9_tells_109 : decode cX9_tells 109 = .ok (.iconst 5, 1) := by decide +kernel
theorem dX9_tells_110 : decode cX9_tells 110 = .ok (.goto 14, 3) := by decide +kernel
theorem dX9_tells_113 : decode cX9_tells 113 = .ok (.iload_n 3, 1) := by decide +kernel
theorem dX9_tells_114 : decode cX9_tells 114 = .ok (.iconst 4, 1) := by decide +kernel
theorem dX9_tells_115 : decode cX9_tells 115 = .ok (.if_icmp .ne 7, 3) := by decide +kernel
theorem dX9_tells_118 : decode cX9_tells 118 = .ok (.iconst 2, 1) := by decide +kernel
theorem dX9_tells_119 : decode cX9_tells 119 = .ok (.goto 5, 3) := by decide +kernel
theorem dX9_tells_122 : decode cX9_tells 122 = .ok (.bipush 6, 2) := by decide +kernel
theorem dX9_tells_124 : decode cX9_tells 124 = .ok (.istore 6, 2) := by decide +kernel
theorem dX9_tells_126 : decode cX9_tells 126 = .ok (.iload 6, 2) := by decide +kernel
theorem dX9_tells_128 : decode cX9_tells 128 = .ok (.bipush 6, 2) := by decide +kernel
theorem dX9_tells_130 : decode cX9_tells 130 = .ok (.if_icmp .ne 10, 3) := by decide +kernel
theorem dX9_tells_133 : decode cX9_tells 133 = .ok (.aload_n 0, 1) := by decide +kernel
theorem dX9_tells_134 : decode cX9_tells 134 = .ok (.getfield 119, 3) := by decide +kernel
theorem dX9_tells_137 : decode cX9_tells 137 = .ok (.goto 10, 3) := by decide +kernel
theorem dX9_tells_140 : decode cX9_tells 140 = .ok (.aload_n 0, 1) := by decide +kernel
theorem dX9_tells_141 : decode cX9_tells 141 = .ok (.iload_n 2, 1) := by decide +kernel
theorem dX9_tells_142 : decode cX9_tells 142 = .ok (.iload 6, 2) := by decide +kernel
theorem dX9_tells_144 : decode cX9_tells 144 = .ok (.invokevirtual 108, 3) := by decide +kernel
theorem dX9_tells_147 : decode cX9_tells 147 = .ok (.istore 7, 2) := by decide +kernel
theorem dX9_tells_149 : decode cX9_tells 149 = .ok (.iload 6, 2) := by decide +kernel
theorem dX9_tells_151 : decode cX9_tells 151 = .ok (.bipush 6, 2) := by decide +kernel
theorem dX9_tells_153 : decode cX9_tells 153 = .ok (.if_icmp .ne 12, 3) := by decide +kernel
theorem dX9_tells_156 : decode cX9_tells 156 = .ok (.aload_n 0, 1) := by decide +kernel
theorem dX9_tells_157 : decode cX9_tells 157 = .ok (.getfield 77, 3) := by decide +kernel
theorem dX9_tells_160 : decode cX9_tells 160 = .ok (.iconst 1, 1) := by decide +kernel
theorem dX9_tells_161 : decode cX9_tells 161 = .ok (.isub, 1) := by decide +kernel
theorem dX9_tells_162 : decode cX9_tells 162 = .ok (.goto 15, 3) := by decide +kernel
theorem dX9_tells_165 : decode cX9_tells 165 = .ok (.iload 6, 2) := by decide +kernel
theorem dX9_tells_167 : decode cX9_tells 167 = .ok (.iconst 5, 1) := by decide +kernel
theorem dX9_tells_168 : decode cX9_tells 168 = .ok (.if_icmp .ne 7, 3) := by decide +kernel
theorem dX9_tells_171 : decode cX9_tells 171 = .ok (.iconst 5, 1) := by decide +kernel
theorem dX9_tells_172 : decode cX9_tells 172 = .ok (.goto 5, 3) := by decide +kernel
theorem dX9_tells_175 : decode cX9_tells 175 = .ok (.bipush 9, 2) := by decide +kernel
theorem dX9_tells_177 : decode cX9_tells 177 = .ok (.istore 8, 2) := by decide +kernel
theorem dX9_tells_179 : decode cX9_tells 179 = .ok (.iconst 0, 1) := by decide +kernel
theorem dX9_tells_180 : decode cX9_tells 180 = .ok (.istore 9, 2) := by decide +kernel
theorem dX9_tells_182 : decode cX9_tells 182 = .ok (.iload 9, 2) := by decide +kernel
theorem dX9_tells_184 : decode cX9_tells 184 = .ok (.iload 8, 2) := by decide +kernel
theorem dX9_tells_186 : decode cX9_tells 186 = .ok (.if_icmp .gt 41, 3) := by decide +kernel
theorem dX9_tells_189 : decode cX9_tells 189 = .ok (.aload_n 0, 1) := by decide +kernel
theorem dX9_tells_190 : decode cX9_tells 190 = .ok (.iload 6, 2) := by decide +kernel
theorem dX9_tells_192 : decode cX9_tells 192 = .ok (.iload_n 2, 1) := by decide +kernel
theorem dX9_tells_193 : decode cX9_tells 193 = .ok (.iload 9, 2) := by decide +kernel
theorem dX9_tells_195 : decode cX9_tells 195 = .ok (.invokevirtual 112, 3) := by decide +kernel
theorem dX9_tells_198 : decode cX9_tells 198 = .ok (.iload 5, 2) := by decide +kernel
theorem dX9_tells_200 : decode cX9_tells 200 = .ok (.aload_n 0, 1) := by decide +kernel
theorem dX9_tells_201 : decode cX9_tells 201 = .ok (.iload_n 1, 1) := by decide +kernel
theorem dX9_tells_202 : decode cX9_tells 202 = .ok (.iload_n 2, 1) := by decide +kernel
theorem dX9_tells_203 : decode cX9_tells 203 = .ok (.invokevirtual 403, 3) := by decide +kernel
theorem dX9_tells_206 : decode cX9_tells 206 = .ok (.iconst (-1), 1) := by decide +kernel
theorem dX9_tells_207 : decode cX9_tells 207 = .ok (.if_icmp .ne 7, 3) := by decide +kernel
theorem dX9_tells_210 : decode cX9_tells 210 = .ok (.iconst 1, 1) := by decide +kernel
theorem dX9_tells_211 : decode cX9_tells 211 = .ok (.goto 4, 3) := by decide +kernel
theorem dX9_tells_214 : decode cX9_tells 214 = .ok (.iconst 0, 1) := by decide +kernel
theorem dX9_tells_215 : decode cX9_tells 215 = .ok (.iload 9, 2) := by decide +kernel
theorem dX9_tells_217 : decode cX9_tells 217 = .ok (.ishl, 1) := by decide +kernel
theorem dX9_tells_218 : decode cX9_tells 218 = .ok (.ior, 1) := by decide +kernel
theorem dX9_tells_219 : decode cX9_tells 219 = .ok (.istore 5, 2) := by decide +kernel
theorem dX9_tells_221 : decode cX9_tells 221 = .ok (.iinc 9 1, 3) := by decide +kernel
theorem dX9_tells_224 : decode cX9_tells 224 = .ok (.goto (-42), 3) := by decide +kernel
theorem dX9_tells_227 : decode cX9_tells 227 = .ok (.aload_n 0, 1) := by decide +kernel
theorem dX9_tells_228 : decode cX9_tells 228 = .ok (.iload 6, 2) := by decide +kernel
theorem dX9_tells_230 : decode cX9_tells 230 = .ok (.iload_n 2, 1) := by decide +kernel
theorem dX9_tells_231 : decode cX9_tells 231 = .ok (.iload 7, 2) := by decide +kernel
theorem dX9_tells_233 : decode cX9_tells 233 = .ok (.invokevirtual 112, 3) := by decide +kernel
theorem dX9_tells_236 : decode cX9_tells 236 = .ok (.iload 5, 2) := by decide +kernel
theorem dX9_tells_238 : decode cX9_tells 238 = .ok (.ireturn, 1) := by decide +kernel
theorem dX9_ways_0 : decode cX9_ways 0 = .ok (.aload_n 0, 1) := by decide +kernel
theorem dX9_ways_1 : decode cX9_ways 1 = .ok (.iload_n 1, 1) := by decide +kernel
theorem dX9_ways_2 : decode cX9_ways 2 = .ok (.iload_n 2, 1) := by decide +kernel
theorem dX9_ways_3 : decode cX9_ways 3 = .ok (.iload_n 3, 1) := by decide +kernel
theorem dX9_ways_4 : decode cX9_ways 4 = .ok (.i2l, 1) := by decide +kernel
theorem dX9_ways_5 : decode cX9_ways 5 = .ok (.lconst 0, 1) := by decide +kernel
theorem dX9_ways_6 : decode cX9_ways 6 = .ok (.lconst 1, 1) := by decide +kernel
theorem dX9_ways_7 : decode cX9_ways 7 = .ok (.invokestatic 83, 3) := by decide +kernel
theorem dX9_ways_10 : decode cX9_ways 10 = .ok (.invokevirtual 406, 3) := by decide +kernel
theorem dX9_ways_13 : decode cX9_ways 13 = .ok (.ifCond .eq 7, 3) := by decide +kernel
theorem dX9_ways_16 : decode cX9_ways 16 = .ok (.ldc2_w 378, 3) := by decide +kernel
theorem dX9_ways_19 : decode cX9_ways 19 = .ok (.lreturn, 1) := by decide +kernel
theorem dX9_ways_20 : decode cX9_ways 20 = .ok (.iload_n 3, 1) := by decide +kernel
theorem dX9_ways_21 : decode cX9_ways 21 = .ok (.ifCond .ne 44, 3) := by decide +kernel
theorem dX9_ways_24 : decode cX9_ways 24 = .ok (.lconst 1, 1) := by decide +kernel
theorem dX9_ways_25 : decode cX9_ways 25 = .ok (.lstore 4, 2) := by decide +kernel
theorem dX9_ways_27 : decode cX9_ways 27 = .ok (.iconst 0, 1) := by decide +kernel
theorem dX9_ways_28 : decode cX9_ways 28 = .ok (.istore 6, 2) := by decide +kernel
theorem dX9_ways_30 : decode cX9_ways 30 = .ok (.iload 6, 2) := by decide +kernel
theorem dX9_ways_32 : decode cX9_ways 32 = .ok (.aload_n 0, 1) := by decide +kernel
theorem dX9_ways_33 : decode cX9_ways 33 = .ok (.getfield 67, 3) := by decide +kernel
theorem dX9_ways_36 : decode cX9_ways 36 = .ok (.iload_n 1, 1) := by decide +kernel
theorem dX9_ways_37 : decode cX9_ways 37 = .ok (.iaload, 1) := by decide +kernel
theorem dX9_ways_38 : decode cX9_ways 38 = .ok (.if_icmp .ge 24, 3) := by decide +kernel
theorem dX9_ways_41 : decode cX9_ways 41 = .ok (.lload 4, 2) := by decide +kernel
theorem dX9_ways_43 : decode cX9_ways 43 = .ok (.aload_n 0, 1) := by decide +kernel
theorem dX9_ways_44 : decode cX9_ways 44 = .ok (.iload_n 1, 1) := by decide +kernel
theorem dX9_ways_45 : decode cX9_ways 45 = .ok (.iload_n 2, 1) := by decide +kernel
theorem dX9_ways_46 : decode cX9_ways 46 = .ok (.iload 6, 2) := by decide +kernel
theorem dX9_ways_48 : decode cX9_ways 48 = .ok (.iconst 1, 1) := by decide +kernel
theorem dX9_ways_49 : decode cX9_ways 49 = .ok (.invokevirtual 399, 3) := by decide +kernel
theorem dX9_ways_52 : decode cX9_ways 52 = .ok (.i2l, 1) := by decide +kernel
theorem dX9_ways_53 : decode cX9_ways 53 = .ok (.lmul, 1) := by decide +kernel
theorem dX9_ways_54 : decode cX9_ways 54 = .ok (.lstore 4, 2) := by decide +kernel
theorem dX9_ways_56 : decode cX9_ways 56 = .ok (.iinc 6 1, 3) := by decide +kernel
theorem dX9_ways_59 : decode cX9_ways 59 = .ok (.goto (-29), 3) := by decide +kernel
theorem dX9_ways_62 : decode cX9_ways 62 = .ok (.lload 4, 2) := by decide +kernel
theorem dX9_ways_64 : decode cX9_ways 64 = .ok (.lreturn, 1) := by decide +kernel
theorem dX9_ways_65 : decode cX9_ways 65 = .ok (.aload_n 0, 1) := by decide +kernel
theorem dX9_ways_66 : decode cX9_ways 66 = .ok (.getfield 29, 3) := by decide +kernel
theorem dX9_ways_69 : decode cX9_ways 69 = .ok (.iconst 3, 1) := by decide +kernel
theorem dX9_ways_70 : decode cX9_ways 70 = .ok (.iload_n 2, 1) := by decide +kernel
theorem dX9_ways_71 : decode cX9_ways 71 = .ok (.imul, 1) := by decide +kernel
theorem dX9_ways_72 : decode cX9_ways 72 = .ok (.iconst 1, 1) := by decide +kernel
theorem dX9_ways_73 : decode cX9_ways 73 = .ok (.iadd, 1) := by decide +kernel
theorem dX9_ways_74 : decode cX9_ways 74 = .ok (.iaload, 1) := by decide +kernel
theorem dX9_ways_75 : decode cX9_ways 75 = .ok (.istore 4, 2) := by decide +kernel
theorem dX9_ways_77 : decode cX9_ways 77 = .ok (.lconst 0, 1) := by decide +kernel
theorem dX9_ways_78 : decode cX9_ways 78 = .ok (.lstore 5, 2) := by decide +kernel
theorem dX9_ways_80 : decode cX9_ways 80 = .ok (.iconst 0, 1) := by decide +kernel
theorem dX9_ways_81 : decode cX9_ways 81 = .ok (.istore 7, 2) := by decide +kernel
theorem dX9_ways_83 : decode cX9_ways 83 = .ok (.iload 7, 2) := by decide +kernel
theorem dX9_ways_85 : decode cX9_ways 85 = .ok (.bipush 36, 2) := by decide +kernel
theorem dX9_ways_87 : decode cX9_ways 87 = .ok (.if_icmp .ge 44, 3) := by decide +kernel
theorem dX9_ways_90 : decode cX9_ways 90 = .ok (.aload_n 0, 1) := by decide +kernel
theorem dX9_ways_91 : decode cX9_ways 91 = .ok (.getfield 29, 3) := by decide +kernel
theorem dX9_ways_94 : decode cX9_ways 94 = .ok (.iconst 3, 1) := by decide +kernel
theorem dX9_ways_95 : decode cX9_ways 95 = .ok (.iload_n 2, 1) := by decide +kernel
theorem dX9_ways_96 : decode cX9_ways 96 = .ok (.imul, 1) := by decide +kernel
theorem dX9_ways_97 : decode cX9_ways 97 = .ok (.iconst 1, 1) := by decide +kernel
theorem dX9_ways_98 : decode cX9_ways 98 = .ok (.iadd, 1) := by decide +kernel
theorem dX9_ways_99 : decode cX9_ways 99 = .ok (.iload 7, 2) := by decide +kernel
theorem dX9_ways_101 : decode cX9_ways 101 = .ok (.iastore, 1) := by decide +kernel
theorem dX9_ways_102 : decode cX9_ways 102 = .ok (.lload 5, 2) := by decide +kernel
theorem dX9_ways_104 : decode cX9_ways 104 = .ok (.aload_n 0, 1) := by decide +kernel
theorem dX9_ways_105 : decode cX9_ways 105 = .ok (.iload_n 1, 1) := by decide +kernel
theorem dX9_ways_106 : decode cX9_ways 106 = .ok (.iload_n 2, 1) := by decide +kernel
theorem dX9_ways_107 : decode cX9_ways 107 = .ok (.invokevirtual 403, 3) := by decide +kernel
theorem dX9_ways_110 : decode cX9_ways 110 = .ok (.iconst (-1), 1) := by decide +kernel
theorem dX9_ways_111 : decode cX9_ways 111 = .ok (.if_icmp .ne 10, 3) := by decide +kernel
theorem dX9_ways_114 : decode cX9_ways 114 = .ok (.lconst 1, 1) := by decide +kernel
theorem dX9_ways_115 : decode cX9_ways 115 = .ok (.iload 7, 2) := by decide +kernel
theorem dX9_ways_117 : decode cX9_ways 117 = .ok (.lshl, 1) := by decide +kernel
theorem dX9_ways_118 : decode cX9_ways 118 = .ok (.goto 4, 3) := by decide +kernel
theorem dX9_ways_121 : decode cX9_ways 121 = .ok (.lconst 0, 1) := by decide +kernel
theorem dX9_ways_122 : decode cX9_ways 122 = .ok (.lor, 1) := by decide +kernel
theorem dX9_ways_123 : decode cX9_ways 123 = .ok (.lstore 5, 2) := by decide +kernel
theorem dX9_ways_125 : decode cX9_ways 125 = .ok (.iinc 7 1, 3) := by decide +kernel
theorem dX9_ways_128 : decode cX9_ways 128 = .ok (.goto (-45), 3) := by decide +kernel
theorem dX9_ways_131 : decode cX9_ways 131 = .ok (.aload_n 0, 1) := by decide +kernel
theorem dX9_ways_132 : decode cX9_ways 132 = .ok (.getfield 29, 3) := by decide +kernel
theorem dX9_ways_135 : decode cX9_ways 135 = .ok (.iconst 3, 1) := by decide +kernel
theorem dX9_ways_136 : decode cX9_ways 136 = .ok (.iload_n 2, 1) := by decide +kernel
theorem dX9_ways_137 : decode cX9_ways 137 = .ok (.imul, 1) := by decide +kernel
theorem dX9_ways_138 : decode cX9_ways 138 = .ok (.iconst 1, 1) := by decide +kernel
theorem dX9_ways_139 : decode cX9_ways 139 = .ok (.iadd, 1) := by decide +kernel
theorem dX9_ways_140 : decode cX9_ways 140 = .ok (.iload 4, 2) := by decide +kernel
theorem dX9_ways_142 : decode cX9_ways 142 = .ok (.iastore, 1) := by decide +kernel
theorem dX9_ways_143 : decode cX9_ways 143 = .ok (.lload 5, 2) := by decide +kernel
theorem dX9_ways_145 : decode cX9_ways 145 = .ok (.lreturn, 1) := by decide +kernel
theorem dX9_drawn_0 : decode cX9_drawn 0 = .ok (.aload_n 0, 1) := by decide +kernel
theorem dX9_drawn_1 : decode cX9_drawn 1 = .ok (.iload_n 2, 1) := by decide +kernel
theorem dX9_drawn_2 : decode cX9_drawn 2 = .ok (.invokevirtual 95, 3) := by decide +kernel
theorem dX9_drawn_5 : decode cX9_drawn 5 = .ok (.ifCond .eq 15, 3) := by decide +kernel
theorem dX9_drawn_8 : decode cX9_drawn 8 = .ok (.iload_n 3, 1) := by decide +kernel
theorem dX9_drawn_9 : decode cX9_drawn 9 = .ok (.i2l, 1) := by decide +kernel
theorem dX9_drawn_10 : decode cX9_drawn 10 = .ok (.lconst 0, 1) := by decide +kernel
theorem dX9_drawn_11 : decode cX9_drawn 11 = .ok (.ldc2_w 413, 3) := by decide +kernel
theorem dX9_drawn_14 : decode cX9_drawn 14 = .ok (.invokestatic 83, 3) := by decide +kernel
theorem dX9_drawn_17 : decode cX9_drawn 17 = .ok (.ifCond .ne 6, 3) := by decide +kernel
theorem dX9_drawn_20 : decode cX9_drawn 20 = .ok (.bipush (-2), 2) := by decide +kernel
theorem dX9_drawn_22 : decode cX9_drawn 22 = .ok (.ireturn, 1) := by decide +kernel
theorem dX9_drawn_23 : decode cX9_drawn 23 = .ok (.iload_n 1, 1) := by decide +kernel
theorem dX9_drawn_24 : decode cX9_drawn 24 = .ok (.istore 4, 2) := by decide +kernel
theorem dX9_drawn_26 : decode cX9_drawn 26 = .ok (.aload_n 0, 1) := by decide +kernel
theorem dX9_drawn_27 : decode cX9_drawn 27 = .ok (.getfield 29, 3) := by decide +kernel
theorem dX9_drawn_30 : decode cX9_drawn 30 = .ok (.iconst 3, 1) := by decide +kernel
theorem dX9_drawn_31 : decode cX9_drawn 31 = .ok (.iload_n 2, 1) := by decide +kernel
theorem dX9_drawn_32 : decode cX9_drawn 32 = .ok (.imul, 1) := by decide +kernel
theorem dX9_drawn_33 : decode cX9_drawn 33 = .ok (.iconst 1, 1) := by decide +kernel
theorem dX9_drawn_34 : decode cX9_drawn 34 = .ok (.iadd, 1) := by decide +kernel
theorem dX9_drawn_35 : decode cX9_drawn 35 = .ok (.iaload, 1) := by decide +kernel
theorem dX9_drawn_36 : decode cX9_drawn 36 = .ok (.istore 5, 2) := by decide +kernel
theorem dX9_drawn_38 : decode cX9_drawn 38 = .ok (.iconst 0, 1) := by decide +kernel
theorem dX9_drawn_39 : decode cX9_drawn 39 = .ok (.istore 6, 2) := by decide +kernel
theorem dX9_drawn_41 : decode cX9_drawn 41 = .ok (.iload 6, 2) := by decide +kernel
theorem dX9_drawn_43 : decode cX9_drawn 43 = .ok (.iload_n 3, 1) := by decide +kernel
theorem dX9_drawn_44 : decode cX9_drawn 44 = .ok (.if_icmp .ge 38, 3) := by decide +kernel
theorem dX9_drawn_47 : decode cX9_drawn 47 = .ok (.iload 4, 2) := by decide +kernel
theorem dX9_drawn_49 : decode cX9_drawn 49 = .ok (.ldc_w 415, 3) := by decide +kernel
theorem dX9_drawn_52 : decode cX9_drawn 52 = .ok (.imul, 1) := by decide +kernel
theorem dX9_drawn_53 : decode cX9_drawn 53 = .ok (.sipush 12345, 3) := by decide +kernel
theorem dX9_drawn_56 : decode cX9_drawn 56 = .ok (.iadd, 1) := by decide +kernel
theorem dX9_drawn_57 : decode cX9_drawn 57 = .ok (.istore 4, 2) := by decide +kernel
theorem dX9_drawn_59 : decode cX9_drawn 59 = .ok (.aload_n 0, 1) := by decide +kernel
theorem dX9_drawn_60 : decode cX9_drawn 60 = .ok (.iload_n 2, 1) := by decide +kernel
theorem dX9_drawn_61 : decode cX9_drawn 61 = .ok (.iload 5, 2) := by decide +kernel
theorem dX9_drawn_63 : decode cX9_drawn 63 = .ok (.iload 4, 2) := by decide +kernel
theorem dX9_drawn_65 : decode cX9_drawn 65 = .ok (.bipush 9, 2) := by decide +kernel
theorem dX9_drawn_67 : decode cX9_drawn 67 = .ok (.iushr, 1) := by decide +kernel
theorem dX9_drawn_68 : decode cX9_drawn 68 = .ok (.bipush 8, 2) := by decide +kernel
theorem dX9_drawn_70 : decode cX9_drawn 70 = .ok (.irem, 1) := by decide +kernel
theorem dX9_drawn_71 : decode cX9_drawn 71 = .ok (.invokevirtual 132, 3) := by decide +kernel
theorem dX9_drawn_74 : decode cX9_drawn 74 = .ok (.istore 5, 2) := by decide +kernel
theorem dX9_drawn_76 : decode cX9_drawn 76 = .ok (.iinc 6 1, 3) := by decide +kernel
theorem dX9_drawn_79 : decode cX9_drawn 79 = .ok (.goto (-38), 3) := by decide +kernel
theorem dX9_drawn_82 : decode cX9_drawn 82 = .ok (.iload 5, 2) := by decide +kernel
theorem dX9_drawn_84 : decode cX9_drawn 84 = .ok (.ireturn, 1) := by decide +kernel
theorem dX9_comesBy_0 : decode cX9_comesBy 0 = .ok (.iload_n 1, 1) := by decide +kernel
theorem dX9_comesBy_1 : decode cX9_comesBy 1 = .ok (.istore 4, 2) := by decide +kernel
theorem dX9_comesBy_3 : decode cX9_comesBy 3 = .ok (.aload_n 0, 1) := by decide +kernel
theorem dX9_comesBy_4 : decode cX9_comesBy 4 = .ok (.getfield 29, 3) := by decide +kernel
theorem dX9_comesBy_7 : decode cX9_comesBy 7 = .ok (.iconst 3, 1) := by decide +kernel
theorem dX9_comesBy_8 : decode cX9_comesBy 8 = .ok (.iload_n 2, 1) := by decide +kernel
theorem dX9_comesBy_9 : decode cX9_comesBy 9 = .ok (.imul, 1) := by decide +kernel
theorem dX9_comesBy_10 : decode cX9_comesBy 10 = .ok (.iconst 1, 1) := by decide +kernel
theorem dX9_comesBy_11 : decode cX9_comesBy 11 = .ok (.iadd, 1) := by decide +kernel
theorem dX9_comesBy_12 : decode cX9_comesBy 12 = .ok (.iaload, 1) := by decide +kernel
theorem dX9_comesBy_13 : decode cX9_comesBy 13 = .ok (.istore 5, 2) := by decide +kernel
theorem dX9_comesBy_15 : decode cX9_comesBy 15 = .ok (.iconst 0, 1) := by decide +kernel
theorem dX9_comesBy_16 : decode cX9_comesBy 16 = .ok (.istore 6, 2) := by decide +kernel
theorem dX9_comesBy_18 : decode cX9_comesBy 18 = .ok (.iload 6, 2) := by decide +kernel
theorem dX9_comesBy_20 : decode cX9_comesBy 20 = .ok (.bipush 12, 2) := by decide +kernel
theorem dX9_comesBy_22 : decode cX9_comesBy 22 = .ok (.if_icmp .ge 44, 3) := by decide +kernel
theorem dX9_comesBy_25 : decode cX9_comesBy 25 = .ok (.iload 5, 2) := by decide +kernel
theorem dX9_comesBy_27 : decode cX9_comesBy 27 = .ok (.iload_n 3, 1) := by decide +kernel
theorem dX9_comesBy_28 : decode cX9_comesBy 28 = .ok (.if_icmp .eq 38, 3) := by decide +kernel
theorem dX9_comesBy_31 : decode cX9_comesBy 31 = .ok (.iload 4, 2) := by decide +kernel
theorem dX9_comesBy_33 : decode cX9_comesBy 33 = .ok (.ldc_w 415, 3) := by decide +kernel
theorem dX9_comesBy_36 : decode cX9_comesBy 36 = .ok (.imul, 1) := by decide +kernel
theorem dX9_comesBy_37 : decode cX9_comesBy 37 = .ok (.sipush 12345, 3) := by decide +kernel
theorem dX9_comesBy_40 : decode cX9_comesBy 40 = .ok (.iadd, 1) := by decide +kernel
theorem dX9_comesBy_41 : decode cX9_comesBy 41 = .ok (.istore 4, 2) := by decide +kernel
theorem dX9_comesBy_43 : decode cX9_comesBy 43 = .ok (.aload_n 0, 1) := by decide +kernel
theorem dX9_comesBy_44 : decode cX9_comesBy 44 = .ok (.iload_n 2, 1) := by decide +kernel
theorem dX9_comesBy_45 : decode cX9_comesBy 45 = .ok (.iload 5, 2) := by decide +kernel
theorem dX9_comesBy_47 : decode cX9_comesBy 47 = .ok (.iload 4, 2) := by decide +kernel
theorem dX9_comesBy_49 : decode cX9_comesBy 49 = .ok (.bipush 9, 2) := by decide +kernel
theorem dX9_comesBy_51 : decode cX9_comesBy 51 = .ok (.iushr, 1) := by decide +kernel
theorem dX9_comesBy_52 : decode cX9_comesBy 52 = .ok (.bipush 8, 2) := by decide +kernel
theorem dX9_comesBy_54 : decode cX9_comesBy 54 = .ok (.irem, 1) := by decide +kernel
theorem dX9_comesBy_55 : decode cX9_comesBy 55 = .ok (.invokevirtual 132, 3) := by decide +kernel
theorem dX9_comesBy_58 : decode cX9_comesBy 58 = .ok (.istore 5, 2) := by decide +kernel
theorem dX9_comesBy_60 : decode cX9_comesBy 60 = .ok (.iinc 6 1, 3) := by decide +kernel
theorem dX9_comesBy_63 : decode cX9_comesBy 63 = .ok (.goto (-45), 3) := by decide +kernel
theorem dX9_comesBy_66 : decode cX9_comesBy 66 = .ok (.iload 5, 2) := by decide +kernel
theorem dX9_comesBy_68 : decode cX9_comesBy 68 = .ok (.iload_n 3, 1) := by decide +kernel
theorem dX9_comesBy_69 : decode cX9_comesBy 69 = .ok (.if_icmp .ne 7, 3) := by decide +kernel
theorem dX9_comesBy_72 : decode cX9_comesBy 72 = .ok (.iconst 1, 1) := by decide +kernel
theorem dX9_comesBy_73 : decode cX9_comesBy 73 = .ok (.goto 4, 3) := by decide +kernel
theorem dX9_comesBy_76 : decode cX9_comesBy 76 = .ok (.iconst 0, 1) := by decide +kernel
theorem dX9_comesBy_77 : decode cX9_comesBy 77 = .ok (.ireturn, 1) := by decide +kernel
theorem dX9_chance_0 : decode cX9_chance 0 = .ok (.aload_n 0, 1) := by decide +kernel
theorem dX9_chance_1 : decode cX9_chance 1 = .ok (.iload_n 3, 1) := by decide +kernel
theorem dX9_chance_2 : decode cX9_chance 2 = .ok (.invokevirtual 95, 3) := by decide +kernel
theorem dX9_chance_5 : decode cX9_chance 5 = .ok (.ifCond .eq 34, 3) := by decide +kernel
theorem dX9_chance_8 : decode cX9_chance 8 = .ok (.iload 4, 2) := by decide +kernel
theorem dX9_chance_10 : decode cX9_chance 10 = .ok (.invokestatic 91, 3) := by decide +kernel
theorem dX9_chance_13 : decode cX9_chance 13 = .ok (.ifCond .eq 26, 3) := by decide +kernel
theorem dX9_chance_16 : decode cX9_chance 16 = .ok (.iload_n 2, 1) := by decide +kernel
theorem dX9_chance_17 : decode cX9_chance 17 = .ok (.i2l, 1) := by decide +kernel
theorem dX9_chance_18 : decode cX9_chance 18 = .ok (.lconst 1, 1) := by decide +kernel
theorem dX9_chance_19 : decode cX9_chance 19 = .ok (.ldc2_w 394, 3) := by decide +kernel
theorem dX9_chance_22 : decode cX9_chance 22 = .ok (.invokestatic 83, 3) := by decide +kernel
theorem dX9_chance_25 : decode cX9_chance 25 = .ok (.ifCond .eq 14, 3) := by decide +kernel
theorem dX9_chance_28 : decode cX9_chance 28 = .ok (.iload 5, 2) := by decide +kernel
theorem dX9_chance_30 : decode cX9_chance 30 = .ok (.i2l, 1) := by decide +kernel
theorem dX9_chance_31 : decode cX9_chance 31 = .ok (.lconst 0, 1) := by decide +kernel
theorem dX9_chance_32 : decode cX9_chance 32 = .ok (.lconst 1, 1) := by decide +kernel
theorem dX9_chance_33 : decode cX9_chance 33 = .ok (.invokestatic 83, 3) := by decide +kernel
theorem dX9_chance_36 : decode cX9_chance 36 = .ok (.ifCond .ne 7, 3) := by decide +kernel
theorem dX9_chance_39 : decode cX9_chance 39 = .ok (.ldc2_w 378, 3) := by decide +kernel
theorem dX9_chance_42 : decode cX9_chance 42 = .ok (.lreturn, 1) := by decide +kernel
theorem dX9_chance_43 : decode cX9_chance 43 = .ok (.lconst 0, 1) := by decide +kernel
theorem dX9_chance_44 : decode cX9_chance 44 = .ok (.lstore 6, 2) := by decide +kernel
theorem dX9_chance_46 : decode cX9_chance 46 = .ok (.iconst 0, 1) := by decide +kernel
theorem dX9_chance_47 : decode cX9_chance 47 = .ok (.istore 8, 2) := by decide +kernel
theorem dX9_chance_49 : decode cX9_chance 49 = .ok (.iload 8, 2) := by decide +kernel
theorem dX9_chance_51 : decode cX9_chance 51 = .ok (.iload_n 2, 1) := by decide +kernel
theorem dX9_chance_52 : decode cX9_chance 52 = .ok (.if_icmp .ge 33, 3) := by decide +kernel
theorem dX9_chance_55 : decode cX9_chance 55 = .ok (.lload 6, 2) := by decide +kernel
theorem dX9_chance_57 : decode cX9_chance 57 = .ok (.aload_n 0, 1) := by decide +kernel
theorem dX9_chance_58 : decode cX9_chance 58 = .ok (.iload_n 1, 1) := by decide +kernel
theorem dX9_chance_59 : decode cX9_chance 59 = .ok (.iload 8, 2) := by decide +kernel
theorem dX9_chance_61 : decode cX9_chance 61 = .ok (.iadd, 1) := by decide +kernel
theorem dX9_chance_62 : decode cX9_chance 62 = .ok (.iload_n 3, 1) := by decide +kernel
theorem dX9_chance_63 : decode cX9_chance 63 = .ok (.iload 4, 2) := by decide +kernel
theorem dX9_chance_65 : decode cX9_chance 65 = .ok (.invokevirtual 416, 3) := by decide +kernel
theorem dX9_chance_68 : decode cX9_chance 68 = .ok (.ifCond .eq 7, 3) := by decide +kernel
theorem dX9_chance_71 : decode cX9_chance 71 = .ok (.lconst 1, 1) := by decide +kernel
theorem dX9_chance_72 : decode cX9_chance 72 = .ok (.goto 4, 3) := by decide +kernel
theorem dX9_chance_75 : decode cX9_chance 75 = .ok (.lconst 0, 1) := by decide +kernel
theorem dX9_chance_76 : decode cX9_chance 76 = .ok (.ladd, 1) := by decide +kernel
theorem dX9_chance_77 : decode cX9_chance 77 = .ok (.lstore 6, 2) := by decide +kernel
theorem dX9_chance_79 : decode cX9_chance 79 = .ok (.iinc 8 1, 3) := by decide +kernel
theorem dX9_chance_82 : decode cX9_chance 82 = .ok (.goto (-33), 3) := by decide +kernel
theorem dX9_chance_85 : decode cX9_chance 85 = .ok (.lload 6, 2) := by decide +kernel
theorem dX9_chance_87 : decode cX9_chance 87 = .ok (.lstore 8, 2) := by decide +kernel
theorem dX9_chance_89 : decode cX9_chance 89 = .ok (.iload_n 2, 1) := by decide +kernel
theorem dX9_chance_90 : decode cX9_chance 90 = .ok (.i2l, 1) := by decide +kernel
theorem dX9_chance_91 : decode cX9_chance 91 = .ok (.lstore 10, 2) := by decide +kernel
theorem dX9_chance_93 : decode cX9_chance 93 = .ok (.lload 10, 2) := by decide +kernel
theorem dX9_chance_95 : decode cX9_chance 95 = .ok (.lconst 0, 1) := by decide +kernel
theorem dX9_chance_96 : decode cX9_chance 96 = .ok (.lcmp, 1) := by decide +kernel
theorem dX9_chance_97 : decode cX9_chance 97 = .ok (.ifCond .eq 21, 3) := by decide +kernel
theorem dX9_chance_100 : decode cX9_chance 100 = .ok (.lload 8, 2) := by decide +kernel
theorem dX9_chance_102 : decode cX9_chance 102 = .ok (.lload 10, 2) := by decide +kernel
theorem dX9_chance_104 : decode cX9_chance 104 = .ok (.lrem, 1) := by decide +kernel
theorem dX9_chance_105 : decode cX9_chance 105 = .ok (.lstore 12, 2) := by decide +kernel
theorem dX9_chance_107 : decode cX9_chance 107 = .ok (.lload 10, 2) := by decide +kernel
theorem dX9_chance_109 : decode cX9_chance 109 = .ok (.lstore 8, 2) := by decide +kernel
theorem dX9_chance_111 : decode cX9_chance 111 = .ok (.lload 12, 2) := by decide +kernel
theorem dX9_chance_113 : decode cX9_chance 113 = .ok (.lstore 10, 2) := by decide +kernel
theorem dX9_chance_115 : decode cX9_chance 115 = .ok (.goto (-22), 3) := by decide +kernel
theorem dX9_chance_118 : decode cX9_chance 118 = .ok (.iload 5, 2) := by decide +kernel
theorem dX9_chance_120 : decode cX9_chance 120 = .ok (.ifCond .ne 11, 3) := by decide +kernel
theorem dX9_chance_123 : decode cX9_chance 123 = .ok (.lload 6, 2) := by decide +kernel
theorem dX9_chance_125 : decode cX9_chance 125 = .ok (.lload 8, 2) := by decide +kernel
theorem dX9_chance_127 : decode cX9_chance 127 = .ok (.ldiv, 1) := by decide +kernel
theorem dX9_chance_128 : decode cX9_chance 128 = .ok (.goto 8, 3) := by decide +kernel
theorem dX9_chance_131 : decode cX9_chance 131 = .ok (.iload_n 2, 1) := by decide +kernel
theorem dX9_chance_132 : decode cX9_chance 132 = .ok (.i2l, 1) := by decide +kernel
theorem dX9_chance_133 : decode cX9_chance 133 = .ok (.lload 8, 2) := by decide +kernel
theorem dX9_chance_135 : decode cX9_chance 135 = .ok (.ldiv, 1) := by decide +kernel
theorem dX9_chance_136 : decode cX9_chance 136 = .ok (.lreturn, 1) := by decide +kernel
theorem dX9_image_0 : decode cX9_image 0 = .ok (.iconst 0, 1) := by decide +kernel
theorem dX9_image_1 : decode cX9_image 1 = .ok (.istore_n 1, 1) := by decide +kernel
theorem dX9_image_2 : decode cX9_image 2 = .ok (.iload_n 1, 1) := by decide +kernel
theorem dX9_image_3 : decode cX9_image 3 = .ok (.bipush 36, 2) := by decide +kernel
theorem dX9_image_5 : decode cX9_image 5 = .ok (.if_icmp .ge 21, 3) := by decide +kernel
theorem dX9_image_8 : decode cX9_image 8 = .ok (.aload_n 0, 1) := by decide +kernel
theorem dX9_image_9 : decode cX9_image 9 = .ok (.getfield 51, 3) := by decide +kernel
theorem dX9_image_12 : decode cX9_image 12 = .ok (.iload_n 1, 1) := by decide +kernel
theorem dX9_image_13 : decode cX9_image 13 = .ok (.aload_n 0, 1) := by decide +kernel
theorem dX9_image_14 : decode cX9_image 14 = .ok (.getfield 23, 3) := by decide +kernel
theorem dX9_image_17 : decode cX9_image 17 = .ok (.iload_n 1, 1) := by decide +kernel
theorem dX9_image_18 : decode cX9_image 18 = .ok (.iaload, 1) := by decide +kernel
theorem dX9_image_19 : decode cX9_image 19 = .ok (.iastore, 1) := by decide +kernel
theorem dX9_image_20 : decode cX9_image 20 = .ok (.iinc 1 1, 3) := by decide +kernel
theorem dX9_image_23 : decode cX9_image 23 = .ok (.goto (-21), 3) := by decide +kernel
theorem dX9_image_26 : decode cX9_image 26 = .ok (.iconst 0, 1) := by decide +kernel
theorem dX9_image_27 : decode cX9_image 27 = .ok (.istore_n 1, 1) := by decide +kernel
theorem dX9_image_28 : decode cX9_image 28 = .ok (.iload_n 1, 1) := by decide +kernel
theorem dX9_image_29 : decode cX9_image 29 = .ok (.bipush 12, 2) := by decide +kernel
theorem dX9_image_31 : decode cX9_image 31 = .ok (.if_icmp .ge 21, 3) := by decide +kernel
theorem dX9_image_34 : decode cX9_image 34 = .ok (.aload_n 0, 1) := by decide +kernel
theorem dX9_image_35 : decode cX9_image 35 = .ok (.getfield 54, 3) := by decide +kernel
theorem dX9_image_38 : decode cX9_image 38 = .ok (.iload_n 1, 1) := by decide +kernel
theorem dX9_image_39 : decode cX9_image 39 = .ok (.aload_n 0, 1) := by decide +kernel
theorem dX9_image_40 : decode cX9_image 40 = .ok (.getfield 29, 3) := by decide +kernel
theorem dX9_image_43 : decode cX9_image 43 = .ok (.iload_n 1, 1) := by decide +kernel
theorem dX9_image_44 : decode cX9_image 44 = .ok (.iaload, 1) := by decide +kernel
theorem dX9_image_45 : decode cX9_image 45 = .ok (.iastore, 1) := by decide +kernel
theorem dX9_image_46 : decode cX9_image 46 = .ok (.iinc 1 1, 3) := by decide +kernel
theorem dX9_image_49 : decode cX9_image 49 = .ok (.goto (-21), 3) := by decide +kernel
theorem dX9_image_52 : decode cX9_image 52 = .ok (.aload_n 0, 1) := by decide +kernel
theorem dX9_image_53 : decode cX9_image 53 = .ok (.aload_n 0, 1) := by decide +kernel
theorem dX9_image_54 : decode cX9_image 54 = .ok (.getfield 80, 3) := by decide +kernel
theorem dX9_image_57 : decode cX9_image 57 = .ok (.putfield 57, 3) := by decide +kernel
theorem dX9_image_60 : decode cX9_image 60 = .ok (.aload_n 0, 1) := by decide +kernel
theorem dX9_image_61 : decode cX9_image 61 = .ok (.aload_n 0, 1) := by decide +kernel
theorem dX9_image_62 : decode cX9_image 62 = .ok (.getfield 116, 3) := by decide +kernel
theorem dX9_image_65 : decode cX9_image 65 = .ok (.putfield 420, 3) := by decide +kernel
theorem dX9_image_68 : decode cX9_image 68 = .ok (.aload_n 0, 1) := by decide +kernel
theorem dX9_image_69 : decode cX9_image 69 = .ok (.aload_n 0, 1) := by decide +kernel
theorem dX9_image_70 : decode cX9_image 70 = .ok (.getfield 119, 3) := by decide +kernel
theorem dX9_image_73 : decode cX9_image 73 = .ok (.putfield 423, 3) := by decide +kernel
theorem dX9_image_76 : decode cX9_image 76 = .ok (.aload_n 0, 1) := by decide +kernel
theorem dX9_image_77 : decode cX9_image 77 = .ok (.getfield 80, 3) := by decide +kernel
theorem dX9_image_80 : decode cX9_image 80 = .ok (.ireturn, 1) := by decide +kernel
theorem dX9_back_0 : decode cX9_back 0 = .ok (.aload_n 0, 1) := by decide +kernel
theorem dX9_back_1 : decode cX9_back 1 = .ok (.getfield 57, 3) := by decide +kernel
theorem dX9_back_4 : decode cX9_back 4 = .ok (.iconst (-1), 1) := by decide +kernel
theorem dX9_back_5 : decode cX9_back 5 = .ok (.if_icmp .ne 6, 3) := by decide +kernel
theorem dX9_back_8 : decode cX9_back 8 = .ok (.bipush (-3), 2) := by decide +kernel
theorem dX9_back_10 : decode cX9_back 10 = .ok (.ireturn, 1) := by decide +kernel
theorem dX9_back_11 : decode cX9_back 11 = .ok (.iconst 0, 1) := by decide +kernel
theorem dX9_back_12 : decode cX9_back 12 = .ok (.istore_n 1, 1) := by decide +kernel
theorem dX9_back_13 : decode cX9_back 13 = .ok (.iload_n 1, 1) := by decide +kernel
theorem dX9_back_14 : decode cX9_back 14 = .ok (.bipush 36, 2) := by decide +kernel
theorem dX9_back_16 : decode cX9_back 16 = .ok (.if_icmp .ge 21, 3) := by decide +kernel
theorem dX9_back_19 : decode cX9_back 19 = .ok (.aload_n 0, 1) := by decide +kernel
theorem dX9_back_20 : decode cX9_back 20 = .ok (.getfield 23, 3) := by decide +kernel
theorem dX9_back_23 : decode cX9_back 23 = .ok (.iload_n 1, 1) := by decide +kernel
theorem dX9_back_24 : decode cX9_back 24 = .ok (.aload_n 0, 1) := by decide +kernel
theorem dX9_back_25 : decode cX9_back 25 = .ok (.getfield 51, 3) := by decide +kernel
theorem dX9_back_28 : decode cX9_back 28 = .ok (.iload_n 1, 1) := by decide +kernel
theorem dX9_back_29 : decode cX9_back 29 = .ok (.iaload, 1) := by decide +kernel
theorem dX9_back_30 : decode cX9_back 30 = .ok (.iastore, 1) := by decide +kernel
theorem dX9_back_31 : decode cX9_back 31 = .ok (.iinc 1 1, 3) := by decide +kernel
theorem dX9_back_34 : decode cX9_back 34 = .ok (.goto (-21), 3) := by decide +kernel
theorem dX9_back_37 : decode cX9_back 37 = .ok (.iconst 0, 1) := by decide +kernel
theorem dX9_back_38 : decode cX9_back 38 = .ok (.istore_n 1, 1) := by decide +kernel
theorem dX9_back_39 : decode cX9_back 39 = .ok (.iload_n 1, 1) := by decide +kernel
theorem dX9_back_40 : decode cX9_back 40 = .ok (.bipush 12, 2) := by decide +kernel
theorem dX9_back_42 : decode cX9_back 42 = .ok (.if_icmp .ge 21, 3) := by decide +kernel
theorem dX9_back_45 : decode cX9_back 45 = .ok (.aload_n 0, 1) := by decide +kernel
theorem dX9_back_46 : decode cX9_back 46 = .ok (.getfield 29, 3) := by decide +kernel
theorem dX9_back_49 : decode cX9_back 49 = .ok (.iload_n 1, 1) := by decide +kernel
theorem dX9_back_50 : decode cX9_back 50 = .ok (.aload_n 0, 1) := by decide +kernel
theorem dX9_back_51 : decode cX9_back 51 = .ok (.getfield 54, 3) := by decide +kernel
theorem dX9_back_54 : decode cX9_back 54 = .ok (.iload_n 1, 1) := by decide +kernel
theorem dX9_back_55 : decode cX9_back 55 = .ok (.iaload, 1) := by decide +kernel
theorem dX9_back_56 : decode cX9_back 56 = .ok (.iastore, 1) := by decide +kernel
theorem dX9_back_57 : decode cX9_back 57 = .ok (.iinc 1 1, 3) := by decide +kernel
theorem dX9_back_60 : decode cX9_back 60 = .ok (.goto (-21), 3) := by decide +kernel
theorem dX9_back_63 : decode cX9_back 63 = .ok (.aload_n 0, 1) := by decide +kernel
theorem dX9_back_64 : decode cX9_back 64 = .ok (.aload_n 0, 1) := by decide +kernel
theorem dX9_back_65 : decode cX9_back 65 = .ok (.getfield 57, 3) := by decide +kernel
theorem dX9_back_68 : decode cX9_back 68 = .ok (.putfield 80, 3) := by decide +kernel
theorem dX9_back_71 : decode cX9_back 71 = .ok (.aload_n 0, 1) := by decide +kernel
theorem dX9_back_72 : decode cX9_back 72 = .ok (.aload_n 0, 1) := by decide +kernel
theorem dX9_back_73 : decode cX9_back 73 = .ok (.getfield 420, 3) := by decide +kernel
theorem dX9_back_76 : decode cX9_back 76 = .ok (.putfield 116, 3) := by decide +kernel
theorem dX9_back_79 : decode cX9_back 79 = .ok (.aload_n 0, 1) := by decide +kernel
theorem dX9_back_80 : decode cX9_back 80 = .ok (.aload_n 0, 1) := by decide +kernel
theorem dX9_back_81 : decode cX9_back 81 = .ok (.getfield 423, 3) := by decide +kernel
theorem dX9_back_84 : decode cX9_back 84 = .ok (.putfield 119, 3) := by decide +kernel
theorem dX9_back_87 : decode cX9_back 87 = .ok (.aload_n 0, 1) := by decide +kernel
theorem dX9_back_88 : decode cX9_back 88 = .ok (.getfield 80, 3) := by decide +kernel
theorem dX9_back_91 : decode cX9_back 91 = .ok (.ireturn, 1) := by decide +kernel
theorem dX9_count_0 : decode cX9_count 0 = .ok (.iload_n 1, 1) := by decide +kernel
theorem dX9_count_1 : decode cX9_count 1 = .ok (.i2l, 1) := by decide +kernel
theorem dX9_count_2 : decode cX9_count 2 = .ok (.lconst 0, 1) := by decide +kernel
theorem dX9_count_3 : decode cX9_count 3 = .ok (.ldc2_w 122, 3) := by decide +kernel
theorem dX9_count_6 : decode cX9_count 6 = .ok (.invokestatic 83, 3) := by decide +kernel
theorem dX9_count_9 : decode cX9_count 9 = .ok (.ifCond .ne 6, 3) := by decide +kernel
theorem dX9_count_12 : decode cX9_count 12 = .ok (.bipush (-2), 2) := by decide +kernel
theorem dX9_count_14 : decode cX9_count 14 = .ok (.ireturn, 1) := by decide +kernel
theorem dX9_count_15 : decode cX9_count 15 = .ok (.iload_n 1, 1) := by decide +kernel
theorem dX9_count_16 : decode cX9_count 16 = .ok (.iconst 2, 1) := by decide +kernel
theorem dX9_count_17 : decode cX9_count 17 = .ok (.if_icmp .le 32, 3) := by decide +kernel
theorem dX9_count_20 : decode cX9_count 20 = .ok (.iload_n 1, 1) := by decide +kernel
theorem dX9_count_21 : decode cX9_count 21 = .ok (.iconst 3, 1) := by decide +kernel
theorem dX9_count_22 : decode cX9_count 22 = .ok (.if_icmp .ne 10, 3) := by decide +kernel
theorem dX9_count_25 : decode cX9_count 25 = .ok (.aload_n 0, 1) := by decide +kernel
theorem dX9_count_26 : decode cX9_count 26 = .ok (.getfield 77, 3) := by decide +kernel
theorem dX9_count_29 : decode cX9_count 29 = .ok (.goto 19, 3) := by decide +kernel
theorem dX9_count_32 : decode cX9_count 32 = .ok (.iload_n 1, 1) := by decide +kernel
theorem dX9_count_33 : decode cX9_count 33 = .ok (.iconst 4, 1) := by decide +kernel
theorem dX9_count_34 : decode cX9_count 34 = .ok (.if_icmp .ne 10, 3) := by decide +kernel
theorem dX9_count_37 : decode cX9_count 37 = .ok (.aload_n 0, 1) := by decide +kernel
theorem dX9_count_38 : decode cX9_count 38 = .ok (.getfield 141, 3) := by decide +kernel
theorem dX9_count_41 : decode cX9_count 41 = .ok (.goto 7, 3) := by decide +kernel
theorem dX9_count_44 : decode cX9_count 44 = .ok (.aload_n 0, 1) := by decide +kernel
theorem dX9_count_45 : decode cX9_count 45 = .ok (.getfield 119, 3) := by decide +kernel
theorem dX9_count_48 : decode cX9_count 48 = .ok (.ireturn, 1) := by decide +kernel
theorem dX9_count_49 : decode cX9_count 49 = .ok (.iconst 0, 1) := by decide +kernel
theorem dX9_count_50 : decode cX9_count 50 = .ok (.istore_n 2, 1) := by decide +kernel
theorem dX9_count_51 : decode cX9_count 51 = .ok (.iconst 0, 1) := by decide +kernel
theorem dX9_count_52 : decode cX9_count 52 = .ok (.istore_n 3, 1) := by decide +kernel
theorem dX9_count_53 : decode cX9_count 53 = .ok (.iload_n 3, 1) := by decide +kernel
theorem dX9_count_54 : decode cX9_count 54 = .ok (.bipush 36, 2) := by decide +kernel
theorem dX9_count_56 : decode cX9_count 56 = .ok (.if_icmp .ge 23, 3) := by decide +kernel
theorem dX9_count_59 : decode cX9_count 59 = .ok (.iload_n 1, 1) := by decide +kernel
theorem dX9_count_60 : decode cX9_count 60 = .ok (.iconst 1, 1) := by decide +kernel
theorem dX9_count_61 : decode cX9_count 61 = .ok (.if_icmp .ne 18, 3) := by decide +kernel
theorem dX9_count_64 : decode cX9_count 64 = .ok (.iload_n 2, 1) := by decide +kernel
theorem dX9_count_65 : decode cX9_count 65 = .ok (.aload_n 0, 1) := by decide +kernel
theorem dX9_count_66 : decode cX9_count 66 = .ok (.getfield 23, 3) := by decide +kernel
theorem dX9_count_69 : decode cX9_count 69 = .ok (.iload_n 3, 1) := by decide +kernel
theorem dX9_count_70 : decode cX9_count 70 = .ok (.iaload, 1) := by decide +kernel
theorem dX9_count_71 : decode cX9_count 71 = .ok (.iadd, 1) := by decide +kernel
theorem dX9_count_72 : decode cX9_count 72 = .ok (.istore_n 2, 1) := by decide +kernel
theorem dX9_count_73 : decode cX9_count 73 = .ok (.iinc 3 1, 3) := by decide +kernel
theorem dX9_count_76 : decode cX9_count 76 = .ok (.goto (-23), 3) := by decide +kernel
theorem dX9_count_79 : decode cX9_count 79 = .ok (.iconst 0, 1) := by decide +kernel
theorem dX9_count_80 : decode cX9_count 80 = .ok (.istore_n 3, 1) := by decide +kernel
theorem dX9_count_81 : decode cX9_count 81 = .ok (.iload_n 3, 1) := by decide +kernel
theorem dX9_count_82 : decode cX9_count 82 = .ok (.aload_n 0, 1) := by decide +kernel
theorem dX9_count_83 : decode cX9_count 83 = .ok (.getfield 80, 3) := by decide +kernel
theorem dX9_count_86 : decode cX9_count 86 = .ok (.if_icmp .ge 27, 3) := by decide +kernel
theorem dX9_count_89 : decode cX9_count 89 = .ok (.iload_n 1, 1) := by decide +kernel
theorem dX9_count_90 : decode cX9_count 90 = .ok (.iconst 2, 1) := by decide +kernel
theorem dX9_count_91 : decode cX9_count 91 = .ok (.if_icmp .ne 22, 3) := by decide +kernel
theorem dX9_count_94 : decode cX9_count 94 = .ok (.iload_n 2, 1) := by decide +kernel
theorem dX9_count_95 : decode cX9_count 95 = .ok (.aload_n 0, 1) := by decide +kernel
theorem dX9_count_96 : decode cX9_count 96 = .ok (.getfield 29, 3) := by decide +kernel
theorem dX9_count_99 : decode cX9_count 99 = .ok (.iconst 3, 1) := by decide +kernel
theorem dX9_count_100 : decode cX9_count 100 = .ok (.iload_n 3, 1) := by decide +kernel
theorem dX9_count_101 : decode cX9_count 101 = .ok (.imul, 1) := by decide +kernel
theorem dX9_count_102 : decode cX9_count 102 = .ok (.iconst 2, 1) := by decide +kernel
theorem dX9_count_103 : decode cX9_count 103 = .ok (.iadd, 1) := by decide +kernel
theorem dX9_count_104 : decode cX9_count 104 = .ok (.iaload, 1) := by decide +kernel
theorem dX9_count_105 : decode cX9_count 105 = .ok (.iadd, 1) := by decide +kernel
theorem dX9_count_106 : decode cX9_count 106 = .ok (.istore_n 2, 1) := by decide +kernel
theorem dX9_count_107 : decode cX9_count 107 = .ok (.iinc 3 1, 3) := by decide +kernel
theorem dX9_count_110 : decode cX9_count 110 = .ok (.goto (-29), 3) := by decide +kernel
theorem dX9_count_113 : decode cX9_count 113 = .ok (.iload_n 1, 1) := by decide +kernel
theorem dX9_count_114 : decode cX9_count 114 = .ok (.ifCond .ne 10, 3) := by decide +kernel
theorem dX9_count_117 : decode cX9_count 117 = .ok (.aload_n 0, 1) := by decide +kernel
theorem dX9_count_118 : decode cX9_count 118 = .ok (.getfield 80, 3) := by decide +kernel
theorem dX9_count_121 : decode cX9_count 121 = .ok (.goto 4, 3) := by decide +kernel
theorem dX9_count_124 : decode cX9_count 124 = .ok (.iload_n 2, 1) := by decide +kernel
theorem dX9_count_125 : decode cX9_count 125 = .ok (.ireturn, 1) := by decide +kernel
theorem dX9_isSheet_0 : decode cX9_isSheet 0 = .ok (.iload_n 0, 1) := by decide +kernel
theorem dX9_isSheet_1 : decode cX9_isSheet 1 = .ok (.i2l, 1) := by decide +kernel
theorem dX9_isSheet_2 : decode cX9_isSheet 2 = .ok (.lconst 0, 1) := by decide +kernel
theorem dX9_isSheet_3 : decode cX9_isSheet 3 = .ok (.ldc2_w 426, 3) := by decide +kernel
theorem dX9_isSheet_6 : decode cX9_isSheet 6 = .ok (.invokestatic 83, 3) := by decide +kernel
theorem dX9_isSheet_9 : decode cX9_isSheet 9 = .ok (.ireturn, 1) := by decide +kernel
theorem dX9_sheet_0 : decode cX9_sheet 0 = .ok (.iload_n 1, 1) := by decide +kernel
theorem dX9_sheet_1 : decode cX9_sheet 1 = .ok (.invokestatic 366, 3) := by decide +kernel
theorem dX9_sheet_4 : decode cX9_sheet 4 = .ok (.ifCond .eq 27, 3) := by decide +kernel
theorem dX9_sheet_7 : decode cX9_sheet 7 = .ok (.iload_n 2, 1) := by decide +kernel
theorem dX9_sheet_8 : decode cX9_sheet 8 = .ok (.i2l, 1) := by decide +kernel
theorem dX9_sheet_9 : decode cX9_sheet 9 = .ok (.ldc2_w 428, 3) := by decide +kernel
theorem dX9_sheet_12 : decode cX9_sheet 12 = .ok (.ldc2_w 386, 3) := by decide +kernel
theorem dX9_sheet_15 : decode cX9_sheet 15 = .ok (.invokestatic 83, 3) := by decide +kernel
theorem dX9_sheet_18 : decode cX9_sheet 18 = .ok (.ifCond .eq 13, 3) := by decide +kernel
theorem dX9_sheet_21 : decode cX9_sheet 21 = .ok (.iload_n 2, 1) := by decide +kernel
theorem dX9_sheet_22 : decode cX9_sheet 22 = .ok (.ifCond .lt 12, 3) := by decide +kernel
theorem dX9_sheet_25 : decode cX9_sheet 25 = .ok (.iload_n 3, 1) := by decide +kernel
theorem dX9_sheet_26 : decode cX9_sheet 26 = .ok (.bipush 40, 2) := by decide +kernel
theorem dX9_sheet_28 : decode cX9_sheet 28 = .ok (.if_icmp .le 6, 3) := by decide +kernel
theorem dX9_sheet_31 : decode cX9_sheet 31 = .ok (.bipush (-2), 2) := by decide +kernel
theorem dX9_sheet_33 : decode cX9_sheet 33 = .ok (.ireturn, 1) := by decide +kernel
theorem dX9_sheet_34 : decode cX9_sheet 34 = .ok (.iload_n 2, 1) := by decide +kernel
theorem dX9_sheet_35 : decode cX9_sheet 35 = .ok (.ifCond .lt 10, 3) := by decide +kernel
theorem dX9_sheet_38 : decode cX9_sheet 38 = .ok (.iload_n 3, 1) := by decide +kernel
theorem dX9_sheet_39 : decode cX9_sheet 39 = .ok (.ifCond .ge 6, 3) := by decide +kernel
theorem dX9_sheet_42 : decode cX9_sheet 42 = .ok (.bipush (-14), 2) := by decide +kernel
theorem dX9_sheet_44 : decode cX9_sheet 44 = .ok (.ireturn, 1) := by decide +kernel
theorem dX9_sheet_45 : decode cX9_sheet 45 = .ok (.aload_n 0, 1) := by decide +kernel
theorem dX9_sheet_46 : decode cX9_sheet 46 = .ok (.getfield 60, 3) := by decide +kernel
theorem dX9_sheet_49 : decode cX9_sheet 49 = .ok (.iload_n 1, 1) := by decide +kernel
theorem dX9_sheet_50 : decode cX9_sheet 50 = .ok (.iload_n 2, 1) := by decide +kernel
theorem dX9_sheet_51 : decode cX9_sheet 51 = .ok (.ifCond .lt 7, 3) := by decide +kernel
theorem dX9_sheet_54 : decode cX9_sheet 54 = .ok (.iconst 1, 1) := by decide +kernel
theorem dX9_sheet_55 : decode cX9_sheet 55 = .ok (.goto 4, 3) := by decide +kernel
theorem dX9_sheet_58 : decode cX9_sheet 58 = .ok (.iconst 0, 1) := by decide +kernel
theorem dX9_sheet_59 : decode cX9_sheet 59 = .ok (.bastore, 1) := by decide +kernel
theorem dX9_sheet_60 : decode cX9_sheet 60 = .ok (.aload_n 0, 1) := by decide +kernel
theorem dX9_sheet_61 : decode cX9_sheet 61 = .ok (.getfield 64, 3) := by decide +kernel
theorem dX9_sheet_64 : decode cX9_sheet 64 = .ok (.iload_n 1, 1) := by decide +kernel
theorem dX9_sheet_65 : decode cX9_sheet 65 = .ok (.iload_n 2, 1) := by decide +kernel
theorem dX9_sheet_66 : decode cX9_sheet 66 = .ok (.iastore, 1) := by decide +kernel
theorem dX9_sheet_67 : decode cX9_sheet 67 = .ok (.aload_n 0, 1) := by decide +kernel
theorem dX9_sheet_68 : decode cX9_sheet 68 = .ok (.getfield 67, 3) := by decide +kernel
theorem dX9_sheet_71 : decode cX9_sheet 71 = .ok (.iload_n 1, 1) := by decide +kernel
theorem dX9_sheet_72 : decode cX9_sheet 72 = .ok (.iload_n 3, 1) := by decide +kernel
theorem dX9_sheet_73 : decode cX9_sheet 73 = .ok (.iastore, 1) := by decide +kernel
theorem dX9_sheet_74 : decode cX9_sheet 74 = .ok (.iconst 0, 1) := by decide +kernel
theorem dX9_sheet_75 : decode cX9_sheet 75 = .ok (.istore 4, 2) := by decide +kernel
theorem dX9_sheet_77 : decode cX9_sheet 77 = .ok (.iload 4, 2) := by decide +kernel
theorem dX9_sheet_79 : decode cX9_sheet 79 = .ok (.iload_n 3, 1) := by decide +kernel
theorem dX9_sheet_80 : decode cX9_sheet 80 = .ok (.if_icmp .ge 26, 3) := by decide +kernel
theorem dX9_sheet_83 : decode cX9_sheet 83 = .ok (.iload_n 2, 1) := by decide +kernel
theorem dX9_sheet_84 : decode cX9_sheet 84 = .ok (.ifCond .lt 22, 3) := by decide +kernel
theorem dX9_sheet_87 : decode cX9_sheet 87 = .ok (.aload_n 0, 1) := by decide +kernel
theorem dX9_sheet_88 : decode cX9_sheet 88 = .ok (.getfield 70, 3) := by decide +kernel
theorem dX9_sheet_91 : decode cX9_sheet 91 = .ok (.bipush 40, 2) := by decide +kernel
theorem dX9_sheet_93 : decode cX9_sheet 93 = .ok (.iload_n 1, 1) := by decide +kernel
theorem dX9_sheet_94 : decode cX9_sheet 94 = .ok (.imul, 1) := by decide +kernel
theorem dX9_sheet_95 : decode cX9_sheet 95 = .ok (.iload 4, 2) := by decide +kernel
theorem dX9_sheet_97 : decode cX9_sheet 97 = .ok (.iadd, 1) := by decide +kernel
theorem dX9_sheet_98 : decode cX9_sheet 98 = .ok (.iconst 0, 1) := by decide +kernel
theorem dX9_sheet_99 : decode cX9_sheet 99 = .ok (.iastore, 1) := by decide +kernel
theorem dX9_sheet_100 : decode cX9_sheet 100 = .ok (.iinc 4 1, 3) := by decide +kernel
theorem dX9_sheet_103 : decode cX9_sheet 103 = .ok (.goto (-26), 3) := by decide +kernel
theorem dX9_sheet_106 : decode cX9_sheet 106 = .ok (.iconst 1, 1) := by decide +kernel
theorem dX9_sheet_107 : decode cX9_sheet 107 = .ok (.ireturn, 1) := by decide +kernel
theorem dX9_cell_0 : decode cX9_cell 0 = .ok (.iload_n 1, 1) := by decide +kernel
theorem dX9_cell_1 : decode cX9_cell 1 = .ok (.invokestatic 366, 3) := by decide +kernel
theorem dX9_cell_4 : decode cX9_cell 4 = .ok (.ifCond .ne 6, 3) := by decide +kernel
theorem dX9_cell_7 : decode cX9_cell 7 = .ok (.bipush (-2), 2) := by decide +kernel
theorem dX9_cell_9 : decode cX9_cell 9 = .ok (.ireturn, 1) := by decide +kernel
theorem dX9_cell_10 : decode cX9_cell 10 = .ok (.aload_n 0, 1) := by decide +kernel
theorem dX9_cell_11 : decode cX9_cell 11 = .ok (.getfield 60, 3) := by decide +kernel
theorem dX9_cell_14 : decode cX9_cell 14 = .ok (.iload_n 1, 1) := by decide +kernel
theorem dX9_cell_15 : decode cX9_cell 15 = .ok (.baload, 1) := by decide +kernel
theorem dX9_cell_16 : decode cX9_cell 16 = .ok (.ifCond .ne 6, 3) := by decide +kernel
theorem dX9_cell_19 : decode cX9_cell 19 = .ok (.bipush (-11), 2) := by decide +kernel
theorem dX9_cell_21 : decode cX9_cell 21 = .ok (.ireturn, 1) := by decide +kernel
theorem dX9_cell_22 : decode cX9_cell 22 = .ok (.iload_n 2, 1) := by decide +kernel
theorem dX9_cell_23 : decode cX9_cell 23 = .ok (.i2l, 1) := by decide +kernel
theorem dX9_cell_24 : decode cX9_cell 24 = .ok (.lconst 0, 1) := by decide +kernel
theorem dX9_cell_25 : decode cX9_cell 25 = .ok (.aload_n 0, 1) := by decide +kernel
theorem dX9_cell_26 : decode cX9_cell 26 = .ok (.getfield 67, 3) := by decide +kernel
theorem dX9_cell_29 : decode cX9_cell 29 = .ok (.iload_n 1, 1) := by decide +kernel
theorem dX9_cell_30 : decode cX9_cell 30 = .ok (.iaload, 1) := by decide +kernel
theorem dX9_cell_31 : decode cX9_cell 31 = .ok (.iconst 1, 1) := by decide +kernel
theorem dX9_cell_32 : decode cX9_cell 32 = .ok (.isub, 1) := by decide +kernel
theorem dX9_cell_33 : decode cX9_cell 33 = .ok (.i2l, 1) := by decide +kernel
theorem dX9_cell_34 : decode cX9_cell 34 = .ok (.invokestatic 83, 3) := by decide +kernel
theorem dX9_cell_37 : decode cX9_cell 37 = .ok (.ifCond .ne 6, 3) := by decide +kernel
theorem dX9_cell_40 : decode cX9_cell 40 = .ok (.bipush (-12), 2) := by decide +kernel
theorem dX9_cell_42 : decode cX9_cell 42 = .ok (.ireturn, 1) := by decide +kernel
theorem dX9_cell_43 : decode cX9_cell 43 = .ok (.aload_n 0, 1) := by decide +kernel
theorem dX9_cell_44 : decode cX9_cell 44 = .ok (.getfield 70, 3) := by decide +kernel
theorem dX9_cell_47 : decode cX9_cell 47 = .ok (.bipush 40, 2) := by decide +kernel
theorem dX9_cell_49 : decode cX9_cell 49 = .ok (.iload_n 1, 1) := by decide +kernel
theorem dX9_cell_50 : decode cX9_cell 50 = .ok (.imul, 1) := by decide +kernel
theorem dX9_cell_51 : decode cX9_cell 51 = .ok (.iload_n 2, 1) := by decide +kernel
theorem dX9_cell_52 : decode cX9_cell 52 = .ok (.iadd, 1) := by decide +kernel
theorem dX9_cell_53 : decode cX9_cell 53 = .ok (.aload_n 0, 1) := by decide +kernel
theorem dX9_cell_54 : decode cX9_cell 54 = .ok (.getfield 64, 3) := by decide +kernel
theorem dX9_cell_57 : decode cX9_cell 57 = .ok (.iload_n 1, 1) := by decide +kernel
theorem dX9_cell_58 : decode cX9_cell 58 = .ok (.iaload, 1) := by decide +kernel
theorem dX9_cell_59 : decode cX9_cell 59 = .ok (.ifCond .ne 8, 3) := by decide +kernel
theorem dX9_cell_62 : decode cX9_cell 62 = .ok (.iload_n 3, 1) := by decide +kernel
theorem dX9_cell_63 : decode cX9_cell 63 = .ok (.i2b, 1) := by decide +kernel
theorem dX9_cell_64 : decode cX9_cell 64 = .ok (.goto 19, 3) := by decide +kernel
theorem dX9_cell_67 : decode cX9_cell 67 = .ok (.aload_n 0, 1) := by decide +kernel
theorem dX9_cell_68 : decode cX9_cell 68 = .ok (.getfield 64, 3) := by decide +kernel
theorem dX9_cell_71 : decode cX9_cell 71 = .ok (.iload_n 1, 1) := by decide +kernel
theorem dX9_cell_72 : decode cX9_cell 72 = .ok (.iaload, 1) := by decide +kernel
theorem dX9_cell_73 : decode cX9_cell 73 = .ok (.iconst 1, 1) := by decide +kernel
theorem dX9_cell_74 : decode cX9_cell 74 = .ok (.if_icmp .ne 8, 3) := by decide +kernel
theorem dX9_cell_77 : decode cX9_cell 77 = .ok (.iload_n 3, 1) := by decide +kernel
theorem dX9_cell_78 : decode cX9_cell 78 = .ok (.i2s, 1) := by decide +kernel
theorem dX9_cell_79 : decode cX9_cell 79 = .ok (.goto 4, 3) := by decide +kernel
theorem dX9_cell_82 : decode cX9_cell 82 = .ok (.iload_n 3, 1) := by decide +kernel
theorem dX9_cell_83 : decode cX9_cell 83 = .ok (.iastore, 1) := by decide +kernel
theorem dX9_cell_84 : decode cX9_cell 84 = .ok (.iconst 1, 1) := by decide +kernel
theorem dX9_cell_85 : decode cX9_cell 85 = .ok (.ireturn, 1) := by decide +kernel
theorem dX9_copy_0 : decode cX9_copy 0 = .ok (.iload_n 1, 1) := by decide +kernel
theorem dX9_copy_1 : decode cX9_copy 1 = .ok (.invokestatic 366, 3) := by decide +kernel
theorem dX9_copy_4 : decode cX9_copy 4 = .ok (.ifCond .eq 10, 3) := by decide +kernel
theorem dX9_copy_7 : decode cX9_copy 7 = .ok (.iload_n 3, 1) := by decide +kernel
theorem dX9_copy_8 : decode cX9_copy 8 = .ok (.invokestatic 366, 3) := by decide +kernel
theorem dX9_copy_11 : decode cX9_copy 11 = .ok (.ifCond .ne 6, 3) := by decide +kernel
theorem dX9_copy_14 : decode cX9_copy 14 = .ok (.bipush (-2), 2) := by decide +kernel
theorem dX9_copy_16 : decode cX9_copy 16 = .ok (.ireturn, 1) := by decide +kernel
theorem dX9_copy_17 : decode cX9_copy 17 = .ok (.aload_n 0, 1) := by decide +kernel
theorem dX9_copy_18 : decode cX9_copy 18 = .ok (.getfield 60, 3) := by decide +kernel
theorem dX9_copy_21 : decode cX9_copy 21 = .ok (.iload_n 1, 1) := by decide +kernel
theorem dX9_copy_22 : decode cX9_copy 22 = .ok (.baload, 1) := by decide +kernel
theorem dX9_copy_23 : decode cX9_copy 23 = .ok (.ifCond .eq 12, 3) := by decide +kernel
theorem dX9_copy_26 : decode cX9_copy 26 = .ok (.aload_n 0, 1) := by decide +kernel
theorem dX9_copy_27 : decode cX9_copy 27 = .ok (.getfield 60, 3) := by decide +kernel
theorem dX9_copy_30 : decode cX9_copy 30 = .ok (.iload_n 3, 1) := by decide +kernel
theorem dX9_copy_31 : decode cX9_copy 31 = .ok (.baload, 1) := by decide +kernel
theorem dX9_copy_32 : decode cX9_copy 32 = .ok (.ifCond .ne 6, 3) := by decide +kernel
theorem dX9_copy_35 : decode cX9_copy 35 = .ok (.bipush (-11), 2) := by decide +kernel
theorem dX9_copy_37 : decode cX9_copy 37 = .ok (.ireturn, 1) := by decide +kernel
theorem dX9_copy_38 : decode cX9_copy 38 = .ok (.aload_n 0, 1) := by decide +kernel
theorem dX9_copy_39 : decode cX9_copy 39 = .ok (.getfield 64, 3) := by decide +kernel
theorem dX9_copy_42 : decode cX9_copy 42 = .ok (.iload_n 1, 1) := by decide +kernel
theorem dX9_copy_43 : decode cX9_copy 43 = .ok (.iaload, 1) := by decide +kernel
theorem dX9_copy_44 : decode cX9_copy 44 = .ok (.aload_n 0, 1) := by decide +kernel
theorem dX9_copy_45 : decode cX9_copy 45 = .ok (.getfield 64, 3) := by decide +kernel
theorem dX9_copy_48 : decode cX9_copy 48 = .ok (.iload_n 3, 1) := by decide +kernel
theorem dX9_copy_49 : decode cX9_copy 49 = .ok (.iaload, 1) := by decide +kernel
theorem dX9_copy_50 : decode cX9_copy 50 = .ok (.if_icmp .eq 6, 3) := by decide +kernel
theorem dX9_copy_53 : decode cX9_copy 53 = .ok (.bipush (-13), 2) := by decide +kernel
theorem dX9_copy_55 : decode cX9_copy 55 = .ok (.ireturn, 1) := by decide +kernel
theorem dX9_copy_56 : decode cX9_copy 56 = .ok (.iload 5, 2) := by decide +kernel
theorem dX9_copy_58 : decode cX9_copy 58 = .ok (.ifCond .lt 39, 3) := by decide +kernel
theorem dX9_copy_61 : decode cX9_copy 61 = .ok (.iload_n 2, 1) := by decide +kernel
theorem dX9_copy_62 : decode cX9_copy 62 = .ok (.ifCond .lt 35, 3) := by decide +kernel
theorem dX9_copy_65 : decode cX9_copy 65 = .ok (.iload 4, 2) := by decide +kernel
theorem dX9_copy_67 : decode cX9_copy 67 = .ok (.ifCond .lt 30, 3) := by decide +kernel
theorem dX9_copy_70 : decode cX9_copy 70 = .ok (.iload_n 2, 1) := by decide +kernel
theorem dX9_copy_71 : decode cX9_copy 71 = .ok (.aload_n 0, 1) := by decide +kernel
theorem dX9_copy_72 : decode cX9_copy 72 = .ok (.getfield 67, 3) := by decide +kernel
theorem dX9_copy_75 : decode cX9_copy 75 = .ok (.iload_n 1, 1) := by decide +kernel
theorem dX9_copy_76 : decode cX9_copy 76 = .ok (.iaload, 1) := by decide +kernel
theorem dX9_copy_77 : decode cX9_copy 77 = .ok (.iload 5, 2) := by decide +kernel
theorem dX9_copy_79 : decode cX9_copy 79 = .ok (.isub, 1) := by decide +kernel
theorem dX9_copy_80 : decode cX9_copy 80 = .ok (.if_icmp .gt 17, 3) := by decide +kernel
theorem dX9_copy_83 : decode cX9_copy 83 = .ok (.iload 4, 2) := by decide +kernel
theorem dX9_copy_85 : decode cX9_copy 85 = .ok (.aload_n 0, 1) := by decide +kernel
theorem dX9_copy_86 : decode cX9_copy 86 = .ok (.getfield 67, 3) := by decide +kernel
theorem dX9_copy_89 : decode cX9_copy 89 = .ok (.iload_n 3, 1) := by decide +kernel
theorem dX9_copy_90 : decode cX9_copy 90 = .ok (.iaload, 1) := by decide +kernel
theorem dX9_copy_91 : decode cX9_copy 91 = .ok (.iload 5, 2) := by decide +kernel
theorem dX9_copy_93 : decode cX9_copy 93 = .ok (.isub, 1) := by decide +kernel
theorem dX9_copy_94 : decode cX9_copy 94 = .ok (.if_icmp .le 6, 3) := by decide +kernel
theorem dX9_copy_97 : decode cX9_copy 97 = .ok (.bipush (-12), 2) := by decide +kernel
theorem dX9_copy_99 : decode cX9_copy 99 = .ok (.ireturn, 1) := by decide +kernel
theorem dX9_copy_100 : decode cX9_copy 100 = .ok (.iload_n 1, 1) := by decide +kernel
theorem dX9_copy_101 : decode cX9_copy 101 = .ok (.iload_n 3, 1) := by decide +kernel
theorem dX9_copy_102 : decode cX9_copy 102 = .ok (.if_icmp .ne 13, 3) := by decide +kernel
theorem dX9_copy_105 : decode cX9_copy 105 = .ok (.iload_n 2, 1) := by decide +kernel
theorem dX9_copy_106 : decode cX9_copy 106 = .ok (.iload 4, 2) := by decide +kernel
theorem dX9_copy_108 : decode cX9_copy 108 = .ok (.if_icmp .ge 7, 3) := by decide +kernel
theorem dX9_copy_111 : decode cX9_copy 111 = .ok (.iconst 1, 1) := by decide +kernel
theorem dX9_copy_112 : decode cX9_copy 112 = .ok (.goto 4, 3) := by decide +kernel
theorem dX9_copy_115 : decode cX9_copy 115 = .ok (.iconst 0, 1) := by decide +kernel
theorem dX9_copy_116 : decode cX9_copy 116 = .ok (.istore 6, 2) := by decide +kernel
theorem dX9_copy_118 : decode cX9_copy 118 = .ok (.iconst 0, 1) := by decide +kernel
theorem dX9_copy_119 : decode cX9_copy 119 = .ok (.istore 7, 2) := by decide +kernel
theorem dX9_copy_121 : decode cX9_copy 121 = .ok (.iload 7, 2) := by decide +kernel
theorem dX9_copy_123 : decode cX9_copy 123 = .ok (.iload 5, 2) := by decide +kernel
theorem dX9_copy_125 : decode cX9_copy 125 = .ok (.if_icmp .ge 57, 3) := by decide +kernel
theorem dX9_copy_128 : decode cX9_copy 128 = .ok (.iload 6, 2) := by decide +kernel
theorem dX9_copy_130 : decode cX9_copy 130 = .ok (.ifCond .eq 13, 3) := by decide +kernel
theorem dX9_copy_133 : decode cX9_copy 133 = .ok (.iload 5, 2) := by decide +kernel
theorem dX9_copy_135 : decode cX9_copy 135 = .ok (.iconst 1, 1) := by decide +kernel
theorem dX9_copy_136 : decode cX9_copy 136 = .ok (.isub, 1) := by decide +kernel
theorem dX9_copy_137 : decode cX9_copy 137 = .ok (.iload 7, 2) := by decide +kernel
theorem dX9_copy_139 : decode cX9_copy 139 = .ok (.isub, 1) := by decide +kernel
theorem dX9_copy_140 : decode cX9_copy 140 = .ok (.goto 5, 3) := by decide +kernel
theorem dX9_copy_143 : decode cX9_copy 143 = .ok (.iload 7, 2) := by decide +kernel
theorem dX9_copy_145 : decode cX9_copy 145 = .ok (.istore 8, 2) := by decide +kernel
theorem dX9_copy_147 : decode cX9_copy 147 = .ok (.aload_n 0, 1) := by decide +kernel
theorem dX9_copy_148 : decode cX9_copy 148 = .ok (.getfield 70, 3) := by decide +kernel
theorem dX9_copy_151 : decode cX9_copy 151 = .ok (.bipush 40, 2) := by decide +kernel
theorem dX9_copy_153 : decode cX9_copy 153 = .ok (.iload_n 3, 1) := by decide +kernel
theorem dX9_copy_154 : decode cX9_copy 154 = .ok (.imul, 1) := by decide +kernel
theorem dX9_copy_155 : decode cX9_copy 155 = .ok (.iload 4, 2) := by decide +kernel
theorem dX9_copy_157 : decode cX9_copy 157 = .ok (.iadd, 1) := by decide +kernel
theorem dX9_copy_158 : decode cX9_copy 158 = .ok (.iload 8, 2) := by decide +kernel
theorem dX9_copy_160 : decode cX9_copy 160 = .ok (.iadd, 1) := by decide +kernel
theorem dX9_copy_161 : decode cX9_copy 161 = .ok (.aload_n 0, 1) := by decide +kernel
theorem dX9_copy_162 : decode cX9_copy 162 = .ok (.getfield 70, 3) := by decide +kernel
theorem dX9_copy_165 : decode cX9_copy 165 = .ok (.bipush 40, 2) := by decide +kernel
theorem dX9_copy_167 : decode cX9_copy 167 = .ok (.iload_n 1, 1) := by decide +kernel
theorem dX9_copy_168 : decode cX9_copy 168 = .ok (.imul, 1) := by decide +kernel
theorem dX9_copy_169 : decode cX9_copy 169 = .ok (.iload_n 2, 1) := by decide +kernel
theorem dX9_copy_170 : decode cX9_copy 170 = .ok (.iadd, 1) := by decide +kernel
theorem dX9_copy_171 : decode cX9_copy 171 = .ok (.iload 8, 2) := by decide +kernel
theorem dX9_copy_173 : decode cX9_copy 173 = .ok (.iadd, 1) := by decide +kernel
theorem dX9_copy_174 : decode cX9_copy 174 = .ok (.iaload, 1) := by decide +kernel
theorem dX9_copy_175 : decode cX9_copy 175 = .ok (.iastore, 1) := by decide +kernel
theorem dX9_copy_176 : decode cX9_copy 176 = .ok (.iinc 7 1, 3) := by decide +kernel
theorem dX9_copy_179 : decode cX9_copy 179 = .ok (.goto (-58), 3) := by decide +kernel
theorem dX9_copy_182 : decode cX9_copy 182 = .ok (.iload 5, 2) := by decide +kernel
theorem dX9_copy_184 : decode cX9_copy 184 = .ok (.ireturn, 1) := by decide +kernel
theorem dX9_carpets_0 : decode cX9_carpets 0 = .ok (.iload_n 1, 1) := by decide +kernel
theorem dX9_carpets_1 : decode cX9_carpets 1 = .ok (.invokestatic 366, 3) := by decide +kernel
theorem dX9_carpets_4 : decode cX9_carpets 4 = .ok (.ifCond .eq 28, 3) := by decide +kernel
theorem dX9_carpets_7 : decode cX9_carpets 7 = .ok (.iload_n 2, 1) := by decide +kernel
theorem dX9_carpets_8 : decode cX9_carpets 8 = .ok (.i2l, 1) := by decide +kernel
theorem dX9_carpets_9 : decode cX9_carpets 9 = .ok (.lconst 0, 1) := by decide +kernel
theorem dX9_carpets_10 : decode cX9_carpets 10 = .ok (.ldc2_w 386, 3) := by decide +kernel
theorem dX9_carpets_13 : decode cX9_carpets 13 = .ok (.invokestatic 83, 3) := by decide +kernel
theorem dX9_carpets_16 : decode cX9_carpets 16 = .ok (.ifCond .eq 16, 3) := by decide +kernel
theorem dX9_carpets_19 : decode cX9_carpets 19 = .ok (.iload 4, 2) := by decide +kernel
theorem dX9_carpets_21 : decode cX9_carpets 21 = .ok (.i2l, 1) := by decide +kernel
theorem dX9_carpets_22 : decode cX9_carpets 22 = .ok (.lconst 0, 1) := by decide +kernel
theorem dX9_carpets_23 : decode cX9_carpets 23 = .ok (.ldc2_w 98, 3) := by decide +kernel
theorem dX9_carpets_26 : decode cX9_carpets 26 = .ok (.invokestatic 83, 3) := by decide +kernel
theorem dX9_carpets_29 : decode cX9_carpets 29 = .ok (.ifCond .ne 6, 3) := by decide +kernel
theorem dX9_carpets_32 : decode cX9_carpets 32 = .ok (.bipush (-2), 2) := by decide +kernel
theorem dX9_carpets_34 : decode cX9_carpets 34 = .ok (.ireturn, 1) := by decide +kernel
theorem dX9_carpets_35 : decode cX9_carpets 35 = .ok (.aload_n 0, 1) := by decide +kernel
theorem dX9_carpets_36 : decode cX9_carpets 36 = .ok (.getfield 60, 3) := by decide +kernel
theorem dX9_carpets_39 : decode cX9_carpets 39 = .ok (.iload_n 1, 1) := by decide +kernel
theorem dX9_carpets_40 : decode cX9_carpets 40 = .ok (.baload, 1) := by decide +kernel
theorem dX9_carpets_41 : decode cX9_carpets 41 = .ok (.ifCond .eq 16, 3) := by decide +kernel
theorem dX9_carpets_44 : decode cX9_carpets 44 = .ok (.aload_n 0, 1) := by decide +kernel
theorem dX9_carpets_45 : decode cX9_carpets 45 = .ok (.getfield 64, 3) := by decide +kernel
theorem dX9_carpets_48 : decode cX9_carpets 48 = .ok (.iload_n 1, 1) := by decide +kernel
theorem dX9_carpets_49 : decode cX9_carpets 49 = .ok (.iaload, 1) := by decide +kernel
theorem dX9_carpets_50 : decode cX9_carpets 50 = .ok (.iload_n 2, 1) := by decide +kernel
theorem dX9_carpets_51 : decode cX9_carpets 51 = .ok (.if_icmp .eq 6, 3) := by decide +kernel
theorem dX9_carpets_54 : decode cX9_carpets 54 = .ok (.bipush (-13), 2) := by decide +kernel
theorem dX9_carpets_56 : decode cX9_carpets 56 = .ok (.ireturn, 1) := by decide +kernel
theorem dX9_carpets_57 : decode cX9_carpets 57 = .ok (.aload_n 0, 1) := by decide +kernel
theorem dX9_carpets_58 : decode cX9_carpets 58 = .ok (.getfield 60, 3) := by decide +kernel
theorem dX9_carpets_61 : decode cX9_carpets 61 = .ok (.iload_n 1, 1) := by decide +kernel
theorem dX9_carpets_62 : decode cX9_carpets 62 = .ok (.baload, 1) := by decide +kernel
theorem dX9_carpets_63 : decode cX9_carpets 63 = .ok (.ifCond .ne 6, 3) := by decide +kernel
theorem dX9_carpets_66 : decode cX9_carpets 66 = .ok (.bipush (-11), 2) := by decide +kernel
theorem dX9_carpets_68 : decode cX9_carpets 68 = .ok (.ireturn, 1) := by decide +kernel
theorem dX9_carpets_69 : decode cX9_carpets 69 = .ok (.iconst 0, 1) := by decide +kernel
theorem dX9_carpets_70 : decode cX9_carpets 70 = .ok (.istore 5, 2) := by decide +kernel
theorem dX9_carpets_72 : decode cX9_carpets 72 = .ok (.iconst 0, 1) := by decide +kernel
theorem dX9_carpets_73 : decode cX9_carpets 73 = .ok (.istore 6, 2) := by decide +kernel
theorem dX9_carpets_75 : decode cX9_carpets 75 = .ok (.iload 6, 2) := by decide +kernel
theorem dX9_carpets_77 : decode cX9_carpets 77 = .ok (.iload 4, 2) := by decide +kernel
theorem dX9_carpets_79 : decode cX9_carpets 79 = .ok (.if_icmp .ge 88, 3) := by decide +kernel
theorem dX9_carpets_82 : decode cX9_carpets 82 = .ok (.iload_n 3, 1) := by decide +kernel
theorem dX9_carpets_83 : decode cX9_carpets 83 = .ok (.ifCond .lt 20, 3) := by decide +kernel
theorem dX9_carpets_86 : decode cX9_carpets 86 = .ok (.iload_n 3, 1) := by decide +kernel
theorem dX9_carpets_87 : decode cX9_carpets 87 = .ok (.aload_n 0, 1) := by decide +kernel
theorem dX9_carpets_88 : decode cX9_carpets 88 = .ok (.getfield 67, 3) := by decide +kernel
theorem dX9_carpets_91 : decode cX9_carpets 91 = .ok (.iload_n 1, 1) := by decide +kernel
theorem dX9_carpets_92 : decode cX9_carpets 92 = .ok (.iaload, 1) := by decide +kernel
theorem dX9_carpets_93 : decode cX9_carpets 93 = .ok (.iconst 3, 1) := by decide +kernel
theorem dX9_carpets_94 : decode cX9_carpets 94 = .ok (.iload 6, 2) := by decide +kernel
theorem dX9_carpets_96 : decode cX9_carpets 96 = .ok (.imul, 1) := by decide +kernel
theorem dX9_carpets_97 : decode cX9_carpets 97 = .ok (.isub, 1) := by decide +kernel
theorem dX9_carpets_98 : decode cX9_carpets 98 = .ok (.iconst 3, 1) := by decide +kernel
theorem dX9_carpets_99 : decode cX9_carpets 99 = .ok (.isub, 1) := by decide +kernel
theorem dX9_carpets_100 : decode cX9_carpets 100 = .ok (.if_icmp .le 6, 3) := by decide +kernel
theorem dX9_carpets_103 : decode cX9_carpets 103 = .ok (.bipush (-12), 2) := by decide +kernel
theorem dX9_carpets_105 : decode cX9_carpets 105 = .ok (.ireturn, 1) := by decide +kernel
theorem dX9_carpets_106 : decode cX9_carpets 106 = .ok (.bipush 40, 2) := by decide +kernel
theorem dX9_carpets_108 : decode cX9_carpets 108 = .ok (.iload_n 1, 1) := by decide +kernel
theorem dX9_carpets_109 : decode cX9_carpets 109 = .ok (.imul, 1) := by decide +kernel
theorem dX9_carpets_110 : decode cX9_carpets 110 = .ok (.iload_n 3, 1) := by decide +kernel
theorem dX9_carpets_111 : decode cX9_carpets 111 = .ok (.iadd, 1) := by decide +kernel
theorem dX9_carpets_112 : decode cX9_carpets 112 = .ok (.iconst 3, 1) := by decide +kernel
theorem dX9_carpets_113 : decode cX9_carpets 113 = .ok (.iload 6, 2) := by decide +kernel
theorem dX9_carpets_115 : decode cX9_carpets 115 = .ok (.imul, 1) := by decide +kernel
theorem dX9_carpets_116 : decode cX9_carpets 116 = .ok (.iadd, 1) := by decide +kernel
theorem dX9_carpets_117 : decode cX9_carpets 117 = .ok (.istore 7, 2) := by decide +kernel
theorem dX9_carpets_119 : decode cX9_carpets 119 = .ok (.iload 5, 2) := by decide +kernel
theorem dX9_carpets_121 : decode cX9_carpets 121 = .ok (.aload_n 0, 1) := by decide +kernel
theorem dX9_carpets_122 : decode cX9_carpets 122 = .ok (.aload_n 0, 1) := by decide +kernel
theorem dX9_carpets_123 : decode cX9_carpets 123 = .ok (.getfield 70, 3) := by decide +kernel
theorem dX9_carpets_126 : decode cX9_carpets 126 = .ok (.iload 7, 2) := by decide +kernel
theorem dX9_carpets_128 : decode cX9_carpets 128 = .ok (.iaload, 1) := by decide +kernel
theorem dX9_carpets_129 : decode cX9_carpets 129 = .ok (.aload_n 0, 1) := by decide +kernel
theorem dX9_carpets_130 : decode cX9_carpets 130 = .ok (.getfield 70, 3) := by decide +kernel
theorem dX9_carpets_133 : decode cX9_carpets 133 = .ok (.iload 7, 2) := by decide +kernel
theorem dX9_carpets_135 : decode cX9_carpets 135 = .ok (.iconst 1, 1) := by decide +kernel
theorem dX9_carpets_136 : decode cX9_carpets 136 = .ok (.iadd, 1) := by decide +kernel
theorem dX9_carpets_137 : decode cX9_carpets 137 = .ok (.iaload, 1) := by decide +kernel
theorem dX9_carpets_138 : decode cX9_carpets 138 = .ok (.aload_n 0, 1) := by decide +kernel
theorem dX9_carpets_139 : decode cX9_carpets 139 = .ok (.getfield 70, 3) := by decide +kernel
theorem dX9_carpets_142 : decode cX9_carpets 142 = .ok (.iload 7, 2) := by decide +kernel
theorem dX9_carpets_144 : decode cX9_carpets 144 = .ok (.iconst 2, 1) := by decide +kernel
theorem dX9_carpets_145 : decode cX9_carpets 145 = .ok (.iadd, 1) := by decide +kernel
theorem dX9_carpets_146 : decode cX9_carpets 146 = .ok (.iaload, 1) := by decide +kernel
theorem dX9_carpets_147 : decode cX9_carpets 147 = .ok (.invokevirtual 430, 3) := by decide +kernel
theorem dX9_carpets_150 : decode cX9_carpets 150 = .ok (.ifCond .lt 7, 3) := by decide +kernel
theorem dX9_carpets_153 : decode cX9_carpets 153 = .ok (.iconst 1, 1) := by decide +kernel
theorem dX9_carpets_154 : decode cX9_carpets 154 = .ok (.goto 4, 3) := by decide +kernel
theorem dX9_carpets_157 : decode cX9_carpets 157 = .ok (.iconst 0, 1) := by decide +kernel
theorem dX9_carpets_158 : decode cX9_carpets 158 = .ok (.iadd, 1) := by decide +kernel
theorem dX9_carpets_159 : decode cX9_carpets 159 = .ok (.istore 5, 2) := by decide +kernel
theorem dX9_carpets_161 : decode cX9_carpets 161 = .ok (.iinc 6 1, 3) := by decide +kernel
theorem dX9_carpets_164 : decode cX9_carpets 164 = .ok (.goto (-89), 3) := by decide +kernel
theorem dX9_carpets_167 : decode cX9_carpets 167 = .ok (.iload 5, 2) := by decide +kernel
theorem dX9_carpets_169 : decode cX9_carpets 169 = .ok (.ireturn, 1) := by decide +kernel
theorem dX9_over_0 : decode cX9_over 0 = .ok (.iload_n 0, 1) := by decide +kernel
theorem dX9_over_1 : decode cX9_over 1 = .ok (.ifCond .ne 7, 3) := by decide +kernel
theorem dX9_over_4 : decode cX9_over 4 = .ok (.iconst (-1), 1) := by decide +kernel
theorem dX9_over_5 : decode cX9_over 5 = .ok (.goto 22, 3) := by decide +kernel
theorem dX9_over_8 : decode cX9_over 8 = .ok (.iload_n 0, 1) := by decide +kernel
theorem dX9_over_9 : decode cX9_over 9 = .ok (.iconst 3, 1) := by decide +kernel
theorem dX9_over_10 : decode cX9_over 10 = .ok (.if_icmp .ne 7, 3) := by decide +kernel
theorem dX9_over_13 : decode cX9_over 13 = .ok (.iconst 1, 1) := by decide +kernel
theorem dX9_over_14 : decode cX9_over 14 = .ok (.goto 13, 3) := by decide +kernel
theorem dX9_over_17 : decode cX9_over 17 = .ok (.iload_n 0, 1) := by decide +kernel
theorem dX9_over_18 : decode cX9_over 18 = .ok (.iconst 4, 1) := by decide +kernel
theorem dX9_over_19 : decode cX9_over 19 = .ok (.if_icmp .ne 7, 3) := by decide +kernel
theorem dX9_over_22 : decode cX9_over 22 = .ok (.iconst 2, 1) := by decide +kernel
theorem dX9_over_23 : decode cX9_over 23 = .ok (.goto 4, 3) := by decide +kernel
theorem dX9_over_26 : decode cX9_over 26 = .ok (.iconst 0, 1) := by decide +kernel
theorem dX9_over_27 : decode cX9_over 27 = .ok (.ireturn, 1) := by decide +kernel
theorem dX9_taken_0 : decode cX9_taken 0 = .ok (.iload_n 2, 1) := by decide +kernel
theorem dX9_taken_1 : decode cX9_taken 1 = .ok (.i2l, 1) := by decide +kernel
theorem dX9_taken_2 : decode cX9_taken 2 = .ok (.lconst 0, 1) := by decide +kernel
theorem dX9_taken_3 : decode cX9_taken 3 = .ok (.ldc2_w 122, 3) := by decide +kernel
theorem dX9_taken_6 : decode cX9_taken 6 = .ok (.invokestatic 83, 3) := by decide +kernel
theorem dX9_taken_9 : decode cX9_taken 9 = .ok (.ifCond .ne 6, 3) := by decide +kernel
theorem dX9_taken_12 : decode cX9_taken 12 = .ok (.bipush (-2), 2) := by decide +kernel
theorem dX9_taken_14 : decode cX9_taken 14 = .ok (.ireturn, 1) := by decide +kernel
theorem dX9_taken_15 : decode cX9_taken 15 = .ok (.aload_n 0, 1) := by decide +kernel
theorem dX9_taken_16 : decode cX9_taken 16 = .ok (.iload_n 1, 1) := by decide +kernel
theorem dX9_taken_17 : decode cX9_taken 17 = .ok (.invokevirtual 95, 3) := by decide +kernel
theorem dX9_taken_20 : decode cX9_taken 20 = .ok (.ifCond .ne 6, 3) := by decide +kernel
theorem dX9_taken_23 : decode cX9_taken 23 = .ok (.bipush (-11), 2) := by decide +kernel
theorem dX9_taken_25 : decode cX9_taken 25 = .ok (.ireturn, 1) := by decide +kernel
theorem dX9_taken_26 : decode cX9_taken 26 = .ok (.aload_n 0, 1) := by decide +kernel
theorem dX9_taken_27 : decode cX9_taken 27 = .ok (.getfield 26, 3) := by decide +kernel
theorem dX9_taken_30 : decode cX9_taken 30 = .ok (.iload_n 1, 1) := by decide +kernel
theorem dX9_taken_31 : decode cX9_taken 31 = .ok (.iaload, 1) := by decide +kernel
theorem dX9_taken_32 : decode cX9_taken 32 = .ok (.istore_n 3, 1) := by decide +kernel
theorem dX9_taken_33 : decode cX9_taken 33 = .ok (.iload_n 3, 1) := by decide +kernel
theorem dX9_taken_34 : decode cX9_taken 34 = .ok (.iconst (-1), 1) := by decide +kernel
theorem dX9_taken_35 : decode cX9_taken 35 = .ok (.if_icmp .eq 16, 3) := by decide +kernel
theorem dX9_taken_38 : decode cX9_taken 38 = .ok (.iload_n 3, 1) := by decide +kernel
theorem dX9_taken_39 : decode cX9_taken 39 = .ok (.iload_n 2, 1) := by decide +kernel
theorem dX9_taken_40 : decode cX9_taken 40 = .ok (.if_icmp .eq 11, 3) := by decide +kernel
theorem dX9_taken_43 : decode cX9_taken 43 = .ok (.iload_n 3, 1) := by decide +kernel
theorem dX9_taken_44 : decode cX9_taken 44 = .ok (.invokestatic 433, 3) := by decide +kernel
theorem dX9_taken_47 : decode cX9_taken 47 = .ok (.istore_n 3, 1) := by decide +kernel
theorem dX9_taken_48 : decode cX9_taken 48 = .ok (.goto (-15), 3) := by decide +kernel
theorem dX9_taken_51 : decode cX9_taken 51 = .ok (.iload_n 3, 1) := by decide +kernel
theorem dX9_taken_52 : decode cX9_taken 52 = .ok (.iload_n 2, 1) := by decide +kernel
theorem dX9_taken_53 : decode cX9_taken 53 = .ok (.if_icmp .ne 14, 3) := by decide +kernel
theorem dX9_taken_56 : decode cX9_taken 56 = .ok (.aload_n 0, 1) := by decide +kernel
theorem dX9_taken_57 : decode cX9_taken 57 = .ok (.getfield 29, 3) := by decide +kernel
theorem dX9_taken_60 : decode cX9_taken 60 = .ok (.iconst 3, 1) := by decide +kernel
theorem dX9_taken_61 : decode cX9_taken 61 = .ok (.iload_n 1, 1) := by decide +kernel
theorem dX9_taken_62 : decode cX9_taken 62 = .ok (.imul, 1) := by decide +kernel
theorem dX9_taken_63 : decode cX9_taken 63 = .ok (.iaload, 1) := by decide +kernel
theorem dX9_taken_64 : decode cX9_taken 64 = .ok (.goto 5, 3) := by decide +kernel
theorem dX9_taken_67 : decode cX9_taken 67 = .ok (.bipush (-13), 2) := by decide +kernel
theorem dX9_taken_69 : decode cX9_taken 69 = .ok (.ireturn, 1) := by decide +kernel
theorem dJ13_bitCount_95d88_0 : decode cJ13_bitCount_95d88 0 = .ok (.lload_n 0, 1) := by decide +kernel
theorem dJ13_bitCount_95d88_1 : decode cJ13_bitCount_95d88 1 = .ok (.lload_n 0, 1) := by decide +kernel
theorem dJ13_bitCount_95d88_2 : decode cJ13_bitCount_95d88 2 = .ok (.iconst 1, 1) := by decide +kernel
theorem dJ13_bitCount_95d88_3 : decode cJ13_bitCount_95d88 3 = .ok (.lushr, 1) := by decide +kernel
theorem dJ13_bitCount_95d88_4 : decode cJ13_bitCount_95d88 4 = .ok (.ldc2_w 314, 3) := by decide +kernel
theorem dJ13_bitCount_95d88_7 : decode cJ13_bitCount_95d88 7 = .ok (.land, 1) := by decide +kernel
theorem dJ13_bitCount_95d88_8 : decode cJ13_bitCount_95d88 8 = .ok (.lsub, 1) := by decide +kernel
theorem dJ13_bitCount_95d88_9 : decode cJ13_bitCount_95d88 9 = .ok (.lstore_n 0, 1) := by decide +kernel
theorem dJ13_bitCount_95d88_10 : decode cJ13_bitCount_95d88 10 = .ok (.lload_n 0, 1) := by decide +kernel
theorem dJ13_bitCount_95d88_11 : decode cJ13_bitCount_95d88 11 = .ok (.ldc2_w 316, 3) := by decide +kernel
theorem dJ13_bitCount_95d88_14 : decode cJ13_bitCount_95d88 14 = .ok (.land, 1) := by decide +kernel
theorem dJ13_bitCount_95d88_15 : decode cJ13_bitCount_95d88 15 = .ok (.lload_n 0, 1) := by decide +kernel
theorem dJ13_bitCount_95d88_16 : decode cJ13_bitCount_95d88 16 = .ok (.iconst 2, 1) := by decide +kernel
theorem dJ13_bitCount_95d88_17 : decode cJ13_bitCount_95d88 17 = .ok (.lushr, 1) := by decide +kernel
theorem dJ13_bitCount_95d88_18 : decode cJ13_bitCount_95d88 18 = .ok (.ldc2_w 316, 3) := by decide +kernel
theorem dJ13_bitCount_95d88_21 : decode cJ13_bitCount_95d88 21 = .ok (.land, 1) := by decide +kernel
theorem dJ13_bitCount_95d88_22 : decode cJ13_bitCount_95d88 22 = .ok (.ladd, 1) := by decide +kernel
theorem dJ13_bitCount_95d88_23 : decode cJ13_bitCount_95d88 23 = .ok (.lstore_n 0, 1) := by decide +kernel
theorem dJ13_bitCount_95d88_24 : decode cJ13_bitCount_95d88 24 = .ok (.lload_n 0, 1) := by decide +kernel
theorem dJ13_bitCount_95d88_25 : decode cJ13_bitCount_95d88 25 = .ok (.lload_n 0, 1) := by decide +kernel
theorem dJ13_bitCount_95d88_26 : decode cJ13_bitCount_95d88 26 = .ok (.iconst 4, 1) := by decide +kernel
theorem dJ13_bitCount_95d88_27 : decode cJ13_bitCount_95d88 27 = .ok (.lushr, 1) := by decide +kernel
theorem dJ13_bitCount_95d88_28 : decode cJ13_bitCount_95d88 28 = .ok (.ladd, 1) := by decide +kernel
theorem dJ13_bitCount_95d88_29 : decode cJ13_bitCount_95d88 29 = .ok (.ldc2_w 318, 3) := by decide +kernel
theorem dJ13_bitCount_95d88_32 : decode cJ13_bitCount_95d88 32 = .ok (.land, 1) := by decide +kernel
theorem dJ13_bitCount_95d88_33 : decode cJ13_bitCount_95d88 33 = .ok (.lstore_n 0, 1) := by decide +kernel
theorem dJ13_bitCount_95d88_34 : decode cJ13_bitCount_95d88 34 = .ok (.lload_n 0, 1) := by decide +kernel
theorem dJ13_bitCount_95d88_35 : decode cJ13_bitCount_95d88 35 = .ok (.lload_n 0, 1) := by decide +kernel
theorem dJ13_bitCount_95d88_36 : decode cJ13_bitCount_95d88 36 = .ok (.bipush 8, 2) := by decide +kernel
theorem dJ13_bitCount_95d88_38 : decode cJ13_bitCount_95d88 38 = .ok (.lushr, 1) := by decide +kernel
theorem dJ13_bitCount_95d88_39 : decode cJ13_bitCount_95d88 39 = .ok (.ladd, 1) := by decide +kernel
theorem dJ13_bitCount_95d88_40 : decode cJ13_bitCount_95d88 40 = .ok (.lstore_n 0, 1) := by decide +kernel
theorem dJ13_bitCount_95d88_41 : decode cJ13_bitCount_95d88 41 = .ok (.lload_n 0, 1) := by decide +kernel
theorem dJ13_bitCount_95d88_42 : decode cJ13_bitCount_95d88 42 = .ok (.lload_n 0, 1) := by decide +kernel
theorem dJ13_bitCount_95d88_43 : decode cJ13_bitCount_95d88 43 = .ok (.bipush 16, 2) := by decide +kernel
theorem dJ13_bitCount_95d88_45 : decode cJ13_bitCount_95d88 45 = .ok (.lushr, 1) := by decide +kernel
theorem dJ13_bitCount_95d88_46 : decode cJ13_bitCount_95d88 46 = .ok (.ladd, 1) := by decide +kernel
theorem dJ13_bitCount_95d88_47 : decode cJ13_bitCount_95d88 47 = .ok (.lstore_n 0, 1) := by decide +kernel
theorem dJ13_bitCount_95d88_48 : decode cJ13_bitCount_95d88 48 = .ok (.lload_n 0, 1) := by decide +kernel
theorem dJ13_bitCount_95d88_49 : decode cJ13_bitCount_95d88 49 = .ok (.lload_n 0, 1) := by decide +kernel
theorem dJ13_bitCount_95d88_50 : decode cJ13_bitCount_95d88 50 = .ok (.bipush 32, 2) := by decide +kernel
theorem dJ13_bitCount_95d88_52 : decode cJ13_bitCount_95d88 52 = .ok (.lushr, 1) := by decide +kernel
theorem dJ13_bitCount_95d88_53 : decode cJ13_bitCount_95d88 53 = .ok (.ladd, 1) := by decide +kernel
theorem dJ13_bitCount_95d88_54 : decode cJ13_bitCount_95d88 54 = .ok (.lstore_n 0, 1) := by decide +kernel
theorem dJ13_bitCount_95d88_55 : decode cJ13_bitCount_95d88 55 = .ok (.lload_n 0, 1) := by decide +kernel
theorem dJ13_bitCount_95d88_56 : decode cJ13_bitCount_95d88 56 = .ok (.l2i, 1) := by decide +kernel
theorem dJ13_bitCount_95d88_57 : decode cJ13_bitCount_95d88 57 = .ok (.bipush 127, 2) := by decide +kernel
theorem dJ13_bitCount_95d88_59 : decode cJ13_bitCount_95d88 59 = .ok (.iand, 1) := by decide +kernel
theorem dJ13_bitCount_95d88_60 : decode cJ13_bitCount_95d88 60 = .ok (.ireturn, 1) := by decide +kernel
theorem dJ9_abs_0f7a4_0 : decode cJ9_abs_0f7a4 0 = .ok (.iload_n 0, 1) := by decide +kernel
theorem dJ9_abs_0f7a4_1 : decode cJ9_abs_0f7a4 1 = .ok (.ifCond .ge 8, 3) := by decide +kernel
theorem dJ9_abs_0f7a4_4 : decode cJ9_abs_0f7a4 4 = .ok (.iload_n 0, 1) := by decide +kernel
theorem dJ9_abs_0f7a4_5 : decode cJ9_abs_0f7a4 5 = .ok (.ineg, 1) := by decide +kernel
theorem dJ9_abs_0f7a4_6 : decode cJ9_abs_0f7a4 6 = .ok (.goto 4, 3) := by decide +kernel
theorem dJ9_abs_0f7a4_9 : decode cJ9_abs_0f7a4 9 = .ok (.iload_n 0, 1) := by decide +kernel
theorem dJ9_abs_0f7a4_10 : decode cJ9_abs_0f7a4 10 = .ok (.ireturn, 1) := by decide +kernel
theorem dJ9_max_7cf53_0 : decode cJ9_max_7cf53 0 = .ok (.iload_n 0, 1) := by decide +kernel
theorem dJ9_max_7cf53_1 : decode cJ9_max_7cf53 1 = .ok (.iload_n 1, 1) := by decide +kernel
theorem dJ9_max_7cf53_2 : decode cJ9_max_7cf53 2 = .ok (.if_icmp .lt 7, 3) := by decide +kernel
theorem dJ9_max_7cf53_5 : decode cJ9_max_7cf53 5 = .ok (.iload_n 0, 1) := by decide +kernel
theorem dJ9_max_7cf53_6 : decode cJ9_max_7cf53 6 = .ok (.goto 4, 3) := by decide +kernel
theorem dJ9_max_7cf53_9 : decode cJ9_max_7cf53 9 = .ok (.iload_n 1, 1) := by decide +kernel
theorem dJ9_max_7cf53_10 : decode cJ9_max_7cf53 10 = .ok (.ireturn, 1) := by decide +kernel
theorem dJ0_length_8abf5_0 : decode cJ0_length_8abf5 0 = .ok (.aload_n 0, 1) := by decide +kernel
theorem dJ0_length_8abf5_1 : decode cJ0_length_8abf5 1 = .ok (.getfield 9, 3) := by decide +kernel
theorem dJ0_length_8abf5_4 : decode cJ0_length_8abf5 4 = .ok (.arraylength, 1) := by decide +kernel
theorem dJ0_length_8abf5_5 : decode cJ0_length_8abf5 5 = .ok (.aload_n 0, 1) := by decide +kernel
theorem dJ0_length_8abf5_6 : decode cJ0_length_8abf5 6 = .ok (.invokevirtual 335, 3) := by decide +kernel
theorem dJ0_length_8abf5_9 : decode cJ0_length_8abf5 9 = .ok (.ishr, 1) := by decide +kernel
theorem dJ0_length_8abf5_10 : decode cJ0_length_8abf5 10 = .ok (.ireturn, 1) := by decide +kernel
theorem dJ0_charAt_5068e_0 : decode cJ0_charAt_5068e 0 = .ok (.aload_n 0, 1) := by decide +kernel
theorem dJ0_charAt_5068e_1 : decode cJ0_charAt_5068e 1 = .ok (.invokevirtual 492, 3) := by decide +kernel
theorem dJ0_charAt_5068e_4 : decode cJ0_charAt_5068e 4 = .ok (.ifCond .eq 12, 3) := by decide +kernel
theorem dJ0_charAt_5068e_7 : decode cJ0_charAt_5068e 7 = .ok (.aload_n 0, 1) := by decide +kernel
theorem dJ0_charAt_5068e_8 : decode cJ0_charAt_5068e 8 = .ok (.getfield 9, 3) := by decide +kernel
theorem dJ0_charAt_5068e_11 : decode cJ0_charAt_5068e 11 = .ok (.iload_n 1, 1) := by decide +kernel
theorem dJ0_charAt_5068e_12 : decode cJ0_charAt_5068e 12 = .ok (.invokestatic 495, 3) := by decide +kernel
theorem dJ0_charAt_5068e_15 : decode cJ0_charAt_5068e 15 = .ok (.ireturn, 1) := by decide +kernel
theorem dJ0_charAt_5068e_16 : decode cJ0_charAt_5068e 16 = .ok (.aload_n 0, 1) := by decide +kernel
theorem dJ0_charAt_5068e_17 : decode cJ0_charAt_5068e 17 = .ok (.getfield 9, 3) := by decide +kernel
theorem dJ0_charAt_5068e_20 : decode cJ0_charAt_5068e 20 = .ok (.iload_n 1, 1) := by decide +kernel
theorem dJ0_charAt_5068e_21 : decode cJ0_charAt_5068e 21 = .ok (.invokestatic 498, 3) := by decide +kernel
theorem dJ0_charAt_5068e_24 : decode cJ0_charAt_5068e 24 = .ok (.ireturn, 1) := by decide +kernel
theorem dJ0_coder_7d493_0 : decode cJ0_coder_7d493 0 = .ok (.getstatic 38, 3) := by decide +kernel
theorem dJ0_coder_7d493_3 : decode cJ0_coder_7d493 3 = .ok (.ifCond .eq 10, 3) := by decide +kernel
theorem dJ0_coder_7d493_6 : decode cJ0_coder_7d493 6 = .ok (.aload_n 0, 1) := by decide +kernel
theorem dJ0_coder_7d493_7 : decode cJ0_coder_7d493 7 = .ok (.getfield 15, 3) := by decide +kernel
theorem dJ0_coder_7d493_10 : decode cJ0_coder_7d493 10 = .ok (.goto 4, 3) := by decide +kernel
theorem dJ0_coder_7d493_13 : decode cJ0_coder_7d493 13 = .ok (.iconst 1, 1) := by decide +kernel
theorem dJ0_coder_7d493_14 : decode cJ0_coder_7d493 14 = .ok (.ireturn, 1) := by decide +kernel
theorem dJ0_isLatin1_aae02_0 : decode cJ0_isLatin1_aae02 0 = .ok (.getstatic 38, 3) := by decide +kernel
theorem dJ0_isLatin1_aae02_3 : decode cJ0_isLatin1_aae02 3 = .ok (.ifCond .eq 14, 3) := by decide +kernel
theorem dJ0_isLatin1_aae02_6 : decode cJ0_isLatin1_aae02 6 = .ok (.aload_n 0, 1) := by decide +kernel
theorem dJ0_isLatin1_aae02_7 : decode cJ0_isLatin1_aae02 7 = .ok (.getfield 15, 3) := by decide +kernel
theorem dJ0_isLatin1_aae02_10 : decode cJ0_isLatin1_aae02 10 = .ok (.ifCond .ne 7, 3) := by decide +kernel
theorem dJ0_isLatin1_aae02_13 : decode cJ0_isLatin1_aae02 13 = .ok (.iconst 1, 1) := by decide +kernel
theorem dJ0_isLatin1_aae02_14 : decode cJ0_isLatin1_aae02 14 = .ok (.goto 4, 3) := by decide +kernel
theorem dJ0_isLatin1_aae02_17 : decode cJ0_isLatin1_aae02 17 = .ok (.iconst 0, 1) := by decide +kernel
theorem dJ0_isLatin1_aae02_18 : decode cJ0_isLatin1_aae02 18 = .ok (.ireturn, 1) := by decide +kernel
theorem dJ0_checkIndex_df160_0 : decode cJ0_checkIndex_df160 0 = .ok (.iload_n 0, 1) := by decide +kernel
theorem dJ0_checkIndex_df160_1 : decode cJ0_checkIndex_df160 1 = .ok (.iload_n 1, 1) := by decide +kernel
theorem dJ0_checkIndex_df160_2 : decode cJ0_checkIndex_df160 2 = .ok (.getstatic 1053, 3) := by decide +kernel
theorem dJ0_checkIndex_df160_5 : decode cJ0_checkIndex_df160 5 = .ok (.invokestatic 1059, 3) := by decide +kernel
theorem dJ0_checkIndex_df160_8 : decode cJ0_checkIndex_df160 8 = .ok (.pop, 1) := by decide +kernel
theorem dJ0_checkIndex_df160_9 : decode cJ0_checkIndex_df160 9 = .ok (.return_, 1) := by decide +kernel
theorem dJ1_charAt_3b067_0 : decode cJ1_charAt_3b067 0 = .ok (.iload_n 1, 1) := by decide +kernel
theorem dJ1_charAt_3b067_1 : decode cJ1_charAt_3b067 1 = .ok (.aload_n 0, 1) := by decide +kernel
theorem dJ1_charAt_3b067_2 : decode cJ1_charAt_3b067 2 = .ok (.arraylength, 1) := by decide +kernel
theorem dJ1_charAt_3b067_3 : decode cJ1_charAt_3b067 3 = .ok (.invokestatic 9, 3) := by decide +kernel
theorem dJ1_charAt_3b067_6 : decode cJ1_charAt_3b067 6 = .ok (.aload_n 0, 1) := by decide +kernel
theorem dJ1_charAt_3b067_7 : decode cJ1_charAt_3b067 7 = .ok (.iload_n 1, 1) := by decide +kernel
theorem dJ1_charAt_3b067_8 : decode cJ1_charAt_3b067 8 = .ok (.baload, 1) := by decide +kernel
theorem dJ1_charAt_3b067_9 : decode cJ1_charAt_3b067 9 = .ok (.sipush 255, 3) := by decide +kernel
theorem dJ1_charAt_3b067_12 : decode cJ1_charAt_3b067 12 = .ok (.iand, 1) := by decide +kernel
theorem dJ1_charAt_3b067_13 : decode cJ1_charAt_3b067 13 = .ok (.i2c, 1) := by decide +kernel
theorem dJ1_charAt_3b067_14 : decode cJ1_charAt_3b067 14 = .ok (.ireturn, 1) := by decide +kernel
theorem dJ2_getChar_3b067_0 : decode cJ2_getChar_3b067 0 = .ok (.getstatic 44, 3) := by decide +kernel
theorem dJ2_getChar_3b067_3 : decode cJ2_getChar_3b067 3 = .ok (.ifCond .ne 25, 3) := by decide +kernel
theorem dJ2_getChar_3b067_6 : decode cJ2_getChar_3b067 6 = .ok (.iload_n 1, 1) := by decide +kernel
theorem dJ2_getChar_3b067_7 : decode cJ2_getChar_3b067 7 = .ok (.ifCond .lt 11, 3) := by decide +kernel
theorem dJ2_getChar_3b067_10 : decode cJ2_getChar_3b067 10 = .ok (.iload_n 1, 1) := by decide +kernel
theorem dJ2_getChar_3b067_11 : decode cJ2_getChar_3b067 11 = .ok (.aload_n 0, 1) := by decide +kernel
theorem dJ2_getChar_3b067_12 : decode cJ2_getChar_3b067 12 = .ok (.invokestatic 48, 3) := by decide +kernel
theorem dJ2_getChar_3b067_15 : decode cJ2_getChar_3b067 15 = .ok (.if_icmp .lt 13, 3) := by decide +kernel
theorem dJ2_getChar_3b067_18 : decode cJ2_getChar_3b067 18 = .ok (.new 52, 3) := by decide +kernel
theorem dJ2_getChar_3b067_21 : decode cJ2_getChar_3b067 21 = .ok (.dup, 1) := by decide +kernel
theorem dJ2_getChar_3b067_22 : decode cJ2_getChar_3b067 22 = .ok (.ldc 54, 2) := by decide +kernel
theorem dJ2_getChar_3b067_24 : decode cJ2_getChar_3b067 24 = .ok (.invokespecial 56, 3) := by decide +kernel
theorem dJ2_getChar_3b067_27 : decode cJ2_getChar_3b067 27 = .ok (.athrow, 1) := by decide +kernel
theorem dJ2_getChar_3b067_28 : decode cJ2_getChar_3b067 28 = .ok (.iload_n 1, 1) := by decide +kernel
theorem dJ2_getChar_3b067_29 : decode cJ2_getChar_3b067 29 = .ok (.iconst 1, 1) := by decide +kernel
theorem dJ2_getChar_3b067_30 : decode cJ2_getChar_3b067 30 = .ok (.ishl, 1) := by decide +kernel
theorem dJ2_getChar_3b067_31 : decode cJ2_getChar_3b067 31 = .ok (.istore_n 1, 1) := by decide +kernel
theorem dJ2_getChar_3b067_32 : decode cJ2_getChar_3b067 32 = .ok (.aload_n 0, 1) := by decide +kernel
theorem dJ2_getChar_3b067_33 : decode cJ2_getChar_3b067 33 = .ok (.iload_n 1, 1) := by decide +kernel
theorem dJ2_getChar_3b067_34 : decode cJ2_getChar_3b067 34 = .ok (.iinc 1 1, 3) := by decide +kernel
theorem dJ2_getChar_3b067_37 : decode cJ2_getChar_3b067 37 = .ok (.baload, 1) := by decide +kernel
theorem dJ2_getChar_3b067_38 : decode cJ2_getChar_3b067 38 = .ok (.sipush 255, 3) := by decide +kernel
theorem dJ2_getChar_3b067_41 : decode cJ2_getChar_3b067 41 = .ok (.iand, 1) := by decide +kernel
theorem dJ2_getChar_3b067_42 : decode cJ2_getChar_3b067 42 = .ok (.getstatic 59, 3) := by decide +kernel
theorem dJ2_getChar_3b067_45 : decode cJ2_getChar_3b067 45 = .ok (.ishl, 1) := by decide +kernel
theorem dJ2_getChar_3b067_46 : decode cJ2_getChar_3b067 46 = .ok (.aload_n 0, 1) := by decide +kernel
theorem dJ2_getChar_3b067_47 : decode cJ2_getChar_3b067 47 = .ok (.iload_n 1, 1) := by decide +kernel
theorem dJ2_getChar_3b067_48 : decode cJ2_getChar_3b067 48 = .ok (.baload, 1) := by decide +kernel
theorem dJ2_getChar_3b067_49 : decode cJ2_getChar_3b067 49 = .ok (.sipush 255, 3) := by decide +kernel
theorem dJ2_getChar_3b067_52 : decode cJ2_getChar_3b067 52 = .ok (.iand, 1) := by decide +kernel
theorem dJ2_getChar_3b067_53 : decode cJ2_getChar_3b067 53 = .ok (.getstatic 63, 3) := by decide +kernel
theorem dJ2_getChar_3b067_56 : decode cJ2_getChar_3b067 56 = .ok (.ishl, 1) := by decide +kernel
theorem dJ2_getChar_3b067_57 : decode cJ2_getChar_3b067 57 = .ok (.ior, 1) := by decide +kernel
theorem dJ2_getChar_3b067_58 : decode cJ2_getChar_3b067 58 = .ok (.i2c, 1) := by decide +kernel
theorem dJ2_getChar_3b067_59 : decode cJ2_getChar_3b067 59 = .ok (.ireturn, 1) := by decide +kernel
theorem dJ2_length_9d52b_0 : decode cJ2_length_9d52b 0 = .ok (.aload_n 0, 1) := by decide +kernel
theorem dJ2_length_9d52b_1 : decode cJ2_length_9d52b 1 = .ok (.arraylength, 1) := by decide +kernel
theorem dJ2_length_9d52b_2 : decode cJ2_length_9d52b 2 = .ok (.iconst 1, 1) := by decide +kernel
theorem dJ2_length_9d52b_3 : decode cJ2_length_9d52b 3 = .ok (.ishr, 1) := by decide +kernel
theorem dJ2_length_9d52b_4 : decode cJ2_length_9d52b 4 = .ok (.ireturn, 1) := by decide +kernel
theorem dJ2_charAt_3b067_0 : decode cJ2_charAt_3b067 0 = .ok (.iload_n 1, 1) := by decide +kernel
theorem dJ2_charAt_3b067_1 : decode cJ2_charAt_3b067 1 = .ok (.aload_n 0, 1) := by decide +kernel
theorem dJ2_charAt_3b067_2 : decode cJ2_charAt_3b067 2 = .ok (.invokestatic 67, 3) := by decide +kernel
theorem dJ2_charAt_3b067_5 : decode cJ2_charAt_3b067 5 = .ok (.aload_n 0, 1) := by decide +kernel
theorem dJ2_charAt_3b067_6 : decode cJ2_charAt_3b067 6 = .ok (.iload_n 1, 1) := by decide +kernel
theorem dJ2_charAt_3b067_7 : decode cJ2_charAt_3b067 7 = .ok (.invokestatic 71, 3) := by decide +kernel
theorem dJ2_charAt_3b067_10 : decode cJ2_charAt_3b067 10 = .ok (.ireturn, 1) := by decide +kernel
theorem dJ2_checkIndex_2214a_0 : decode cJ2_checkIndex_2214a 0 = .ok (.iload_n 0, 1) := by decide +kernel
theorem dJ2_checkIndex_2214a_1 : decode cJ2_checkIndex_2214a 1 = .ok (.aload_n 1, 1) := by decide +kernel
theorem dJ2_checkIndex_2214a_2 : decode cJ2_checkIndex_2214a 2 = .ok (.invokestatic 48, 3) := by decide +kernel
theorem dJ2_checkIndex_2214a_5 : decode cJ2_checkIndex_2214a 5 = .ok (.invokestatic 414, 3) := by decide +kernel
theorem dJ2_checkIndex_2214a_8 : decode cJ2_checkIndex_2214a 8 = .ok (.return_, 1) := by decide +kernel
theorem dJ7_fill_d0a16_0 : decode cJ7_fill_d0a16 0 = .ok (.iconst 0, 1) := by decide +kernel
theorem dJ7_fill_d0a16_1 : decode cJ7_fill_d0a16 1 = .ok (.istore_n 3, 1) := by decide +kernel
theorem dJ7_fill_d0a16_2 : decode cJ7_fill_d0a16 2 = .ok (.aload_n 0, 1) := by decide +kernel
theorem dJ7_fill_d0a16_3 : decode cJ7_fill_d0a16 3 = .ok (.arraylength, 1) := by decide +kernel
theorem dJ7_fill_d0a16_4 : decode cJ7_fill_d0a16 4 = .ok (.istore 4, 2) := by decide +kernel
theorem dJ7_fill_d0a16_6 : decode cJ7_fill_d0a16 6 = .ok (.iload_n 3, 1) := by decide +kernel
theorem dJ7_fill_d0a16_7 : decode cJ7_fill_d0a16 7 = .ok (.iload 4, 2) := by decide +kernel
theorem dJ7_fill_d0a16_9 : decode cJ7_fill_d0a16 9 = .ok (.if_icmp .ge 13, 3) := by decide +kernel
theorem dJ7_fill_d0a16_12 : decode cJ7_fill_d0a16 12 = .ok (.aload_n 0, 1) := by decide +kernel
theorem dJ7_fill_d0a16_13 : decode cJ7_fill_d0a16 13 = .ok (.iload_n 3, 1) := by decide +kernel
theorem dJ7_fill_d0a16_14 : decode cJ7_fill_d0a16 14 = .ok (.lload_n 1, 1) := by decide +kernel
theorem dJ7_fill_d0a16_15 : decode cJ7_fill_d0a16 15 = .ok (.lastore, 1) := by decide +kernel
theorem dJ7_fill_d0a16_16 : decode cJ7_fill_d0a16 16 = .ok (.iinc 3 1, 3) := by decide +kernel
theorem dJ7_fill_d0a16_19 : decode cJ7_fill_d0a16 19 = .ok (.goto (-13), 3) := by decide +kernel
theorem dJ7_fill_d0a16_22 : decode cJ7_fill_d0a16 22 = .ok (.return_, 1) := by decide +kernel
theorem dJ7_fill_53178_0 : decode cJ7_fill_53178 0 = .ok (.iconst 0, 1) := by decide +kernel
theorem dJ7_fill_53178_1 : decode cJ7_fill_53178 1 = .ok (.istore_n 2, 1) := by decide +kernel
theorem dJ7_fill_53178_2 : decode cJ7_fill_53178 2 = .ok (.aload_n 0, 1) := by decide +kernel
theorem dJ7_fill_53178_3 : decode cJ7_fill_53178 3 = .ok (.arraylength, 1) := by decide +kernel
theorem dJ7_fill_53178_4 : decode cJ7_fill_53178 4 = .ok (.istore_n 3, 1) := by decide +kernel
theorem dJ7_fill_53178_5 : decode cJ7_fill_53178 5 = .ok (.iload_n 2, 1) := by decide +kernel
theorem dJ7_fill_53178_6 : decode cJ7_fill_53178 6 = .ok (.iload_n 3, 1) := by decide +kernel
theorem dJ7_fill_53178_7 : decode cJ7_fill_53178 7 = .ok (.if_icmp .ge 13, 3) := by decide +kernel
theorem dJ7_fill_53178_10 : decode cJ7_fill_53178 10 = .ok (.aload_n 0, 1) := by decide +kernel
theorem dJ7_fill_53178_11 : decode cJ7_fill_53178 11 = .ok (.iload_n 2, 1) := by decide +kernel
theorem dJ7_fill_53178_12 : decode cJ7_fill_53178 12 = .ok (.iload_n 1, 1) := by decide +kernel
theorem dJ7_fill_53178_13 : decode cJ7_fill_53178 13 = .ok (.iastore, 1) := by decide +kernel
theorem dJ7_fill_53178_14 : decode cJ7_fill_53178 14 = .ok (.iinc 2 1, 3) := by decide +kernel
theorem dJ7_fill_53178_17 : decode cJ7_fill_53178 17 = .ok (.goto (-12), 3) := by decide +kernel
theorem dJ7_fill_53178_20 : decode cJ7_fill_53178 20 = .ok (.return_, 1) := by decide +kernel
theorem dJ3_checkIndex_8e157_0 : decode cJ3_checkIndex_8e157 0 = .ok (.iload_n 0, 1) := by decide +kernel
theorem dJ3_checkIndex_8e157_1 : decode cJ3_checkIndex_8e157 1 = .ok (.ifCond .lt 8, 3) := by decide +kernel
theorem dJ3_checkIndex_8e157_4 : decode cJ3_checkIndex_8e157 4 = .ok (.iload_n 0, 1) := by decide +kernel
theorem dJ3_checkIndex_8e157_5 : decode cJ3_checkIndex_8e157 5 = .ok (.iload_n 1, 1) := by decide +kernel
theorem dJ3_checkIndex_8e157_6 : decode cJ3_checkIndex_8e157 6 = .ok (.if_icmp .lt 10, 3) := by decide +kernel
theorem dJ3_checkIndex_8e157_9 : decode cJ3_checkIndex_8e157 9 = .ok (.aload_n 2, 1) := by decide +kernel
theorem dJ3_checkIndex_8e157_10 : decode cJ3_checkIndex_8e157 10 = .ok (.iload_n 0, 1) := by decide +kernel
theorem dJ3_checkIndex_8e157_11 : decode cJ3_checkIndex_8e157 11 = .ok (.iload_n 1, 1) := by decide +kernel
theorem dJ3_checkIndex_8e157_12 : decode cJ3_checkIndex_8e157 12 = .ok (.invokestatic 95, 3) := by decide +kernel
theorem dJ3_checkIndex_8e157_15 : decode cJ3_checkIndex_8e157 15 = .ok (.athrow, 1) := by decide +kernel
theorem dJ3_checkIndex_8e157_16 : decode cJ3_checkIndex_8e157 16 = .ok (.iload_n 0, 1) := by decide +kernel
theorem dJ3_checkIndex_8e157_17 : decode cJ3_checkIndex_8e157 17 = .ok (.ireturn, 1) := by decide +kernel
theorem dL_law_0 : decode cL_law 0 = .ok (.new 7, 3) := by decide +kernel
theorem dL_law_3 : decode cL_law 3 = .ok (.dup, 1) := by decide +kernel
theorem dL_law_4 : decode cL_law 4 = .ok (.invokespecial 9, 3) := by decide +kernel
theorem dL_law_7 : decode cL_law 7 = .ok (.astore_n 1, 1) := by decide +kernel
theorem dL_law_8 : decode cL_law 8 = .ok (.new 10, 3) := by decide +kernel
theorem dL_law_11 : decode cL_law 11 = .ok (.dup, 1) := by decide +kernel
theorem dL_law_12 : decode cL_law 12 = .ok (.invokespecial 12, 3) := by decide +kernel
theorem dL_law_15 : decode cL_law 15 = .ok (.astore_n 2, 1) := by decide +kernel
theorem dL_law_16 : decode cL_law 16 = .ok (.iconst 0, 1) := by decide +kernel
theorem dL_law_17 : decode cL_law 17 = .ok (.istore_n 3, 1) := by decide +kernel
theorem dL_law_18 : decode cL_law 18 = .ok (.iload_n 3, 1) := by decide +kernel
theorem dL_law_19 : decode cL_law 19 = .ok (.aload_n 0, 1) := by decide +kernel
theorem dL_law_20 : decode cL_law 20 = .ok (.arraylength, 1) := by decide +kernel
theorem dL_law_21 : decode cL_law 21 = .ok (.bipush 6, 2) := by decide +kernel
theorem dL_law_23 : decode cL_law 23 = .ok (.isub, 1) := by decide +kernel
theorem dL_law_24 : decode cL_law 24 = .ok (.if_icmp .gt 1143, 3) := by decide +kernel
theorem dL_law_27 : decode cL_law 27 = .ok (.aload_n 0, 1) := by decide +kernel
theorem dL_law_28 : decode cL_law 28 = .ok (.iload_n 3, 1) := by decide +kernel
theorem dL_law_29 : decode cL_law 29 = .ok (.iaload, 1) := by decide +kernel
theorem dL_law_30 : decode cL_law 30 = .ok (.bipush 31, 2) := by decide +kernel
theorem dL_law_32 : decode cL_law 32 = .ok (.iand, 1) := by decide +kernel
theorem dL_law_33 : decode cL_law 33 = .ok (.tableswitch 1128 0 26 #[123, 166, 209, 242, 295, 318, 331, 354, 387, 430, 473, 507, 540, 583, 627, 650, 693, 737, 780, 844, 857, 870, 893, 936, 979, 1042, 1095], 123) := by decide +kernel
theorem dL_law_156 : decode cL_law 156 = .ok (.aload_n 1, 1) := by decide +kernel
theorem dL_law_157 : decode cL_law 157 = .ok (.aload_n 0, 1) := by decide +kernel
theorem dL_law_158 : decode cL_law 158 = .ok (.iload_n 3, 1) := by decide +kernel
theorem dL_law_159 : decode cL_law 159 = .ok (.iconst 1, 1) := by decide +kernel
theorem dL_law_160 : decode cL_law 160 = .ok (.iadd, 1) := by decide +kernel
theorem dL_law_161 : decode cL_law 161 = .ok (.iaload, 1) := by decide +kernel
theorem dL_law_162 : decode cL_law 162 = .ok (.aload_n 0, 1) := by decide +kernel
theorem dL_law_163 : decode cL_law 163 = .ok (.iload_n 3, 1) := by decide +kernel
theorem dL_law_164 : decode cL_law 164 = .ok (.iconst 2, 1) := by decide +kernel
theorem dL_law_165 : decode cL_law 165 = .ok (.iadd, 1) := by decide +kernel
theorem dL_law_166 : decode cL_law 166 = .ok (.iaload, 1) := by decide +kernel
theorem dL_law_167 : decode cL_law 167 = .ok (.aload_n 0, 1) := by decide +kernel
theorem dL_law_168 : decode cL_law 168 = .ok (.iload_n 3, 1) := by decide +kernel
theorem dL_law_169 : decode cL_law 169 = .ok (.iconst 3, 1) := by decide +kernel
theorem dL_law_170 : decode cL_law 170 = .ok (.iadd, 1) := by decide +kernel
theorem dL_law_171 : decode cL_law 171 = .ok (.iaload, 1) := by decide +kernel
theorem dL_law_172 : decode cL_law 172 = .ok (.invokevirtual 13, 3) := by decide +kernel
theorem dL_law_175 : decode cL_law 175 = .ok (.aload_n 2, 1) := by decide +kernel
theorem dL_law_176 : decode cL_law 176 = .ok (.aload_n 0, 1) := by decide +kernel
theorem dL_law_177 : decode cL_law 177 = .ok (.iload_n 3, 1) := by decide +kernel
theorem dL_law_178 : decode cL_law 178 = .ok (.iconst 1, 1) := by decide +kernel
theorem dL_law_179 : decode cL_law 179 = .ok (.iadd, 1) := by decide +kernel
theorem dL_law_180 : decode cL_law 180 = .ok (.iaload, 1) := by decide +kernel
theorem dL_law_181 : decode cL_law 181 = .ok (.aload_n 0, 1) := by decide +kernel
theorem dL_law_182 : decode cL_law 182 = .ok (.iload_n 3, 1) := by decide +kernel
theorem dL_law_183 : decode cL_law 183 = .ok (.iconst 2, 1) := by decide +kernel
theorem dL_law_184 : decode cL_law 184 = .ok (.iadd, 1) := by decide +kernel
theorem dL_law_185 : decode cL_law 185 = .ok (.iaload, 1) := by decide +kernel
theorem dL_law_186 : decode cL_law 186 = .ok (.aload_n 0, 1) := by decide +kernel
theorem dL_law_187 : decode cL_law 187 = .ok (.iload_n 3, 1) := by decide +kernel
theorem dL_law_188 : decode cL_law 188 = .ok (.iconst 3, 1) := by decide +kernel
theorem dL_law_189 : decode cL_law 189 = .ok (.iadd, 1) := by decide +kernel
theorem dL_law_190 : decode cL_law 190 = .ok (.iaload, 1) := by decide +kernel
theorem dL_law_191 : decode cL_law 191 = .ok (.invokevirtual 17, 3) := by decide +kernel
theorem dL_law_194 : decode cL_law 194 = .ok (.if_icmp .eq 967, 3) := by decide +kernel
theorem dL_law_197 : decode cL_law 197 = .ok (.iconst 0, 1) := by decide +kernel
theorem dL_law_198 : decode cL_law 198 = .ok (.ireturn, 1) := by decide +kernel
theorem dL_law_199 : decode cL_law 199 = .ok (.aload_n 1, 1) := by decide +kernel
theorem dL_law_200 : decode cL_law 200 = .ok (.aload_n 0, 1) := by decide +kernel
theorem dL_law_201 : decode cL_law 201 = .ok (.iload_n 3, 1) := by decide +kernel
theorem dL_law_202 : decode cL_law 202 = .ok (.iconst 1, 1) := by decide +kernel
theorem dL_law_203 : decode cL_law 203 = .ok (.iadd, 1) := by decide +kernel
theorem dL_law_204 : decode cL_law 204 = .ok (.iaload, 1) := by decide +kernel
theorem dL_law_205 : decode cL_law 205 = .ok (.aload_n 0, 1) := by decide +kernel
theorem dL_law_206 : decode cL_law 206 = .ok (.iload_n 3, 1) := by decide +kernel
theorem dL_law_207 : decode cL_law 207 = .ok (.iconst 2, 1) := by decide +kernel
theorem dL_law_208 : decode cL_law 208 = .ok (.iadd, 1) := by decide +kernel
theorem dL_law_209 : decode cL_law 209 = .ok (.iaload, 1) := by decide +kernel
theorem dL_law_210 : decode cL_law 210 = .ok (.aload_n 0, 1) := by decide +kernel
theorem dL_law_211 : decode cL_law 211 = .ok (.iload_n 3, 1) := by decide +kernel
theorem dL_law_212 : decode cL_law 212 = .ok (.iconst 3, 1) := by decide +kernel
theorem dL_law_213 : decode cL_law 213 = .ok (.iadd, 1) := by decide +kernel
theorem dL_law_214 : decode cL_law 214 = .ok (.iaload, 1) := by decide +kernel
theorem dL_law_215 : decode cL_law 215 = .ok (.invokevirtual 18, 3) := by decide +kernel
theorem dL_law_218 : decode cL_law 218 = .ok (.aload_n 2, 1) := by decide +kernel
theorem dL_law_219 : decode cL_law 219 = .ok (.aload_n 0, 1) := by decide +kernel
theorem dL_law_220 : decode cL_law 220 = .ok (.iload_n 3, 1) := by decide +kernel
theorem dL_law_221 : decode cL_law 221 = .ok (.iconst 1, 1) := by decide +kernel
theorem dL_law_222 : decode cL_law 222 = .ok (.iadd, 1) := by decide +kernel
theorem dL_law_223 : decode cL_law 223 = .ok (.iaload, 1) := by decide +kernel
theorem dL_law_224 : decode cL_law 224 = .ok (.aload_n 0, 1) := by decide +kernel
theorem dL_law_225 : decode cL_law 225 = .ok (.iload_n 3, 1) := by decide +kernel
theorem dL_law_226 : decode cL_law 226 = .ok (.iconst 2, 1) := by decide +kernel
theorem dL_law_227 : decode cL_law 227 = .ok (.iadd, 1) := by decide +kernel
theorem dL_law_228 : decode cL_law 228 = .ok (.iaload, 1) := by decide +kernel
theorem dL_law_229 : decode cL_law 229 = .ok (.aload_n 0, 1) := by decide +kernel
theorem dL_law_230 : decode cL_law 230 = .ok (.iload_n 3, 1) := by decide +kernel
theorem dL_law_231 : decode cL_law 231 = .ok (.iconst 3, 1) := by decide +kernel
theorem dL_law_232 : decode cL_law 232 = .ok (.iadd, 1) := by decide +kernel
theorem dL_law_233 : decode cL_law 233 = .ok (.iaload, 1) := by decide +kernel
theorem dL_law_234 : decode cL_law 234 = .ok (.invokevirtual 21, 3) := by decide +kernel
theorem dL_law_237 : decode cL_law 237 = .ok (.if_icmp .eq 924, 3) := by decide +kernel
theorem dL_law_240 : decode cL_law 240 = .ok (.iconst 0, 1) := by decide +kernel
theorem dL_law_241 : decode cL_law 241 = .ok (.ireturn, 1) := by decide +kernel
theorem dL_law_242 : decode cL_law 242 = .ok (.aload_n 1, 1) := by decide +kernel
theorem dL_law_243 : decode cL_law 243 = .ok (.aload_n 0, 1) := by decide +kernel
theorem dL_law_244 : decode cL_law 244 = .ok (.iload_n 3, 1) := by decide +kernel
theorem dL_law_245 : decode cL_law 245 = .ok (.iconst 1, 1) := by decide +kernel
theorem dL_law_246 : decode cL_law 246 = .ok (.iadd, 1) := by decide +kernel
theorem dL_law_247 : decode cL_law 247 = .ok (.iaload, 1) := by decide +kernel
theorem dL_law_248 : decode cL_law 248 = .ok (.aload_n 0, 1) := by decide +kernel
theorem dL_law_249 : decode cL_law 249 = .ok (.iload_n 3, 1) := by decide +kernel
theorem dL_law_250 : decode cL_law 250 = .ok (.iconst 2, 1) := by decide +kernel
theorem dL_law_251 : decode cL_law 251 = .ok (.iadd, 1) := by decide +kernel
theorem dL_law_252 : decode cL_law 252 = .ok (.iaload, 1) := by decide +kernel
theorem dL_law_253 : decode cL_law 253 = .ok (.invokevirtual 22, 3) := by decide +kernel
theorem dL_law_256 : decode cL_law 256 = .ok (.aload_n 2, 1) := by decide +kernel
theorem dL_law_257 : decode cL_law 257 = .ok (.aload_n 0, 1) := by decide +kernel
theorem dL_law_258 : decode cL_law 258 = .ok (.iload_n 3, 1) := by decide +kernel
theorem dL_law_259 : decode cL_law 259 = .ok (.iconst 1, 1) := by decide +kernel
theorem dL_law_260 : decode cL_law 260 = .ok (.iadd, 1) := by decide +kernel
theorem dL_law_261 : decode cL_law 261 = .ok (.iaload, 1) := by decide +kernel
theorem dL_law_262 : decode cL_law 262 = .ok (.aload_n 0, 1) := by decide +kernel
theorem dL_law_263 : decode cL_law 263 = .ok (.iload_n 3, 1) := by decide +kernel
theorem dL_law_264 : decode cL_law 264 = .ok (.iconst 2, 1) := by decide +kernel
theorem dL_law_265 : decode cL_law 265 = .ok (.iadd, 1) := by decide +kernel
theorem dL_law_266 : decode cL_law 266 = .ok (.iaload, 1) := by decide +kernel
theorem dL_law_267 : decode cL_law 267 = .ok (.invokevirtual 26, 3) := by decide +kernel
theorem dL_law_270 : decode cL_law 270 = .ok (.if_icmp .eq 891, 3) := by decide +kernel
theorem dL_law_273 : decode cL_law 273 = .ok (.iconst 0, 1) := by decide +kernel
theorem dL_law_274 : decode cL_law 274 = .ok (.ireturn, 1) := by decide +kernel
theorem dL_law_275 : decode cL_law 275 = .ok (.aload_n 1, 1) := by decide +kernel
theorem dL_law_276 : decode cL_law 276 = .ok (.aload_n 0, 1) := by decide +kernel
theorem dL_law_277 : decode cL_law 277 = .ok (.iload_n 3, 1) := by decide +kernel
theorem dL_law_278 : decode cL_law 278 = .ok (.iconst 1, 1) := by decide +kernel
theorem dL_law_279 : decode cL_law 279 = .ok (.iadd, 1) := by decide +kernel
theorem dL_law_280 : decode cL_law 280 = .ok (.iaload, 1) := by decide +kernel
theorem dL_law_281 : decode cL_law 281 = .ok (.aload_n 0, 1) := by decide +kernel
theorem dL_law_282 : decode cL_law 282 = .ok (.iload_n 3, 1) := by decide +kernel
theorem dL_law_283 : decode cL_law 283 = .ok (.iconst 2, 1) := by decide +kernel
theorem dL_law_284 : decode cL_law 284 = .ok (.iadd, 1) := by decide +kernel
theorem dL_law_285 : decode cL_law 285 = .ok (.iaload, 1) := by decide +kernel
theorem dL_law_286 : decode cL_law 286 = .ok (.aload_n 0, 1) := by decide +kernel
theorem dL_law_287 : decode cL_law 287 = .ok (.iload_n 3, 1) := by decide +kernel
theorem dL_law_288 : decode cL_law 288 = .ok (.iconst 3, 1) := by decide +kernel
theorem dL_law_289 : decode cL_law 289 = .ok (.iadd, 1) := by decide +kernel
theorem dL_law_290 : decode cL_law 290 = .ok (.iaload, 1) := by decide +kernel
theorem dL_law_291 : decode cL_law 291 = .ok (.aload_n 0, 1) := by decide +kernel
theorem dL_law_292 : decode cL_law 292 = .ok (.iload_n 3, 1) := by decide +kernel
theorem dL_law_293 : decode cL_law 293 = .ok (.iconst 4, 1) := by decide +kernel
theorem dL_law_294 : decode cL_law 294 = .ok (.iadd, 1) := by decide +kernel
theorem dL_law_295 : decode cL_law 295 = .ok (.iaload, 1) := by decide +kernel
theorem dL_law_296 : decode cL_law 296 = .ok (.invokevirtual 27, 3) := by decide +kernel
theorem dL_law_299 : decode cL_law 299 = .ok (.aload_n 2, 1) := by decide +kernel
theorem dL_law_300 : decode cL_law 300 = .ok (.aload_n 0, 1) := by decide +kernel
theorem dL_law_301 : decode cL_law 301 = .ok (.iload_n 3, 1) := by decide +kernel
theorem dL_law_302 : decode cL_law 302 = .ok (.iconst 1, 1) := by decide +kernel
theorem dL_law_303 : decode cL_law 303 = .ok (.iadd, 1) := by decide +kernel
theorem dL_law_304 : decode cL_law 304 = .ok (.iaload, 1) := by decide +kernel
theorem dL_law_305 : decode cL_law 305 = .ok (.aload_n 0, 1) := by decide +kernel
theorem dL_law_306 : decode cL_law 306 = .ok (.iload_n 3, 1) := by decide +kernel
theorem dL_law_307 : decode cL_law 307 = .ok (.iconst 2, 1) := by decide +kernel
theorem dL_law_308 : decode cL_law 308 = .ok (.iadd, 1) := by decide +kernel
theorem dL_law_309 : decode cL_law 309 = .ok (.iaload, 1) := by decide +kernel
theorem dL_law_310 : decode cL_law 310 = .ok (.aload_n 0, 1) := by decide +kernel
theorem dL_law_311 : decode cL_law 311 = .ok (.iload_n 3, 1) := by decide +kernel
theorem dL_law_312 : decode cL_law 312 = .ok (.iconst 3, 1) := by decide +kernel
theorem dL_law_313 : decode cL_law 313 = .ok (.iadd, 1) := by decide +kernel
theorem dL_law_314 : decode cL_law 314 = .ok (.iaload, 1) := by decide +kernel
theorem dL_law_315 : decode cL_law 315 = .ok (.aload_n 0, 1) := by decide +kernel
theorem dL_law_316 : decode cL_law 316 = .ok (.iload_n 3, 1) := by decide +kernel
theorem dL_law_317 : decode cL_law 317 = .ok (.iconst 4, 1) := by decide +kernel
theorem dL_law_318 : decode cL_law 318 = .ok (.iadd, 1) := by decide +kernel
theorem dL_law_319 : decode cL_law 319 = .ok (.iaload, 1) := by decide +kernel
theorem dL_law_320 : decode cL_law 320 = .ok (.invokevirtual 31, 3) := by decide +kernel
theorem dL_law_323 : decode cL_law 323 = .ok (.if_icmp .eq 838, 3) := by decide +kernel
theorem dL_law_326 : decode cL_law 326 = .ok (.iconst 0, 1) := by decide +kernel
theorem dL_law_327 : decode cL_law 327 = .ok (.ireturn, 1) := by decide +kernel
theorem dL_law_328 : decode cL_law 328 = .ok (.aload_n 1, 1) := by decide +kernel
theorem dL_law_329 : decode cL_law 329 = .ok (.aload_n 0, 1) := by decide +kernel
theorem dL_law_330 : decode cL_law 330 = .ok (.iload_n 3, 1) := by decide +kernel
theorem dL_law_331 : decode cL_law 331 = .ok (.iconst 1, 1) := by decide +kernel
theorem dL_law_332 : decode cL_law 332 = .ok (.iadd, 1) := by decide +kernel
theorem dL_law_333 : decode cL_law 333 = .ok (.iaload, 1) := by decide +kernel
theorem dL_law_334 : decode cL_law 334 = .ok (.invokevirtual 32, 3) := by decide +kernel
theorem dL_law_337 : decode cL_law 337 = .ok (.aload_n 2, 1) := by decide +kernel
theorem dL_law_338 : decode cL_law 338 = .ok (.aload_n 0, 1) := by decide +kernel
theorem dL_law_339 : decode cL_law 339 = .ok (.iload_n 3, 1) := by decide +kernel
theorem dL_law_340 : decode cL_law 340 = .ok (.iconst 1, 1) := by decide +kernel
theorem dL_law_341 : decode cL_law 341 = .ok (.iadd, 1) := by decide +kernel
theorem dL_law_342 : decode cL_law 342 = .ok (.iaload, 1) := by decide +kernel
theorem dL_law_343 : decode cL_law 343 = .ok (.invokevirtual 36, 3) := by decide +kernel
theorem dL_law_346 : decode cL_law 346 = .ok (.if_icmp .eq 815, 3) := by decide +kernel
theorem dL_law_349 : decode cL_law 349 = .ok (.iconst 0, 1) := by decide +kernel
theorem dL_law_350 : decode cL_law 350 = .ok (.ireturn, 1) := by decide +kernel
theorem dL_law_351 : decode cL_law 351 = .ok (.aload_n 1, 1) := by decide +kernel
theorem dL_law_352 : decode cL_law 352 = .ok (.invokevirtual 37, 3) := by decide +kernel
theorem dL_law_355 : decode cL_law 355 = .ok (.aload_n 2, 1) := by decide +kernel
theorem dL_law_356 : decode cL_law 356 = .ok (.invokevirtual 41, 3) := by decide +kernel
theorem dL_law_359 : decode cL_law 359 = .ok (.if_icmp .eq 802, 3) := by decide +kernel
theorem dL_law_362 : decode cL_law 362 = .ok (.iconst 0, 1) := by decide +kernel
theorem dL_law_363 : decode cL_law 363 = .ok (.ireturn, 1) := by decide +kernel
theorem dL_law_364 : decode cL_law 364 = .ok (.aload_n 1, 1) := by decide +kernel
theorem dL_law_365 : decode cL_law 365 = .ok (.aload_n 0, 1) := by decide +kernel
theorem dL_law_366 : decode cL_law 366 = .ok (.iload_n 3, 1) := by decide +kernel
theorem dL_law_367 : decode cL_law 367 = .ok (.iconst 1, 1) := by decide +kernel
theorem dL_law_368 : decode cL_law 368 = .ok (.iadd, 1) := by decide +kernel
theorem dL_law_369 : decode cL_law 369 = .ok (.iaload, 1) := by decide +kernel
theorem dL_law_370 : decode cL_law 370 = .ok (.invokevirtual 42, 3) := by decide +kernel
theorem dL_law_373 : decode cL_law 373 = .ok (.aload_n 2, 1) := by decide +kernel
theorem dL_law_374 : decode cL_law 374 = .ok (.aload_n 0, 1) := by decide +kernel
theorem dL_law_375 : decode cL_law 375 = .ok (.iload_n 3, 1) := by decide +kernel
theorem dL_law_376 : decode cL_law 376 = .ok (.iconst 1, 1) := by decide +kernel
theorem dL_law_377 : decode cL_law 377 = .ok (.iadd, 1) := by decide +kernel
theorem dL_law_378 : decode cL_law 378 = .ok (.iaload, 1) := by decide +kernel
theorem dL_law_379 : decode cL_law 379 = .ok (.invokevirtual 45, 3) := by decide +kernel
theorem dL_law_382 : decode cL_law 382 = .ok (.if_icmp .eq 779, 3) := by decide +kernel
theorem dL_law_385 : decode cL_law 385 = .ok (.iconst 0, 1) := by decide +kernel
theorem dL_law_386 : decode cL_law 386 = .ok (.ireturn, 1) := by decide +kernel
theorem dL_law_387 : decode cL_law 387 = .ok (.aload_n 1, 1) := by decide +kernel
theorem dL_law_388 : decode cL_law 388 = .ok (.aload_n 0, 1) := by decide +kernel
theorem dL_law_389 : decode cL_law 389 = .ok (.iload_n 3, 1) := by decide +kernel
theorem dL_law_390 : decode cL_law 390 = .ok (.iconst 1, 1) := by decide +kernel
theorem dL_law_391 : decode cL_law 391 = .ok (.iadd, 1) := by decide +kernel
theorem dL_law_392 : decode cL_law 392 = .ok (.iaload, 1) := by decide +kernel
theorem dL_law_393 : decode cL_law 393 = .ok (.aload_n 0, 1) := by decide +kernel
theorem dL_law_394 : decode cL_law 394 = .ok (.iload_n 3, 1) := by decide +kernel
theorem dL_law_395 : decode cL_law 395 = .ok (.iconst 2, 1) := by decide +kernel
theorem dL_law_396 : decode cL_law 396 = .ok (.iadd, 1) := by decide +kernel
theorem dL_law_397 : decode cL_law 397 = .ok (.iaload, 1) := by decide +kernel
theorem dL_law_398 : decode cL_law 398 = .ok (.invokevirtual 46, 3) := by decide +kernel
theorem dL_law_401 : decode cL_law 401 = .ok (.aload_n 2, 1) := by decide +kernel
theorem dL_law_402 : decode cL_law 402 = .ok (.aload_n 0, 1) := by decide +kernel
theorem dL_law_403 : decode cL_law 403 = .ok (.iload_n 3, 1) := by decide +kernel
theorem dL_law_404 : decode cL_law 404 = .ok (.iconst 1, 1) := by decide +kernel
theorem dL_law_405 : decode cL_law 405 = .ok (.iadd, 1) := by decide +kernel
theorem dL_law_406 : decode cL_law 406 = .ok (.iaload, 1) := by decide +kernel
theorem dL_law_407 : decode cL_law 407 = .ok (.aload_n 0, 1) := by decide +kernel
theorem dL_law_408 : decode cL_law 408 = .ok (.iload_n 3, 1) := by decide +kernel
theorem dL_law_409 : decode cL_law 409 = .ok (.iconst 2, 1) := by decide +kernel
theorem dL_law_410 : decode cL_law 410 = .ok (.iadd, 1) := by decide +kernel
theorem dL_law_411 : decode cL_law 411 = .ok (.iaload, 1) := by decide +kernel
theorem dL_law_412 : decode cL_law 412 = .ok (.invokevirtual 49, 3) := by decide +kernel
theorem dL_law_415 : decode cL_law 415 = .ok (.if_icmp .eq 746, 3) := by decide +kernel
theorem dL_law_418 : decode cL_law 418 = .ok (.iconst 0, 1) := by decide +kernel
theorem dL_law_419 : decode cL_law 419 = .ok (.ireturn, 1) := by decide +kernel
theorem dL_law_420 : decode cL_law 420 = .ok (.aload_n 1, 1) := by decide +kernel
theorem dL_law_421 : decode cL_law 421 = .ok (.aload_n 0, 1) := by decide +kernel
theorem dL_law_422 : decode cL_law 422 = .ok (.iload_n 3, 1) := by decide +kernel
theorem dL_law_423 : decode cL_law 423 = .ok (.iconst 1, 1) := by decide +kernel
theorem dL_law_424 : decode cL_law 424 = .ok (.iadd, 1) := by decide +kernel
theorem dL_law_425 : decode cL_law 425 = .ok (.iaload, 1) := by decide +kernel
theorem dL_law_426 : decode cL_law 426 = .ok (.aload_n 0, 1) := by decide +kernel
theorem dL_law_427 : decode cL_law 427 = .ok (.iload_n 3, 1) := by decide +kernel
theorem dL_law_428 : decode cL_law 428 = .ok (.iconst 2, 1) := by decide +kernel
theorem dL_law_429 : decode cL_law 429 = .ok (.iadd, 1) := by decide +kernel
theorem dL_law_430 : decode cL_law 430 = .ok (.iaload, 1) := by decide +kernel
theorem dL_law_431 : decode cL_law 431 = .ok (.aload_n 0, 1) := by decide +kernel
theorem dL_law_432 : decode cL_law 432 = .ok (.iload_n 3, 1) := by decide +kernel
theorem dL_law_433 : decode cL_law 433 = .ok (.iconst 3, 1) := by decide +kernel
theorem dL_law_434 : decode cL_law 434 = .ok (.iadd, 1) := by decide +kernel
theorem dL_law_435 : decode cL_law 435 = .ok (.iaload, 1) := by decide +kernel
theorem dL_law_436 : decode cL_law 436 = .ok (.invokevirtual 50, 3) := by decide +kernel
theorem dL_law_439 : decode cL_law 439 = .ok (.aload_n 2, 1) := by decide +kernel
theorem dL_law_440 : decode cL_law 440 = .ok (.aload_n 0, 1) := by decide +kernel
theorem dL_law_441 : decode cL_law 441 = .ok (.iload_n 3, 1) := by decide +kernel
theorem dL_law_442 : decode cL_law 442 = .ok (.iconst 1, 1) := by decide +kernel
theorem dL_law_443 : decode cL_law 443 = .ok (.iadd, 1) := by decide +kernel
theorem dL_law_444 : decode cL_law 444 = .ok (.iaload, 1) := by decide +kernel
theorem dL_law_445 : decode cL_law 445 = .ok (.aload_n 0, 1) := by decide +kernel
theorem dL_law_446 : decode cL_law 446 = .ok (.iload_n 3, 1) := by decide +kernel
theorem dL_law_447 : decode cL_law 447 = .ok (.iconst 2, 1) := by decide +kernel
theorem dL_law_448 : decode cL_law 448 = .ok (.iadd, 1) := by decide +kernel
theorem dL_law_449 : decode cL_law 449 = .ok (.iaload, 1) := by decide +kernel
theorem dL_law_450 : decode cL_law 450 = .ok (.aload_n 0, 1) := by decide +kernel
theorem dL_law_451 : decode cL_law 451 = .ok (.iload_n 3, 1) := by decide +kernel
theorem dL_law_452 : decode cL_law 452 = .ok (.iconst 3, 1) := by decide +kernel
theorem dL_law_453 : decode cL_law 453 = .ok (.iadd, 1) := by decide +kernel
theorem dL_law_454 : decode cL_law 454 = .ok (.iaload, 1) := by decide +kernel
theorem dL_law_455 : decode cL_law 455 = .ok (.invokevirtual 53, 3) := by decide +kernel
theorem dL_law_458 : decode cL_law 458 = .ok (.if_icmp .eq 703, 3) := by decide +kernel
theorem dL_law_461 : decode cL_law 461 = .ok (.iconst 0, 1) := by decide +kernel
theorem dL_law_462 : decode cL_law 462 = .ok (.ireturn, 1) := by decide +kernel
theorem dL_law_463 : decode cL_law 463 = .ok (.aload_n 1, 1) := by decide +kernel
theorem dL_law_464 : decode cL_law 464 = .ok (.aload_n 0, 1) := by decide +kernel
theorem dL_law_465 : decode cL_law 465 = .ok (.iload_n 3, 1) := by decide +kernel
theorem dL_law_466 : decode cL_law 466 = .ok (.iconst 1, 1) := by decide +kernel
theorem dL_law_467 : decode cL_law 467 = .ok (.iadd, 1) := by decide +kernel
theorem dL_law_468 : decode cL_law 468 = .ok (.iaload, 1) := by decide +kernel
theorem dL_law_469 : decode cL_law 469 = .ok (.aload_n 0, 1) := by decide +kernel
theorem dL_law_470 : decode cL_law 470 = .ok (.iload_n 3, 1) := by decide +kernel
theorem dL_law_471 : decode cL_law 471 = .ok (.iconst 2, 1) := by decide +kernel
theorem dL_law_472 : decode cL_law 472 = .ok (.iadd, 1) := by decide +kernel
theorem dL_law_473 : decode cL_law 473 = .ok (.iaload, 1) := by decide +kernel
theorem dL_law_474 : decode cL_law 474 = .ok (.aload_n 0, 1) := by decide +kernel
theorem dL_law_475 : decode cL_law 475 = .ok (.iload_n 3, 1) := by decide +kernel
theorem dL_law_476 : decode cL_law 476 = .ok (.iconst 3, 1) := by decide +kernel
theorem dL_law_477 : decode cL_law 477 = .ok (.iadd, 1) := by decide +kernel
theorem dL_law_478 : decode cL_law 478 = .ok (.iaload, 1) := by decide +kernel
theorem dL_law_479 : decode cL_law 479 = .ok (.invokevirtual 54, 3) := by decide +kernel
theorem dL_law_482 : decode cL_law 482 = .ok (.aload_n 2, 1) := by decide +kernel
theorem dL_law_483 : decode cL_law 483 = .ok (.aload_n 0, 1) := by decide +kernel
theorem dL_law_484 : decode cL_law 484 = .ok (.iload_n 3, 1) := by decide +kernel
theorem dL_law_485 : decode cL_law 485 = .ok (.iconst 1, 1) := by decide +kernel
theorem dL_law_486 : decode cL_law 486 = .ok (.iadd, 1) := by decide +kernel
theorem dL_law_487 : decode cL_law 487 = .ok (.iaload, 1) := by decide +kernel
theorem dL_law_488 : decode cL_law 488 = .ok (.aload_n 0, 1) := by decide +kernel
theorem dL_law_489 : decode cL_law 489 = .ok (.iload_n 3, 1) := by decide +kernel
theorem dL_law_490 : decode cL_law 490 = .ok (.iconst 2, 1) := by decide +kernel
theorem dL_law_491 : decode cL_law 491 = .ok (.iadd, 1) := by decide +kernel
theorem dL_law_492 : decode cL_law 492 = .ok (.iaload, 1) := by decide +kernel
theorem dL_law_493 : decode cL_law 493 = .ok (.aload_n 0, 1) := by decide +kernel
theorem dL_law_494 : decode cL_law 494 = .ok (.iload_n 3, 1) := by decide +kernel
theorem dL_law_495 : decode cL_law 495 = .ok (.iconst 3, 1) := by decide +kernel
theorem dL_law_496 : decode cL_law 496 = .ok (.iadd, 1) := by decide +kernel
theorem dL_law_497 : decode cL_law 497 = .ok (.iaload, 1) := by decide +kernel
theorem dL_law_498 : decode cL_law 498 = .ok (.invokevirtual 57, 3) := by decide +kernel
theorem dL_law_501 : decode cL_law 501 = .ok (.if_icmp .eq 660, 3) := by decide +kernel
theorem dL_law_504 : decode cL_law 504 = .ok (.iconst 0, 1) := by decide +kernel
theorem dL_law_505 : decode cL_law 505 = .ok (.ireturn, 1) := by decide +kernel
theorem dL_law_506 : decode cL_law 506 = .ok (.aload_n 1, 1) := by decide +kernel
theorem dL_law_507 : decode cL_law 507 = .ok (.aload_n 0, 1) := by decide +kernel
theorem dL_law_508 : decode cL_law 508 = .ok (.iload_n 3, 1) := by decide +kernel
theorem dL_law_509 : decode cL_law 509 = .ok (.iconst 1, 1) := by decide +kernel
theorem dL_law_510 : decode cL_law 510 = .ok (.iadd, 1) := by decide +kernel
theorem dL_law_511 : decode cL_law 511 = .ok (.iaload, 1) := by decide +kernel
theorem dL_law_512 : decode cL_law 512 = .ok (.aload_n 0, 1) := by decide +kernel
theorem dL_law_513 : decode cL_law 513 = .ok (.iload_n 3, 1) := by decide +kernel
theorem dL_law_514 : decode cL_law 514 = .ok (.iconst 2, 1) := by decide +kernel
theorem dL_law_515 : decode cL_law 515 = .ok (.iadd, 1) := by decide +kernel
theorem dL_law_516 : decode cL_law 516 = .ok (.iaload, 1) := by decide +kernel
theorem dL_law_517 : decode cL_law 517 = .ok (.invokevirtual 58, 3) := by decide +kernel
theorem dL_law_520 : decode cL_law 520 = .ok (.aload_n 2, 1) := by decide +kernel
theorem dL_law_521 : decode cL_law 521 = .ok (.aload_n 0, 1) := by decide +kernel
theorem dL_law_522 : decode cL_law 522 = .ok (.iload_n 3, 1) := by decide +kernel
theorem dL_law_523 : decode cL_law 523 = .ok (.iconst 1, 1) := by decide +kernel
theorem dL_law_524 : decode cL_law 524 = .ok (.iadd, 1) := by decide +kernel
theorem dL_law_525 : decode cL_law 525 = .ok (.iaload, 1) := by decide +kernel
theorem dL_law_526 : decode cL_law 526 = .ok (.aload_n 0, 1) := by decide +kernel
theorem dL_law_527 : decode cL_law 527 = .ok (.iload_n 3, 1) := by decide +kernel
theorem dL_law_528 : decode cL_law 528 = .ok (.iconst 2, 1) := by decide +kernel
theorem dL_law_529 : decode cL_law 529 = .ok (.iadd, 1) := by decide +kernel
theorem dL_law_530 : decode cL_law 530 = .ok (.iaload, 1) := by decide +kernel
theorem dL_law_531 : decode cL_law 531 = .ok (.invokevirtual 62, 3) := by decide +kernel
theorem dL_law_534 : decode cL_law 534 = .ok (.lcmp, 1) := by decide +kernel
theorem dL_law_535 : decode cL_law 535 = .ok (.ifCond .eq 626, 3) := by decide +kernel
theorem dL_law_538 : decode cL_law 538 = .ok (.iconst 0, 1) := by decide +kernel
theorem dL_law_539 : decode cL_law 539 = .ok (.ireturn, 1) := by decide +kernel
theorem dL_law_540 : decode cL_law 540 = .ok (.aload_n 1, 1) := by decide +kernel
theorem dL_law_541 : decode cL_law 541 = .ok (.aload_n 0, 1) := by decide +kernel
theorem dL_law_542 : decode cL_law 542 = .ok (.iload_n 3, 1) := by decide +kernel
theorem dL_law_543 : decode cL_law 543 = .ok (.iconst 1, 1) := by decide +kernel
theorem dL_law_544 : decode cL_law 544 = .ok (.iadd, 1) := by decide +kernel
theorem dL_law_545 : decode cL_law 545 = .ok (.iaload, 1) := by decide +kernel
theorem dL_law_546 : decode cL_law 546 = .ok (.aload_n 0, 1) := by decide +kernel
theorem dL_law_547 : decode cL_law 547 = .ok (.iload_n 3, 1) := by decide +kernel
theorem dL_law_548 : decode cL_law 548 = .ok (.iconst 2, 1) := by decide +kernel
theorem dL_law_549 : decode cL_law 549 = .ok (.iadd, 1) := by decide +kernel
theorem dL_law_550 : decode cL_law 550 = .ok (.iaload, 1) := by decide +kernel
theorem dL_law_551 : decode cL_law 551 = .ok (.invokevirtual 63, 3) := by decide +kernel
theorem dL_law_554 : decode cL_law 554 = .ok (.aload_n 2, 1) := by decide +kernel
theorem dL_law_555 : decode cL_law 555 = .ok (.aload_n 0, 1) := by decide +kernel
theorem dL_law_556 : decode cL_law 556 = .ok (.iload_n 3, 1) := by decide +kernel
theorem dL_law_557 : decode cL_law 557 = .ok (.iconst 1, 1) := by decide +kernel
theorem dL_law_558 : decode cL_law 558 = .ok (.iadd, 1) := by decide +kernel
theorem dL_law_559 : decode cL_law 559 = .ok (.iaload, 1) := by decide +kernel
theorem dL_law_560 : decode cL_law 560 = .ok (.aload_n 0, 1) := by decide +kernel
theorem dL_law_561 : decode cL_law 561 = .ok (.iload_n 3, 1) := by decide +kernel
theorem dL_law_562 : decode cL_law 562 = .ok (.iconst 2, 1) := by decide +kernel
theorem dL_law_563 : decode cL_law 563 = .ok (.iadd, 1) := by decide +kernel
theorem dL_law_564 : decode cL_law 564 = .ok (.iaload, 1) := by decide +kernel
theorem dL_law_565 : decode cL_law 565 = .ok (.invokevirtual 66, 3) := by decide +kernel
theorem dL_law_568 : decode cL_law 568 = .ok (.if_icmp .eq 593, 3) := by decide +kernel
theorem dL_law_571 : decode cL_law 571 = .ok (.iconst 0, 1) := by decide +kernel
theorem dL_law_572 : decode cL_law 572 = .ok (.ireturn, 1) := by decide +kernel
theorem dL_law_573 : decode cL_law 573 = .ok (.aload_n 1, 1) := by decide +kernel
theorem dL_law_574 : decode cL_law 574 = .ok (.aload_n 0, 1) := by decide +kernel
theorem dL_law_575 : decode cL_law 575 = .ok (.iload_n 3, 1) := by decide +kernel
theorem dL_law_576 : decode cL_law 576 = .ok (.iconst 1, 1) := by decide +kernel
theorem dL_law_577 : decode cL_law 577 = .ok (.iadd, 1) := by decide +kernel
theorem dL_law_578 : decode cL_law 578 = .ok (.iaload, 1) := by decide +kernel
theorem dL_law_579 : decode cL_law 579 = .ok (.aload_n 0, 1) := by decide +kernel
theorem dL_law_580 : decode cL_law 580 = .ok (.iload_n 3, 1) := by decide +kernel
theorem dL_law_581 : decode cL_law 581 = .ok (.iconst 2, 1) := by decide +kernel
theorem dL_law_582 : decode cL_law 582 = .ok (.iadd, 1) := by decide +kernel
theorem dL_law_583 : decode cL_law 583 = .ok (.iaload, 1) := by decide +kernel
theorem dL_law_584 : decode cL_law 584 = .ok (.aload_n 0, 1) := by decide +kernel
theorem dL_law_585 : decode cL_law 585 = .ok (.iload_n 3, 1) := by decide +kernel
theorem dL_law_586 : decode cL_law 586 = .ok (.iconst 3, 1) := by decide +kernel
theorem dL_law_587 : decode cL_law 587 = .ok (.iadd, 1) := by decide +kernel
theorem dL_law_588 : decode cL_law 588 = .ok (.iaload, 1) := by decide +kernel
theorem dL_law_589 : decode cL_law 589 = .ok (.invokevirtual 67, 3) := by decide +kernel
theorem dL_law_592 : decode cL_law 592 = .ok (.aload_n 2, 1) := by decide +kernel
theorem dL_law_593 : decode cL_law 593 = .ok (.aload_n 0, 1) := by decide +kernel
theorem dL_law_594 : decode cL_law 594 = .ok (.iload_n 3, 1) := by decide +kernel
theorem dL_law_595 : decode cL_law 595 = .ok (.iconst 1, 1) := by decide +kernel
theorem dL_law_596 : decode cL_law 596 = .ok (.iadd, 1) := by decide +kernel
theorem dL_law_597 : decode cL_law 597 = .ok (.iaload, 1) := by decide +kernel
theorem dL_law_598 : decode cL_law 598 = .ok (.aload_n 0, 1) := by decide +kernel
theorem dL_law_599 : decode cL_law 599 = .ok (.iload_n 3, 1) := by decide +kernel
theorem dL_law_600 : decode cL_law 600 = .ok (.iconst 2, 1) := by decide +kernel
theorem dL_law_601 : decode cL_law 601 = .ok (.iadd, 1) := by decide +kernel
theorem dL_law_602 : decode cL_law 602 = .ok (.iaload, 1) := by decide +kernel
theorem dL_law_603 : decode cL_law 603 = .ok (.aload_n 0, 1) := by decide +kernel
theorem dL_law_604 : decode cL_law 604 = .ok (.iload_n 3, 1) := by decide +kernel
theorem dL_law_605 : decode cL_law 605 = .ok (.iconst 3, 1) := by decide +kernel
theorem dL_law_606 : decode cL_law 606 = .ok (.iadd, 1) := by decide +kernel
theorem dL_law_607 : decode cL_law 607 = .ok (.iaload, 1) := by decide +kernel
theorem dL_law_608 : decode cL_law 608 = .ok (.invokevirtual 70, 3) := by decide +kernel
theorem dL_law_611 : decode cL_law 611 = .ok (.if_icmp .eq 550, 3) := by decide +kernel
theorem dL_law_614 : decode cL_law 614 = .ok (.iconst 0, 1) := by decide +kernel
theorem dL_law_615 : decode cL_law 615 = .ok (.ireturn, 1) := by decide +kernel
theorem dL_law_616 : decode cL_law 616 = .ok (.aload_n 1, 1) := by decide +kernel
theorem dL_law_617 : decode cL_law 617 = .ok (.aload_n 0, 1) := by decide +kernel
theorem dL_law_618 : decode cL_law 618 = .ok (.iload_n 3, 1) := by decide +kernel
theorem dL_law_619 : decode cL_law 619 = .ok (.iconst 1, 1) := by decide +kernel
theorem dL_law_620 : decode cL_law 620 = .ok (.iadd, 1) := by decide +kernel
theorem dL_law_621 : decode cL_law 621 = .ok (.iaload, 1) := by decide +kernel
theorem dL_law_622 : decode cL_law 622 = .ok (.aload_n 0, 1) := by decide +kernel
theorem dL_law_623 : decode cL_law 623 = .ok (.iload_n 3, 1) := by decide +kernel
theorem dL_law_624 : decode cL_law 624 = .ok (.iconst 2, 1) := by decide +kernel
theorem dL_law_625 : decode cL_law 625 = .ok (.iadd, 1) := by decide +kernel
theorem dL_law_626 : decode cL_law 626 = .ok (.iaload, 1) := by decide +kernel
theorem dL_law_627 : decode cL_law 627 = .ok (.aload_n 0, 1) := by decide +kernel
theorem dL_law_628 : decode cL_law 628 = .ok (.iload_n 3, 1) := by decide +kernel
theorem dL_law_629 : decode cL_law 629 = .ok (.iconst 3, 1) := by decide +kernel
theorem dL_law_630 : decode cL_law 630 = .ok (.iadd, 1) := by decide +kernel
theorem dL_law_631 : decode cL_law 631 = .ok (.iaload, 1) := by decide +kernel
theorem dL_law_632 : decode cL_law 632 = .ok (.invokevirtual 71, 3) := by decide +kernel
theorem dL_law_635 : decode cL_law 635 = .ok (.aload_n 2, 1) := by decide +kernel
theorem dL_law_636 : decode cL_law 636 = .ok (.aload_n 0, 1) := by decide +kernel
theorem dL_law_637 : decode cL_law 637 = .ok (.iload_n 3, 1) := by decide +kernel
theorem dL_law_638 : decode cL_law 638 = .ok (.iconst 1, 1) := by decide +kernel
theorem dL_law_639 : decode cL_law 639 = .ok (.iadd, 1) := by decide +kernel
theorem dL_law_640 : decode cL_law 640 = .ok (.iaload, 1) := by decide +kernel
theorem dL_law_641 : decode cL_law 641 = .ok (.aload_n 0, 1) := by decide +kernel
theorem dL_law_642 : decode cL_law 642 = .ok (.iload_n 3, 1) := by decide +kernel
theorem dL_law_643 : decode cL_law 643 = .ok (.iconst 2, 1) := by decide +kernel
theorem dL_law_644 : decode cL_law 644 = .ok (.iadd, 1) := by decide +kernel
theorem dL_law_645 : decode cL_law 645 = .ok (.iaload, 1) := by decide +kernel
theorem dL_law_646 : decode cL_law 646 = .ok (.aload_n 0, 1) := by decide +kernel
theorem dL_law_647 : decode cL_law 647 = .ok (.iload_n 3, 1) := by decide +kernel
theorem dL_law_648 : decode cL_law 648 = .ok (.iconst 3, 1) := by decide +kernel
theorem dL_law_649 : decode cL_law 649 = .ok (.iadd, 1) := by decide +kernel
theorem dL_law_650 : decode cL_law 650 = .ok (.iaload, 1) := by decide +kernel
theorem dL_law_651 : decode cL_law 651 = .ok (.invokevirtual 75, 3) := by decide +kernel
theorem dL_law_654 : decode cL_law 654 = .ok (.lcmp, 1) := by decide +kernel
theorem dL_law_655 : decode cL_law 655 = .ok (.ifCond .eq 506, 3) := by decide +kernel
theorem dL_law_658 : decode cL_law 658 = .ok (.iconst 0, 1) := by decide +kernel
theorem dL_law_659 : decode cL_law 659 = .ok (.ireturn, 1) := by decide +kernel
theorem dL_law_660 : decode cL_law 660 = .ok (.aload_n 1, 1) := by decide +kernel
theorem dL_law_661 : decode cL_law 661 = .ok (.aload_n 0, 1) := by decide +kernel
theorem dL_law_662 : decode cL_law 662 = .ok (.iload_n 3, 1) := by decide +kernel
theorem dL_law_663 : decode cL_law 663 = .ok (.iconst 1, 1) := by decide +kernel
theorem dL_law_664 : decode cL_law 664 = .ok (.iadd, 1) := by decide +kernel
theorem dL_law_665 : decode cL_law 665 = .ok (.iaload, 1) := by decide +kernel
theorem dL_law_666 : decode cL_law 666 = .ok (.invokevirtual 76, 3) := by decide +kernel
theorem dL_law_669 : decode cL_law 669 = .ok (.aload_n 2, 1) := by decide +kernel
theorem dL_law_670 : decode cL_law 670 = .ok (.aload_n 0, 1) := by decide +kernel
theorem dL_law_671 : decode cL_law 671 = .ok (.iload_n 3, 1) := by decide +kernel
theorem dL_law_672 : decode cL_law 672 = .ok (.iconst 1, 1) := by decide +kernel
theorem dL_law_673 : decode cL_law 673 = .ok (.iadd, 1) := by decide +kernel
theorem dL_law_674 : decode cL_law 674 = .ok (.iaload, 1) := by decide +kernel
theorem dL_law_675 : decode cL_law 675 = .ok (.invokevirtual 79, 3) := by decide +kernel
theorem dL_law_678 : decode cL_law 678 = .ok (.if_icmp .eq 483, 3) := by decide +kernel
theorem dL_law_681 : decode cL_law 681 = .ok (.iconst 0, 1) := by decide +kernel
theorem dL_law_682 : decode cL_law 682 = .ok (.ireturn, 1) := by decide +kernel
theorem dL_law_683 : decode cL_law 683 = .ok (.aload_n 1, 1) := by decide +kernel
theorem dL_law_684 : decode cL_law 684 = .ok (.aload_n 0, 1) := by decide +kernel
theorem dL_law_685 : decode cL_law 685 = .ok (.iload_n 3, 1) := by decide +kernel
theorem dL_law_686 : decode cL_law 686 = .ok (.iconst 1, 1) := by decide +kernel
theorem dL_law_687 : decode cL_law 687 = .ok (.iadd, 1) := by decide +kernel
theorem dL_law_688 : decode cL_law 688 = .ok (.iaload, 1) := by decide +kernel
theorem dL_law_689 : decode cL_law 689 = .ok (.aload_n 0, 1) := by decide +kernel
theorem dL_law_690 : decode cL_law 690 = .ok (.iload_n 3, 1) := by decide +kernel
theorem dL_law_691 : decode cL_law 691 = .ok (.iconst 2, 1) := by decide +kernel
theorem dL_law_692 : decode cL_law 692 = .ok (.iadd, 1) := by decide +kernel
theorem dL_law_693 : decode cL_law 693 = .ok (.iaload, 1) := by decide +kernel
theorem dL_law_694 : decode cL_law 694 = .ok (.aload_n 0, 1) := by decide +kernel
theorem dL_law_695 : decode cL_law 695 = .ok (.iload_n 3, 1) := by decide +kernel
theorem dL_law_696 : decode cL_law 696 = .ok (.iconst 3, 1) := by decide +kernel
theorem dL_law_697 : decode cL_law 697 = .ok (.iadd, 1) := by decide +kernel
theorem dL_law_698 : decode cL_law 698 = .ok (.iaload, 1) := by decide +kernel
theorem dL_law_699 : decode cL_law 699 = .ok (.invokevirtual 80, 3) := by decide +kernel
theorem dL_law_702 : decode cL_law 702 = .ok (.aload_n 2, 1) := by decide +kernel
theorem dL_law_703 : decode cL_law 703 = .ok (.aload_n 0, 1) := by decide +kernel
theorem dL_law_704 : decode cL_law 704 = .ok (.iload_n 3, 1) := by decide +kernel
theorem dL_law_705 : decode cL_law 705 = .ok (.iconst 1, 1) := by decide +kernel
theorem dL_law_706 : decode cL_law 706 = .ok (.iadd, 1) := by decide +kernel
theorem dL_law_707 : decode cL_law 707 = .ok (.iaload, 1) := by decide +kernel
theorem dL_law_708 : decode cL_law 708 = .ok (.aload_n 0, 1) := by decide +kernel
theorem dL_law_709 : decode cL_law 709 = .ok (.iload_n 3, 1) := by decide +kernel
theorem dL_law_710 : decode cL_law 710 = .ok (.iconst 2, 1) := by decide +kernel
theorem dL_law_711 : decode cL_law 711 = .ok (.iadd, 1) := by decide +kernel
theorem dL_law_712 : decode cL_law 712 = .ok (.iaload, 1) := by decide +kernel
theorem dL_law_713 : decode cL_law 713 = .ok (.aload_n 0, 1) := by decide +kernel
theorem dL_law_714 : decode cL_law 714 = .ok (.iload_n 3, 1) := by decide +kernel
theorem dL_law_715 : decode cL_law 715 = .ok (.iconst 3, 1) := by decide +kernel
theorem dL_law_716 : decode cL_law 716 = .ok (.iadd, 1) := by decide +kernel
theorem dL_law_717 : decode cL_law 717 = .ok (.iaload, 1) := by decide +kernel
theorem dL_law_718 : decode cL_law 718 = .ok (.invokevirtual 83, 3) := by decide +kernel
theorem dL_law_721 : decode cL_law 721 = .ok (.if_icmp .eq 440, 3) := by decide +kernel
theorem dL_law_724 : decode cL_law 724 = .ok (.iconst 0, 1) := by decide +kernel
theorem dL_law_725 : decode cL_law 725 = .ok (.ireturn, 1) := by decide +kernel
theorem dL_law_726 : decode cL_law 726 = .ok (.aload_n 1, 1) := by decide +kernel
theorem dL_law_727 : decode cL_law 727 = .ok (.aload_n 0, 1) := by decide +kernel
theorem dL_law_728 : decode cL_law 728 = .ok (.iload_n 3, 1) := by decide +kernel
theorem dL_law_729 : decode cL_law 729 = .ok (.iconst 1, 1) := by decide +kernel
theorem dL_law_730 : decode cL_law 730 = .ok (.iadd, 1) := by decide +kernel
theorem dL_law_731 : decode cL_law 731 = .ok (.iaload, 1) := by decide +kernel
theorem dL_law_732 : decode cL_law 732 = .ok (.aload_n 0, 1) := by decide +kernel
theorem dL_law_733 : decode cL_law 733 = .ok (.iload_n 3, 1) := by decide +kernel
theorem dL_law_734 : decode cL_law 734 = .ok (.iconst 2, 1) := by decide +kernel
theorem dL_law_735 : decode cL_law 735 = .ok (.iadd, 1) := by decide +kernel
theorem dL_law_736 : decode cL_law 736 = .ok (.iaload, 1) := by decide +kernel
theorem dL_law_737 : decode cL_law 737 = .ok (.aload_n 0, 1) := by decide +kernel
theorem dL_law_738 : decode cL_law 738 = .ok (.iload_n 3, 1) := by decide +kernel
theorem dL_law_739 : decode cL_law 739 = .ok (.iconst 3, 1) := by decide +kernel
theorem dL_law_740 : decode cL_law 740 = .ok (.iadd, 1) := by decide +kernel
theorem dL_law_741 : decode cL_law 741 = .ok (.iaload, 1) := by decide +kernel
theorem dL_law_742 : decode cL_law 742 = .ok (.invokevirtual 84, 3) := by decide +kernel
theorem dL_law_745 : decode cL_law 745 = .ok (.aload_n 2, 1) := by decide +kernel
theorem dL_law_746 : decode cL_law 746 = .ok (.aload_n 0, 1) := by decide +kernel
theorem dL_law_747 : decode cL_law 747 = .ok (.iload_n 3, 1) := by decide +kernel
theorem dL_law_748 : decode cL_law 748 = .ok (.iconst 1, 1) := by decide +kernel
theorem dL_law_749 : decode cL_law 749 = .ok (.iadd, 1) := by decide +kernel
theorem dL_law_750 : decode cL_law 750 = .ok (.iaload, 1) := by decide +kernel
theorem dL_law_751 : decode cL_law 751 = .ok (.aload_n 0, 1) := by decide +kernel
theorem dL_law_752 : decode cL_law 752 = .ok (.iload_n 3, 1) := by decide +kernel
theorem dL_law_753 : decode cL_law 753 = .ok (.iconst 2, 1) := by decide +kernel
theorem dL_law_754 : decode cL_law 754 = .ok (.iadd, 1) := by decide +kernel
theorem dL_law_755 : decode cL_law 755 = .ok (.iaload, 1) := by decide +kernel
theorem dL_law_756 : decode cL_law 756 = .ok (.aload_n 0, 1) := by decide +kernel
theorem dL_law_757 : decode cL_law 757 = .ok (.iload_n 3, 1) := by decide +kernel
theorem dL_law_758 : decode cL_law 758 = .ok (.iconst 3, 1) := by decide +kernel
theorem dL_law_759 : decode cL_law 759 = .ok (.iadd, 1) := by decide +kernel
theorem dL_law_760 : decode cL_law 760 = .ok (.iaload, 1) := by decide +kernel
theorem dL_law_761 : decode cL_law 761 = .ok (.invokevirtual 87, 3) := by decide +kernel
theorem dL_law_764 : decode cL_law 764 = .ok (.lcmp, 1) := by decide +kernel
theorem dL_law_765 : decode cL_law 765 = .ok (.ifCond .eq 396, 3) := by decide +kernel
theorem dL_law_768 : decode cL_law 768 = .ok (.iconst 0, 1) := by decide +kernel
theorem dL_law_769 : decode cL_law 769 = .ok (.ireturn, 1) := by decide +kernel
theorem dL_law_770 : decode cL_law 770 = .ok (.aload_n 1, 1) := by decide +kernel
theorem dL_law_771 : decode cL_law 771 = .ok (.aload_n 0, 1) := by decide +kernel
theorem dL_law_772 : decode cL_law 772 = .ok (.iload_n 3, 1) := by decide +kernel
theorem dL_law_773 : decode cL_law 773 = .ok (.iconst 1, 1) := by decide +kernel
theorem dL_law_774 : decode cL_law 774 = .ok (.iadd, 1) := by decide +kernel
theorem dL_law_775 : decode cL_law 775 = .ok (.iaload, 1) := by decide +kernel
theorem dL_law_776 : decode cL_law 776 = .ok (.aload_n 0, 1) := by decide +kernel
theorem dL_law_777 : decode cL_law 777 = .ok (.iload_n 3, 1) := by decide +kernel
theorem dL_law_778 : decode cL_law 778 = .ok (.iconst 2, 1) := by decide +kernel
theorem dL_law_779 : decode cL_law 779 = .ok (.iadd, 1) := by decide +kernel
theorem dL_law_780 : decode cL_law 780 = .ok (.iaload, 1) := by decide +kernel
theorem dL_law_781 : decode cL_law 781 = .ok (.aload_n 0, 1) := by decide +kernel
theorem dL_law_782 : decode cL_law 782 = .ok (.iload_n 3, 1) := by decide +kernel
theorem dL_law_783 : decode cL_law 783 = .ok (.iconst 3, 1) := by decide +kernel
theorem dL_law_784 : decode cL_law 784 = .ok (.iadd, 1) := by decide +kernel
theorem dL_law_785 : decode cL_law 785 = .ok (.iaload, 1) := by decide +kernel
theorem dL_law_786 : decode cL_law 786 = .ok (.invokevirtual 88, 3) := by decide +kernel
theorem dL_law_789 : decode cL_law 789 = .ok (.aload_n 2, 1) := by decide +kernel
theorem dL_law_790 : decode cL_law 790 = .ok (.aload_n 0, 1) := by decide +kernel
theorem dL_law_791 : decode cL_law 791 = .ok (.iload_n 3, 1) := by decide +kernel
theorem dL_law_792 : decode cL_law 792 = .ok (.iconst 1, 1) := by decide +kernel
theorem dL_law_793 : decode cL_law 793 = .ok (.iadd, 1) := by decide +kernel
theorem dL_law_794 : decode cL_law 794 = .ok (.iaload, 1) := by decide +kernel
theorem dL_law_795 : decode cL_law 795 = .ok (.aload_n 0, 1) := by decide +kernel
theorem dL_law_796 : decode cL_law 796 = .ok (.iload_n 3, 1) := by decide +kernel
theorem dL_law_797 : decode cL_law 797 = .ok (.iconst 2, 1) := by decide +kernel
theorem dL_law_798 : decode cL_law 798 = .ok (.iadd, 1) := by decide +kernel
theorem dL_law_799 : decode cL_law 799 = .ok (.iaload, 1) := by decide +kernel
theorem dL_law_800 : decode cL_law 800 = .ok (.aload_n 0, 1) := by decide +kernel
theorem dL_law_801 : decode cL_law 801 = .ok (.iload_n 3, 1) := by decide +kernel
theorem dL_law_802 : decode cL_law 802 = .ok (.iconst 3, 1) := by decide +kernel
theorem dL_law_803 : decode cL_law 803 = .ok (.iadd, 1) := by decide +kernel
theorem dL_law_804 : decode cL_law 804 = .ok (.iaload, 1) := by decide +kernel
theorem dL_law_805 : decode cL_law 805 = .ok (.invokevirtual 91, 3) := by decide +kernel
theorem dL_law_808 : decode cL_law 808 = .ok (.if_icmp .eq 353, 3) := by decide +kernel
theorem dL_law_811 : decode cL_law 811 = .ok (.iconst 0, 1) := by decide +kernel
theorem dL_law_812 : decode cL_law 812 = .ok (.ireturn, 1) := by decide +kernel
theorem dL_law_813 : decode cL_law 813 = .ok (.aload_n 1, 1) := by decide +kernel
theorem dL_law_814 : decode cL_law 814 = .ok (.aload_n 0, 1) := by decide +kernel
theorem dL_law_815 : decode cL_law 815 = .ok (.iload_n 3, 1) := by decide +kernel
theorem dL_law_816 : decode cL_law 816 = .ok (.iconst 1, 1) := by decide +kernel
theorem dL_law_817 : decode cL_law 817 = .ok (.iadd, 1) := by decide +kernel
theorem dL_law_818 : decode cL_law 818 = .ok (.iaload, 1) := by decide +kernel
theorem dL_law_819 : decode cL_law 819 = .ok (.aload_n 0, 1) := by decide +kernel
theorem dL_law_820 : decode cL_law 820 = .ok (.iload_n 3, 1) := by decide +kernel
theorem dL_law_821 : decode cL_law 821 = .ok (.iconst 2, 1) := by decide +kernel
theorem dL_law_822 : decode cL_law 822 = .ok (.iadd, 1) := by decide +kernel
theorem dL_law_823 : decode cL_law 823 = .ok (.iaload, 1) := by decide +kernel
theorem dL_law_824 : decode cL_law 824 = .ok (.aload_n 0, 1) := by decide +kernel
theorem dL_law_825 : decode cL_law 825 = .ok (.iload_n 3, 1) := by decide +kernel
theorem dL_law_826 : decode cL_law 826 = .ok (.iconst 3, 1) := by decide +kernel
theorem dL_law_827 : decode cL_law 827 = .ok (.iadd, 1) := by decide +kernel
theorem dL_law_828 : decode cL_law 828 = .ok (.iaload, 1) := by decide +kernel
theorem dL_law_829 : decode cL_law 829 = .ok (.aload_n 0, 1) := by decide +kernel
theorem dL_law_830 : decode cL_law 830 = .ok (.iload_n 3, 1) := by decide +kernel
theorem dL_law_831 : decode cL_law 831 = .ok (.iconst 4, 1) := by decide +kernel
theorem dL_law_832 : decode cL_law 832 = .ok (.iadd, 1) := by decide +kernel
theorem dL_law_833 : decode cL_law 833 = .ok (.iaload, 1) := by decide +kernel
theorem dL_law_834 : decode cL_law 834 = .ok (.aload_n 0, 1) := by decide +kernel
theorem dL_law_835 : decode cL_law 835 = .ok (.iload_n 3, 1) := by decide +kernel
theorem dL_law_836 : decode cL_law 836 = .ok (.iconst 5, 1) := by decide +kernel
theorem dL_law_837 : decode cL_law 837 = .ok (.iadd, 1) := by decide +kernel
theorem dL_law_838 : decode cL_law 838 = .ok (.iaload, 1) := by decide +kernel
theorem dL_law_839 : decode cL_law 839 = .ok (.invokevirtual 92, 3) := by decide +kernel
theorem dL_law_842 : decode cL_law 842 = .ok (.aload_n 2, 1) := by decide +kernel
theorem dL_law_843 : decode cL_law 843 = .ok (.aload_n 0, 1) := by decide +kernel
theorem dL_law_844 : decode cL_law 844 = .ok (.iload_n 3, 1) := by decide +kernel
theorem dL_law_845 : decode cL_law 845 = .ok (.iconst 1, 1) := by decide +kernel
theorem dL_law_846 : decode cL_law 846 = .ok (.iadd, 1) := by decide +kernel
theorem dL_law_847 : decode cL_law 847 = .ok (.iaload, 1) := by decide +kernel
theorem dL_law_848 : decode cL_law 848 = .ok (.aload_n 0, 1) := by decide +kernel
theorem dL_law_849 : decode cL_law 849 = .ok (.iload_n 3, 1) := by decide +kernel
theorem dL_law_850 : decode cL_law 850 = .ok (.iconst 2, 1) := by decide +kernel
theorem dL_law_851 : decode cL_law 851 = .ok (.iadd, 1) := by decide +kernel
theorem dL_law_852 : decode cL_law 852 = .ok (.iaload, 1) := by decide +kernel
theorem dL_law_853 : decode cL_law 853 = .ok (.aload_n 0, 1) := by decide +kernel
theorem dL_law_854 : decode cL_law 854 = .ok (.iload_n 3, 1) := by decide +kernel
theorem dL_law_855 : decode cL_law 855 = .ok (.iconst 3, 1) := by decide +kernel
theorem dL_law_856 : decode cL_law 856 = .ok (.iadd, 1) := by decide +kernel
theorem dL_law_857 : decode cL_law 857 = .ok (.iaload, 1) := by decide +kernel
theorem dL_law_858 : decode cL_law 858 = .ok (.aload_n 0, 1) := by decide +kernel
theorem dL_law_859 : decode cL_law 859 = .ok (.iload_n 3, 1) := by decide +kernel
theorem dL_law_860 : decode cL_law 860 = .ok (.iconst 4, 1) := by decide +kernel
theorem dL_law_861 : decode cL_law 861 = .ok (.iadd, 1) := by decide +kernel
theorem dL_law_862 : decode cL_law 862 = .ok (.iaload, 1) := by decide +kernel
theorem dL_law_863 : decode cL_law 863 = .ok (.aload_n 0, 1) := by decide +kernel
theorem dL_law_864 : decode cL_law 864 = .ok (.iload_n 3, 1) := by decide +kernel
theorem dL_law_865 : decode cL_law 865 = .ok (.iconst 5, 1) := by decide +kernel
theorem dL_law_866 : decode cL_law 866 = .ok (.iadd, 1) := by decide +kernel
theorem dL_law_867 : decode cL_law 867 = .ok (.iaload, 1) := by decide +kernel
theorem dL_law_868 : decode cL_law 868 = .ok (.invokevirtual 96, 3) := by decide +kernel
theorem dL_law_871 : decode cL_law 871 = .ok (.lcmp, 1) := by decide +kernel
theorem dL_law_872 : decode cL_law 872 = .ok (.ifCond .eq 289, 3) := by decide +kernel
theorem dL_law_875 : decode cL_law 875 = .ok (.iconst 0, 1) := by decide +kernel
theorem dL_law_876 : decode cL_law 876 = .ok (.ireturn, 1) := by decide +kernel
theorem dL_law_877 : decode cL_law 877 = .ok (.aload_n 1, 1) := by decide +kernel
theorem dL_law_878 : decode cL_law 878 = .ok (.invokevirtual 97, 3) := by decide +kernel
theorem dL_law_881 : decode cL_law 881 = .ok (.aload_n 2, 1) := by decide +kernel
theorem dL_law_882 : decode cL_law 882 = .ok (.invokevirtual 100, 3) := by decide +kernel
theorem dL_law_885 : decode cL_law 885 = .ok (.if_icmp .eq 276, 3) := by decide +kernel
theorem dL_law_888 : decode cL_law 888 = .ok (.iconst 0, 1) := by decide +kernel
theorem dL_law_889 : decode cL_law 889 = .ok (.ireturn, 1) := by decide +kernel
theorem dL_law_890 : decode cL_law 890 = .ok (.aload_n 1, 1) := by decide +kernel
theorem dL_law_891 : decode cL_law 891 = .ok (.invokevirtual 101, 3) := by decide +kernel
theorem dL_law_894 : decode cL_law 894 = .ok (.aload_n 2, 1) := by decide +kernel
theorem dL_law_895 : decode cL_law 895 = .ok (.invokevirtual 104, 3) := by decide +kernel
theorem dL_law_898 : decode cL_law 898 = .ok (.if_icmp .eq 263, 3) := by decide +kernel
theorem dL_law_901 : decode cL_law 901 = .ok (.iconst 0, 1) := by decide +kernel
theorem dL_law_902 : decode cL_law 902 = .ok (.ireturn, 1) := by decide +kernel
theorem dL_law_903 : decode cL_law 903 = .ok (.aload_n 1, 1) := by decide +kernel
theorem dL_law_904 : decode cL_law 904 = .ok (.aload_n 0, 1) := by decide +kernel
theorem dL_law_905 : decode cL_law 905 = .ok (.iload_n 3, 1) := by decide +kernel
theorem dL_law_906 : decode cL_law 906 = .ok (.iconst 1, 1) := by decide +kernel
theorem dL_law_907 : decode cL_law 907 = .ok (.iadd, 1) := by decide +kernel
theorem dL_law_908 : decode cL_law 908 = .ok (.iaload, 1) := by decide +kernel
theorem dL_law_909 : decode cL_law 909 = .ok (.invokevirtual 105, 3) := by decide +kernel
theorem dL_law_912 : decode cL_law 912 = .ok (.aload_n 2, 1) := by decide +kernel
theorem dL_law_913 : decode cL_law 913 = .ok (.aload_n 0, 1) := by decide +kernel
theorem dL_law_914 : decode cL_law 914 = .ok (.iload_n 3, 1) := by decide +kernel
theorem dL_law_915 : decode cL_law 915 = .ok (.iconst 1, 1) := by decide +kernel
theorem dL_law_916 : decode cL_law 916 = .ok (.iadd, 1) := by decide +kernel
theorem dL_law_917 : decode cL_law 917 = .ok (.iaload, 1) := by decide +kernel
theorem dL_law_918 : decode cL_law 918 = .ok (.invokevirtual 108, 3) := by decide +kernel
theorem dL_law_921 : decode cL_law 921 = .ok (.if_icmp .eq 240, 3) := by decide +kernel
theorem dL_law_924 : decode cL_law 924 = .ok (.iconst 0, 1) := by decide +kernel
theorem dL_law_925 : decode cL_law 925 = .ok (.ireturn, 1) := by decide +kernel
theorem dL_law_926 : decode cL_law 926 = .ok (.aload_n 1, 1) := by decide +kernel
theorem dL_law_927 : decode cL_law 927 = .ok (.aload_n 0, 1) := by decide +kernel
theorem dL_law_928 : decode cL_law 928 = .ok (.iload_n 3, 1) := by decide +kernel
theorem dL_law_929 : decode cL_law 929 = .ok (.iconst 1, 1) := by decide +kernel
theorem dL_law_930 : decode cL_law 930 = .ok (.iadd, 1) := by decide +kernel
theorem dL_law_931 : decode cL_law 931 = .ok (.iaload, 1) := by decide +kernel
theorem dL_law_932 : decode cL_law 932 = .ok (.aload_n 0, 1) := by decide +kernel
theorem dL_law_933 : decode cL_law 933 = .ok (.iload_n 3, 1) := by decide +kernel
theorem dL_law_934 : decode cL_law 934 = .ok (.iconst 2, 1) := by decide +kernel
theorem dL_law_935 : decode cL_law 935 = .ok (.iadd, 1) := by decide +kernel
theorem dL_law_936 : decode cL_law 936 = .ok (.iaload, 1) := by decide +kernel
theorem dL_law_937 : decode cL_law 937 = .ok (.aload_n 0, 1) := by decide +kernel
theorem dL_law_938 : decode cL_law 938 = .ok (.iload_n 3, 1) := by decide +kernel
theorem dL_law_939 : decode cL_law 939 = .ok (.iconst 3, 1) := by decide +kernel
theorem dL_law_940 : decode cL_law 940 = .ok (.iadd, 1) := by decide +kernel
theorem dL_law_941 : decode cL_law 941 = .ok (.iaload, 1) := by decide +kernel
theorem dL_law_942 : decode cL_law 942 = .ok (.invokevirtual 109, 3) := by decide +kernel
theorem dL_law_945 : decode cL_law 945 = .ok (.aload_n 2, 1) := by decide +kernel
theorem dL_law_946 : decode cL_law 946 = .ok (.aload_n 0, 1) := by decide +kernel
theorem dL_law_947 : decode cL_law 947 = .ok (.iload_n 3, 1) := by decide +kernel
theorem dL_law_948 : decode cL_law 948 = .ok (.iconst 1, 1) := by decide +kernel
theorem dL_law_949 : decode cL_law 949 = .ok (.iadd, 1) := by decide +kernel
theorem dL_law_950 : decode cL_law 950 = .ok (.iaload, 1) := by decide +kernel
theorem dL_law_951 : decode cL_law 951 = .ok (.aload_n 0, 1) := by decide +kernel
theorem dL_law_952 : decode cL_law 952 = .ok (.iload_n 3, 1) := by decide +kernel
theorem dL_law_953 : decode cL_law 953 = .ok (.iconst 2, 1) := by decide +kernel
theorem dL_law_954 : decode cL_law 954 = .ok (.iadd, 1) := by decide +kernel
theorem dL_law_955 : decode cL_law 955 = .ok (.iaload, 1) := by decide +kernel
theorem dL_law_956 : decode cL_law 956 = .ok (.aload_n 0, 1) := by decide +kernel
theorem dL_law_957 : decode cL_law 957 = .ok (.iload_n 3, 1) := by decide +kernel
theorem dL_law_958 : decode cL_law 958 = .ok (.iconst 3, 1) := by decide +kernel
theorem dL_law_959 : decode cL_law 959 = .ok (.iadd, 1) := by decide +kernel
theorem dL_law_960 : decode cL_law 960 = .ok (.iaload, 1) := by decide +kernel
theorem dL_law_961 : decode cL_law 961 = .ok (.invokevirtual 112, 3) := by decide +kernel
theorem dL_law_964 : decode cL_law 964 = .ok (.if_icmp .eq 197, 3) := by decide +kernel
theorem dL_law_967 : decode cL_law 967 = .ok (.iconst 0, 1) := by decide +kernel
theorem dL_law_968 : decode cL_law 968 = .ok (.ireturn, 1) := by decide +kernel
theorem dL_law_969 : decode cL_law 969 = .ok (.aload_n 1, 1) := by decide +kernel
theorem dL_law_970 : decode cL_law 970 = .ok (.aload_n 0, 1) := by decide +kernel
theorem dL_law_971 : decode cL_law 971 = .ok (.iload_n 3, 1) := by decide +kernel
theorem dL_law_972 : decode cL_law 972 = .ok (.iconst 1, 1) := by decide +kernel
theorem dL_law_973 : decode cL_law 973 = .ok (.iadd, 1) := by decide +kernel
theorem dL_law_974 : decode cL_law 974 = .ok (.iaload, 1) := by decide +kernel
theorem dL_law_975 : decode cL_law 975 = .ok (.aload_n 0, 1) := by decide +kernel
theorem dL_law_976 : decode cL_law 976 = .ok (.iload_n 3, 1) := by decide +kernel
theorem dL_law_977 : decode cL_law 977 = .ok (.iconst 2, 1) := by decide +kernel
theorem dL_law_978 : decode cL_law 978 = .ok (.iadd, 1) := by decide +kernel
theorem dL_law_979 : decode cL_law 979 = .ok (.iaload, 1) := by decide +kernel
theorem dL_law_980 : decode cL_law 980 = .ok (.aload_n 0, 1) := by decide +kernel
theorem dL_law_981 : decode cL_law 981 = .ok (.iload_n 3, 1) := by decide +kernel
theorem dL_law_982 : decode cL_law 982 = .ok (.iconst 3, 1) := by decide +kernel
theorem dL_law_983 : decode cL_law 983 = .ok (.iadd, 1) := by decide +kernel
theorem dL_law_984 : decode cL_law 984 = .ok (.iaload, 1) := by decide +kernel
theorem dL_law_985 : decode cL_law 985 = .ok (.invokevirtual 113, 3) := by decide +kernel
theorem dL_law_988 : decode cL_law 988 = .ok (.aload_n 2, 1) := by decide +kernel
theorem dL_law_989 : decode cL_law 989 = .ok (.aload_n 0, 1) := by decide +kernel
theorem dL_law_990 : decode cL_law 990 = .ok (.iload_n 3, 1) := by decide +kernel
theorem dL_law_991 : decode cL_law 991 = .ok (.iconst 1, 1) := by decide +kernel
theorem dL_law_992 : decode cL_law 992 = .ok (.iadd, 1) := by decide +kernel
theorem dL_law_993 : decode cL_law 993 = .ok (.iaload, 1) := by decide +kernel
theorem dL_law_994 : decode cL_law 994 = .ok (.aload_n 0, 1) := by decide +kernel
theorem dL_law_995 : decode cL_law 995 = .ok (.iload_n 3, 1) := by decide +kernel
theorem dL_law_996 : decode cL_law 996 = .ok (.iconst 2, 1) := by decide +kernel
theorem dL_law_997 : decode cL_law 997 = .ok (.iadd, 1) := by decide +kernel
theorem dL_law_998 : decode cL_law 998 = .ok (.iaload, 1) := by decide +kernel
theorem dL_law_999 : decode cL_law 999 = .ok (.aload_n 0, 1) := by decide +kernel
theorem dL_law_1000 : decode cL_law 1000 = .ok (.iload_n 3, 1) := by decide +kernel
theorem dL_law_1001 : decode cL_law 1001 = .ok (.iconst 3, 1) := by decide +kernel
theorem dL_law_1002 : decode cL_law 1002 = .ok (.iadd, 1) := by decide +kernel
theorem dL_law_1003 : decode cL_law 1003 = .ok (.iaload, 1) := by decide +kernel
theorem dL_law_1004 : decode cL_law 1004 = .ok (.invokevirtual 116, 3) := by decide +kernel
theorem dL_law_1007 : decode cL_law 1007 = .ok (.if_icmp .eq 154, 3) := by decide +kernel
theorem dL_law_1010 : decode cL_law 1010 = .ok (.iconst 0, 1) := by decide +kernel
theorem dL_law_1011 : decode cL_law 1011 = .ok (.ireturn, 1) := by decide +kernel
theorem dL_law_1012 : decode cL_law 1012 = .ok (.aload_n 1, 1) := by decide +kernel
theorem dL_law_1013 : decode cL_law 1013 = .ok (.aload_n 0, 1) := by decide +kernel
theorem dL_law_1014 : decode cL_law 1014 = .ok (.iload_n 3, 1) := by decide +kernel
theorem dL_law_1015 : decode cL_law 1015 = .ok (.iconst 1, 1) := by decide +kernel
theorem dL_law_1016 : decode cL_law 1016 = .ok (.iadd, 1) := by decide +kernel
theorem dL_law_1017 : decode cL_law 1017 = .ok (.iaload, 1) := by decide +kernel
theorem dL_law_1018 : decode cL_law 1018 = .ok (.aload_n 0, 1) := by decide +kernel
theorem dL_law_1019 : decode cL_law 1019 = .ok (.iload_n 3, 1) := by decide +kernel
theorem dL_law_1020 : decode cL_law 1020 = .ok (.iconst 2, 1) := by decide +kernel
theorem dL_law_1021 : decode cL_law 1021 = .ok (.iadd, 1) := by decide +kernel
theorem dL_law_1022 : decode cL_law 1022 = .ok (.iaload, 1) := by decide +kernel
theorem dL_law_1023 : decode cL_law 1023 = .ok (.aload_n 0, 1) := by decide +kernel
theorem dL_law_1024 : decode cL_law 1024 = .ok (.iload_n 3, 1) := by decide +kernel
theorem dL_law_1025 : decode cL_law 1025 = .ok (.iconst 3, 1) := by decide +kernel
theorem dL_law_1026 : decode cL_law 1026 = .ok (.iadd, 1) := by decide +kernel
theorem dL_law_1027 : decode cL_law 1027 = .ok (.iaload, 1) := by decide +kernel
theorem dL_law_1028 : decode cL_law 1028 = .ok (.aload_n 0, 1) := by decide +kernel
theorem dL_law_1029 : decode cL_law 1029 = .ok (.iload_n 3, 1) := by decide +kernel
theorem dL_law_1030 : decode cL_law 1030 = .ok (.iconst 4, 1) := by decide +kernel
theorem dL_law_1031 : decode cL_law 1031 = .ok (.iadd, 1) := by decide +kernel
theorem dL_law_1032 : decode cL_law 1032 = .ok (.iaload, 1) := by decide +kernel
theorem dL_law_1033 : decode cL_law 1033 = .ok (.aload_n 0, 1) := by decide +kernel
theorem dL_law_1034 : decode cL_law 1034 = .ok (.iload_n 3, 1) := by decide +kernel
theorem dL_law_1035 : decode cL_law 1035 = .ok (.iconst 5, 1) := by decide +kernel
theorem dL_law_1036 : decode cL_law 1036 = .ok (.iadd, 1) := by decide +kernel
theorem dL_law_1037 : decode cL_law 1037 = .ok (.iaload, 1) := by decide +kernel
theorem dL_law_1038 : decode cL_law 1038 = .ok (.invokevirtual 117, 3) := by decide +kernel
theorem dL_law_1041 : decode cL_law 1041 = .ok (.aload_n 2, 1) := by decide +kernel
theorem dL_law_1042 : decode cL_law 1042 = .ok (.aload_n 0, 1) := by decide +kernel
theorem dL_law_1043 : decode cL_law 1043 = .ok (.iload_n 3, 1) := by decide +kernel
theorem dL_law_1044 : decode cL_law 1044 = .ok (.iconst 1, 1) := by decide +kernel
theorem dL_law_1045 : decode cL_law 1045 = .ok (.iadd, 1) := by decide +kernel
theorem dL_law_1046 : decode cL_law 1046 = .ok (.iaload, 1) := by decide +kernel
theorem dL_law_1047 : decode cL_law 1047 = .ok (.aload_n 0, 1) := by decide +kernel
theorem dL_law_1048 : decode cL_law 1048 = .ok (.iload_n 3, 1) := by decide +kernel
theorem dL_law_1049 : decode cL_law 1049 = .ok (.iconst 2, 1) := by decide +kernel
theorem dL_law_1050 : decode cL_law 1050 = .ok (.iadd, 1) := by decide +kernel
theorem dL_law_1051 : decode cL_law 1051 = .ok (.iaload, 1) := by decide +kernel
theorem dL_law_1052 : decode cL_law 1052 = .ok (.aload_n 0, 1) := by decide +kernel
theorem dL_law_1053 : decode cL_law 1053 = .ok (.iload_n 3, 1) := by decide +kernel
theorem dL_law_1054 : decode cL_law 1054 = .ok (.iconst 3, 1) := by decide +kernel
theorem dL_law_1055 : decode cL_law 1055 = .ok (.iadd, 1) := by decide +kernel
theorem dL_law_1056 : decode cL_law 1056 = .ok (.iaload, 1) := by decide +kernel
theorem dL_law_1057 : decode cL_law 1057 = .ok (.aload_n 0, 1) := by decide +kernel
theorem dL_law_1058 : decode cL_law 1058 = .ok (.iload_n 3, 1) := by decide +kernel
theorem dL_law_1059 : decode cL_law 1059 = .ok (.iconst 4, 1) := by decide +kernel
theorem dL_law_1060 : decode cL_law 1060 = .ok (.iadd, 1) := by decide +kernel
theorem dL_law_1061 : decode cL_law 1061 = .ok (.iaload, 1) := by decide +kernel
theorem dL_law_1062 : decode cL_law 1062 = .ok (.aload_n 0, 1) := by decide +kernel
theorem dL_law_1063 : decode cL_law 1063 = .ok (.iload_n 3, 1) := by decide +kernel
theorem dL_law_1064 : decode cL_law 1064 = .ok (.iconst 5, 1) := by decide +kernel
theorem dL_law_1065 : decode cL_law 1065 = .ok (.iadd, 1) := by decide +kernel
theorem dL_law_1066 : decode cL_law 1066 = .ok (.iaload, 1) := by decide +kernel
theorem dL_law_1067 : decode cL_law 1067 = .ok (.invokevirtual 121, 3) := by decide +kernel
theorem dL_law_1070 : decode cL_law 1070 = .ok (.if_icmp .eq 91, 3) := by decide +kernel
theorem dL_law_1073 : decode cL_law 1073 = .ok (.iconst 0, 1) := by decide +kernel
theorem dL_law_1074 : decode cL_law 1074 = .ok (.ireturn, 1) := by decide +kernel
theorem dL_law_1075 : decode cL_law 1075 = .ok (.aload_n 1, 1) := by decide +kernel
theorem dL_law_1076 : decode cL_law 1076 = .ok (.aload_n 0, 1) := by decide +kernel
theorem dL_law_1077 : decode cL_law 1077 = .ok (.iload_n 3, 1) := by decide +kernel
theorem dL_law_1078 : decode cL_law 1078 = .ok (.iconst 1, 1) := by decide +kernel
theorem dL_law_1079 : decode cL_law 1079 = .ok (.iadd, 1) := by decide +kernel
theorem dL_law_1080 : decode cL_law 1080 = .ok (.iaload, 1) := by decide +kernel
theorem dL_law_1081 : decode cL_law 1081 = .ok (.aload_n 0, 1) := by decide +kernel
theorem dL_law_1082 : decode cL_law 1082 = .ok (.iload_n 3, 1) := by decide +kernel
theorem dL_law_1083 : decode cL_law 1083 = .ok (.iconst 2, 1) := by decide +kernel
theorem dL_law_1084 : decode cL_law 1084 = .ok (.iadd, 1) := by decide +kernel
theorem dL_law_1085 : decode cL_law 1085 = .ok (.iaload, 1) := by decide +kernel
theorem dL_law_1086 : decode cL_law 1086 = .ok (.aload_n 0, 1) := by decide +kernel
theorem dL_law_1087 : decode cL_law 1087 = .ok (.iload_n 3, 1) := by decide +kernel
theorem dL_law_1088 : decode cL_law 1088 = .ok (.iconst 3, 1) := by decide +kernel
theorem dL_law_1089 : decode cL_law 1089 = .ok (.iadd, 1) := by decide +kernel
theorem dL_law_1090 : decode cL_law 1090 = .ok (.iaload, 1) := by decide +kernel
theorem dL_law_1091 : decode cL_law 1091 = .ok (.aload_n 0, 1) := by decide +kernel
theorem dL_law_1092 : decode cL_law 1092 = .ok (.iload_n 3, 1) := by decide +kernel
theorem dL_law_1093 : decode cL_law 1093 = .ok (.iconst 4, 1) := by decide +kernel
theorem dL_law_1094 : decode cL_law 1094 = .ok (.iadd, 1) := by decide +kernel
theorem dL_law_1095 : decode cL_law 1095 = .ok (.iaload, 1) := by decide +kernel
theorem dL_law_1096 : decode cL_law 1096 = .ok (.invokevirtual 122, 3) := by decide +kernel
theorem dL_law_1099 : decode cL_law 1099 = .ok (.aload_n 2, 1) := by decide +kernel
theorem dL_law_1100 : decode cL_law 1100 = .ok (.aload_n 0, 1) := by decide +kernel
theorem dL_law_1101 : decode cL_law 1101 = .ok (.iload_n 3, 1) := by decide +kernel
theorem dL_law_1102 : decode cL_law 1102 = .ok (.iconst 1, 1) := by decide +kernel
theorem dL_law_1103 : decode cL_law 1103 = .ok (.iadd, 1) := by decide +kernel
theorem dL_law_1104 : decode cL_law 1104 = .ok (.iaload, 1) := by decide +kernel
theorem dL_law_1105 : decode cL_law 1105 = .ok (.aload_n 0, 1) := by decide +kernel
theorem dL_law_1106 : decode cL_law 1106 = .ok (.iload_n 3, 1) := by decide +kernel
theorem dL_law_1107 : decode cL_law 1107 = .ok (.iconst 2, 1) := by decide +kernel
theorem dL_law_1108 : decode cL_law 1108 = .ok (.iadd, 1) := by decide +kernel
theorem dL_law_1109 : decode cL_law 1109 = .ok (.iaload, 1) := by decide +kernel
theorem dL_law_1110 : decode cL_law 1110 = .ok (.aload_n 0, 1) := by decide +kernel
theorem dL_law_1111 : decode cL_law 1111 = .ok (.iload_n 3, 1) := by decide +kernel
theorem dL_law_1112 : decode cL_law 1112 = .ok (.iconst 3, 1) := by decide +kernel
theorem dL_law_1113 : decode cL_law 1113 = .ok (.iadd, 1) := by decide +kernel
theorem dL_law_1114 : decode cL_law 1114 = .ok (.iaload, 1) := by decide +kernel
theorem dL_law_1115 : decode cL_law 1115 = .ok (.aload_n 0, 1) := by decide +kernel
theorem dL_law_1116 : decode cL_law 1116 = .ok (.iload_n 3, 1) := by decide +kernel
theorem dL_law_1117 : decode cL_law 1117 = .ok (.iconst 4, 1) := by decide +kernel
theorem dL_law_1118 : decode cL_law 1118 = .ok (.iadd, 1) := by decide +kernel
theorem dL_law_1119 : decode cL_law 1119 = .ok (.iaload, 1) := by decide +kernel
theorem dL_law_1120 : decode cL_law 1120 = .ok (.invokevirtual 125, 3) := by decide +kernel
theorem dL_law_1123 : decode cL_law 1123 = .ok (.if_icmp .eq 38, 3) := by decide +kernel
theorem dL_law_1126 : decode cL_law 1126 = .ok (.iconst 0, 1) := by decide +kernel
theorem dL_law_1127 : decode cL_law 1127 = .ok (.ireturn, 1) := by decide +kernel
theorem dL_law_1128 : decode cL_law 1128 = .ok (.aload_n 1, 1) := by decide +kernel
theorem dL_law_1129 : decode cL_law 1129 = .ok (.aload_n 0, 1) := by decide +kernel
theorem dL_law_1130 : decode cL_law 1130 = .ok (.iload_n 3, 1) := by decide +kernel
theorem dL_law_1131 : decode cL_law 1131 = .ok (.iconst 1, 1) := by decide +kernel
theorem dL_law_1132 : decode cL_law 1132 = .ok (.iadd, 1) := by decide +kernel
theorem dL_law_1133 : decode cL_law 1133 = .ok (.iaload, 1) := by decide +kernel
theorem dL_law_1134 : decode cL_law 1134 = .ok (.aload_n 0, 1) := by decide +kernel
theorem dL_law_1135 : decode cL_law 1135 = .ok (.iload_n 3, 1) := by decide +kernel
theorem dL_law_1136 : decode cL_law 1136 = .ok (.iconst 2, 1) := by decide +kernel
theorem dL_law_1137 : decode cL_law 1137 = .ok (.iadd, 1) := by decide +kernel
theorem dL_law_1138 : decode cL_law 1138 = .ok (.iaload, 1) := by decide +kernel
theorem dL_law_1139 : decode cL_law 1139 = .ok (.invokevirtual 126, 3) := by decide +kernel
theorem dL_law_1142 : decode cL_law 1142 = .ok (.aload_n 2, 1) := by decide +kernel
theorem dL_law_1143 : decode cL_law 1143 = .ok (.aload_n 0, 1) := by decide +kernel
theorem dL_law_1144 : decode cL_law 1144 = .ok (.iload_n 3, 1) := by decide +kernel
theorem dL_law_1145 : decode cL_law 1145 = .ok (.iconst 1, 1) := by decide +kernel
theorem dL_law_1146 : decode cL_law 1146 = .ok (.iadd, 1) := by decide +kernel
theorem dL_law_1147 : decode cL_law 1147 = .ok (.iaload, 1) := by decide +kernel
theorem dL_law_1148 : decode cL_law 1148 = .ok (.aload_n 0, 1) := by decide +kernel
theorem dL_law_1149 : decode cL_law 1149 = .ok (.iload_n 3, 1) := by decide +kernel
theorem dL_law_1150 : decode cL_law 1150 = .ok (.iconst 2, 1) := by decide +kernel
theorem dL_law_1151 : decode cL_law 1151 = .ok (.iadd, 1) := by decide +kernel
theorem dL_law_1152 : decode cL_law 1152 = .ok (.iaload, 1) := by decide +kernel
theorem dL_law_1153 : decode cL_law 1153 = .ok (.invokevirtual 129, 3) := by decide +kernel
theorem dL_law_1156 : decode cL_law 1156 = .ok (.if_icmp .eq 5, 3) := by decide +kernel
theorem dL_law_1159 : decode cL_law 1159 = .ok (.iconst 0, 1) := by decide +kernel
theorem dL_law_1160 : decode cL_law 1160 = .ok (.ireturn, 1) := by decide +kernel
theorem dL_law_1161 : decode cL_law 1161 = .ok (.iinc 3 6, 3) := by decide +kernel
theorem dL_law_1164 : decode cL_law 1164 = .ok (.goto (-1146), 3) := by decide +kernel
theorem dL_law_1167 : decode cL_law 1167 = .ok (.iconst 1, 1) := by decide +kernel
theorem dL_law_1168 : decode cL_law 1168 = .ok (.ireturn, 1) := by decide +kernel
