theorem dX9_not5_33 : decode cX9_not5 33 = .ok (.invokevirtual 215, 3) := by decide +kernel
theorem dX9_not5_36 : decode cX9_not5 36 = .ok (.ifCond .ne 14, 3) := by decide +kernel
theorem dX9_not5_39 : decode cX9_not5 39 = .ok (.aload_n 0, 1) := by decide +kernel
theorem dX9_not5_40 : decode cX9_not5 40 = .ok (.bipush 61, 2) := by decide +kernel
theorem dX9_not5_42 : decode cX9_not5 42 = .ok (.invokevirtual 215, 3) := by decide +kernel
theorem dX9_not5_45 : decode cX9_not5 45 = .ok (.ifCond .ne 5, 3) := by decide +kernel
theorem dX9_not5_48 : decode cX9_not5 48 = .ok (.iload_n 1, 1) := by decide +kernel
theorem dX9_not5_49 : decode cX9_not5 49 = .ok (.ireturn, 1) := by decide +kernel
theorem dX9_not5_50 : decode cX9_not5 50 = .ok (.aload_n 0, 1) := by decide +kernel
theorem dX9_not5_51 : decode cX9_not5 51 = .ok (.getfield 170, 3) := by decide +kernel
theorem dX9_not5_54 : decode cX9_not5 54 = .ok (.ldc2_w 237, 3) := by decide +kernel
theorem dX9_not5_57 : decode cX9_not5 57 = .ok (.lcmp, 1) := by decide +kernel
theorem dX9_not5_58 : decode cX9_not5 58 = .ok (.ifCond .ne 7, 3) := by decide +kernel
theorem dX9_not5_61 : decode cX9_not5 61 = .ok (.iconst 1, 1) := by decide +kernel
theorem dX9_not5_62 : decode cX9_not5 62 = .ok (.goto 4, 3) := by decide +kernel
theorem dX9_not5_65 : decode cX9_not5 65 = .ok (.iconst 0, 1) := by decide +kernel
theorem dX9_not5_66 : decode cX9_not5 66 = .ok (.istore_n 2, 1) := by decide +kernel
theorem dX9_not5_67 : decode cX9_not5 67 = .ok (.aload_n 0, 1) := by decide +kernel
theorem dX9_not5_68 : decode cX9_not5 68 = .ok (.invokevirtual 190, 3) := by decide +kernel
theorem dX9_not5_71 : decode cX9_not5 71 = .ok (.aload_n 0, 1) := by decide +kernel
theorem dX9_not5_72 : decode cX9_not5 72 = .ok (.invokevirtual 234, 3) := by decide +kernel
theorem dX9_not5_75 : decode cX9_not5 75 = .ok (.istore_n 3, 1) := by decide +kernel
theorem dX9_not5_76 : decode cX9_not5 76 = .ok (.iload_n 2, 1) := by decide +kernel
theorem dX9_not5_77 : decode cX9_not5 77 = .ok (.ifCond .eq 11, 3) := by decide +kernel
theorem dX9_not5_80 : decode cX9_not5 80 = .ok (.iload_n 1, 1) := by decide +kernel
theorem dX9_not5_81 : decode cX9_not5 81 = .ok (.iload_n 3, 1) := by decide +kernel
theorem dX9_not5_82 : decode cX9_not5 82 = .ok (.if_icmp .ge 15, 3) := by decide +kernel
theorem dX9_not5_85 : decode cX9_not5 85 = .ok (.goto 8, 3) := by decide +kernel
theorem dX9_not5_88 : decode cX9_not5 88 = .ok (.iload_n 1, 1) := by decide +kernel
theorem dX9_not5_89 : decode cX9_not5 89 = .ok (.iload_n 3, 1) := by decide +kernel
theorem dX9_not5_90 : decode cX9_not5 90 = .ok (.if_icmp .ne 7, 3) := by decide +kernel
theorem dX9_not5_93 : decode cX9_not5 93 = .ok (.iconst 1, 1) := by decide +kernel
theorem dX9_not5_94 : decode cX9_not5 94 = .ok (.goto 4, 3) := by decide +kernel
theorem dX9_not5_97 : decode cX9_not5 97 = .ok (.iconst 0, 1) := by decide +kernel
theorem dX9_not5_98 : decode cX9_not5 98 = .ok (.ireturn, 1) := by decide +kernel
theorem dX9_both5_0 : decode cX9_both5 0 = .ok (.aload_n 0, 1) := by decide +kernel
theorem dX9_both5_1 : decode cX9_both5 1 = .ok (.invokevirtual 239, 3) := by decide +kernel
theorem dX9_both5_4 : decode cX9_both5 4 = .ok (.istore_n 1, 1) := by decide +kernel
theorem dX9_both5_5 : decode cX9_both5 5 = .ok (.aload_n 0, 1) := by decide +kernel
theorem dX9_both5_6 : decode cX9_both5 6 = .ok (.bipush 97, 2) := by decide +kernel
theorem dX9_both5_8 : decode cX9_both5 8 = .ok (.bipush 110, 2) := by decide +kernel
theorem dX9_both5_10 : decode cX9_both5 10 = .ok (.bipush 100, 2) := by decide +kernel
theorem dX9_both5_12 : decode cX9_both5 12 = .ok (.iconst 0, 1) := by decide +kernel
theorem dX9_both5_13 : decode cX9_both5 13 = .ok (.iconst 0, 1) := by decide +kernel
theorem dX9_both5_14 : decode cX9_both5 14 = .ok (.iconst 0, 1) := by decide +kernel
theorem dX9_both5_15 : decode cX9_both5 15 = .ok (.iconst 0, 1) := by decide +kernel
theorem dX9_both5_16 : decode cX9_both5 16 = .ok (.iconst 0, 1) := by decide +kernel
theorem dX9_both5_17 : decode cX9_both5 17 = .ok (.invokevirtual 193, 3) := by decide +kernel
theorem dX9_both5_20 : decode cX9_both5 20 = .ok (.ifCond .eq 29, 3) := by decide +kernel
theorem dX9_both5_23 : decode cX9_both5 23 = .ok (.aload_n 0, 1) := by decide +kernel
theorem dX9_both5_24 : decode cX9_both5 24 = .ok (.invokevirtual 190, 3) := by decide +kernel
theorem dX9_both5_27 : decode cX9_both5 27 = .ok (.aload_n 0, 1) := by decide +kernel
theorem dX9_both5_28 : decode cX9_both5 28 = .ok (.invokevirtual 239, 3) := by decide +kernel
theorem dX9_both5_31 : decode cX9_both5 31 = .ok (.istore_n 2, 1) := by decide +kernel
theorem dX9_both5_32 : decode cX9_both5 32 = .ok (.iload_n 1, 1) := by decide +kernel
theorem dX9_both5_33 : decode cX9_both5 33 = .ok (.ifCond .eq 11, 3) := by decide +kernel
theorem dX9_both5_36 : decode cX9_both5 36 = .ok (.iload_n 2, 1) := by decide +kernel
theorem dX9_both5_37 : decode cX9_both5 37 = .ok (.ifCond .eq 7, 3) := by decide +kernel
theorem dX9_both5_40 : decode cX9_both5 40 = .ok (.iconst 1, 1) := by decide +kernel
theorem dX9_both5_41 : decode cX9_both5 41 = .ok (.goto 4, 3) := by decide +kernel
theorem dX9_both5_44 : decode cX9_both5 44 = .ok (.iconst 0, 1) := by decide +kernel
theorem dX9_both5_45 : decode cX9_both5 45 = .ok (.istore_n 1, 1) := by decide +kernel
theorem dX9_both5_46 : decode cX9_both5 46 = .ok (.goto (-41), 3) := by decide +kernel
theorem dX9_both5_49 : decode cX9_both5 49 = .ok (.iload_n 1, 1) := by decide +kernel
theorem dX9_both5_50 : decode cX9_both5 50 = .ok (.ireturn, 1) := by decide +kernel
theorem dX9_either5_0 : decode cX9_either5 0 = .ok (.aload_n 0, 1) := by decide +kernel
theorem dX9_either5_1 : decode cX9_either5 1 = .ok (.invokevirtual 242, 3) := by decide +kernel
theorem dX9_either5_4 : decode cX9_either5 4 = .ok (.istore_n 1, 1) := by decide +kernel
theorem dX9_either5_5 : decode cX9_either5 5 = .ok (.aload_n 0, 1) := by decide +kernel
theorem dX9_either5_6 : decode cX9_either5 6 = .ok (.bipush 111, 2) := by decide +kernel
theorem dX9_either5_8 : decode cX9_either5 8 = .ok (.bipush 114, 2) := by decide +kernel
theorem dX9_either5_10 : decode cX9_either5 10 = .ok (.iconst 0, 1) := by decide +kernel
theorem dX9_either5_11 : decode cX9_either5 11 = .ok (.iconst 0, 1) := by decide +kernel
theorem dX9_either5_12 : decode cX9_either5 12 = .ok (.iconst 0, 1) := by decide +kernel
theorem dX9_either5_13 : decode cX9_either5 13 = .ok (.iconst 0, 1) := by decide +kernel
theorem dX9_either5_14 : decode cX9_either5 14 = .ok (.iconst 0, 1) := by decide +kernel
theorem dX9_either5_15 : decode cX9_either5 15 = .ok (.iconst 0, 1) := by decide +kernel
theorem dX9_either5_16 : decode cX9_either5 16 = .ok (.invokevirtual 193, 3) := by decide +kernel
theorem dX9_either5_19 : decode cX9_either5 19 = .ok (.ifCond .eq 29, 3) := by decide +kernel
theorem dX9_either5_22 : decode cX9_either5 22 = .ok (.aload_n 0, 1) := by decide +kernel
theorem dX9_either5_23 : decode cX9_either5 23 = .ok (.invokevirtual 190, 3) := by decide +kernel
theorem dX9_either5_26 : decode cX9_either5 26 = .ok (.aload_n 0, 1) := by decide +kernel
theorem dX9_either5_27 : decode cX9_either5 27 = .ok (.invokevirtual 242, 3) := by decide +kernel
theorem dX9_either5_30 : decode cX9_either5 30 = .ok (.istore_n 2, 1) := by decide +kernel
theorem dX9_either5_31 : decode cX9_either5 31 = .ok (.iload_n 1, 1) := by decide +kernel
theorem dX9_either5_32 : decode cX9_either5 32 = .ok (.ifCond .ne 7, 3) := by decide +kernel
theorem dX9_either5_35 : decode cX9_either5 35 = .ok (.iload_n 2, 1) := by decide +kernel
theorem dX9_either5_36 : decode cX9_either5 36 = .ok (.ifCond .eq 7, 3) := by decide +kernel
theorem dX9_either5_39 : decode cX9_either5 39 = .ok (.iconst 1, 1) := by decide +kernel
theorem dX9_either5_40 : decode cX9_either5 40 = .ok (.goto 4, 3) := by decide +kernel
theorem dX9_either5_43 : decode cX9_either5 43 = .ok (.iconst 0, 1) := by decide +kernel
theorem dX9_either5_44 : decode cX9_either5 44 = .ok (.istore_n 1, 1) := by decide +kernel
theorem dX9_either5_45 : decode cX9_either5 45 = .ok (.goto (-40), 3) := by decide +kernel
theorem dX9_either5_48 : decode cX9_either5 48 = .ok (.iload_n 1, 1) := by decide +kernel
theorem dX9_either5_49 : decode cX9_either5 49 = .ok (.ireturn, 1) := by decide +kernel
theorem dX9_atom4_0 : decode cX9_atom4 0 = .ok (.iconst 0, 1) := by decide +kernel
theorem dX9_atom4_1 : decode cX9_atom4 1 = .ok (.istore_n 1, 1) := by decide +kernel
theorem dX9_atom4_2 : decode cX9_atom4 2 = .ok (.aload_n 0, 1) := by decide +kernel
theorem dX9_atom4_3 : decode cX9_atom4 3 = .ok (.bipush 45, 2) := by decide +kernel
theorem dX9_atom4_5 : decode cX9_atom4 5 = .ok (.invokevirtual 215, 3) := by decide +kernel
theorem dX9_atom4_8 : decode cX9_atom4 8 = .ok (.ifCond .eq 29, 3) := by decide +kernel
theorem dX9_atom4_11 : decode cX9_atom4 11 = .ok (.aload_n 0, 1) := by decide +kernel
theorem dX9_atom4_12 : decode cX9_atom4 12 = .ok (.invokevirtual 218, 3) := by decide +kernel
theorem dX9_atom4_15 : decode cX9_atom4 15 = .ok (.ifCond .eq 146, 3) := by decide +kernel
theorem dX9_atom4_18 : decode cX9_atom4 18 = .ok (.aload_n 0, 1) := by decide +kernel
theorem dX9_atom4_19 : decode cX9_atom4 19 = .ok (.invokevirtual 226, 3) := by decide +kernel
theorem dX9_atom4_22 : decode cX9_atom4 22 = .ok (.ineg, 1) := by decide +kernel
theorem dX9_atom4_23 : decode cX9_atom4 23 = .ok (.istore_n 1, 1) := by decide +kernel
theorem dX9_atom4_24 : decode cX9_atom4 24 = .ok (.aload_n 0, 1) := by decide +kernel
theorem dX9_atom4_25 : decode cX9_atom4 25 = .ok (.dup, 1) := by decide +kernel
theorem dX9_atom4_26 : decode cX9_atom4 26 = .ok (.getfield 184, 3) := by decide +kernel
theorem dX9_atom4_29 : decode cX9_atom4 29 = .ok (.iconst 1, 1) := by decide +kernel
theorem dX9_atom4_30 : decode cX9_atom4 30 = .ok (.isub, 1) := by decide +kernel
theorem dX9_atom4_31 : decode cX9_atom4 31 = .ok (.putfield 184, 3) := by decide +kernel
theorem dX9_atom4_34 : decode cX9_atom4 34 = .ok (.goto 127, 3) := by decide +kernel
theorem dX9_atom4_37 : decode cX9_atom4 37 = .ok (.aload_n 0, 1) := by decide +kernel
theorem dX9_atom4_38 : decode cX9_atom4 38 = .ok (.bipush 40, 2) := by decide +kernel
theorem dX9_atom4_40 : decode cX9_atom4 40 = .ok (.invokevirtual 215, 3) := by decide +kernel
theorem dX9_atom4_43 : decode cX9_atom4 43 = .ok (.ifCond .eq 52, 3) := by decide +kernel
theorem dX9_atom4_46 : decode cX9_atom4 46 = .ok (.aload_n 0, 1) := by decide +kernel
theorem dX9_atom4_47 : decode cX9_atom4 47 = .ok (.invokevirtual 218, 3) := by decide +kernel
theorem dX9_atom4_50 : decode cX9_atom4 50 = .ok (.ifCond .eq 111, 3) := by decide +kernel
theorem dX9_atom4_53 : decode cX9_atom4 53 = .ok (.aload_n 0, 1) := by decide +kernel
theorem dX9_atom4_54 : decode cX9_atom4 54 = .ok (.invokevirtual 245, 3) := by decide +kernel
theorem dX9_atom4_57 : decode cX9_atom4 57 = .ok (.istore_n 1, 1) := by decide +kernel
theorem dX9_atom4_58 : decode cX9_atom4 58 = .ok (.aload_n 0, 1) := by decide +kernel
theorem dX9_atom4_59 : decode cX9_atom4 59 = .ok (.bipush 41, 2) := by decide +kernel
theorem dX9_atom4_61 : decode cX9_atom4 61 = .ok (.invokevirtual 215, 3) := by decide +kernel
theorem dX9_atom4_64 : decode cX9_atom4 64 = .ok (.ifCond .ne 7, 3) := by decide +kernel
theorem dX9_atom4_67 : decode cX9_atom4 67 = .ok (.aload_n 0, 1) := by decide +kernel
theorem dX9_atom4_68 : decode cX9_atom4 68 = .ok (.invokevirtual 187, 3) := by decide +kernel
theorem dX9_atom4_71 : decode cX9_atom4 71 = .ok (.aload_n 0, 1) := by decide +kernel
theorem dX9_atom4_72 : decode cX9_atom4 72 = .ok (.dup, 1) := by decide +kernel
theorem dX9_atom4_73 : decode cX9_atom4 73 = .ok (.getfield 184, 3) := by decide +kernel
theorem dX9_atom4_76 : decode cX9_atom4 76 = .ok (.iconst 1, 1) := by decide +kernel
theorem dX9_atom4_77 : decode cX9_atom4 77 = .ok (.isub, 1) := by decide +kernel
theorem dX9_atom4_78 : decode cX9_atom4 78 = .ok (.putfield 184, 3) := by decide +kernel
theorem dX9_atom4_81 : decode cX9_atom4 81 = .ok (.aload_n 0, 1) := by decide +kernel
theorem dX9_atom4_82 : decode cX9_atom4 82 = .ok (.getfield 174, 3) := by decide +kernel
theorem dX9_atom4_85 : decode cX9_atom4 85 = .ok (.ifCond .ne 76, 3) := by decide +kernel
theorem dX9_atom4_88 : decode cX9_atom4 88 = .ok (.aload_n 0, 1) := by decide +kernel
theorem dX9_atom4_89 : decode cX9_atom4 89 = .ok (.invokevirtual 190, 3) := by decide +kernel
theorem dX9_atom4_92 : decode cX9_atom4 92 = .ok (.goto 69, 3) := by decide +kernel
theorem dX9_atom4_95 : decode cX9_atom4 95 = .ok (.aload_n 0, 1) := by decide +kernel
theorem dX9_atom4_96 : decode cX9_atom4 96 = .ok (.getfield 174, 3) := by decide +kernel
theorem dX9_atom4_99 : decode cX9_atom4 99 = .ok (.ifCond .ne 24, 3) := by decide +kernel
theorem dX9_atom4_102 : decode cX9_atom4 102 = .ok (.aload_n 0, 1) := by decide +kernel
theorem dX9_atom4_103 : decode cX9_atom4 103 = .ok (.getfield 159, 3) := by decide +kernel
theorem dX9_atom4_106 : decode cX9_atom4 106 = .ok (.iconst 2, 1) := by decide +kernel
theorem dX9_atom4_107 : decode cX9_atom4 107 = .ok (.if_icmp .ne 16, 3) := by decide +kernel
theorem dX9_atom4_110 : decode cX9_atom4 110 = .ok (.aload_n 0, 1) := by decide +kernel
theorem dX9_atom4_111 : decode cX9_atom4 111 = .ok (.getfield 170, 3) := by decide +kernel
theorem dX9_atom4_114 : decode cX9_atom4 114 = .ok (.l2i, 1) := by decide +kernel
theorem dX9_atom4_115 : decode cX9_atom4 115 = .ok (.istore_n 1, 1) := by decide +kernel
theorem dX9_atom4_116 : decode cX9_atom4 116 = .ok (.aload_n 0, 1) := by decide +kernel
theorem dX9_atom4_117 : decode cX9_atom4 117 = .ok (.invokevirtual 190, 3) := by decide +kernel
theorem dX9_atom4_120 : decode cX9_atom4 120 = .ok (.goto 41, 3) := by decide +kernel
theorem dX9_atom4_123 : decode cX9_atom4 123 = .ok (.aload_n 0, 1) := by decide +kernel
theorem dX9_atom4_124 : decode cX9_atom4 124 = .ok (.getfield 174, 3) := by decide +kernel
theorem dX9_atom4_127 : decode cX9_atom4 127 = .ok (.ifCond .ne 30, 3) := by decide +kernel
theorem dX9_atom4_130 : decode cX9_atom4 130 = .ok (.aload_n 0, 1) := by decide +kernel
theorem dX9_atom4_131 : decode cX9_atom4 131 = .ok (.getfield 159, 3) := by decide +kernel
theorem dX9_atom4_134 : decode cX9_atom4 134 = .ok (.iconst 1, 1) := by decide +kernel
theorem dX9_atom4_135 : decode cX9_atom4 135 = .ok (.if_icmp .ne 22, 3) := by decide +kernel
theorem dX9_atom4_138 : decode cX9_atom4 138 = .ok (.aload_n 0, 1) := by decide +kernel
theorem dX9_atom4_139 : decode cX9_atom4 139 = .ok (.invokevirtual 222, 3) := by decide +kernel
theorem dX9_atom4_142 : decode cX9_atom4 142 = .ok (.istore_n 1, 1) := by decide +kernel
theorem dX9_atom4_143 : decode cX9_atom4 143 = .ok (.aload_n 0, 1) := by decide +kernel
theorem dX9_atom4_144 : decode cX9_atom4 144 = .ok (.getfield 174, 3) := by decide +kernel
theorem dX9_atom4_147 : decode cX9_atom4 147 = .ok (.ifCond .ne 14, 3) := by decide +kernel
theorem dX9_atom4_150 : decode cX9_atom4 150 = .ok (.aload_n 0, 1) := by decide +kernel
theorem dX9_atom4_151 : decode cX9_atom4 151 = .ok (.invokevirtual 190, 3) := by decide +kernel
theorem dX9_atom4_154 : decode cX9_atom4 154 = .ok (.goto 7, 3) := by decide +kernel
theorem dX9_atom4_157 : decode cX9_atom4 157 = .ok (.aload_n 0, 1) := by decide +kernel
theorem dX9_atom4_158 : decode cX9_atom4 158 = .ok (.invokevirtual 187, 3) := by decide +kernel
theorem dX9_atom4_161 : decode cX9_atom4 161 = .ok (.iload_n 1, 1) := by decide +kernel
theorem dX9_atom4_162 : decode cX9_atom4 162 = .ok (.ireturn, 1) := by decide +kernel
theorem dX9_term4_0 : decode cX9_term4 0 = .ok (.aload_n 0, 1) := by decide +kernel
theorem dX9_term4_1 : decode cX9_term4 1 = .ok (.invokevirtual 248, 3) := by decide +kernel
theorem dX9_term4_4 : decode cX9_term4 4 = .ok (.istore_n 1, 1) := by decide +kernel
theorem dX9_term4_5 : decode cX9_term4 5 = .ok (.aload_n 0, 1) := by decide +kernel
theorem dX9_term4_6 : decode cX9_term4 6 = .ok (.bipush 42, 2) := by decide +kernel
theorem dX9_term4_8 : decode cX9_term4 8 = .ok (.invokevirtual 215, 3) := by decide +kernel
theorem dX9_term4_11 : decode cX9_term4 11 = .ok (.ifCond .eq 17, 3) := by decide +kernel
theorem dX9_term4_14 : decode cX9_term4 14 = .ok (.aload_n 0, 1) := by decide +kernel
theorem dX9_term4_15 : decode cX9_term4 15 = .ok (.invokevirtual 190, 3) := by decide +kernel
theorem dX9_term4_18 : decode cX9_term4 18 = .ok (.iload_n 1, 1) := by decide +kernel
theorem dX9_term4_19 : decode cX9_term4 19 = .ok (.aload_n 0, 1) := by decide +kernel
theorem dX9_term4_20 : decode cX9_term4 20 = .ok (.invokevirtual 248, 3) := by decide +kernel
theorem dX9_term4_23 : decode cX9_term4 23 = .ok (.imul, 1) := by decide +kernel
theorem dX9_term4_24 : decode cX9_term4 24 = .ok (.istore_n 1, 1) := by decide +kernel
theorem dX9_term4_25 : decode cX9_term4 25 = .ok (.goto (-20), 3) := by decide +kernel
theorem dX9_term4_28 : decode cX9_term4 28 = .ok (.iload_n 1, 1) := by decide +kernel
theorem dX9_term4_29 : decode cX9_term4 29 = .ok (.ireturn, 1) := by decide +kernel
theorem dX9_added4_0 : decode cX9_added4 0 = .ok (.aload_n 0, 1) := by decide +kernel
theorem dX9_added4_1 : decode cX9_added4 1 = .ok (.invokevirtual 251, 3) := by decide +kernel
theorem dX9_added4_4 : decode cX9_added4 4 = .ok (.istore_n 1, 1) := by decide +kernel
theorem dX9_added4_5 : decode cX9_added4 5 = .ok (.aload_n 0, 1) := by decide +kernel
theorem dX9_added4_6 : decode cX9_added4 6 = .ok (.bipush 43, 2) := by decide +kernel
theorem dX9_added4_8 : decode cX9_added4 8 = .ok (.invokevirtual 215, 3) := by decide +kernel
theorem dX9_added4_11 : decode cX9_added4 11 = .ok (.ifCond .ne 12, 3) := by decide +kernel
theorem dX9_added4_14 : decode cX9_added4 14 = .ok (.aload_n 0, 1) := by decide +kernel
theorem dX9_added4_15 : decode cX9_added4 15 = .ok (.bipush 45, 2) := by decide +kernel
theorem dX9_added4_17 : decode cX9_added4 17 = .ok (.invokevirtual 215, 3) := by decide +kernel
theorem dX9_added4_20 : decode cX9_added4 20 = .ok (.ifCond .eq 46, 3) := by decide +kernel
theorem dX9_added4_23 : decode cX9_added4 23 = .ok (.aload_n 0, 1) := by decide +kernel
theorem dX9_added4_24 : decode cX9_added4 24 = .ok (.getfield 170, 3) := by decide +kernel
theorem dX9_added4_27 : decode cX9_added4 27 = .ok (.ldc2_w 232, 3) := by decide +kernel
theorem dX9_added4_30 : decode cX9_added4 30 = .ok (.lcmp, 1) := by decide +kernel
theorem dX9_added4_31 : decode cX9_added4 31 = .ok (.ifCond .ne 7, 3) := by decide +kernel
theorem dX9_added4_34 : decode cX9_added4 34 = .ok (.iconst 1, 1) := by decide +kernel
theorem dX9_added4_35 : decode cX9_added4 35 = .ok (.goto 4, 3) := by decide +kernel
theorem dX9_added4_38 : decode cX9_added4 38 = .ok (.iconst 0, 1) := by decide +kernel
theorem dX9_added4_39 : decode cX9_added4 39 = .ok (.istore_n 2, 1) := by decide +kernel
theorem dX9_added4_40 : decode cX9_added4 40 = .ok (.aload_n 0, 1) := by decide +kernel
theorem dX9_added4_41 : decode cX9_added4 41 = .ok (.invokevirtual 190, 3) := by decide +kernel
theorem dX9_added4_44 : decode cX9_added4 44 = .ok (.aload_n 0, 1) := by decide +kernel
theorem dX9_added4_45 : decode cX9_added4 45 = .ok (.invokevirtual 251, 3) := by decide +kernel
theorem dX9_added4_48 : decode cX9_added4 48 = .ok (.istore_n 3, 1) := by decide +kernel
theorem dX9_added4_49 : decode cX9_added4 49 = .ok (.iload_n 2, 1) := by decide +kernel
theorem dX9_added4_50 : decode cX9_added4 50 = .ok (.ifCond .eq 9, 3) := by decide +kernel
theorem dX9_added4_53 : decode cX9_added4 53 = .ok (.iload_n 1, 1) := by decide +kernel
theorem dX9_added4_54 : decode cX9_added4 54 = .ok (.iload_n 3, 1) := by decide +kernel
theorem dX9_added4_55 : decode cX9_added4 55 = .ok (.iadd, 1) := by decide +kernel
theorem dX9_added4_56 : decode cX9_added4 56 = .ok (.goto 6, 3) := by decide +kernel
theorem dX9_added4_59 : decode cX9_added4 59 = .ok (.iload_n 1, 1) := by decide +kernel
theorem dX9_added4_60 : decode cX9_added4 60 = .ok (.iload_n 3, 1) := by decide +kernel
theorem dX9_added4_61 : decode cX9_added4 61 = .ok (.isub, 1) := by decide +kernel
theorem dX9_added4_62 : decode cX9_added4 62 = .ok (.istore_n 1, 1) := by decide +kernel
theorem dX9_added4_63 : decode cX9_added4 63 = .ok (.goto (-58), 3) := by decide +kernel
theorem dX9_added4_66 : decode cX9_added4 66 = .ok (.iload_n 1, 1) := by decide +kernel
theorem dX9_added4_67 : decode cX9_added4 67 = .ok (.ireturn, 1) := by decide +kernel
theorem dX9_not4_0 : decode cX9_not4 0 = .ok (.aload_n 0, 1) := by decide +kernel
theorem dX9_not4_1 : decode cX9_not4 1 = .ok (.bipush 110, 2) := by decide +kernel
theorem dX9_not4_3 : decode cX9_not4 3 = .ok (.bipush 111, 2) := by decide +kernel
theorem dX9_not4_5 : decode cX9_not4 5 = .ok (.bipush 116, 2) := by decide +kernel
theorem dX9_not4_7 : decode cX9_not4 7 = .ok (.iconst 0, 1) := by decide +kernel
theorem dX9_not4_8 : decode cX9_not4 8 = .ok (.iconst 0, 1) := by decide +kernel
theorem dX9_not4_9 : decode cX9_not4 9 = .ok (.iconst 0, 1) := by decide +kernel
theorem dX9_not4_10 : decode cX9_not4 10 = .ok (.iconst 0, 1) := by decide +kernel
theorem dX9_not4_11 : decode cX9_not4 11 = .ok (.iconst 0, 1) := by decide +kernel
theorem dX9_not4_12 : decode cX9_not4 12 = .ok (.invokevirtual 193, 3) := by decide +kernel
theorem dX9_not4_15 : decode cX9_not4 15 = .ok (.ifCond .eq 37, 3) := by decide +kernel
theorem dX9_not4_18 : decode cX9_not4 18 = .ok (.aload_n 0, 1) := by decide +kernel
theorem dX9_not4_19 : decode cX9_not4 19 = .ok (.invokevirtual 218, 3) := by decide +kernel
theorem dX9_not4_22 : decode cX9_not4 22 = .ok (.ifCond .ne 5, 3) := by decide +kernel
theorem dX9_not4_25 : decode cX9_not4 25 = .ok (.iconst 0, 1) := by decide +kernel
theorem dX9_not4_26 : decode cX9_not4 26 = .ok (.ireturn, 1) := by decide +kernel
theorem dX9_not4_27 : decode cX9_not4 27 = .ok (.aload_n 0, 1) := by decide +kernel
theorem dX9_not4_28 : decode cX9_not4 28 = .ok (.invokevirtual 239, 3) := by decide +kernel
theorem dX9_not4_31 : decode cX9_not4 31 = .ok (.istore_n 1, 1) := by decide +kernel
theorem dX9_not4_32 : decode cX9_not4 32 = .ok (.aload_n 0, 1) := by decide +kernel
theorem dX9_not4_33 : decode cX9_not4 33 = .ok (.dup, 1) := by decide +kernel
theorem dX9_not4_34 : decode cX9_not4 34 = .ok (.getfield 184, 3) := by decide +kernel
theorem dX9_not4_37 : decode cX9_not4 37 = .ok (.iconst 1, 1) := by decide +kernel
theorem dX9_not4_38 : decode cX9_not4 38 = .ok (.isub, 1) := by decide +kernel
theorem dX9_not4_39 : decode cX9_not4 39 = .ok (.putfield 184, 3) := by decide +kernel
theorem dX9_not4_42 : decode cX9_not4 42 = .ok (.iload_n 1, 1) := by decide +kernel
theorem dX9_not4_43 : decode cX9_not4 43 = .ok (.ifCond .ne 7, 3) := by decide +kernel
theorem dX9_not4_46 : decode cX9_not4 46 = .ok (.iconst 1, 1) := by decide +kernel
theorem dX9_not4_47 : decode cX9_not4 47 = .ok (.goto 4, 3) := by decide +kernel
theorem dX9_not4_50 : decode cX9_not4 50 = .ok (.iconst 0, 1) := by decide +kernel
theorem dX9_not4_51 : decode cX9_not4 51 = .ok (.ireturn, 1) := by decide +kernel
theorem dX9_not4_52 : decode cX9_not4 52 = .ok (.aload_n 0, 1) := by decide +kernel
theorem dX9_not4_53 : decode cX9_not4 53 = .ok (.invokevirtual 254, 3) := by decide +kernel
theorem dX9_not4_56 : decode cX9_not4 56 = .ok (.istore_n 1, 1) := by decide +kernel
theorem dX9_not4_57 : decode cX9_not4 57 = .ok (.aload_n 0, 1) := by decide +kernel
theorem dX9_not4_58 : decode cX9_not4 58 = .ok (.bipush 60, 2) := by decide +kernel
theorem dX9_not4_60 : decode cX9_not4 60 = .ok (.invokevirtual 215, 3) := by decide +kernel
theorem dX9_not4_63 : decode cX9_not4 63 = .ok (.ifCond .ne 14, 3) := by decide +kernel
theorem dX9_not4_66 : decode cX9_not4 66 = .ok (.aload_n 0, 1) := by decide +kernel
theorem dX9_not4_67 : decode cX9_not4 67 = .ok (.bipush 61, 2) := by decide +kernel
theorem dX9_not4_69 : decode cX9_not4 69 = .ok (.invokevirtual 215, 3) := by decide +kernel
theorem dX9_not4_72 : decode cX9_not4 72 = .ok (.ifCond .ne 5, 3) := by decide +kernel
theorem dX9_not4_75 : decode cX9_not4 75 = .ok (.iload_n 1, 1) := by decide +kernel
theorem dX9_not4_76 : decode cX9_not4 76 = .ok (.ireturn, 1) := by decide +kernel
theorem dX9_not4_77 : decode cX9_not4 77 = .ok (.aload_n 0, 1) := by decide +kernel
theorem dX9_not4_78 : decode cX9_not4 78 = .ok (.getfield 170, 3) := by decide +kernel
theorem dX9_not4_81 : decode cX9_not4 81 = .ok (.ldc2_w 237, 3) := by decide +kernel
theorem dX9_not4_84 : decode cX9_not4 84 = .ok (.lcmp, 1) := by decide +kernel
theorem dX9_not4_85 : decode cX9_not4 85 = .ok (.ifCond .ne 7, 3) := by decide +kernel
theorem dX9_not4_88 : decode cX9_not4 88 = .ok (.iconst 1, 1) := by decide +kernel
theorem dX9_not4_89 : decode cX9_not4 89 = .ok (.goto 4, 3) := by decide +kernel
theorem dX9_not4_92 : decode cX9_not4 92 = .ok (.iconst 0, 1) := by decide +kernel
theorem dX9_not4_93 : decode cX9_not4 93 = .ok (.istore_n 2, 1) := by decide +kernel
theorem dX9_not4_94 : decode cX9_not4 94 = .ok (.aload_n 0, 1) := by decide +kernel
theorem dX9_not4_95 : decode cX9_not4 95 = .ok (.invokevirtual 190, 3) := by decide +kernel
theorem dX9_not4_98 : decode cX9_not4 98 = .ok (.aload_n 0, 1) := by decide +kernel
theorem dX9_not4_99 : decode cX9_not4 99 = .ok (.invokevirtual 254, 3) := by decide +kernel
theorem dX9_not4_102 : decode cX9_not4 102 = .ok (.istore_n 3, 1) := by decide +kernel
theorem dX9_not4_103 : decode cX9_not4 103 = .ok (.iload_n 2, 1) := by decide +kernel
theorem dX9_not4_104 : decode cX9_not4 104 = .ok (.ifCond .eq 11, 3) := by decide +kernel
theorem dX9_not4_107 : decode cX9_not4 107 = .ok (.iload_n 1, 1) := by decide +kernel
theorem dX9_not4_108 : decode cX9_not4 108 = .ok (.iload_n 3, 1) := by decide +kernel
theorem dX9_not4_109 : decode cX9_not4 109 = .ok (.if_icmp .ge 15, 3) := by decide +kernel
theorem dX9_not4_112 : decode cX9_not4 112 = .ok (.goto 8, 3) := by decide +kernel
theorem dX9_not4_115 : decode cX9_not4 115 = .ok (.iload_n 1, 1) := by decide +kernel
theorem dX9_not4_116 : decode cX9_not4 116 = .ok (.iload_n 3, 1) := by decide +kernel
theorem dX9_not4_117 : decode cX9_not4 117 = .ok (.if_icmp .ne 7, 3) := by decide +kernel
theorem dX9_not4_120 : decode cX9_not4 120 = .ok (.iconst 1, 1) := by decide +kernel
theorem dX9_not4_121 : decode cX9_not4 121 = .ok (.goto 4, 3) := by decide +kernel
theorem dX9_not4_124 : decode cX9_not4 124 = .ok (.iconst 0, 1) := by decide +kernel
theorem dX9_not4_125 : decode cX9_not4 125 = .ok (.ireturn, 1) := by decide +kernel
theorem dX9_both4_0 : decode cX9_both4 0 = .ok (.aload_n 0, 1) := by decide +kernel
theorem dX9_both4_1 : decode cX9_both4 1 = .ok (.invokevirtual 257, 3) := by decide +kernel
theorem dX9_both4_4 : decode cX9_both4 4 = .ok (.istore_n 1, 1) := by decide +kernel
theorem dX9_both4_5 : decode cX9_both4 5 = .ok (.aload_n 0, 1) := by decide +kernel
theorem dX9_both4_6 : decode cX9_both4 6 = .ok (.bipush 97, 2) := by decide +kernel
theorem dX9_both4_8 : decode cX9_both4 8 = .ok (.bipush 110, 2) := by decide +kernel
theorem dX9_both4_10 : decode cX9_both4 10 = .ok (.bipush 100, 2) := by decide +kernel
theorem dX9_both4_12 : decode cX9_both4 12 = .ok (.iconst 0, 1) := by decide +kernel
theorem dX9_both4_13 : decode cX9_both4 13 = .ok (.iconst 0, 1) := by decide +kernel
theorem dX9_both4_14 : decode cX9_both4 14 = .ok (.iconst 0, 1) := by decide +kernel
theorem dX9_both4_15 : decode cX9_both4 15 = .ok (.iconst 0, 1) := by decide +kernel
theorem dX9_both4_16 : decode cX9_both4 16 = .ok (.iconst 0, 1) := by decide +kernel
theorem dX9_both4_17 : decode cX9_both4 17 = .ok (.invokevirtual 193, 3) := by decide +kernel
theorem dX9_both4_20 : decode cX9_both4 20 = .ok (.ifCond .eq 29, 3) := by decide +kernel
theorem dX9_both4_23 : decode cX9_both4 23 = .ok (.aload_n 0, 1) := by decide +kernel
theorem dX9_both4_24 : decode cX9_both4 24 = .ok (.invokevirtual 190, 3) := by decide +kernel
theorem dX9_both4_27 : decode cX9_both4 27 = .ok (.aload_n 0, 1) := by decide +kernel
theorem dX9_both4_28 : decode cX9_both4 28 = .ok (.invokevirtual 257, 3) := by decide +kernel
theorem dX9_both4_31 : decode cX9_both4 31 = .ok (.istore_n 2, 1) := by decide +kernel
theorem dX9_both4_32 : decode cX9_both4 32 = .ok (.iload_n 1, 1) := by decide +kernel
theorem dX9_both4_33 : decode cX9_both4 33 = .ok (.ifCond .eq 11, 3) := by decide +kernel
theorem dX9_both4_36 : decode cX9_both4 36 = .ok (.iload_n 2, 1) := by decide +kernel
theorem dX9_both4_37 : decode cX9_both4 37 = .ok (.ifCond .eq 7, 3) := by decide +kernel
theorem dX9_both4_40 : decode cX9_both4 40 = .ok (.iconst 1, 1) := by decide +kernel
theorem dX9_both4_41 : decode cX9_both4 41 = .ok (.goto 4, 3) := by decide +kernel
theorem dX9_both4_44 : decode cX9_both4 44 = .ok (.iconst 0, 1) := by decide +kernel
theorem dX9_both4_45 : decode cX9_both4 45 = .ok (.istore_n 1, 1) := by decide +kernel
theorem dX9_both4_46 : decode cX9_both4 46 = .ok (.goto (-41), 3) := by decide +kernel
theorem dX9_both4_49 : decode cX9_both4 49 = .ok (.iload_n 1, 1) := by decide +kernel
theorem dX9_both4_50 : decode cX9_both4 50 = .ok (.ireturn, 1) := by decide +kernel
theorem dX9_either4_0 : decode cX9_either4 0 = .ok (.aload_n 0, 1) := by decide +kernel
theorem dX9_either4_1 : decode cX9_either4 1 = .ok (.invokevirtual 260, 3) := by decide +kernel
theorem dX9_either4_4 : decode cX9_either4 4 = .ok (.istore_n 1, 1) := by decide +kernel
theorem dX9_either4_5 : decode cX9_either4 5 = .ok (.aload_n 0, 1) := by decide +kernel
theorem dX9_either4_6 : decode cX9_either4 6 = .ok (.bipush 111, 2) := by decide +kernel
theorem dX9_either4_8 : decode cX9_either4 8 = .ok (.bipush 114, 2) := by decide +kernel
theorem dX9_either4_10 : decode cX9_either4 10 = .ok (.iconst 0, 1) := by decide +kernel
theorem dX9_either4_11 : decode cX9_either4 11 = .ok (.iconst 0, 1) := by decide +kernel
theorem dX9_either4_12 : decode cX9_either4 12 = .ok (.iconst 0, 1) := by decide +kernel
theorem dX9_either4_13 : decode cX9_either4 13 = .ok (.iconst 0, 1) := by decide +kernel
theorem dX9_either4_14 : decode cX9_either4 14 = .ok (.iconst 0, 1) := by decide +kernel
theorem dX9_either4_15 : decode cX9_either4 15 = .ok (.iconst 0, 1) := by decide +kernel
theorem dX9_either4_16 : decode cX9_either4 16 = .ok (.invokevirtual 193, 3) := by decide +kernel
theorem dX9_either4_19 : decode cX9_either4 19 = .ok (.ifCond .eq 29, 3) := by decide +kernel
theorem dX9_either4_22 : decode cX9_either4 22 = .ok (.aload_n 0, 1) := by decide +kernel
theorem dX9_either4_23 : decode cX9_either4 23 = .ok (.invokevirtual 190, 3) := by decide +kernel
theorem dX9_either4_26 : decode cX9_either4 26 = .ok (.aload_n 0, 1) := by decide +kernel
theorem dX9_either4_27 : decode cX9_either4 27 = .ok (.invokevirtual 260, 3) := by decide +kernel
theorem dX9_either4_30 : decode cX9_either4 30 = .ok (.istore_n 2, 1) := by decide +kernel
theorem dX9_either4_31 : decode cX9_either4 31 = .ok (.iload_n 1, 1) := by decide +kernel
theorem dX9_either4_32 : decode cX9_either4 32 = .ok (.ifCond .ne 7, 3) := by decide +kernel
theorem dX9_either4_35 : decode cX9_either4 35 = .ok (.iload_n 2, 1) := by decide +kernel
theorem dX9_either4_36 : decode cX9_either4 36 = .ok (.ifCond .eq 7, 3) := by decide +kernel
theorem dX9_either4_39 : decode cX9_either4 39 = .ok (.iconst 1, 1) := by decide +kernel
theorem dX9_either4_40 : decode cX9_either4 40 = .ok (.goto 4, 3) := by decide +kernel
theorem dX9_either4_43 : decode cX9_either4 43 = .ok (.iconst 0, 1) := by decide +kernel
theorem dX9_either4_44 : decode cX9_either4 44 = .ok (.istore_n 1, 1) := by decide +kernel
theorem dX9_either4_45 : decode cX9_either4 45 = .ok (.goto (-40), 3) := by decide +kernel
theorem dX9_either4_48 : decode cX9_either4 48 = .ok (.iload_n 1, 1) := by decide +kernel
theorem dX9_either4_49 : decode cX9_either4 49 = .ok (.ireturn, 1) := by decide +kernel
theorem dX9_atom3_0 : decode cX9_atom3 0 = .ok (.iconst 0, 1) := by decide +kernel
theorem dX9_atom3_1 : decode cX9_atom3 1 = .ok (.istore_n 1, 1) := by decide +kernel
theorem dX9_atom3_2 : decode cX9_atom3 2 = .ok (.aload_n 0, 1) := by decide +kernel
theorem dX9_atom3_3 : decode cX9_atom3 3 = .ok (.bipush 45, 2) := by decide +kernel
theorem dX9_atom3_5 : decode cX9_atom3 5 = .ok (.invokevirtual 215, 3) := by decide +kernel
theorem dX9_atom3_8 : decode cX9_atom3 8 = .ok (.ifCond .eq 29, 3) := by decide +kernel
theorem dX9_atom3_11 : decode cX9_atom3 11 = .ok (.aload_n 0, 1) := by decide +kernel
theorem dX9_atom3_12 : decode cX9_atom3 12 = .ok (.invokevirtual 218, 3) := by decide +kernel
theorem dX9_atom3_15 : decode cX9_atom3 15 = .ok (.ifCond .eq 146, 3) := by decide +kernel
theorem dX9_atom3_18 : decode cX9_atom3 18 = .ok (.aload_n 0, 1) := by decide +kernel
theorem dX9_atom3_19 : decode cX9_atom3 19 = .ok (.invokevirtual 248, 3) := by decide +kernel
theorem dX9_atom3_22 : decode cX9_atom3 22 = .ok (.ineg, 1) := by decide +kernel
theorem dX9_atom3_23 : decode cX9_atom3 23 = .ok (.istore_n 1, 1) := by decide +kernel
theorem dX9_atom3_24 : decode cX9_atom3 24 = .ok (.aload_n 0, 1) := by decide +kernel
theorem dX9_atom3_25 : decode cX9_atom3 25 = .ok (.dup, 1) := by decide +kernel
theorem dX9_atom3_26 : decode cX9_atom3 26 = .ok (.getfield 184, 3) := by decide +kernel
theorem dX9_atom3_29 : decode cX9_atom3 29 = .ok (.iconst 1, 1) := by decide +kernel
theorem dX9_atom3_30 : decode cX9_atom3 30 = .ok (.isub, 1) := by decide +kernel
theorem dX9_atom3_31 : decode cX9_atom3 31 = .ok (.putfield 184, 3) := by decide +kernel
theorem dX9_atom3_34 : decode cX9_atom3 34 = .ok (.goto 127, 3) := by decide +kernel
theorem dX9_atom3_37 : decode cX9_atom3 37 = .ok (.aload_n 0, 1) := by decide +kernel
theorem dX9_atom3_38 : decode cX9_atom3 38 = .ok (.bipush 40, 2) := by decide +kernel
theorem dX9_atom3_40 : decode cX9_atom3 40 = .ok (.invokevirtual 215, 3) := by decide +kernel
theorem dX9_atom3_43 : decode cX9_atom3 43 = .ok (.ifCond .eq 52, 3) := by decide +kernel
theorem dX9_atom3_46 : decode cX9_atom3 46 = .ok (.aload_n 0, 1) := by decide +kernel
theorem dX9_atom3_47 : decode cX9_atom3 47 = .ok (.invokevirtual 218, 3) := by decide +kernel
theorem dX9_atom3_50 : decode cX9_atom3 50 = .ok (.ifCond .eq 111, 3) := by decide +kernel
theorem dX9_atom3_53 : decode cX9_atom3 53 = .ok (.aload_n 0, 1) := by decide +kernel
theorem dX9_atom3_54 : decode cX9_atom3 54 = .ok (.invokevirtual 263, 3) := by decide +kernel
theorem dX9_atom3_57 : decode cX9_atom3 57 = .ok (.istore_n 1, 1) := by decide +kernel
theorem dX9_atom3_58 : decode cX9_atom3 58 = .ok (.aload_n 0, 1) := by decide +kernel
theorem dX9_atom3_59 : decode cX9_atom3 59 = .ok (.bipush 41, 2) := by decide +kernel
theorem dX9_atom3_61 : decode cX9_atom3 61 = .ok (.invokevirtual 215, 3) := by decide +kernel
theorem dX9_atom3_64 : decode cX9_atom3 64 = .ok (.ifCond .ne 7, 3) := by decide +kernel
theorem dX9_atom3_67 : decode cX9_atom3 67 = .ok (.aload_n 0, 1) := by decide +kernel
theorem dX9_atom3_68 : decode cX9_atom3 68 = .ok (.invokevirtual 187, 3) := by decide +kernel
theorem dX9_atom3_71 : decode cX9_atom3 71 = .ok (.aload_n 0, 1) := by decide +kernel
theorem dX9_atom3_72 : decode cX9_atom3 72 = .ok (.dup, 1) := by decide +kernel
theorem dX9_atom3_73 : decode cX9_atom3 73 = .ok (.getfield 184, 3) := by decide +kernel
theorem dX9_atom3_76 : decode cX9_atom3 76 = .ok (.iconst 1, 1) := by decide +kernel
theorem dX9_atom3_77 : decode cX9_atom3 77 = .ok (.isub, 1) := by decide +kernel
theorem dX9_atom3_78 : decode cX9_atom3 78 = .ok (.putfield 184, 3) := by decide +kernel
theorem dX9_atom3_81 : decode cX9_atom3 81 = .ok (.aload_n 0, 1) := by decide +kernel
theorem dX9_atom3_82 : decode cX9_atom3 82 = .ok (.getfield 174, 3) := by decide +kernel
theorem dX9_atom3_85 : decode cX9_atom3 85 = .ok (.ifCond .ne 76, 3) := by decide +kernel
theorem dX9_atom3_88 : decode cX9_atom3 88 = .ok (.aload_n 0, 1) := by decide +kernel
theorem dX9_atom3_89 : decode cX9_atom3 89 = .ok (.invokevirtual 190, 3) := by decide +kernel
theorem dX9_atom3_92 : decode cX9_atom3 92 = .ok (.goto 69, 3) := by decide +kernel
theorem dX9_atom3_95 : decode cX9_atom3 95 = .ok (.aload_n 0, 1) := by decide +kernel
theorem dX9_atom3_96 : decode cX9_atom3 96 = .ok (.getfield 174, 3) := by decide +kernel
theorem dX9_atom3_99 : decode cX9_atom3 99 = .ok (.ifCond .ne 24, 3) := by decide +kernel
theorem dX9_atom3_102 : decode cX9_atom3 102 = .ok (.aload_n 0, 1) := by decide +kernel
theorem dX9_atom3_103 : decode cX9_atom3 103 = .ok (.getfield 159, 3) := by decide +kernel
theorem dX9_atom3_106 : decode cX9_atom3 106 = .ok (.iconst 2, 1) := by decide +kernel
theorem dX9_atom3_107 : decode cX9_atom3 107 = .ok (.if_icmp .ne 16, 3) := by decide +kernel
theorem dX9_atom3_110 : decode cX9_atom3 110 = .ok (.aload_n 0, 1) := by decide +kernel
theorem dX9_atom3_111 : decode cX9_atom3 111 = .ok (.getfield 170, 3) := by decide +kernel
theorem dX9_atom3_114 : decode cX9_atom3 114 = .ok (.l2i, 1) := by decide +kernel
theorem dX9_atom3_115 : decode cX9_atom3 115 = .ok (.istore_n 1, 1) := by decide +kernel
theorem dX9_atom3_116 : decode cX9_atom3 116 = .ok (.aload_n 0, 1) := by decide +kernel
theorem dX9_atom3_117 : decode cX9_atom3 117 = .ok (.invokevirtual 190, 3) := by decide +kernel
theorem dX9_atom3_120 : decode cX9_atom3 120 = .ok (.goto 41, 3) := by decide +kernel
theorem dX9_atom3_123 : decode cX9_atom3 123 = .ok (.aload_n 0, 1) := by decide +kernel
theorem dX9_atom3_124 : decode cX9_atom3 124 = .ok (.getfield 174, 3) := by decide +kernel
theorem dX9_atom3_127 : decode cX9_atom3 127 = .ok (.ifCond .ne 30, 3) := by decide +kernel
theorem dX9_atom3_130 : decode cX9_atom3 130 = .ok (.aload_n 0, 1) := by decide +kernel
theorem dX9_atom3_131 : decode cX9_atom3 131 = .ok (.getfield 159, 3) := by decide +kernel
theorem dX9_atom3_134 : decode cX9_atom3 134 = .ok (.iconst 1, 1) := by decide +kernel
theorem dX9_atom3_135 : decode cX9_atom3 135 = .ok (.if_icmp .ne 22, 3) := by decide +kernel
theorem dX9_atom3_138 : decode cX9_atom3 138 = .ok (.aload_n 0, 1) := by decide +kernel
theorem dX9_atom3_139 : decode cX9_atom3 139 = .ok (.invokevirtual 222, 3) := by decide +kernel
theorem dX9_atom3_142 : decode cX9_atom3 142 = .ok (.istore_n 1, 1) := by decide +kernel
theorem dX9_atom3_143 : decode cX9_atom3 143 = .ok (.aload_n 0, 1) := by decide +kernel
theorem dX9_atom3_144 : decode cX9_atom3 144 = .ok (.getfield 174, 3) := by decide +kernel
theorem dX9_atom3_147 : decode cX9_atom3 147 = .ok (.ifCond .ne 14, 3) := by decide +kernel
theorem dX9_atom3_150 : decode cX9_atom3 150 = .ok (.aload_n 0, 1) := by decide +kernel
theorem dX9_atom3_151 : decode cX9_atom3 151 = .ok (.invokevirtual 190, 3) := by decide +kernel
theorem dX9_atom3_154 : decode cX9_atom3 154 = .ok (.goto 7, 3) := by decide +kernel
theorem dX9_atom3_157 : decode cX9_atom3 157 = .ok (.aload_n 0, 1) := by decide +kernel
theorem dX9_atom3_158 : decode cX9_atom3 158 = .ok (.invokevirtual 187, 3) := by decide +kernel
theorem dX9_atom3_161 : decode cX9_atom3 161 = .ok (.iload_n 1, 1) := by decide +kernel
theorem dX9_atom3_162 : decode cX9_atom3 162 = .ok (.ireturn, 1) := by decide +kernel
theorem dX9_term3_0 : decode cX9_term3 0 = .ok (.aload_n 0, 1) := by decide +kernel
theorem dX9_term3_1 : decode cX9_term3 1 = .ok (.invokevirtual 266, 3) := by decide +kernel
theorem dX9_term3_4 : decode cX9_term3 4 = .ok (.istore_n 1, 1) := by decide +kernel
theorem dX9_term3_5 : decode cX9_term3 5 = .ok (.aload_n 0, 1) := by decide +kernel
theorem dX9_term3_6 : decode cX9_term3 6 = .ok (.bipush 42, 2) := by decide +kernel
theorem dX9_term3_8 : decode cX9_term3 8 = .ok (.invokevirtual 215, 3) := by decide +kernel
theorem dX9_term3_11 : decode cX9_term3 11 = .ok (.ifCond .eq 17, 3) := by decide +kernel
theorem dX9_term3_14 : decode cX9_term3 14 = .ok (.aload_n 0, 1) := by decide +kernel
theorem dX9_term3_15 : decode cX9_term3 15 = .ok (.invokevirtual 190, 3) := by decide +kernel
theorem dX9_term3_18 : decode cX9_term3 18 = .ok (.iload_n 1, 1) := by decide +kernel
theorem dX9_term3_19 : decode cX9_term3 19 = .ok (.aload_n 0, 1) := by decide +kernel
theorem dX9_term3_20 : decode cX9_term3 20 = .ok (.invokevirtual 266, 3) := by decide +kernel
theorem dX9_term3_23 : decode cX9_term3 23 = .ok (.imul, 1) := by decide +kernel
theorem dX9_term3_24 : decode cX9_term3 24 = .ok (.istore_n 1, 1) := by decide +kernel
theorem dX9_term3_25 : decode cX9_term3 25 = .ok (.goto (-20), 3) := by decide +kernel
theorem dX9_term3_28 : decode cX9_term3 28 = .ok (.iload_n 1, 1) := by decide +kernel
theorem dX9_term3_29 : decode cX9_term3 29 = .ok (.ireturn, 1) := by decide +kernel
theorem dX9_added3_0 : decode cX9_added3 0 = .ok (.aload_n 0, 1) := by decide +kernel
theorem dX9_added3_1 : decode cX9_added3 1 = .ok (.invokevirtual 269, 3) := by decide +kernel
theorem dX9_added3_4 : decode cX9_added3 4 = .ok (.istore_n 1, 1) := by decide +kernel
theorem dX9_added3_5 : decode cX9_added3 5 = .ok (.aload_n 0, 1) := by decide +kernel
theorem dX9_added3_6 : decode cX9_added3 6 = .ok (.bipush 43, 2) := by decide +kernel
theorem dX9_added3_8 : decode cX9_added3 8 = .ok (.invokevirtual 215, 3) := by decide +kernel
theorem dX9_added3_11 : decode cX9_added3 11 = .ok (.ifCond .ne 12, 3) := by decide +kernel
theorem dX9_added3_14 : decode cX9_added3 14 = .ok (.aload_n 0, 1) := by decide +kernel
theorem dX9_added3_15 : decode cX9_added3 15 = .ok (.bipush 45, 2) := by decide +kernel
theorem dX9_added3_17 : decode cX9_added3 17 = .ok (.invokevirtual 215, 3) := by decide +kernel
theorem dX9_added3_20 : decode cX9_added3 20 = .ok (.ifCond .eq 46, 3) := by decide +kernel
theorem dX9_added3_23 : decode cX9_added3 23 = .ok (.aload_n 0, 1) := by decide +kernel
theorem dX9_added3_24 : decode cX9_added3 24 = .ok (.getfield 170, 3) := by decide +kernel
theorem dX9_added3_27 : decode cX9_added3 27 = .ok (.ldc2_w 232, 3) := by decide +kernel
theorem dX9_added3_30 : decode cX9_added3 30 = .ok (.lcmp, 1) := by decide +kernel
theorem dX9_added3_31 : decode cX9_added3 31 = .ok (.ifCond .ne 7, 3) := by decide +kernel
theorem dX9_added3_34 : decode cX9_added3 34 = .ok (.iconst 1, 1) := by decide +kernel
theorem dX9_added3_35 : decode cX9_added3 35 = .ok (.goto 4, 3) := by decide +kernel
theorem dX9_added3_38 : decode cX9_added3 38 = .ok (.iconst 0, 1) := by decide +kernel
theorem dX9_added3_39 : decode cX9_added3 39 = .ok (.istore_n 2, 1) := by decide +kernel
theorem dX9_added3_40 : decode cX9_added3 40 = .ok (.aload_n 0, 1) := by decide +kernel
theorem dX9_added3_41 : decode cX9_added3 41 = .ok (.invokevirtual 190, 3) := by decide +kernel
theorem dX9_added3_44 : decode cX9_added3 44 = .ok (.aload_n 0, 1) := by decide +kernel
theorem dX9_added3_45 : decode cX9_added3 45 = .ok (.invokevirtual 269, 3) := by decide +kernel
theorem dX9_added3_48 : decode cX9_added3 48 = .ok (.istore_n 3, 1) := by decide +kernel
theorem dX9_added3_49 : decode cX9_added3 49 = .ok (.iload_n 2, 1) := by decide +kernel
theorem dX9_added3_50 : decode cX9_added3 50 = .ok (.ifCond .eq 9, 3) := by decide +kernel
theorem dX9_added3_53 : decode cX9_added3 53 = .ok (.iload_n 1, 1) := by decide +kernel
theorem dX9_added3_54 : decode cX9_added3 54 = .ok (.iload_n 3, 1) := by decide +kernel
theorem dX9_added3_55 : decode cX9_added3 55 = .ok (.iadd, 1) := by decide +kernel
theorem dX9_added3_56 : decode cX9_added3 56 = .ok (.goto 6, 3) := by decide +kernel
theorem dX9_added3_59 : decode cX9_added3 59 = .ok (.iload_n 1, 1) := by decide +kernel
theorem dX9_added3_60 : decode cX9_added3 60 = .ok (.iload_n 3, 1) := by decide +kernel
theorem dX9_added3_61 : decode cX9_added3 61 = .ok (.isub, 1) := by decide +kernel
theorem dX9_added3_62 : decode cX9_added3 62 = .ok (.istore_n 1, 1) := by decide +kernel
theorem dX9_added3_63 : decode cX9_added3 63 = .ok (.goto (-58), 3) := by decide +kernel
theorem dX9_added3_66 : decode cX9_added3 66 = .ok (.iload_n 1, 1) := by decide +kernel
theorem dX9_added3_67 : decode cX9_added3 67 = .ok (.ireturn, 1) := by decide +kernel
theorem dX9_not3_0 : decode cX9_not3 0 = .ok (.aload_n 0, 1) := by decide +kernel
theorem dX9_not3_1 : decode cX9_not3 1 = .ok (.bipush 110, 2) := by decide +kernel
theorem dX9_not3_3 : decode cX9_not3 3 = .ok (.bipush 111, 2) := by decide +kernel
theorem dX9_not3_5 : decode cX9_not3 5 = .ok (.bipush 116, 2) := by decide +kernel
theorem dX9_not3_7 : decode cX9_not3 7 = .ok (.iconst 0, 1) := by decide +kernel
theorem dX9_not3_8 : decode cX9_not3 8 = .ok (.iconst 0, 1) := by decide +kernel
theorem dX9_not3_9 : decode cX9_not3 9 = .ok (.iconst 0, 1) := by decide +kernel
theorem dX9_not3_10 : decode cX9_not3 10 = .ok (.iconst 0, 1) := by decide +kernel
theorem dX9_not3_11 : decode cX9_not3 11 = .ok (.iconst 0, 1) := by decide +kernel
theorem dX9_not3_12 : decode cX9_not3 12 = .ok (.invokevirtual 193, 3) := by decide +kernel
theorem dX9_not3_15 : decode cX9_not3 15 = .ok (.ifCond .eq 37, 3) := by decide +kernel
theorem dX9_not3_18 : decode cX9_not3 18 = .ok (.aload_n 0, 1) := by decide +kernel
theorem dX9_not3_19 : decode cX9_not3 19 = .ok (.invokevirtual 218, 3) := by decide +kernel
theorem dX9_not3_22 : decode cX9_not3 22 = .ok (.ifCond .ne 5, 3) := by decide +kernel
theorem dX9_not3_25 : decode cX9_not3 25 = .ok (.iconst 0, 1) := by decide +kernel
theorem dX9_not3_26 : decode cX9_not3 26 = .ok (.ireturn, 1) := by decide +kernel
theorem dX9_not3_27 : decode cX9_not3 27 = .ok (.aload_n 0, 1) := by decide +kernel
theorem dX9_not3_28 : decode cX9_not3 28 = .ok (.invokevirtual 257, 3) := by decide +kernel
theorem dX9_not3_31 : decode cX9_not3 31 = .ok (.istore_n 1, 1) := by decide +kernel
theorem dX9_not3_32 : decode cX9_not3 32 = .ok (.aload_n 0, 1) := by decide +kernel
theorem dX9_not3_33 : decode cX9_not3 33 = .ok (.dup, 1) := by decide +kernel
theorem dX9_not3_34 : decode cX9_not3 34 = .ok (.getfield 184, 3) := by decide +kernel
theorem dX9_not3_37 : decode cX9_not3 37 = .ok (.iconst 1, 1) := by decide +kernel
theorem dX9_not3_38 : decode cX9_not3 38 = .ok (.isub, 1) := by decide +kernel
theorem dX9_not3_39 : decode cX9_not3 39 = .ok (.putfield 184, 3) := by decide +kernel
theorem dX9_not3_42 : decode cX9_not3 42 = .ok (.iload_n 1, 1) := by decide +kernel
theorem dX9_not3_43 : decode cX9_not3 43 = .ok (.ifCond .ne 7, 3) := by decide +kernel
theorem dX9_not3_46 : decode cX9_not3 46 = .ok (.iconst 1, 1) := by decide +kernel
theorem dX9_not3_47 : decode cX9_not3 47 = .ok (.goto 4, 3) := by decide +kernel
theorem dX9_not3_50 : decode cX9_not3 50 = .ok (.iconst 0, 1) := by decide +kernel
theorem dX9_not3_51 : decode cX9_not3 51 = .ok (.ireturn, 1) := by decide +kernel
theorem dX9_not3_52 : decode cX9_not3 52 = .ok (.aload_n 0, 1) := by decide +kernel
theorem dX9_not3_53 : decode cX9_not3 53 = .ok (.invokevirtual 272, 3) := by decide +kernel
theorem dX9_not3_56 : decode cX9_not3 56 = .ok (.istore_n 1, 1) := by decide +kernel
theorem dX9_not3_57 : decode cX9_not3 57 = .ok (.aload_n 0, 1) := by decide +kernel
theorem dX9_not3_58 : decode cX9_not3 58 = .ok (.bipush 60, 2) := by decide +kernel
theorem dX9_not3_60 : decode cX9_not3 60 = .ok (.invokevirtual 215, 3) := by decide +kernel
theorem dX9_not3_63 : decode cX9_not3 63 = .ok (.ifCond .ne 14, 3) := by decide +kernel
theorem dX9_not3_66 : decode cX9_not3 66 = .ok (.aload_n 0, 1) := by decide +kernel
theorem dX9_not3_67 : decode cX9_not3 67 = .ok (.bipush 61, 2) := by decide +kernel
theorem dX9_not3_69 : decode cX9_not3 69 = .ok (.invokevirtual 215, 3) := by decide +kernel
theorem dX9_not3_72 : decode cX9_not3 72 = .ok (.ifCond .ne 5, 3) := by decide +kernel
theorem dX9_not3_75 : decode cX9_not3 75 = .ok (.iload_n 1, 1) := by decide +kernel
theorem dX9_not3_76 : decode cX9_not3 76 = .ok (.ireturn, 1) := by decide +kernel
theorem dX9_not3_77 : decode cX9_not3 77 = .ok (.aload_n 0, 1) := by decide +kernel
theorem dX9_not3_78 : decode cX9_not3 78 = .ok (.getfield 170, 3) := by decide +kernel
theorem dX9_not3_81 : decode cX9_not3 81 = .ok (.ldc2_w 237, 3) := by decide +kernel
theorem dX9_not3_84 : decode cX9_not3 84 = .ok (.lcmp, 1) := by decide +kernel
theorem dX9_not3_85 : decode cX9_not3 85 = .ok (.ifCond .ne 7, 3) := by decide +kernel
theorem dX9_not3_88 : decode cX9_not3 88 = .ok (.iconst 1, 1) := by decide +kernel
theorem dX9_not3_89 : decode cX9_not3 89 = .ok (.goto 4, 3) := by decide +kernel
theorem dX9_not3_92 : decode cX9_not3 92 = .ok (.iconst 0, 1) := by decide +kernel
theorem dX9_not3_93 : decode cX9_not3 93 = .ok (.istore_n 2, 1) := by decide +kernel
theorem dX9_not3_94 : decode cX9_not3 94 = .ok (.aload_n 0, 1) := by decide +kernel
theorem dX9_not3_95 : decode cX9_not3 95 = .ok (.invokevirtual 190, 3) := by decide +kernel
theorem dX9_not3_98 : decode cX9_not3 98 = .ok (.aload_n 0, 1) := by decide +kernel
theorem dX9_not3_99 : decode cX9_not3 99 = .ok (.invokevirtual 272, 3) := by decide +kernel
theorem dX9_not3_102 : decode cX9_not3 102 = .ok (.istore_n 3, 1) := by decide +kernel
theorem dX9_not3_103 : decode cX9_not3 103 = .ok (.iload_n 2, 1) := by decide +kernel
theorem dX9_not3_104 : decode cX9_not3 104 = .ok (.ifCond .eq 11, 3) := by decide +kernel
theorem dX9_not3_107 : decode cX9_not3 107 = .ok (.iload_n 1, 1) := by decide +kernel
theorem dX9_not3_108 : decode cX9_not3 108 = .ok (.iload_n 3, 1) := by decide +kernel
theorem dX9_not3_109 : decode cX9_not3 109 = .ok (.if_icmp .ge 15, 3) := by decide +kernel
theorem dX9_not3_112 : decode cX9_not3 112 = .ok (.goto 8, 3) := by decide +kernel
theorem dX9_not3_115 : decode cX9_not3 115 = .ok (.iload_n 1, 1) := by decide +kernel
theorem dX9_not3_116 : decode cX9_not3 116 = .ok (.iload_n 3, 1) := by decide +kernel
theorem dX9_not3_117 : decode cX9_not3 117 = .ok (.if_icmp .ne 7, 3) := by decide +kernel
theorem dX9_not3_120 : decode cX9_not3 120 = .ok (.iconst 1, 1) := by decide +kernel
theorem dX9_not3_121 : decode cX9_not3 121 = .ok (.goto 4, 3) := by decide +kernel
theorem dX9_not3_124 : decode cX9_not3 124 = .ok (.iconst 0, 1) := by decide +kernel
theorem dX9_not3_125 : decode cX9_not3 125 = .ok (.ireturn, 1) := by decide +kernel
theorem dX9_both3_0 : decode cX9_both3 0 = .ok (.aload_n 0, 1) := by decide +kernel
theorem dX9_both3_1 : decode cX9_both3 1 = .ok (.invokevirtual 275, 3) := by decide +kernel
theorem dX9_both3_4 : decode cX9_both3 4 = .ok (.istore_n 1, 1) := by decide +kernel
theorem dX9_both3_5 : decode cX9_both3 5 = .ok (.aload_n 0, 1) := by decide +kernel
theorem dX9_both3_6 : decode cX9_both3 6 = .ok (.bipush 97, 2) := by decide +kernel
theorem dX9_both3_8 : decode cX9_both3 8 = .ok (.bipush 110, 2) := by decide +kernel
theorem dX9_both3_10 : decode cX9_both3 10 = .ok (.bipush 100, 2) := by decide +kernel
theorem dX9_both3_12 : decode cX9_both3 12 = .ok (.iconst 0, 1) := by decide +kernel
theorem dX9_both3_13 : decode cX9_both3 13 = .ok (.iconst 0, 1) := by decide +kernel
theorem dX9_both3_14 : decode cX9_both3 14 = .ok (.iconst 0, 1) := by decide +kernel
theorem dX9_both3_15 : decode cX9_both3 15 = .ok (.iconst 0, 1) := by decide +kernel
theorem dX9_both3_16 : decode cX9_both3 16 = .ok (.iconst 0, 1) := by decide +kernel
theorem dX9_both3_17 : decode cX9_both3 17 = .ok (.invokevirtual 193, 3) := by decide +kernel
theorem dX9_both3_20 : decode cX9_both3 20 = .ok (.ifCond .eq 29, 3) := by decide +kernel
theorem dX9_both3_23 : decode cX9_both3 23 = .ok (.aload_n 0, 1) := by decide +kernel
theorem dX9_both3_24 : decode cX9_both3 24 = .ok (.invokevirtual 190, 3) := by decide +kernel
theorem dX9_both3_27 : decode cX9_both3 27 = .ok (.aload_n 0, 1) := by decide +kernel
theorem dX9_both3_28 : decode cX9_both3 28 = .ok (.invokevirtual 275, 3) := by decide +kernel
theorem dX9_both3_31 : decode cX9_both3 31 = .ok (.istore_n 2, 1) := by decide +kernel
theorem dX9_both3_32 : decode cX9_both3 32 = .ok (.iload_n 1, 1) := by decide +kernel
theorem dX9_both3_33 : decode cX9_both3 33 = .ok (.ifCond .eq 11, 3) := by decide +kernel
theorem dX9_both3_36 : decode cX9_both3 36 = .ok (.iload_n 2, 1) := by decide +kernel
theorem dX9_both3_37 : decode cX9_both3 37 = .ok (.ifCond .eq 7, 3) := by decide +kernel
theorem dX9_both3_40 : decode cX9_both3 40 = .ok (.iconst 1, 1) := by decide +kernel
theorem dX9_both3_41 : decode cX9_both3 41 = .ok (.goto 4, 3) := by decide +kernel
theorem dX9_both3_44 : decode cX9_both3 44 = .ok (.iconst 0, 1) := by decide +kernel
theorem dX9_both3_45 : decode cX9_both3 45 = .ok (.istore_n 1, 1) := by decide +kernel
theorem dX9_both3_46 : decode cX9_both3 46 = .ok (.goto (-41), 3) := by decide +kernel
theorem dX9_both3_49 : decode cX9_both3 49 = .ok (.iload_n 1, 1) := by decide +kernel
theorem dX9_both3_50 : decode cX9_both3 50 = .ok (.ireturn, 1) := by decide +kernel
theorem dX9_either3_0 : decode cX9_either3 0 = .ok (.aload_n 0, 1) := by decide +kernel
theorem dX9_either3_1 : decode cX9_either3 1 = .ok (.invokevirtual 278, 3) := by decide +kernel
theorem dX9_either3_4 : decode cX9_either3 4 = .ok (.istore_n 1, 1) := by decide +kernel
theorem dX9_either3_5 : decode cX9_either3 5 = .ok (.aload_n 0, 1) := by decide +kernel
theorem dX9_either3_6 : decode cX9_either3 6 = .ok (.bipush 111, 2) := by decide +kernel
theorem dX9_either3_8 : decode cX9_either3 8 = .ok (.bipush 114, 2) := by decide +kernel
theorem dX9_either3_10 : decode cX9_either3 10 = .ok (.iconst 0, 1) := by decide +kernel
theorem dX9_either3_11 : decode cX9_either3 11 = .ok (.iconst 0, 1) := by decide +kernel
theorem dX9_either3_12 : decode cX9_either3 12 = .ok (.iconst 0, 1) := by decide +kernel
theorem dX9_either3_13 : decode cX9_either3 13 = .ok (.iconst 0, 1) := by decide +kernel
theorem dX9_either3_14 : decode cX9_either3 14 = .ok (.iconst 0, 1) := by decide +kernel
theorem dX9_either3_15 : decode cX9_either3 15 = .ok (.iconst 0, 1) := by decide +kernel
theorem dX9_either3_16 : decode cX9_either3 16 = .ok (.invokevirtual 193, 3) := by decide +kernel
theorem dX9_either3_19 : decode cX9_either3 19 = .ok (.ifCond .eq 29, 3) := by decide +kernel
theorem dX9_either3_22 : decode cX9_either3 22 = .ok (.aload_n 0, 1) := by decide +kernel
theorem dX9_either3_23 : decode cX9_either3 23 = .ok (.invokevirtual 190, 3) := by decide +kernel
theorem dX9_either3_26 : decode cX9_either3 26 = .ok (.aload_n 0, 1) := by decide +kernel
theorem dX9_either3_27 : decode cX9_either3 27 = .ok (.invokevirtual 278, 3) := by decide +kernel
theorem dX9_either3_30 : decode cX9_either3 30 = .ok (.istore_n 2, 1) := by decide +kernel
theorem dX9_either3_31 : decode cX9_either3 31 = .ok (.iload_n 1, 1) := by decide +kernel
theorem dX9_either3_32 : decode cX9_either3 32 = .ok (.ifCond .ne 7, 3) := by decide +kernel
theorem dX9_either3_35 : decode cX9_either3 35 = .ok (.iload_n 2, 1) := by decide +kernel
theorem dX9_either3_36 : decode cX9_either3 36 = .ok (.ifCond .eq 7, 3) := by decide +kernel
theorem dX9_either3_39 : decode cX9_either3 39 = .ok (.iconst 1, 1) := by decide +kernel
theorem dX9_either3_40 : decode cX9_either3 40 = .ok (.goto 4, 3) := by decide +kernel
theorem dX9_either3_43 : decode cX9_either3 43 = .ok (.iconst 0, 1) := by decide +kernel
theorem dX9_either3_44 : decode cX9_either3 44 = .ok (.istore_n 1, 1) := by decide +kernel
theorem dX9_either3_45 : decode cX9_either3 45 = .ok (.goto (-40), 3) := by decide +kernel
theorem dX9_either3_48 : decode cX9_either3 48 = .ok (.iload_n 1, 1) := by decide +kernel
theorem dX9_either3_49 : decode cX9_either3 49 = .ok (.ireturn, 1) := by decide +kernel
theorem dX9_atom2_0 : decode cX9_atom2 0 = .ok (.iconst 0, 1) := by decide +kernel
theorem dX9_atom2_1 : decode cX9_atom2 1 = .ok (.istore_n 1, 1) := by decide +kernel
theorem dX9_atom2_2 : decode cX9_atom2 2 = .ok (.aload_n 0, 1) := by decide +kernel
theorem dX9_atom2_3 : decode cX9_atom2 3 = .ok (.bipush 45, 2) := by decide +kernel
theorem dX9_atom2_5 : decode cX9_atom2 5 = .ok (.invokevirtual 215, 3) := by decide +kernel
theorem dX9_atom2_8 : decode cX9_atom2 8 = .ok (.ifCond .eq 29, 3) := by decide +kernel
theorem dX9_atom2_11 : decode cX9_atom2 11 = .ok (.aload_n 0, 1) := by decide +kernel
theorem dX9_atom2_12 : decode cX9_atom2 12 = .ok (.invokevirtual 218, 3) := by decide +kernel
theorem dX9_atom2_15 : decode cX9_atom2 15 = .ok (.ifCond .eq 146, 3) := by decide +kernel
theorem dX9_atom2_18 : decode cX9_atom2 18 = .ok (.aload_n 0, 1) := by decide +kernel
theorem dX9_atom2_19 : decode cX9_atom2 19 = .ok (.invokevirtual 266, 3) := by decide +kernel
theorem dX9_atom2_22 : decode cX9_atom2 22 = .ok (.ineg, 1) := by decide +kernel
theorem dX9_atom2_23 : decode cX9_atom2 23 = .ok (.istore_n 1, 1) := by decide +kernel
theorem dX9_atom2_24 : decode cX9_atom2 24 = .ok (.aload_n 0, 1) := by decide +kernel
theorem dX9_atom2_25 : decode cX9_atom2 25 = .ok (.dup, 1) := by decide +kernel
theorem dX9_atom2_26 : decode cX9_atom2 26 = .ok (.getfield 184, 3) := by decide +kernel
theorem dX9_atom2_29 : decode cX9_atom2 29 = .ok (.iconst 1, 1) := by decide +kernel
theorem dX9_atom2_30 : decode cX9_atom2 30 = .ok (.isub, 1) := by decide +kernel
theorem dX9_atom2_31 : decode cX9_atom2 31 = .ok (.putfield 184, 3) := by decide +kernel
theorem dX9_atom2_34 : decode cX9_atom2 34 = .ok (.goto 127, 3) := by decide +kernel
theorem dX9_atom2_37 : decode cX9_atom2 37 = .ok (.aload_n 0, 1) := by decide +kernel
theorem dX9_atom2_38 : decode cX9_atom2 38 = .ok (.bipush 40, 2) := by decide +kernel
theorem dX9_atom2_40 : decode cX9_atom2 40 = .ok (.invokevirtual 215, 3) := by decide +kernel
theorem dX9_atom2_43 : decode cX9_atom2 43 = .ok (.ifCond .eq 52, 3) := by decide +kernel
theorem dX9_atom2_46 : decode cX9_atom2 46 = .ok (.aload_n 0, 1) := by decide +kernel
theorem dX9_atom2_47 : decode cX9_atom2 47 = .ok (.invokevirtual 218, 3) := by decide +kernel
theorem dX9_atom2_50 : decode cX9_atom2 50 = .ok (.ifCond .eq 111, 3) := by decide +kernel
theorem dX9_atom2_53 : decode cX9_atom2 53 = .ok (.aload_n 0, 1) := by decide +kernel
theorem dX9_atom2_54 : decode cX9_atom2 54 = .ok (.invokevirtual 281, 3) := by decide +kernel
theorem dX9_atom2_57 : decode cX9_atom2 57 = .ok (.istore_n 1, 1) := by decide +kernel
theorem dX9_atom2_58 : decode cX9_atom2 58 = .ok (.aload_n 0, 1) := by decide +kernel
theorem dX9_atom2_59 : decode cX9_atom2 59 = .ok (.bipush 41, 2) := by decide +kernel
theorem dX9_atom2_61 : decode cX9_atom2 61 = .ok (.invokevirtual 215, 3) := by decide +kernel
theorem dX9_atom2_64 : decode cX9_atom2 64 = .ok (.ifCond .ne 7, 3) := by decide +kernel
theorem dX9_atom2_67 : decode cX9_atom2 67 = .ok (.aload_n 0, 1) := by decide +kernel
theorem dX9_atom2_68 : decode cX9_atom2 68 = .ok (.invokevirtual 187, 3) := by decide +kernel
theorem dX9_atom2_71 : decode cX9_atom2 71 = .ok (.aload_n 0, 1) := by decide +kernel
theorem dX9_atom2_72 : decode cX9_atom2 72 = .ok (.dup, 1) := by decide +kernel
theorem dX9_atom2_73 : decode cX9_atom2 73 = .ok (.getfield 184, 3) := by decide +kernel
theorem dX9_atom2_76 : decode cX9_atom2 76 = .ok (.iconst 1, 1) := by decide +kernel
theorem dX9_atom2_77 : decode cX9_atom2 77 = .ok (.isub, 1) := by decide +kernel
theorem dX9_atom2_78 : decode cX9_atom2 78 = .ok (.putfield 184, 3) := by decide +kernel
theorem dX9_atom2_81 : decode cX9_atom2 81 = .ok (.aload_n 0, 1) := by decide +kernel
theorem dX9_atom2_82 : decode cX9_atom2 82 = .ok (.getfield 174, 3) := by decide +kernel
theorem dX9_atom2_85 : decode cX9_atom2 85 = .ok (.ifCond .ne 76, 3) := by decide +kernel
theorem dX9_atom2_88 : decode cX9_atom2 88 = .ok (.aload_n 0, 1) := by decide +kernel
theorem dX9_atom2_89 : decode cX9_atom2 89 = .ok (.invokevirtual 190, 3) := by decide +kernel
theorem dX9_atom2_92 : decode cX9_atom2 92 = .ok (.goto 69, 3) := by decide +kernel
theorem dX9_atom2_95 : decode cX9_atom2 95 = .ok (.aload_n 0, 1) := by decide +kernel
theorem dX9_atom2_96 : decode cX9_atom2 96 = .ok (.getfield 174, 3) := by decide +kernel
theorem dX9_atom2_99 : decode cX9_atom2 99 = .ok (.ifCond .ne 24, 3) := by decide +kernel
theorem dX9_atom2_102 : decode cX9_atom2 102 = .ok (.aload_n 0, 1) := by decide +kernel
theorem dX9_atom2_103 : decode cX9_atom2 103 = .ok (.getfield 159, 3) := by decide +kernel
theorem dX9_atom2_106 : decode cX9_atom2 106 = .ok (.iconst 2, 1) := by decide +kernel
theorem dX9_atom2_107 : decode cX9_atom2 107 = .ok (.if_icmp .ne 16, 3) := by decide +kernel
theorem dX9_atom2_110 : decode cX9_atom2 110 = .ok (.aload_n 0, 1) := by decide +kernel
theorem dX9_atom2_111 : decode cX9_atom2 111 = .ok (.getfield 170, 3) := by decide +kernel
theorem dX9_atom2_114 : decode cX9_atom2 114 = .ok (.l2i, 1) := by decide +kernel
theorem dX9_atom2_115 : decode cX9_atom2 115 = .ok (.istore_n 1, 1) := by decide +kernel
theorem dX9_atom2_116 : decode cX9_atom2 116 = .ok (.aload_n 0, 1) := by decide +kernel
theorem dX9_atom2_117 : decode cX9_atom2 117 = .ok (.invokevirtual 190, 3) := by decide +kernel
theorem dX9_atom2_120 : decode cX9_atom2 120 = .ok (.goto 41, 3) := by decide +kernel
theorem dX9_atom2_123 : decode cX9_atom2 123 = .ok (.aload_n 0, 1) := by decide +kernel
theorem dX9_atom2_124 : decode cX9_atom2 124 = .ok (.getfield 174, 3) := by decide +kernel
theorem dX9_atom2_127 : decode cX9_atom2 127 = .ok (.ifCond .ne 30, 3) := by decide +kernel
theorem dX9_atom2_130 : decode cX9_atom2 130 = .ok (.aload_n 0, 1) := by decide +kernel
theorem dX9_atom2_131 : decode cX9_atom2 131 = .ok (.getfield 159, 3) := by decide +kernel
theorem dX9_atom2_134 : decode cX9_atom2 134 = .ok (.iconst 1, 1) := by decide +kernel
theorem dX9_atom2_135 : decode cX9_atom2 135 = .ok (.if_icmp .ne 22, 3) := by decide +kernel
theorem dX9_atom2_138 : decode cX9_atom2 138 = .ok (.aload_n 0, 1) := by decide +kernel
theorem dX9_atom2_139 : decode cX9_atom2 139 = .ok (.invokevirtual 222, 3) := by decide +kernel
theorem dX9_atom2_142 : decode cX9_atom2 142 = .ok (.istore_n 1, 1) := by decide +kernel
theorem dX9_atom2_143 : decode cX9_atom2 143 = .ok (.aload_n 0, 1) := by decide +kernel
theorem dX9_atom2_144 : decode cX9_atom2 144 = .ok (.getfield 174, 3) := by decide +kernel
theorem dX9_atom2_147 : decode cX9_atom2 147 = .ok (.ifCond .ne 14, 3) := by decide +kernel
theorem dX9_atom2_150 : decode cX9_atom2 150 = .ok (.aload_n 0, 1) := by decide +kernel
theorem dX9_atom2_151 : decode cX9_atom2 151 = .ok (.invokevirtual 190, 3) := by decide +kernel
theorem dX9_atom2_154 : decode cX9_atom2 154 = .ok (.goto 7, 3) := by decide +kernel
theorem dX9_atom2_157 : decode cX9_atom2 157 = .ok (.aload_n 0, 1) := by decide +kernel
theorem dX9_atom2_158 : decode cX9_atom2 158 = .ok (.invokevirtual 187, 3) := by decide +kernel
theorem dX9_atom2_161 : decode cX9_atom2 161 = .ok (.iload_n 1, 1) := by decide +kernel
theorem dX9_atom2_162 : decode cX9_atom2 162 = .ok (.ireturn, 1) := by decide +kernel
theorem dX9_term2_0 : decode cX9_term2 0 = .ok (.aload_n 0, 1) := by decide +kernel
theorem dX9_term2_1 : decode cX9_term2 1 = .ok (.invokevirtual 284, 3) := by decide +kernel
theorem dX9_term2_4 : decode cX9_term2 4 = .ok (.istore_n 1, 1) := by decide +kernel
theorem dX9_term2_5 : decode cX9_term2 5 = .ok (.aload_n 0, 1) := by decide +kernel
theorem dX9_term2_6 : decode cX9_term2 6 = .ok (.bipush 42, 2) := by decide +kernel
theorem dX9_term2_8 : decode cX9_term2 8 = .ok (.invokevirtual 215, 3) := by decide +kernel
theorem dX9_term2_11 : decode cX9_term2 11 = .ok (.ifCond .eq 17, 3) := by decide +kernel
theorem dX9_term2_14 : decode cX9_term2 14 = .ok (.aload_n 0, 1) := by decide +kernel
theorem dX9_term2_15 : decode cX9_term2 15 = .ok (.invokevirtual 190, 3) := by decide +kernel
theorem dX9_term2_18 : decode cX9_term2 18 = .ok (.iload_n 1, 1) := by decide +kernel
theorem dX9_term2_19 : decode cX9_term2 19 = .ok (.aload_n 0, 1) := by decide +kernel
theorem dX9_term2_20 : decode cX9_term2 20 = .ok (.invokevirtual 284, 3) := by decide +kernel
theorem dX9_term2_23 : decode cX9_term2 23 = .ok (.imul, 1) := by decide +kernel
theorem dX9_term2_24 : decode cX9_term2 24 = .ok (.istore_n 1, 1) := by decide +kernel
theorem dX9_term2_25 : decode cX9_term2 25 = .ok (.goto (-20), 3) := by decide +kernel
theorem dX9_term2_28 : decode cX9_term2 28 = .ok (.iload_n 1, 1) := by decide +kernel
theorem dX9_term2_29 : decode cX9_term2 29 = .ok (.ireturn, 1) := by decide +kernel
theorem dX9_added2_0 : decode cX9_added2 0 = .ok (.aload_n 0, 1) := by decide +kernel
theorem dX9_added2_1 : decode cX9_added2 1 = .ok (.invokevirtual 287, 3) := by decide +kernel
theorem dX9_added2_4 : decode cX9_added2 4 = .ok (.istore_n 1, 1) := by decide +kernel
theorem dX9_added2_5 : decode cX9_added2 5 = .ok (.aload_n 0, 1) := by decide +kernel
theorem dX9_added2_6 : decode cX9_added2 6 = .ok (.bipush 43, 2) := by decide +kernel
theorem dX9_added2_8 : decode cX9_added2 8 = .ok (.invokevirtual 215, 3) := by decide +kernel
theorem dX9_added2_11 : decode cX9_added2 11 = .ok (.ifCond .ne 12, 3) := by decide +kernel
theorem dX9_added2_14 : decode cX9_added2 14 = .ok (.aload_n 0, 1) := by decide +kernel
theorem dX9_added2_15 : decode cX9_added2 15 = .ok (.bipush 45, 2) := by decide +kernel
theorem dX9_added2_17 : decode cX9_added2 17 = .ok (.invokevirtual 215, 3) := by decide +kernel
theorem dX9_added2_20 : decode cX9_added2 20 = .ok (.ifCond .eq 46, 3) := by decide +kernel
theorem dX9_added2_23 : decode cX9_added2 23 = .ok (.aload_n 0, 1) := by decide +kernel
theorem dX9_added2_24 : decode cX9_added2 24 = .ok (.getfield 170, 3) := by decide +kernel
theorem dX9_added2_27 : decode cX9_added2 27 = .ok (.ldc2_w 232, 3) := by decide +kernel
theorem dX9_added2_30 : decode cX9_added2 30 = .ok (.lcmp, 1) := by decide +kernel
theorem dX9_added2_31 : decode cX9_added2 31 = .ok (.ifCond .ne 7, 3) := by decide +kernel
theorem dX9_added2_34 : decode cX9_added2 34 = .ok (.iconst 1, 1) := by decide +kernel
theorem dX9_added2_35 : decode cX9_added2 35 = .ok (.goto 4, 3) := by decide +kernel
theorem dX9_added2_38 : decode cX9_added2 38 = .ok (.iconst 0, 1) := by decide +kernel
theorem dX9_added2_39 : decode cX9_added2 39 = .ok (.istore_n 2, 1) := by decide +kernel
theorem dX9_added2_40 : decode cX9_added2 40 = .ok (.aload_n 0, 1) := by decide +kernel
theorem dX9_added2_41 : decode cX9_added2 41 = .ok (.invokevirtual 190, 3) := by decide +kernel
theorem dX9_added2_44 : decode cX9_added2 44 = .ok (.aload_n 0, 1) := by decide +kernel
theorem dX9_added2_45 : decode cX9_added2 45 = .ok (.invokevirtual 287, 3) := by decide +kernel
theorem dX9_added2_48 : decode cX9_added2 48 = .ok (.istore_n 3, 1) := by decide +kernel
theorem dX9_added2_49 : decode cX9_added2 49 = .ok (.iload_n 2, 1) := by decide +kernel
theorem dX9_added2_50 : decode cX9_added2 50 = .ok (.ifCond .eq 9, 3) := by decide +kernel
theorem dX9_added2_53 : decode cX9_added2 53 = .ok (.iload_n 1, 1) := by decide +kernel
theorem dX9_added2_54 : decode cX9_added2 54 = .ok (.iload_n 3, 1) := by decide +kernel
theorem dX9_added2_55 : decode cX9_added2 55 = .ok (.iadd, 1) := by decide +kernel
theorem dX9_added2_56 : decode cX9_added2 56 = .ok (.goto 6, 3) := by decide +kernel
theorem dX9_added2_59 : decode cX9_added2 59 = .ok (.iload_n 1, 1) := by decide +kernel
theorem dX9_added2_60 : decode cX9_added2 60 = .ok (.iload_n 3, 1) := by decide +kernel
theorem dX9_added2_61 : decode cX9_added2 61 = .ok (.isub, 1) := by decide +kernel
theorem dX9_added2_62 : decode cX9_added2 62 = .ok (.istore_n 1, 1) := by decide +kernel
theorem dX9_added2_63 : decode cX9_added2 63 = .ok (.goto (-58), 3) := by decide +kernel
theorem dX9_added2_66 : decode cX9_added2 66 = .ok (.iload_n 1, 1) := by decide +kernel
theorem dX9_added2_67 : decode cX9_added2 67 = .ok (.ireturn, 1) := by decide +kernel
theorem dX9_not2_0 : decode cX9_not2 0 = .ok (.aload_n 0, 1) := by decide +kernel
theorem dX9_not2_1 : decode cX9_not2 1 = .ok (.bipush 110, 2) := by decide +kernel
theorem dX9_not2_3 : decode cX9_not2 3 = .ok (.bipush 111, 2) := by decide +kernel
theorem dX9_not2_5 : decode cX9_not2 5 = .ok (.bipush 116, 2) := by decide +kernel
theorem dX9_not2_7 : decode cX9_not2 7 = .ok (.iconst 0, 1) := by decide +kernel
theorem dX9_not2_8 : decode cX9_not2 8 = .ok (.iconst 0, 1) := by decide +kernel
theorem dX9_not2_9 : decode cX9_not2 9 = .ok (.iconst 0, 1) := by decide +kernel
theorem dX9_not2_10 : decode cX9_not2 10 = .ok (.iconst 0, 1) := by decide +kernel
theorem dX9_not2_11 : decode cX9_not2 11 = .ok (.iconst 0, 1) := by decide +kernel
theorem dX9_not2_12 : decode cX9_not2 12 = .ok (.invokevirtual 193, 3) := by decide +kernel
theorem dX9_not2_15 : decode cX9_not2 15 = .ok (.ifCond .eq 37, 3) := by decide +kernel
theorem dX9_not2_18 : decode cX9_not2 18 = .ok (.aload_n 0, 1) := by decide +kernel
theorem dX9_not2_19 : decode cX9_not2 19 = .ok (.invokevirtual 218, 3) := by decide +kernel
theorem dX9_not2_22 : decode cX9_not2 22 = .ok (.ifCond .ne 5, 3) := by decide +kernel
theorem dX9_not2_25 : decode cX9_not2 25 = .ok (.iconst 0, 1) := by decide +kernel
theorem dX9_not2_26 : decode cX9_not2 26 = .ok (.ireturn, 1) := by decide +kernel
theorem dX9_not2_27 : decode cX9_not2 27 = .ok (.aload_n 0, 1) := by decide +kernel
theorem dX9_not2_28 : decode cX9_not2 28 = .ok (.invokevirtual 275, 3) := by decide +kernel
theorem dX9_not2_31 : decode cX9_not2 31 = .ok (.istore_n 1, 1) := by decide +kernel
theorem dX9_not2_32 : decode cX9_not2 32 = .ok (.aload_n 0, 1) := by decide +kernel
theorem dX9_not2_33 : decode cX9_not2 33 = .ok (.dup, 1) := by decide +kernel
theorem dX9_not2_34 : decode cX9_not2 34 = .ok (.getfield 184, 3) := by decide +kernel
theorem dX9_not2_37 : decode cX9_not2 37 = .ok (.iconst 1, 1) := by decide +kernel
theorem dX9_not2_38 : decode cX9_not2 38 = .ok (.isub, 1) := by decide +kernel
theorem dX9_not2_39 : decode cX9_not2 39 = .ok (.putfield 184, 3) := by decide +kernel
theorem dX9_not2_42 : decode cX9_not2 42 = .ok (.iload_n 1, 1) := by decide +kernel
theorem dX9_not2_43 : decode cX9_not2 43 = .ok (.ifCond .ne 7, 3) := by decide +kernel
theorem dX9_not2_46 : decode cX9_not2 46 = .ok (.iconst 1, 1) := by decide +kernel
theorem dX9_not2_47 : decode cX9_not2 47 = .ok (.goto 4, 3) := by decide +kernel
theorem dX9_not2_50 : decode cX9_not2 50 = .ok (.iconst 0, 1) := by decide +kernel
theorem dX9_not2_51 : decode cX9_not2 51 = .ok (.ireturn, 1) := by decide +kernel
theorem dX9_not2_52 : decode cX9_not2 52 = .ok (.aload_n 0, 1) := by decide +kernel
theorem dX9_not2_53 : decode cX9_not2 53 = .ok (.invokevirtual 290, 3) := by decide +kernel
theorem dX9_not2_56 : decode cX9_not2 56 = .ok (.istore_n 1, 1) := by decide +kernel
theorem dX9_not2_57 : decode cX9_not2 57 = .ok (.aload_n 0, 1) := by decide +kernel
theorem dX9_not2_58 : decode cX9_not2 58 = .ok (.bipush 60, 2) := by decide +kernel
theorem dX9_not2_60 : decode cX9_not2 60 = .ok (.invokevirtual 215, 3) := by decide +kernel
theorem dX9_not2_63 : decode cX9_not2 63 = .ok (.ifCond .ne 14, 3) := by decide +kernel
theorem dX9_not2_66 : decode cX9_not2 66 = .ok (.aload_n 0, 1) := by decide +kernel
theorem dX9_not2_67 : decode cX9_not2 67 = .ok (.bipush 61, 2) := by decide +kernel
theorem dX9_not2_69 : decode cX9_not2 69 = .ok (.invokevirtual 215, 3) := by decide +kernel
theorem dX9_not2_72 : decode cX9_not2 72 = .ok (.ifCond .ne 5, 3) := by decide +kernel
theorem dX9_not2_75 : decode cX9_not2 75 = .ok (.iload_n 1, 1) := by decide +kernel
theorem dX9_not2_76 : decode cX9_not2 76 = .ok (.ireturn, 1) := by decide +kernel
theorem dX9_not2_77 : decode cX9_not2 77 = .ok (.aload_n 0, 1) := by decide +kernel
theorem dX9_not2_78 : decode cX9_not2 78 = .ok (.getfield 170, 3) := by decide +kernel
theorem dX9_not2_81 : decode cX9_not2 81 = .ok (.ldc2_w 237, 3) := by decide +kernel
theorem dX9_not2_84 : decode cX9_not2 84 = .ok (.lcmp, 1) := by decide +kernel
theorem dX9_not2_85 : decode cX9_not2 85 = .ok (.ifCond .ne 7, 3) := by decide +kernel
theorem dX9_not2_88 : decode cX9_not2 88 = .ok (.iconst 1, 1) := by decide +kernel
theorem dX9_not2_89 : decode cX9_not2 89 = .ok (.goto 4, 3) := by decide +kernel
theorem dX9_not2_92 : decode cX9_not2 92 = .ok (.iconst 0, 1) := by decide +kernel
theorem dX9_not2_93 : decode cX9_not2 93 = .ok (.istore_n 2, 1) := by decide +kernel
theorem dX9_not2_94 : decode cX9_not2 94 = .ok (.aload_n 0, 1) := by decide +kernel
theorem dX9_not2_95 : decode cX9_not2 95 = .ok (.invokevirtual 190, 3) := by decide +kernel
theorem dX9_not2_98 : decode cX9_not2 98 = .ok (.aload_n 0, 1) := by decide +kernel
theorem dX9_not2_99 : decode cX9_not2 99 = .ok (.invokevirtual 290, 3) := by decide +kernel
theorem dX9_not2_102 : decode cX9_not2 102 = .ok (.istore_n 3, 1) := by decide +kernel
theorem dX9_not2_103 : decode cX9_not2 103 = .ok (.iload_n 2, 1) := by decide +kernel
theorem dX9_not2_104 : decode cX9_not2 104 = .ok (.ifCond .eq 11, 3) := by decide +kernel
theorem dX9_not2_107 : decode cX9_not2 107 = .ok (.iload_n 1, 1) := by decide +kernel
theorem dX9_not2_108 : decode cX9_not2 108 = .ok (.iload_n 3, 1) := by decide +kernel
theorem dX9_not2_109 : decode cX9_not2 109 = .ok (.if_icmp .ge 15, 3) := by decide +kernel
theorem dX9_not2_112 : decode cX9_not2 112 = .ok (.goto 8, 3) := by decide +kernel
theorem dX9_not2_115 : decode cX9_not2 115 = .ok (.iload_n 1, 1) := by decide +kernel
theorem dX9_not2_116 : decode cX9_not2 116 = .ok (.iload_n 3, 1) := by decide +kernel
theorem dX9_not2_117 : decode cX9_not2 117 = .ok (.if_icmp .ne 7, 3) := by decide +kernel
theorem dX9_not2_120 : decode cX9_not2 120 = .ok (.iconst 1, 1) := by decide +kernel
theorem dX9_not2_121 : decode cX9_not2 121 = .ok (.goto 4, 3) := by decide +kernel
theorem dX9_not2_124 : decode cX9_not2 124 = .ok (.iconst 0, 1) := by decide +kernel
theorem dX9_not2_125 : decode cX9_not2 125 = .ok (.ireturn, 1) := by decide +kernel
theorem dX9_both2_0 : decode cX9_both2 0 = .ok (.aload_n 0, 1) := by decide +kernel
theorem dX9_both2_1 : decode cX9_both2 1 = .ok (.invokevirtual 293, 3) := by decide +kernel
theorem dX9_both2_4 : decode cX9_both2 4 = .ok (.istore_n 1, 1) := by decide +kernel
theorem dX9_both2_5 : decode cX9_both2 5 = .ok (.aload_n 0, 1) := by decide +kernel
theorem dX9_both2_6 : decode cX9_both2 6 = .ok (.bipush 97, 2) := by decide +kernel
theorem dX9_both2_8 : decode cX9_both2 8 = .ok (.bipush 110, 2) := by decide +kernel
theorem dX9_both2_10 : decode cX9_both2 10 = .ok (.bipush 100, 2) := by decide +kernel
theorem dX9_both2_12 : decode cX9_both2 12 = .ok (.iconst 0, 1) := by decide +kernel
theorem dX9_both2_13 : decode cX9_both2 13 = .ok (.iconst 0, 1) := by decide +kernel
theorem dX9_both2_14 : decode cX9_both2 14 = .ok (.iconst 0, 1) := by decide +kernel
theorem dX9_both2_15 : decode cX9_both2 15 = .ok (.iconst 0, 1) := by decide +kernel
theorem dX9_both2_16 : decode cX9_both2 16 = .ok (.iconst 0, 1) := by decide +kernel
theorem dX9_both2_17 : decode cX9_both2 17 = .ok (.invokevirtual 193, 3) := by decide +kernel
theorem dX9_both2_20 : decode cX9_both2 20 = .ok (.ifCond .eq 29, 3) := by decide +kernel
theorem dX9_both2_23 : decode cX9_both2 23 = .ok (.aload_n 0, 1) := by decide +kernel
theorem dX9_both2_24 : decode cX9_both2 24 = .ok (.invokevirtual 190, 3) := by decide +kernel
theorem dX9_both2_27 : decode cX9_both2 27 = .ok (.aload_n 0, 1) := by decide +kernel
theorem dX9_both2_28 : decode cX9_both2 28 = .ok (.invokevirtual 293, 3) := by decide +kernel
theorem dX9_both2_31 : decode cX9_both2 31 = .ok (.istore_n 2, 1) := by decide +kernel
theorem dX9_both2_32 : decode cX9_both2 32 = .ok (.iload_n 1, 1) := by decide +kernel
theorem dX9_both2_33 : decode cX9_both2 33 = .ok (.ifCond .eq 11, 3) := by decide +kernel
theorem dX9_both2_36 : decode cX9_both2 36 = .ok (.iload_n 2, 1) := by decide +kernel
theorem dX9_both2_37 : decode cX9_both2 37 = .ok (.ifCond .eq 7, 3) := by decide +kernel
theorem dX9_both2_40 : decode cX9_both2 40 = .ok (.iconst 1, 1) := by decide +kernel
theorem dX9_both2_41 : decode cX9_both2 41 = .ok (.goto 4, 3) := by decide +kernel
theorem dX9_both2_44 : decode cX9_both2 44 = .ok (.iconst 0, 1) := by decide +kernel
theorem dX9_both2_45 : decode cX9_both2 45 = .ok (.istore_n 1, 1) := by decide +kernel
theorem dX9_both2_46 : decode cX9_both2 46 = .ok (.goto (-41), 3) := by decide +kernel
theorem dX9_both2_49 : decode cX9_both2 49 = .ok (.iload_n 1, 1) := by decide +kernel
theorem dX9_both2_50 : decode cX9_both2 50 = .ok (.ireturn, 1) := by decide +kernel
theorem dX9_either2_0 : decode cX9_either2 0 = .ok (.aload_n 0, 1) := by decide +kernel
theorem dX9_either2_1 : decode cX9_either2 1 = .ok (.invokevirtual 296, 3) := by decide +kernel
theorem dX9_either2_4 : decode cX9_either2 4 = .ok (.istore_n 1, 1) := by decide +kernel
theorem dX9_either2_5 : decode cX9_either2 5 = .ok (.aload_n 0, 1) := by decide +kernel
theorem dX9_either2_6 : decode cX9_either2 6 = .ok (.bipush 111, 2) := by decide +kernel
theorem dX9_either2_8 : decode cX9_either2 8 = .ok (.bipush 114, 2) := by decide +kernel
theorem dX9_either2_10 : decode cX9_either2 10 = .ok (.iconst 0, 1) := by decide +kernel
theorem dX9_either2_11 : decode cX9_either2 11 = .ok (.iconst 0, 1) := by decide +kernel
theorem dX9_either2_12 : decode cX9_either2 12 = .ok (.iconst 0, 1) := by decide +kernel
theorem dX9_either2_13 : decode cX9_either2 13 = .ok (.iconst 0, 1) := by decide +kernel
theorem dX9_either2_14 : decode cX9_either2 14 = .ok (.iconst 0, 1) := by decide +kernel
theorem dX9_either2_15 : decode cX9_either2 15 = .ok (.iconst 0, 1) := by decide +kernel
theorem dX9_either2_16 : decode cX9_either2 16 = .ok (.invokevirtual 193, 3) := by decide +kernel
theorem dX9_either2_19 : decode cX9_either2 19 = .ok (.ifCond .eq 29, 3) := by decide +kernel
theorem dX9_either2_22 : decode cX9_either2 22 = .ok (.aload_n 0, 1) := by decide +kernel
theorem dX9_either2_23 : decode cX9_either2 23 = .ok (.invokevirtual 190, 3) := by decide +kernel
theorem dX9_either2_26 : decode cX9_either2 26 = .ok (.aload_n 0, 1) := by decide +kernel
theorem dX9_either2_27 : decode cX9_either2 27 = .ok (.invokevirtual 296, 3) := by decide +kernel
theorem dX9_either2_30 : decode cX9_either2 30 = .ok (.istore_n 2, 1) := by decide +kernel
theorem dX9_either2_31 : decode cX9_either2 31 = .ok (.iload_n 1, 1) := by decide +kernel
theorem dX9_either2_32 : decode cX9_either2 32 = .ok (.ifCond .ne 7, 3) := by decide +kernel
theorem dX9_either2_35 : decode cX9_either2 35 = .ok (.iload_n 2, 1) := by decide +kernel
theorem dX9_either2_36 : decode cX9_either2 36 = .ok (.ifCond .eq 7, 3) := by decide +kernel
theorem dX9_either2_39 : decode cX9_either2 39 = .ok (.iconst 1, 1) := by decide +kernel
theorem dX9_either2_40 : decode cX9_either2 40 = .ok (.goto 4, 3) := by decide +kernel
theorem dX9_either2_43 : decode cX9_either2 43 = .ok (.iconst 0, 1) := by decide +kernel
theorem dX9_either2_44 : decode cX9_either2 44 = .ok (.istore_n 1, 1) := by decide +kernel
theorem dX9_either2_45 : decode cX9_either2 45 = .ok (.goto (-40), 3) := by decide +kernel
theorem dX9_either2_48 : decode cX9_either2 48 = .ok (.iload_n 1, 1) := by decide +kernel
theorem dX9_either2_49 : decode cX9_either2 49 = .ok (.ireturn, 1) := by decide +kernel
theorem dX9_atom1_0 : decode cX9_atom1 0 = .ok (.iconst 0, 1) := by decide +kernel
theorem dX9_atom1_1 : decode cX9_atom1 1 = .ok (.istore_n 1, 1) := by decide +kernel
theorem dX9_atom1_2 : decode cX9_atom1 2 = .ok (.aload_n 0, 1) := by decide +kernel
theorem dX9_atom1_3 : decode cX9_atom1 3 = .ok (.bipush 45, 2) := by decide +kernel
theorem dX9_atom1_5 : decode cX9_atom1 5 = .ok (.invokevirtual 215, 3) := by decide +kernel
theorem dX9_atom1_8 : decode cX9_atom1 8 = .ok (.ifCond .eq 29, 3) := by decide +kernel
theorem dX9_atom1_11 : decode cX9_atom1 11 = .ok (.aload_n 0, 1) := by decide +kernel
theorem dX9_atom1_12 : decode cX9_atom1 12 = .ok (.invokevirtual 218, 3) := by decide +kernel
theorem dX9_atom1_15 : decode cX9_atom1 15 = .ok (.ifCond .eq 146, 3) := by decide +kernel
theorem dX9_atom1_18 : decode cX9_atom1 18 = .ok (.aload_n 0, 1) := by decide +kernel
theorem dX9_atom1_19 : decode cX9_atom1 19 = .ok (.invokevirtual 284, 3) := by decide +kernel
theorem dX9_atom1_22 : decode cX9_atom1 22 = .ok (.ineg, 1) := by decide +kernel
theorem dX9_atom1_23 : decode cX9_atom1 23 = .ok (.istore_n 1, 1) := by decide +kernel
theorem dX9_atom1_24 : decode cX9_atom1 24 = .ok (.aload_n 0, 1) := by decide +kernel
theorem dX9_atom1_25 : decode cX9_atom1 25 = .ok (.dup, 1) := by decide +kernel
theorem dX9_atom1_26 : decode cX9_atom1 26 = .ok (.getfield 184, 3) := by decide +kernel
theorem dX9_atom1_29 : decode cX9_atom1 29 = .ok (.iconst 1, 1) := by decide +kernel
theorem dX9_atom1_30 : decode cX9_atom1 30 = .ok (.isub, 1) := by decide +kernel
theorem dX9_atom1_31 : decode cX9_atom1 31 = .ok (.putfield 184, 3) := by decide +kernel
theorem dX9_atom1_34 : decode cX9_atom1 34 = .ok (.goto 127, 3) := by decide +kernel
theorem dX9_atom1_37 : decode cX9_atom1 37 = .ok (.aload_n 0, 1) := by decide +kernel
theorem dX9_atom1_38 : decode cX9_atom1 38 = .ok (.bipush 40, 2) := by decide +kernel
theorem dX9_atom1_40 : decode cX9_atom1 40 = .ok (.invokevirtual 215, 3) := by decide +kernel
theorem dX9_atom1_43 : decode cX9_atom1 43 = .ok (.ifCond .eq 52, 3) := by decide +kernel
theorem dX9_atom1_46 : decode cX9_atom1 46 = .ok (.aload_n 0, 1) := by decide +kernel
theorem dX9_atom1_47 : decode cX9_atom1 47 = .ok (.invokevirtual 218, 3) := by decide +kernel
theorem dX9_atom1_50 : decode cX9_atom1 50 = .ok (.ifCond .eq 111, 3) := by decide +kernel
theorem dX9_atom1_53 : decode cX9_atom1 53 = .ok (.aload_n 0, 1) := by decide +kernel
theorem dX9_atom1_54 : decode cX9_atom1 54 = .ok (.invokevirtual 299, 3) := by decide +kernel
theorem dX9_atom1_57 : decode cX9_atom1 57 = .ok (.istore_n 1, 1) := by decide +kernel
theorem dX9_atom1_58 : decode cX9_atom1 58 = .ok (.aload_n 0, 1) := by decide +kernel
theorem dX9_atom1_59 : decode cX9_atom1 59 = .ok (.bipush 41, 2) := by decide +kernel
theorem dX9_atom1_61 : decode cX9_atom1 61 = .ok (.invokevirtual 215, 3) := by decide +kernel
theorem dX9_atom1_64 : decode cX9_atom1 64 = .ok (.ifCond .ne 7, 3) := by decide +kernel
theorem dX9_atom1_67 : decode cX9_atom1 67 = .ok (.aload_n 0, 1) := by decide +kernel
theorem dX9_atom1_68 : decode cX9_atom1 68 = .ok (.invokevirtual 187, 3) := by decide +kernel
theorem dX9_atom1_71 : decode cX9_atom1 71 = .ok (.aload_n 0, 1) := by decide +kernel
theorem dX9_atom1_72 : decode cX9_atom1 72 = .ok (.dup, 1) := by decide +kernel
theorem dX9_atom1_73 : decode cX9_atom1 73 = .ok (.getfield 184, 3) := by decide +kernel
theorem dX9_atom1_76 : decode cX9_atom1 76 = .ok (.iconst 1, 1) := by decide +kernel
theorem dX9_atom1_77 : decode cX9_atom1 77 = .ok (.isub, 1) := by decide +kernel
theorem dX9_atom1_78 : decode cX9_atom1 78 = .ok (.putfield 184, 3) := by decide +kernel
theorem dX9_atom1_81 : decode cX9_atom1 81 = .ok (.aload_n 0, 1) := by decide +kernel
theorem dX9_atom1_82 : decode cX9_atom1 82 = .ok (.getfield 174, 3) := by decide +kernel
theorem dX9_atom1_85 : decode cX9_atom1 85 = .ok (.ifCond .ne 76, 3) := by decide +kernel
theorem dX9_atom1_88 : decode cX9_atom1 88 = .ok (.aload_n 0, 1) := by decide +kernel
theorem dX9_atom1_89 : decode cX9_atom1 89 = .ok (.invokevirtual 190, 3) := by decide +kernel
theorem dX9_atom1_92 : decode cX9_atom1 92 = .ok (.goto 69, 3) := by decide +kernel
theorem dX9_atom1_95 : decode cX9_atom1 95 = .ok (.aload_n 0, 1) := by decide +kernel
theorem dX9_atom1_96 : decode cX9_atom1 96 = .ok (.getfield 174, 3) := by decide +kernel
theorem dX9_atom1_99 : decode cX9_atom1 99 = .ok (.ifCond .ne 24, 3) := by decide +kernel
theorem dX9_atom1_102 : decode cX9_atom1 102 = .ok (.aload_n 0, 1) := by decide +kernel
theorem dX9_atom1_103 : decode cX9_atom1 103 = .ok (.getfield 159, 3) := by decide +kernel
theorem dX9_atom1_106 : decode cX9_atom1 106 = .ok (.iconst 2, 1) := by decide +kernel
theorem dX9_atom1_107 : decode cX9_atom1 107 = .ok (.if_icmp .ne 16, 3) := by decide +kernel
theorem dX9_atom1_110 : decode cX9_atom1 110 = .ok (.aload_n 0, 1) := by decide +kernel
theorem dX9_atom1_111 : decode cX9_atom1 111 = .ok (.getfield 170, 3) := by decide +kernel
theorem dX9_atom1_114 : decode cX9_atom1 114 = .ok (.l2i, 1) := by decide +kernel
theorem dX9_atom1_115 : decode cX9_atom1 115 = .ok (.istore_n 1, 1) := by decide +kernel
theorem dX9_atom1_116 : decode cX9_atom1 116 = .ok (.aload_n 0, 1) := by decide +kernel
theorem dX9_atom1_117 : decode cX9_atom1 117 = .ok (.invokevirtual 190, 3) := by decide +kernel
theorem dX9_atom1_120 : decode cX9_atom1 120 = .ok (.goto 41, 3) := by decide +kernel
theorem dX9_atom1_123 : decode cX9_atom1 123 = .ok (.aload_n 0, 1) := by decide +kernel
theorem dX9_atom1_124 : decode cX9_atom1 124 = .ok (.getfield 174, 3) := by decide +kernel
theorem dX9_atom1_127 : decode cX9_atom1 127 = .ok (.ifCond .ne 30, 3) := by decide +kernel
theorem dX9_atom1_130 : decode cX9_atom1 130 = .ok (.aload_n 0, 1) := by decide +kernel
theorem dX9_atom1_131 : decode cX9_atom1 131 = .ok (.getfield 159, 3) := by decide +kernel
theorem dX9_atom1_134 : decode cX9_atom1 134 = .ok (.iconst 1, 1) := by decide +kernel
theorem dX9_atom1_135 : decode cX9_atom1 135 = .ok (.if_icmp .ne 22, 3) := by decide +kernel
theorem dX9_atom1_138 : decode cX9_atom1 138 = .ok (.aload_n 0, 1) := by decide +kernel
theorem dX9_atom1_139 : decode cX9_atom1 139 = .ok (.invokevirtual 222, 3) := by decide +kernel
theorem dX9_atom1_142 : decode cX9_atom1 142 = .ok (.istore_n 1, 1) := by decide +kernel
theorem dX9_atom1_143 : decode cX9_atom1 143 = .ok (.aload_n 0, 1) := by decide +kernel
theorem dX9_atom1_144 : decode cX9_atom1 144 = .ok (.getfield 174, 3) := by decide +kernel
theorem dX9_atom1_147 : decode cX9_atom1 147 = .ok (.ifCond .ne 14, 3) := by decide +kernel
theorem dX9_atom1_150 : decode cX9_atom1 150 = .ok (.aload_n 0, 1) := by decide +kernel
theorem dX9_atom1_151 : decode cX9_atom1 151 = .ok (.invokevirtual 190, 3) := by decide +kernel
theorem dX9_atom1_154 : decode cX9_atom1 154 = .ok (.goto 7, 3) := by decide +kernel
theorem dX9_atom1_157 : decode cX9_atom1 157 = .ok (.aload_n 0, 1) := by decide +kernel
theorem dX9_atom1_158 : decode cX9_atom1 158 = .ok (.invokevirtual 187, 3) := by decide +kernel
theorem dX9_atom1_161 : decode cX9_atom1 161 = .ok (.iload_n 1, 1) := by decide +kernel
theorem dX9_atom1_162 : decode cX9_atom1 162 = .ok (.ireturn, 1) := by decide +kernel
theorem dX9_term1_0 : decode cX9_term1 0 = .ok (.aload_n 0, 1) := by decide +kernel
theorem dX9_term1_1 : decode cX9_term1 1 = .ok (.invokevirtual 302, 3) := by decide +kernel
theorem dX9_term1_4 : decode cX9_term1 4 = .ok (.istore_n 1, 1) := by decide +kernel
theorem dX9_term1_5 : decode cX9_term1 5 = .ok (.aload_n 0, 1) := by decide +kernel
theorem dX9_term1_6 : decode cX9_term1 6 = .ok (.bipush 42, 2) := by decide +kernel
theorem dX9_term1_8 : decode cX9_term1 8 = .ok (.invokevirtual 215, 3) := by decide +kernel
theorem dX9_term1_11 : decode cX9_term1 11 = .ok (.ifCond .eq 17, 3) := by decide +kernel
theorem dX9_term1_14 : decode cX9_term1 14 = .ok (.aload_n 0, 1) := by decide +kernel
theorem dX9_term1_15 : decode cX9_term1 15 = .ok (.invokevirtual 190, 3) := by decide +kernel
theorem dX9_term1_18 : decode cX9_term1 18 = .ok (.iload_n 1, 1) := by decide +kernel
theorem dX9_term1_19 : decode cX9_term1 19 = .ok (.aload_n 0, 1) := by decide +kernel
theorem dX9_term1_20 : decode cX9_term1 20 = .ok (.invokevirtual 302, 3) := by decide +kernel
theorem dX9_term1_23 : decode cX9_term1 23 = .ok (.imul, 1) := by decide +kernel
theorem dX9_term1_24 : decode cX9_term1 24 = .ok (.istore_n 1, 1) := by decide +kernel
theorem dX9_term1_25 : decode cX9_term1 25 = .ok (.goto (-20), 3) := by decide +kernel
theorem dX9_term1_28 : decode cX9_term1 28 = .ok (.iload_n 1, 1) := by decide +kernel
theorem dX9_term1_29 : decode cX9_term1 29 = .ok (.ireturn, 1) := by decide +kernel
theorem dX9_added1_0 : decode cX9_added1 0 = .ok (.aload_n 0, 1) := by decide +kernel
theorem dX9_added1_1 : decode cX9_added1 1 = .ok (.invokevirtual 305, 3) := by decide +kernel
theorem dX9_added1_4 : decode cX9_added1 4 = .ok (.istore_n 1, 1) := by decide +kernel
theorem dX9_added1_5 : decode cX9_added1 5 = .ok (.aload_n 0, 1) := by decide +kernel
theorem dX9_added1_6 : decode cX9_added1 6 = .ok (.bipush 43, 2) := by decide +kernel
theorem dX9_added1_8 : decode cX9_added1 8 = .ok (.invokevirtual 215, 3) := by decide +kernel
theorem dX9_added1_11 : decode cX9_added1 11 = .ok (.ifCond .ne 12, 3) := by decide +kernel
theorem dX9_added1_14 : decode cX9_added1 14 = .ok (.aload_n 0, 1) := by decide +kernel
theorem dX9_added1_15 : decode cX9_added1 15 = .ok (.bipush 45, 2) := by decide +kernel
theorem dX9_added1_17 : decode cX9_added1 17 = .ok (.invokevirtual 215, 3) := by decide +kernel
theorem dX9_added1_20 : decode cX9_added1 20 = .ok (.ifCond .eq 46, 3) := by decide +kernel
theorem dX9_added1_23 : decode cX9_added1 23 = .ok (.aload_n 0, 1) := by decide +kernel
theorem dX9_added1_24 : decode cX9_added1 24 = .ok (.getfield 170, 3) := by decide +kernel
theorem dX9_added1_27 : decode cX9_added1 27 = .ok (.ldc2_w 232, 3) := by decide +kernel
theorem dX9_added1_30 : decode cX9_added1 30 = .ok (.lcmp, 1) := by decide +kernel
theorem dX9_added1_31 : decode cX9_added1 31 = .ok (.ifCond .ne 7, 3) := by decide +kernel
theorem dX9_added1_34 : decode cX9_added1 34 = .ok (.iconst 1, 1) := by decide +kernel
theorem dX9_added1_35 : decode cX9_added1 35 = .ok (.goto 4, 3) := by decide +kernel
theorem dX9_added1_38 : decode cX9_added1 38 = .ok (.iconst 0, 1) := by decide +kernel
theorem dX9_added1_39 : decode cX9_added1 39 = .ok (.istore_n 2, 1) := by decide +kernel
theorem dX9_added1_40 : decode cX9_added1 40 = .ok (.aload_n 0, 1) := by decide +kernel
theorem dX9_added1_41 : decode cX9_added1 41 = .ok (.invokevirtual 190, 3) := by decide +kernel
theorem dX9_added1_44 : decode cX9_added1 44 = .ok (.aload_n 0, 1) := by decide +kernel
theorem dX9_added1_45 : decode cX9_added1 45 = .ok (.invokevirtual 305, 3) := by decide +kernel
theorem dX9_added1_48 : decode cX9_added1 48 = .ok (.istore_n 3, 1) := by decide +kernel
theorem dX9_added1_49 : decode cX9_added1 49 = .ok (.iload_n 2, 1) := by decide +kernel
theorem dX9_added1_50 : decode cX9_added1 50 = .ok (.ifCond .eq 9, 3) := by decide +kernel
theorem dX9_added1_53 : decode cX9_added1 53 = .ok (.iload_n 1, 1) := by decide +kernel
theorem dX9_added1_54 : decode cX9_added1 54 = .ok (.iload_n 3, 1) := by decide +kernel
theorem dX9_added1_55 : decode cX9_added1 55 = .ok (.iadd, 1) := by decide +kernel
theorem dX9_added1_56 : decode cX9_added1 56 = .ok (.goto 6, 3) := by decide +kernel
theorem dX9_added1_59 : decode cX9_added1 59 = .ok (.iload_n 1, 1) := by decide +kernel
theorem dX9_added1_60 : decode cX9_added1 60 = .ok (.iload_n 3, 1) := by decide +kernel
theorem dX9_added1_61 : decode cX9_added1 61 = .ok (.isub, 1) := by decide +kernel
theorem dX9_added1_62 : decode cX9_added1 62 = .ok (.istore_n 1, 1) := by decide +kernel
theorem dX9_added1_63 : decode cX9_added1 63 = .ok (.goto (-58), 3) := by decide +kernel
theorem dX9_added1_66 : decode cX9_added1 66 = .ok (.iload_n 1, 1) := by decide +kernel
theorem dX9_added1_67 : decode cX9_added1 67 = .ok (.ireturn, 1) := by decide +kernel
theorem dX9_not1_0 : decode cX9_not1 0 = .ok (.aload_n 0, 1) := by decide +kernel
theorem dX9_not1_1 : decode cX9_not1 1 = .ok (.bipush 110, 2) := by decide +kernel
theorem dX9_not1_3 : decode cX9_not1 3 = .ok (.bipush 111, 2) := by decide +kernel
theorem dX9_not1_5 : decode cX9_not1 5 = .ok (.bipush 116, 2) := by decide +kernel
theorem dX9_not1_7 : decode cX9_not1 7 = .ok (.iconst 0, 1) := by decide +kernel
theorem dX9_not1_8 : decode cX9_not1 8 = .ok (.iconst 0, 1) := by decide +kernel
theorem dX9_not1_9 : decode cX9_not1 9 = .ok (.iconst 0, 1) := by decide +kernel
theorem dX9_not1_10 : decode cX9_not1 10 = .ok (.iconst 0, 1) := by decide +kernel
theorem dX9_not1_11 : decode cX9_not1 11 = .ok (.iconst 0, 1) := by decide +kernel
theorem dX9_not1_12 : decode cX9_not1 12 = .ok (.invokevirtual 193, 3) := by decide +kernel
theorem dX9_not1_15 : decode cX9_not1 15 = .ok (.ifCond .eq 37, 3) := by decide +kernel
theorem dX9_not1_18 : decode cX9_not1 18 = .ok (.aload_n 0, 1) := by decide +kernel
theorem dX9_not1_19 : decode cX9_not1 19 = .ok (.invokevirtual 218, 3) := by decide +kernel
theorem dX9_not1_22 : decode cX9_not1 22 = .ok (.ifCond .ne 5, 3) := by decide +kernel
theorem dX9_not1_25 : decode cX9_not1 25 = .ok (.iconst 0, 1) := by decide +kernel
theorem dX9_not1_26 : decode cX9_not1 26 = .ok (.ireturn, 1) := by decide +kernel
theorem dX9_not1_27 : decode cX9_not1 27 = .ok (.aload_n 0, 1) := by decide +kernel
theorem dX9_not1_28 : decode cX9_not1 28 = .ok (.invokevirtual 293, 3) := by decide +kernel
theorem dX9_not1_31 : decode cX9_not1 31 = .ok (.istore_n 1, 1) := by decide +kernel
theorem dX9_not1_32 : decode cX9_not1 32 = .ok (.aload_n 0, 1) := by decide +kernel
theorem dX9_not1_33 : decode cX9_not1 33 = .ok (.dup, 1) := by decide +kernel
theorem dX9_not1_34 : decode cX9_not1 34 = .ok (.getfield 184, 3) := by decide +kernel
theorem dX9_not1_37 : decode cX9_not1 37 = .ok (.iconst 1, 1) := by decide +kernel
theorem dX9_not1_38 : decode cX9_not1 38 = .ok (.isub, 1) := by decide +kernel
theorem dX9_not1_39 : decode cX9_not1 39 = .ok (.putfield 184, 3) := by decide +kernel
theorem dX9_not1_42 : decode cX9_not1 42 = .ok (.iload_n 1, 1) := by decide +kernel
theorem dX9_not1_43 : decode cX9_not1 43 = .ok (.ifCond .ne 7, 3) := by decide +kernel
theorem dX9_not1_46 : decode cX9_not1 46 = .ok (.iconst 1, 1) := by decide +kernel
theorem dX9_not1_47 : decode cX9_not1 47 = .ok (.goto 4, 3) := by decide +kernel
theorem dX9_not1_50 : decode cX9_not1 50 = .ok (.iconst 0, 1) := by decide +kernel
theorem dX9_not1_51 : decode cX9_not1 51 = .ok (.ireturn, 1) := by decide +kernel
theorem dX9_not1_52 : decode cX9_not1 52 = .ok (.aload_n 0, 1) := by decide +kernel
theorem dX9_not1_53 : decode cX9_not1 53 = .ok (.invokevirtual 308, 3) := by decide +kernel
theorem dX9_not1_56 : decode cX9_not1 56 = .ok (.istore_n 1, 1) := by decide +kernel
theorem dX9_not1_57 : decode cX9_not1 57 = .ok (.aload_n 0, 1) := by decide +kernel
theorem dX9_not1_58 : decode cX9_not1 58 = .ok (.bipush 60, 2) := by decide +kernel
theorem dX9_not1_60 : decode cX9_not1 60 = .ok (.invokevirtual 215, 3) := by decide +kernel
theorem dX9_not1_63 : decode cX9_not1 63 = .ok (.ifCond .ne 14, 3) := by decide +kernel
theorem dX9_not1_66 : decode cX9_not1 66 = .ok (.aload_n 0, 1) := by decide +kernel
theorem dX9_not1_67 : decode cX9_not1 67 = .ok (.bipush 61, 2) := by decide +kernel
theorem dX9_not1_69 : decode cX9_not1 69 = .ok (.invokevirtual 215, 3) := by decide +kernel
theorem dX9_not1_72 : decode cX9_not1 72 = .ok (.ifCond .ne 5, 3) := by decide +kernel
theorem dX9_not1_75 : decode cX9_not1 75 = .ok (.iload_n 1, 1) := by decide +kernel
theorem dX9_not1_76 : decode cX9_not1 76 = .ok (.ireturn, 1) := by decide +kernel
theorem dX9_not1_77 : decode cX9_not1 77 = .ok (.aload_n 0, 1) := by decide +kernel
theorem dX9_not1_78 : decode cX9_not1 78 = .ok (.getfield 170, 3) := by decide +kernel
theorem dX9_not1_81 : decode cX9_not1 81 = .ok (.ldc2_w 237, 3) := by decide +kernel
theorem dX9_not1_84 : decode cX9_not1 84 = .ok (.lcmp, 1) := by decide +kernel
theorem dX9_not1_85 : decode cX9_not1 85 = .ok (.ifCond .ne 7, 3) := by decide +kernel
theorem dX9_not1_88 : decode cX9_not1 88 = .ok (.iconst 1, 1) := by decide +kernel
theorem dX9_not1_89 : decode cX9_not1 89 = .ok (.goto 4, 3) := by decide +kernel
theorem dX9_not1_92 : decode cX9_not1 92 = .ok (.iconst 0, 1) := by decide +kernel
theorem dX9_not1_93 : decode cX9_not1 93 = .ok (.istore_n 2, 1) := by decide +kernel
theorem dX9_not1_94 : decode cX9_not1 94 = .ok (.aload_n 0, 1) := by decide +kernel
theorem dX9_not1_95 : decode cX9_not1 95 = .ok (.invokevirtual 190, 3) := by decide +kernel
theorem dX9_not1_98 : decode cX9_not1 98 = .ok (.aload_n 0, 1) := by decide +kernel
theorem dX9_not1_99 : decode cX9_not1 99 = .ok (.invokevirtual 308, 3) := by decide +kernel
theorem dX9_not1_102 : decode cX9_not1 102 = .ok (.istore_n 3, 1) := by decide +kernel
theorem dX9_not1_103 : decode cX9_not1 103 = .ok (.iload_n 2, 1) := by decide +kernel
theorem dX9_not1_104 : decode cX9_not1 104 = .ok (.ifCond .eq 11, 3) := by decide +kernel
theorem dX9_not1_107 : decode cX9_not1 107 = .ok (.iload_n 1, 1) := by decide +kernel
theorem dX9_not1_108 : decode cX9_not1 108 = .ok (.iload_n 3, 1) := by decide +kernel
theorem dX9_not1_109 : decode cX9_not1 109 = .ok (.if_icmp .ge 15, 3) := by decide +kernel
theorem dX9_not1_112 : decode cX9_not1 112 = .ok (.goto 8, 3) := by decide +kernel
theorem dX9_not1_115 : decode cX9_not1 115 = .ok (.iload_n 1, 1) := by decide +kernel
theorem dX9_not1_116 : decode cX9_not1 116 = .ok (.iload_n 3, 1) := by decide +kernel
theorem dX9_not1_117 : decode cX9_not1 117 = .ok (.if_icmp .ne 7, 3) := by decide +kernel
theorem dX9_not1_120 : decode cX9_not1 120 = .ok (.iconst 1, 1) := by decide +kernel
theorem dX9_not1_121 : decode cX9_not1 121 = .ok (.goto 4, 3) := by decide +kernel
theorem dX9_not1_124 : decode cX9_not1 124 = .ok (.iconst 0, 1) := by decide +kernel
theorem dX9_not1_125 : decode cX9_not1 125 = .ok (.ireturn, 1) := by decide +kernel
theorem dX9_both1_0 : decode cX9_both1 0 = .ok (.aload_n 0, 1) := by decide +kernel
theorem dX9_both1_1 : decode cX9_both1 1 = .ok (.invokevirtual 311, 3) := by decide +kernel
theorem dX9_both1_4 : decode cX9_both1 4 = .ok (.istore_n 1, 1) := by decide +kernel
theorem dX9_both1_5 : decode cX9_both1 5 = .ok (.aload_n 0, 1) := by decide +kernel
theorem dX9_both1_6 : decode cX9_both1 6 = .ok (.bipush 97, 2) := by decide +kernel
theorem dX9_both1_8 : decode cX9_both1 8 = .ok (.bipush 110, 2) := by decide +kernel
theorem dX9_both1_10 : decode cX9_both1 10 = .ok (.bipush 100, 2) := by decide +kernel
theorem dX9_both1_12 : decode cX9_both1 12 = .ok (.iconst 0, 1) := by decide +kernel
theorem dX9_both1_13 : decode cX9_both1 13 = .ok (.iconst 0, 1) := by decide +kernel
theorem dX9_both1_14 : decode cX9_both1 14 = .ok (.iconst 0, 1) := by decide +kernel
theorem dX9_both1_15 : decode cX9_both1 15 = .ok (.iconst 0, 1) := by decide +kernel
theorem dX9_both1_16 : decode cX9_both1 16 = .ok (.iconst 0, 1) := by decide +kernel
theorem dX9_both1_17 : decode cX9_both1 17 = .ok (.invokevirtual 193, 3) := by decide +kernel
theorem dX9_both1_20 : decode cX9_both1 20 = .ok (.ifCond .eq 29, 3) := by decide +kernel
theorem dX9_both1_23 : decode cX9_both1 23 = .ok (.aload_n 0, 1) := by decide +kernel
theorem dX9_both1_24 : decode cX9_both1 24 = .ok (.invokevirtual 190, 3) := by decide +kernel
theorem dX9_both1_27 : decode cX9_both1 27 = .ok (.aload_n 0, 1) := by decide +kernel
theorem dX9_both1_28 : decode cX9_both1 28 = .ok (.invokevirtual 311, 3) := by decide +kernel
theorem dX9_both1_31 : decode cX9_both1 31 = .ok (.istore_n 2, 1) := by decide +kernel
theorem dX9_both1_32 : decode cX9_both1 32 = .ok (.iload_n 1, 1) := by decide +kernel
theorem dX9_both1_33 : decode cX9_both1 33 = .ok (.ifCond .eq 11, 3) := by decide +kernel
theorem dX9_both1_36 : decode cX9_both1 36 = .ok (.iload_n 2, 1) := by decide +kernel
theorem dX9_both1_37 : decode cX9_both1 37 = .ok (.ifCond .eq 7, 3) := by decide +kernel
theorem dX9_both1_40 : decode cX9_both1 40 = .ok (.iconst 1, 1) := by decide +kernel
theorem dX9_both1_41 : decode cX9_both1 41 = .ok (.goto 4, 3) := by decide +kernel
theorem dX9_both1_44 : decode cX9_both1 44 = .ok (.iconst 0, 1) := by decide +kernel
theorem dX9_both1_45 : decode cX9_both1 45 = .ok (.istore_n 1, 1) := by decide +kernel
theorem dX9_both1_46 : decode cX9_both1 46 = .ok (.goto (-41), 3) := by decide +kernel
theorem dX9_both1_49 : decode cX9_both1 49 = .ok (.iload_n 1, 1) := by decide +kernel
theorem dX9_both1_50 : decode cX9_both1 50 = .ok (.ireturn, 1) := by decide +kernel
theorem dX9_either1_0 : decode cX9_either1 0 = .ok (.aload_n 0, 1) := by decide +kernel
theorem dX9_either1_1 : decode cX9_either1 1 = .ok (.invokevirtual 314, 3) := by decide +kernel
theorem dX9_either1_4 : decode cX9_either1 4 = .ok (.istore_n 1, 1) := by decide +kernel
theorem dX9_either1_5 : decode cX9_either1 5 = .ok (.aload_n 0, 1) := by decide +kernel
theorem dX9_either1_6 : decode cX9_either1 6 = .ok (.bipush 111, 2) := by decide +kernel
theorem dX9_either1_8 : decode cX9_either1 8 = .ok (.bipush 114, 2) := by decide +kernel
theorem dX9_either1_10 : decode cX9_either1 10 = .ok (.iconst 0, 1) := by decide +kernel
theorem dX9_either1_11 : decode cX9_either1 11 = .ok (.iconst 0, 1) := by decide +kernel
theorem dX9_either1_12 : decode cX9_either1 12 = .ok (.iconst 0, 1) := by decide +kernel
theorem dX9_either1_13 : decode cX9_either1 13 = .ok (.iconst 0, 1) := by decide +kernel
theorem dX9_either1_14 : decode cX9_either1 14 = .ok (.iconst 0, 1) := by decide +kernel
theorem dX9_either1_15 : decode cX9_either1 15 = .ok (.iconst 0, 1) := by decide +kernel
theorem dX9_either1_16 : decode cX9_either1 16 = .ok (.invokevirtual 193, 3) := by decide +kernel
theorem dX9_either1_19 : decode cX9_either1 19 = .ok (.ifCond .eq 29, 3) := by decide +kernel
theorem dX9_either1_22 : decode cX9_either1 22 = .ok (.aload_n 0, 1) := by decide +kernel
theorem dX9_either1_23 : decode cX9_either1 23 = .ok (.invokevirtual 190, 3) := by decide +kernel
theorem dX9_either1_26 : decode cX9_either1 26 = .ok (.aload_n 0, 1) := by decide +kernel
theorem dX9_either1_27 : decode cX9_either1 27 = .ok (.invokevirtual 314, 3) := by decide +kernel
theorem dX9_either1_30 : decode cX9_either1 30 = .ok (.istore_n 2, 1) := by decide +kernel
theorem dX9_either1_31 : decode cX9_either1 31 = .ok (.iload_n 1, 1) := by decide +kernel
theorem dX9_either1_32 : decode cX9_either1 32 = .ok (.ifCond .ne 7, 3) := by decide +kernel
theorem dX9_either1_35 : decode cX9_either1 35 = .ok (.iload_n 2, 1) := by decide +kernel
theorem dX9_either1_36 : decode cX9_either1 36 = .ok (.ifCond .eq 7, 3) := by decide +kernel
theorem dX9_either1_39 : decode cX9_either1 39 = .ok (.iconst 1, 1) := by decide +kernel
theorem dX9_either1_40 : decode cX9_either1 40 = .ok (.goto 4, 3) := by decide +kernel
theorem dX9_either1_43 : decode cX9_either1 43 = .ok (.iconst 0, 1) := by decide +kernel
theorem dX9_either1_44 : decode cX9_either1 44 = .ok (.istore_n 1, 1) := by decide +kernel
theorem dX9_either1_45 : decode cX9_either1 45 = .ok (.goto (-40), 3) := by decide +kernel
theorem dX9_either1_48 : decode cX9_either1 48 = .ok (.iload_n 1, 1) := by decide +kernel
theorem dX9_either1_49 : decode cX9_either1 49 = .ok (.ireturn, 1) := by decide +kernel
theorem dX9_atom0_0 : decode cX9_atom0 0 = .ok (.iconst 0, 1) := by decide +kernel
theorem dX9_atom0_1 : decode cX9_atom0 1 = .ok (.istore_n 1, 1) := by decide +kernel
theorem dX9_atom0_2 : decode cX9_atom0 2 = .ok (.aload_n 0, 1) := by decide +kernel
theorem dX9_atom0_3 : decode cX9_atom0 3 = .ok (.bipush 45, 2) := by decide +kernel
theorem dX9_atom0_5 : decode cX9_atom0 5 = .ok (.invokevirtual 215, 3) := by decide +kernel
theorem dX9_atom0_8 : decode cX9_atom0 8 = .ok (.ifCond .eq 29, 3) := by decide +kernel
theorem dX9_atom0_11 : decode cX9_atom0 11 = .ok (.aload_n 0, 1) := by decide +kernel
theorem dX9_atom0_12 : decode cX9_atom0 12 = .ok (.invokevirtual 218, 3) := by decide +kernel
theorem dX9_atom0_15 : decode cX9_atom0 15 = .ok (.ifCond .eq 146, 3) := by decide +kernel
theorem dX9_atom0_18 : decode cX9_atom0 18 = .ok (.aload_n 0, 1) := by decide +kernel
theorem dX9_atom0_19 : decode cX9_atom0 19 = .ok (.invokevirtual 302, 3) := by decide +kernel
theorem dX9_atom0_22 : decode cX9_atom0 22 = .ok (.ineg, 1) := by decide +kernel
theorem dX9_atom0_23 : decode cX9_atom0 23 = .ok (.istore_n 1, 1) := by decide +kernel
theorem dX9_atom0_24 : decode cX9_atom0 24 = .ok (.aload_n 0, 1) := by decide +kernel
theorem dX9_atom0_25 : decode cX9_atom0 25 = .ok (.dup, 1) := by decide +kernel
theorem dX9_atom0_26 : decode cX9_atom0 26 = .ok (.getfield 184, 3) := by decide +kernel
theorem dX9_atom0_29 : decode cX9_atom0 29 = .ok (.iconst 1, 1) := by decide +kernel
theorem dX9_atom0_30 : decode cX9_atom0 30 = .ok (.isub, 1) := by decide +kernel
theorem dX9_atom0_31 : decode cX9_atom0 31 = .ok (.putfield 184, 3) := by decide +kernel
theorem dX9_atom0_34 : decode cX9_atom0 34 = .ok (.goto 127, 3) := by decide +kernel
theorem dX9_atom0_37 : decode cX9_atom0 37 = .ok (.aload_n 0, 1) := by decide +kernel
theorem dX9_atom0_38 : decode cX9_atom0 38 = .ok (.bipush 40, 2) := by decide +kernel
theorem dX9_atom0_40 : decode cX9_atom0 40 = .ok (.invokevirtual 215, 3) := by decide +kernel
theorem dX9_atom0_43 : decode cX9_atom0 43 = .ok (.ifCond .eq 52, 3) := by decide +kernel
theorem dX9_atom0_46 : decode cX9_atom0 46 = .ok (.aload_n 0, 1) := by decide +kernel
theorem dX9_atom0_47 : decode cX9_atom0 47 = .ok (.invokevirtual 218, 3) := by decide +kernel
theorem dX9_atom0_50 : decode cX9_atom0 50 = .ok (.ifCond .eq 111, 3) := by decide +kernel
theorem dX9_atom0_53 : decode cX9_atom0 53 = .ok (.aload_n 0, 1) := by decide +kernel
theorem dX9_atom0_54 : decode cX9_atom0 54 = .ok (.invokevirtual 317, 3) := by decide +kernel
theorem dX9_atom0_57 : decode cX9_atom0 57 = .ok (.istore_n 1, 1) := by decide +kernel
theorem dX9_atom0_58 : decode cX9_atom0 58 = .ok (.aload_n 0, 1) := by decide +kernel
theorem dX9_atom0_59 : decode cX9_atom0 59 = .ok (.bipush 41, 2) := by decide +kernel
theorem dX9_atom0_61 : decode cX9_atom0 61 = .ok (.invokevirtual 215, 3) := by decide +kernel
theorem dX9_atom0_64 : decode cX9_atom0 64 = .ok (.ifCond .ne 7, 3) := by decide +kernel
theorem dX9_atom0_67 : decode cX9_atom0 67 = .ok (.aload_n 0, 1) := by decide +kernel
theorem dX9_atom0_68 : decode cX9_atom0 68 = .ok (.invokevirtual 187, 3) := by decide +kernel
theorem dX9_atom0_71 : decode cX9_atom0 71 = .ok (.aload_n 0, 1) := by decide +kernel
theorem dX9_atom0_72 : decode cX9_atom0 72 = .ok (.dup, 1) := by decide +kernel
theorem dX9_atom0_73 : decode cX9_atom0 73 = .ok (.getfield 184, 3) := by decide +kernel
theorem dX9_atom0_76 : decode cX9_atom0 76 = .ok (.iconst 1, 1) := by decide +kernel
theorem dX9_atom0_77 : decode cX9_atom0 77 = .ok (.isub, 1) := by decide +kernel
theorem dX9_atom0_78 : decode cX9_atom0 78 = .ok (.putfield 184, 3) := by decide +kernel
theorem dX9_atom0_81 : decode cX9_atom0 81 = .ok (.aload_n 0, 1) := by decide +kernel
theorem dX9_atom0_82 : decode cX9_atom0 82 = .ok (.getfield 174, 3) := by decide +kernel
theorem dX9_atom0_85 : decode cX9_atom0 85 = .ok (.ifCond .ne 76, 3) := by decide +kernel
theorem dX9_atom0_88 : decode cX9_atom0 88 = .ok (.aload_n 0, 1) := by decide +kernel
theorem dX9_atom0_89 : decode cX9_atom0 89 = .ok (.invokevirtual 190, 3) := by decide +kernel
theorem dX9_atom0_92 : decode cX9_atom0 92 = .ok (.goto 69, 3) := by decide +kernel
theorem dX9_atom0_95 : decode cX9_atom0 95 = .ok (.aload_n 0, 1) := by decide +kernel
theorem dX9_atom0_96 : decode cX9_atom0 96 = .ok (.getfield 174, 3) := by decide +kernel
theorem dX9_atom0_99 : decode cX9_atom0 99 = .ok (.ifCond .ne 24, 3) := by decide +kernel
theorem dX9_atom0_102 : decode cX9_atom0 102 = .ok (.aload_n 0, 1) := by decide +kernel
theorem dX9_atom0_103 : decode cX9_atom0 103 = .ok (.getfield 159, 3) := by decide +kernel
theorem dX9_atom0_106 : decode cX9_atom0 106 = .ok (.iconst 2, 1) := by decide +kernel
theorem dX9_atom0_107 : decode cX9_atom0 107 = .ok (.if_icmp .ne 16, 3) := by decide +kernel
theorem dX9_atom0_110 : decode cX9_atom0 110 = .ok (.aload_n 0, 1) := by decide +kernel
theorem dX9_atom0_111 : decode cX9_atom0 111 = .ok (.getfield 170, 3) := by decide +kernel
theorem dX9_atom0_114 : decode cX9_atom0 114 = .ok (.l2i, 1) := by decide +kernel
theorem dX9_atom0_115 : decode cX9_atom0 115 = .ok (.istore_n 1, 1) := by decide +kernel
theorem dX9_atom0_116 : decode cX9_atom0 116 = .ok (.aload_n 0, 1) := by decide +kernel
theorem dX9_atom0_117 : decode cX9_atom0 117 = .ok (.invokevirtual 190, 3) := by decide +kernel
theorem dX9_atom0_120 : decode cX9_atom0 120 = .ok (.goto 41, 3) := by decide +kernel
theorem dX9_atom0_123 : decode cX9_atom0 123 = .ok (.aload_n 0, 1) := by decide +kernel
theorem dX9_atom0_124 : decode cX9_atom0 124 = .ok (.getfield 174, 3) := by decide +kernel
theorem dX9_atom0_127 : decode cX9_atom0 127 = .ok (.ifCond .ne 30, 3) := by decide +kernel
theorem dX9_atom0_130 : decode cX9_atom0 130 = .ok (.aload_n 0, 1) := by decide +kernel
theorem dX9_atom0_131 : decode cX9_atom0 131 = .ok (.getfield 159, 3) := by decide +kernel
theorem dX9_atom0_134 : decode cX9_atom0 134 = .ok (.iconst 1, 1) := by decide +kernel
theorem dX9_atom0_135 : decode cX9_atom0 135 = .ok (.if_icmp .ne 22, 3) := by decide +kernel
theorem dX9_atom0_138 : decode cX9_atom0 138 = .ok (.aload_n 0, 1) := by decide +kernel
theorem dX9_atom0_139 : decode cX9_atom0 139 = .ok (.invokevirtual 222, 3) := by decide +kernel
theorem dX9_atom0_142 : decode cX9_atom0 142 = .ok (.istore_n 1, 1) := by decide +kernel
theorem dX9_atom0_143 : decode cX9_atom0 143 = .ok (.aload_n 0, 1) := by decide +kernel
theorem dX9_atom0_144 : decode cX9_atom0 144 = .ok (.getfield 174, 3) := by decide +kernel
theorem dX9_atom0_147 : decode cX9_atom0 147 = .ok (.ifCond .ne 14, 3) := by decide +kernel
theorem dX9_atom0_150 : decode cX9_atom0 150 = .ok (.aload_n 0, 1) := by decide +kernel
theorem dX9_atom0_151 : decode cX9_atom0 151 = .ok (.invokevirtual 190, 3) := by decide +kernel
theorem dX9_atom0_154 : decode cX9_atom0 154 = .ok (.goto 7, 3) := by decide +kernel
theorem dX9_atom0_157 : decode cX9_atom0 157 = .ok (.aload_n 0, 1) := by decide +kernel
theorem dX9_atom0_158 : decode cX9_atom0 158 = .ok (.invokevirtual 187, 3) := by decide +kernel
theorem dX9_atom0_161 : decode cX9_atom0 161 = .ok (.iload_n 1, 1) := by decide +kernel
theorem dX9_atom0_162 : decode cX9_atom0 162 = .ok (.ireturn, 1) := by decide +kernel
theorem dX9_term0_0 : decode cX9_term0 0 = .ok (.aload_n 0, 1) := by decide +kernel
theorem dX9_term0_1 : decode cX9_term0 1 = .ok (.invokevirtual 320, 3) := by decide +kernel
theorem dX9_term0_4 : decode cX9_term0 4 = .ok (.istore_n 1, 1) := by decide +kernel
theorem dX9_term0_5 : decode cX9_term0 5 = .ok (.aload_n 0, 1) := by decide +kernel
theorem dX9_term0_6 : decode cX9_term0 6 = .ok (.bipush 42, 2) := by decide +kernel
theorem dX9_term0_8 : decode cX9_term0 8 = .ok (.invokevirtual 215, 3) := by decide +kernel
theorem dX9_term0_11 : decode cX9_term0 11 = .ok (.ifCond .eq 17, 3) := by decide +kernel
theorem dX9_term0_14 : decode cX9_term0 14 = .ok (.aload_n 0, 1) := by decide +kernel
theorem dX9_term0_15 : decode cX9_term0 15 = .ok (.invokevirtual 190, 3) := by decide +kernel
theorem dX9_term0_18 : decode cX9_term0 18 = .ok (.iload_n 1, 1) := by decide +kernel
theorem dX9_term0_19 : decode cX9_term0 19 = .ok (.aload_n 0, 1) := by decide +kernel
theorem dX9_term0_20 : decode cX9_term0 20 = .ok (.invokevirtual 320, 3) := by decide +kernel
theorem dX9_term0_23 : decode cX9_term0 23 = .ok (.imul, 1) := by decide +kernel
theorem dX9_term0_24 : decode cX9_term0 24 = .ok (.istore_n 1, 1) := by decide +kernel
theorem dX9_term0_25 : decode cX9_term0 25 = .ok (.goto (-20), 3) := by decide +kernel
theorem dX9_term0_28 : decode cX9_term0 28 = .ok (.iload_n 1, 1) := by decide +kernel
theorem dX9_term0_29 : decode cX9_term0 29 = .ok (.ireturn, 1) := by decide +kernel
theorem dX9_added0_0 : decode cX9_added0 0 = .ok (.aload_n 0, 1) := by decide +kernel
theorem dX9_added0_1 : decode cX9_added0 1 = .ok (.invokevirtual 323, 3) := by decide +kernel
theorem dX9_added0_4 : decode cX9_added0 4 = .ok (.istore_n 1, 1) := by decide +kernel
theorem dX9_added0_5 : decode cX9_added0 5 = .ok (.aload_n 0, 1) := by decide +kernel
theorem dX9_added0_6 : decode cX9_added0 6 = .ok (.bipush 43, 2) := by decide +kernel
theorem dX9_added0_8 : decode cX9_added0 8 = .ok (.invokevirtual 215, 3) := by decide +kernel
theorem dX9_added0_11 : decode cX9_added0 11 = .ok (.ifCond .ne 12, 3) := by decide +kernel
theorem dX9_added0_14 : decode cX9_added0 14 = .ok (.aload_n 0, 1) := by decide +kernel
theorem dX9_added0_15 : decode cX9_added0 15 = .ok (.bipush 45, 2) := by decide +kernel
theorem dX9_added0_17 : decode cX9_added0 17 = .ok (.invokevirtual 215, 3) := by decide +kernel
theorem dX9_added0_20 : decode cX9_added0 20 = .ok (.ifCond .eq 46, 3) := by decide +kernel
theorem dX9_added0_23 : decode cX9_added0 23 = .ok (.aload_n 0, 1) := by decide +kernel
theorem dX9_added0_24 : decode cX9_added0 24 = .ok (.getfield 170, 3) := by decide +kernel
theorem dX9_added0_27 : decode cX9_added0 27 = .ok (.ldc2_w 232, 3) := by decide +kernel
theorem dX9_added0_30 : decode cX9_added0 30 = .ok (.lcmp, 1) := by decide +kernel
theorem dX9_added0_31 : decode cX9_added0 31 = .ok (.ifCond .ne 7, 3) := by decide +kernel
theorem dX9_added0_34 : decode cX9_added0 34 = .ok (.iconst 1, 1) := by decide +kernel
theorem dX9_added0_35 : decode cX9_added0 35 = .ok (.goto 4, 3) := by decide +kernel
theorem dX9_added0_38 : decode cX9_added0 38 = .ok (.iconst 0, 1) := by decide +kernel
theorem dX9_added0_39 : decode cX9_added0 39 = .ok (.istore_n 2, 1) := by decide +kernel
theorem dX9_added0_40 : decode cX9_added0 40 = .ok (.aload_n 0, 1) := by decide +kernel
theorem dX9_added0_41 : decode cX9_added0 41 = .ok (.invokevirtual 190, 3) := by decide +kernel
theorem dX9_added0_44 : decode cX9_added0 44 = .ok (.aload_n 0, 1) := by decide +kernel
theorem dX9_added0_45 : decode cX9_added0 45 = .ok (.invokevirtual 323, 3) := by decide +kernel
theorem dX9_added0_48 : decode cX9_added0 48 = .ok (.istore_n 3, 1) := by decide +kernel
theorem dX9_added0_49 : decode cX9_added0 49 = .ok (.iload_n 2, 1) := by decide +kernel
theorem dX9_added0_50 : decode cX9_added0 50 = .ok (.ifCond .eq 9, 3) := by decide +kernel
theorem dX9_added0_53 : decode cX9_added0 53 = .ok (.iload_n 1, 1) := by decide +kernel
theorem dX9_added0_54 : decode cX9_added0 54 = .ok (.iload_n 3, 1) := by decide +kernel
theorem dX9_added0_55 : decode cX9_added0 55 = .ok (.iadd, 1) := by decide +kernel
theorem dX9_added0_56 : decode cX9_added0 56 = .ok (.goto 6, 3) := by decide +kernel
theorem dX9_added0_59 : decode cX9_added0 59 = .ok (.iload_n 1, 1) := by decide +kernel
theorem dX9_added0_60 : decode cX9_added0 60 = .ok (.iload_n 3, 1) := by decide +kernel
theorem dX9_added0_61 : decode cX9_added0 61 = .ok (.isub, 1) := by decide +kernel
theorem dX9_added0_62 : decode cX9_added0 62 = .ok (.istore_n 1, 1) := by decide +kernel
theorem dX9_added0_63 : decode cX9_added0 63 = .ok (.goto (-58), 3) := by decide +kernel
theorem dX9_added0_66 : decode cX9_added0 66 = .ok (.iload_n 1, 1) := by decide +kernel
theorem dX9_added0_67 : decode cX9_added0 67 = .ok (.ireturn, 1) := by decide +kernel
theorem dX9_not0_0 : decode cX9_not0 0 = .ok (.aload_n 0, 1) := by decide +kernel
theorem dX9_not0_1 : decode cX9_not0 1 = .ok (.bipush 110, 2) := by decide +kernel
theorem dX9_not0_3 : decode cX9_not0 3 = .ok (.bipush 111, 2) := by decide +kernel
theorem dX9_not0_5 : decode cX9_not0 5 = .ok (.bipush 116, 2) := by decide +kernel
theorem dX9_not0_7 : decode cX9_not0 7 = .ok (.iconst 0, 1) := by decide +kernel
theorem dX9_not0_8 : decode cX9_not0 8 = .ok (.iconst 0, 1) := by decide +kernel
theorem dX9_not0_9 : decode cX9_not0 9 = .ok (.iconst 0, 1) := by decide +kernel
theorem dX9_not0_10 : decode cX9_not0 10 = .ok (.iconst 0, 1) := by decide +kernel
theorem dX9_not0_11 : decode cX9_not0 11 = .ok (.iconst 0, 1) := by decide +kernel
theorem dX9_not0_12 : decode cX9_not0 12 = .ok (.invokevirtual 193, 3) := by decide +kernel
theorem dX9_not0_15 : decode cX9_not0 15 = .ok (.ifCond .eq 37, 3) := by decide +kernel
theorem dX9_not0_18 : decode cX9_not0 18 = .ok (.aload_n 0, 1) := by decide +kernel
theorem dX9_not0_19 : decode cX9_not0 19 = .ok (.invokevirtual 218, 3) := by decide +kernel
theorem dX9_not0_22 : decode cX9_not0 22 = .ok (.ifCond .ne 5, 3) := by decide +kernel
theorem dX9_not0_25 : decode cX9_not0 25 = .ok (.iconst 0, 1) := by decide +kernel
theorem dX9_not0_26 : decode cX9_not0 26 = .ok (.ireturn, 1) := by decide +kernel
theorem dX9_not0_27 : decode cX9_not0 27 = .ok (.aload_n 0, 1) := by decide +kernel
theorem dX9_not0_28 : decode cX9_not0 28 = .ok (.invokevirtual 311, 3) := by decide +kernel
theorem dX9_not0_31 : decode cX9_not0 31 = .ok (.istore_n 1, 1) := by decide +kernel
theorem dX9_not0_32 : decode cX9_not0 32 = .ok (.aload_n 0, 1) := by decide +kernel
theorem dX9_not0_33 : decode cX9_not0 33 = .ok (.dup, 1) := by decide +kernel
theorem dX9_not0_34 : decode cX9_not0 34 = .ok (.getfield 184, 3) := by decide +kernel
theorem dX9_not0_37 : decode cX9_not0 37 = .ok (.iconst 1, 1) := by decide +kernel
theorem dX9_not0_38 : decode cX9_not0 38 = .ok (.isub, 1) := by decide +kernel
theorem dX9_not0_39 : decode cX9_not0 39 = .ok (.putfield 184, 3) := by decide +kernel
theorem dX9_not0_42 : decode cX9_not0 42 = .ok (.iload_n 1, 1) := by decide +kernel
theorem dX9_not0_43 : decode cX9_not0 43 = .ok (.ifCond .ne 7, 3) := by decide +kernel
theorem dX9_not0_46 : decode cX9_not0 46 = .ok (.iconst 1, 1) := by decide +kernel
theorem dX9_not0_47 : decode cX9_not0 47 = .ok (.goto 4, 3) := by decide +kernel
theorem dX9_not0_50 : decode cX9_not0 50 = .ok (.iconst 0, 1) := by decide +kernel
theorem dX9_not0_51 : decode cX9_not0 51 = .ok (.ireturn, 1) := by decide +kernel
theorem dX9_not0_52 : decode cX9_not0 52 = .ok (.aload_n 0, 1) := by decide +kernel
theorem dX9_not0_53 : decode cX9_not0 53 = .ok (.invokevirtual 326, 3) := by decide +kernel
theorem dX9_not0_56 : decode cX9_not0 56 = .ok (.istore_n 1, 1) := by decide +kernel
theorem dX9_not0_57 : decode cX9_not0 57 = .ok (.aload_n 0, 1) := by decide +kernel
theorem dX9_not0_58 : decode cX9_not0 58 = .ok (.bipush 60, 2) := by decide +kernel
theorem dX9_not0_60 : decode cX9_not0 60 = .ok (.invokevirtual 215, 3) := by decide +kernel
theorem dX9_not0_63 : decode cX9_not0 63 = .ok (.ifCond .ne 14, 3) := by decide +kernel
theorem dX9_not0_66 : decode cX9_not0 66 = .ok (.aload_n 0, 1) := by decide +kernel
theorem dX9_not0_67 : decode cX9_not0 67 = .ok (.bipush 61, 2) := by decide +kernel
theorem dX9_not0_69 : decode cX9_not0 69 = .ok (.invokevirtual 215, 3) := by decide +kernel
theorem dX9_not0_72 : decode cX9_not0 72 = .ok (.ifCond .ne 5, 3) := by decide +kernel
theorem dX9_not0_75 : decode cX9_not0 75 = .ok (.iload_n 1, 1) := by decide +kernel
theorem dX9_not0_76 : decode cX9_not0 76 = .ok (.ireturn, 1) := by decide +kernel
theorem dX9_not0_77 : decode cX9_not0 77 = .ok (.aload_n 0, 1) := by decide +kernel
theorem dX9_not0_78 : decode cX9_not0 78 = .ok (.getfield 170, 3) := by decide +kernel
theorem dX9_not0_81 : decode cX9_not0 81 = .ok (.ldc2_w 237, 3) := by decide +kernel
theorem dX9_not0_84 : decode cX9_not0 84 = .ok (.lcmp, 1) := by decide +kernel
theorem dX9_not0_85 : decode cX9_not0 85 = .ok (.ifCond .ne 7, 3) := by decide +kernel
theorem dX9_not0_88 : decode cX9_not0 88 = .ok (.iconst 1, 1) := by decide +kernel
theorem dX9_not0_89 : decode cX9_not0 89 = .ok (.goto 4, 3) := by decide +kernel
theorem dX9_not0_92 : decode cX9_not0 92 = .ok (.iconst 0, 1) := by decide +kernel
theorem dX9_not0_93 : decode cX9_not0 93 = .ok (.istore_n 2, 1) := by decide +kernel
theorem dX9_not0_94 : decode cX9_not0 94 = .ok (.aload_n 0, 1) := by decide +kernel
theorem dX9_not0_95 : decode cX9_not0 95 = .ok (.invokevirtual 190, 3) := by decide +kernel
theorem dX9_not0_98 : decode cX9_not0 98 = .ok (.aload_n 0, 1) := by decide +kernel
theorem dX9_not0_99 : decode cX9_not0 99 = .ok (.invokevirtual 326, 3) := by decide +kernel
theorem dX9_not0_102 : decode cX9_not0 102 = .ok (.istore_n 3, 1) := by decide +kernel
theorem dX9_not0_103 : decode cX9_not0 103 = .ok (.iload_n 2, 1) := by decide +kernel
theorem dX9_not0_104 : decode cX9_not0 104 = .ok (.ifCond .eq 11, 3) := by decide +kernel
theorem dX9_not0_107 : decode cX9_not0 107 = .ok (.iload_n 1, 1) := by decide +kernel
theorem dX9_not0_108 : decode cX9_not0 108 = .ok (.iload_n 3, 1) := by decide +kernel
theorem dX9_not0_109 : decode cX9_not0 109 = .ok (.if_icmp .ge 15, 3) := by decide +kernel
theorem dX9_not0_112 : decode cX9_not0 112 = .ok (.goto 8, 3) := by decide +kernel
theorem dX9_not0_115 : decode cX9_not0 115 = .ok (.iload_n 1, 1) := by decide +kernel
theorem dX9_not0_116 : decode cX9_not0 116 = .ok (.iload_n 3, 1) := by decide +kernel
theorem dX9_not0_117 : decode cX9_not0 117 = .ok (.if_icmp .ne 7, 3) := by decide +kernel
theorem dX9_not0_120 : decode cX9_not0 120 = .ok (.iconst 1, 1) := by decide +kernel
theorem dX9_not0_121 : decode cX9_not0 121 = .ok (.goto 4, 3) := by decide +kernel
theorem dX9_not0_124 : decode cX9_not0 124 = .ok (.iconst 0, 1) := by decide +kernel
theorem dX9_not0_125 : decode cX9_not0 125 = .ok (.ireturn, 1) := by decide +kernel
theorem dX9_both0_0 : decode cX9_both0 0 = .ok (.aload_n 0, 1) := by decide +kernel
theorem dX9_both0_1 : decode cX9_both0 1 = .ok (.invokevirtual 329, 3) := by decide +kernel
theorem dX9_both0_4 : decode cX9_both0 4 = .ok (.istore_n 1, 1) := by decide +kernel
theorem dX9_both0_5 : decode cX9_both0 5 = .ok (.aload_n 0, 1) := by decide +kernel
theorem dX9_both0_6 : decode cX9_both0 6 = .ok (.bipush 97, 2) := by decide +kernel
theorem dX9_both0_8 : decode cX9_both0 8 = .ok (.bipush 110, 2) := by decide +kernel
theorem dX9_both0_10 : decode cX9_both0 10 = .ok (.bipush 100, 2) := by decide +kernel
theorem dX9_both0_12 : decode cX9_both0 12 = .ok (.iconst 0, 1) := by decide +kernel
theorem dX9_both0_13 : decode cX9_both0 13 = .ok (.iconst 0, 1) := by decide +kernel
theorem dX9_both0_14 : decode cX9_both0 14 = .ok (.iconst 0, 1) := by decide +kernel
theorem dX9_both0_15 : decode cX9_both0 15 = .ok (.iconst 0, 1) := by decide +kernel
theorem dX9_both0_16 : decode cX9_both0 16 = .ok (.iconst 0, 1) := by decide +kernel
theorem dX9_both0_17 : decode cX9_both0 17 = .ok (.invokevirtual 193, 3) := by decide +kernel
theorem dX9_both0_20 : decode cX9_both0 20 = .ok (.ifCond .eq 29, 3) := by decide +kernel
theorem dX9_both0_23 : decode cX9_both0 23 = .ok (.aload_n 0, 1) := by decide +kernel
theorem dX9_both0_24 : decode cX9_both0 24 = .ok (.invokevirtual 190, 3) := by decide +kernel
theorem dX9_both0_27 : decode cX9_both0 27 = .ok (.aload_n 0, 1) := by decide +kernel
theorem dX9_both0_28 : decode cX9_both0 28 = .ok (.invokevirtual 329, 3) := by decide +kernel
theorem dX9_both0_31 : decode cX9_both0 31 = .ok (.istore_n 2, 1) := by decide +kernel
theorem dX9_both0_32 : decode cX9_both0 32 = .ok (.iload_n 1, 1) := by decide +kernel
theorem dX9_both0_33 : decode cX9_both0 33 = .ok (.ifCond .eq 11, 3) := by decide +kernel
theorem dX9_both0_36 : decode cX9_both0 36 = .ok (.iload_n 2, 1) := by decide +kernel
theorem dX9_both0_37 : decode cX9_both0 37 = .ok (.ifCond .eq 7, 3) := by decide +kernel
theorem dX9_both0_40 : decode cX9_both0 40 = .ok (.iconst 1, 1) := by decide +kernel
theorem dX9_both0_41 : decode cX9_both0 41 = .ok (.goto 4, 3) := by decide +kernel
theorem dX9_both0_44 : decode cX9_both0 44 = .ok (.iconst 0, 1) := by decide +kernel
theorem dX9_both0_45 : decode cX9_both0 45 = .ok (.istore_n 1, 1) := by decide +kernel
theorem dX9_both0_46 : decode cX9_both0 46 = .ok (.goto (-41), 3) := by decide +kernel
theorem dX9_both0_49 : decode cX9_both0 49 = .ok (.iload_n 1, 1) := by decide +kernel
theorem dX9_both0_50 : decode cX9_both0 50 = .ok (.ireturn, 1) := by decide +kernel
theorem dX9_either0_0 : decode cX9_either0 0 = .ok (.aload_n 0, 1) := by decide +kernel
theorem dX9_either0_1 : decode cX9_either0 1 = .ok (.invokevirtual 332, 3) := by decide +kernel
theorem dX9_either0_4 : decode cX9_either0 4 = .ok (.istore_n 1, 1) := by decide +kernel
theorem dX9_either0_5 : decode cX9_either0 5 = .ok (.aload_n 0, 1) := by decide +kernel
theorem dX9_either0_6 : decode cX9_either0 6 = .ok (.bipush 111, 2) := by decide +kernel
theorem dX9_either0_8 : decode cX9_either0 8 = .ok (.bipush 114, 2) := by decide +kernel
theorem dX9_either0_10 : decode cX9_either0 10 = .ok (.iconst 0, 1) := by decide +kernel
theorem dX9_either0_11 : decode cX9_either0 11 = .ok (.iconst 0, 1) := by decide +kernel
theorem dX9_either0_12 : decode cX9_either0 12 = .ok (.iconst 0, 1) := by decide +kernel
theorem dX9_either0_13 : decode cX9_either0 13 = .ok (.iconst 0, 1) := by decide +kernel
theorem dX9_either0_14 : decode cX9_either0 14 = .ok (.iconst 0, 1) := by decide +kernel
theorem dX9_either0_15 : decode cX9_either0 15 = .ok (.iconst 0, 1) := by decide +kernel
theorem dX9_either0_16 : decode cX9_either0 16 = .ok (.invokevirtual 193, 3) := by decide +kernel
theorem dX9_either0_19 : decode cX9_either0 19 = .ok (.ifCond .eq 29, 3) := by decide +kernel
theorem dX9_either0_22 : decode cX9_either0 22 = .ok (.aload_n 0, 1) := by decide +kernel
theorem dX9_either0_23 : decode cX9_either0 23 = .ok (.invokevirtual 190, 3) := by decide +kernel
theorem dX9_either0_26 : decode cX9_either0 26 = .ok (.aload_n 0, 1) := by decide +kernel
theorem dX9_either0_27 : decode cX9_either0 27 = .ok (.invokevirtual 332, 3) := by decide +kernel
theorem dX9_either0_30 : decode cX9_either0 30 = .ok (.istore_n 2, 1) := by decide +kernel
theorem dX9_either0_31 : decode cX9_either0 31 = .ok (.iload_n 1, 1) := by decide +kernel
theorem dX9_either0_32 : decode cX9_either0 32 = .ok (.ifCond .ne 7, 3) := by decide +kernel
theorem dX9_either0_35 : decode cX9_either0 35 = .ok (.iload_n 2, 1) := by decide +kernel
theorem dX9_either0_36 : decode cX9_either0 36 = .ok (.ifCond .eq 7, 3) := by decide +kernel
theorem dX9_either0_39 : decode cX9_either0 39 = .ok (.iconst 1, 1) := by decide +kernel
theorem dX9_either0_40 : decode cX9_either0 40 = .ok (.goto 4, 3) := by decide +kernel
theorem dX9_either0_43 : decode cX9_either0 43 = .ok (.iconst 0, 1) := by decide +kernel
theorem dX9_either0_44 : decode cX9_either0 44 = .ok (.istore_n 1, 1) := by decide +kernel
theorem dX9_either0_45 : decode cX9_either0 45 = .ok (.goto (-40), 3) := by decide +kernel
theorem dX9_either0_48 : decode cX9_either0 48 = .ok (.iload_n 1, 1) := by decide +kernel
theorem dX9_either0_49 : decode cX9_either0 49 = .ok (.ireturn, 1) := by decide +kernel
theorem dX9_part_0 : decode cX9_part 0 = .ok (.iload_n 1, 1) := by decide +kernel
theorem dX9_part_1 : decode cX9_part 1 = .ok (.ifCond .ne 7, 3) := by decide +kernel
theorem dX9_part_4 : decode cX9_part 4 = .ok (.aload_n 0, 1) := by decide +kernel
theorem dX9_part_5 : decode cX9_part 5 = .ok (.invokevirtual 187, 3) := by decide +kernel
theorem dX9_part_8 : decode cX9_part 8 = .ok (.aload_n 0, 1) := by decide +kernel
theorem dX9_part_9 : decode cX9_part 9 = .ok (.getfield 174, 3) := by decide +kernel
theorem dX9_part_12 : decode cX9_part 12 = .ok (.ifCond .ne 7, 3) := by decide +kernel
theorem dX9_part_15 : decode cX9_part 15 = .ok (.aload_n 0, 1) := by decide +kernel
theorem dX9_part_16 : decode cX9_part 16 = .ok (.invokevirtual 190, 3) := by decide +kernel
theorem dX9_part_19 : decode cX9_part 19 = .ok (.aload_n 0, 1) := by decide +kernel
theorem dX9_part_20 : decode cX9_part 20 = .ok (.getfield 174, 3) := by decide +kernel
theorem dX9_part_23 : decode cX9_part 23 = .ok (.ifCond .eq 7, 3) := by decide +kernel
theorem dX9_part_26 : decode cX9_part 26 = .ok (.iconst 0, 1) := by decide +kernel
theorem dX9_part_27 : decode cX9_part 27 = .ok (.goto 7, 3) := by decide +kernel
theorem dX9_part_30 : decode cX9_part 30 = .ok (.aload_n 0, 1) := by decide +kernel
theorem dX9_part_31 : decode cX9_part 31 = .ok (.invokevirtual 335, 3) := by decide +kernel
theorem dX9_part_34 : decode cX9_part 34 = .ok (.istore_n 2, 1) := by decide +kernel
theorem dX9_part_35 : decode cX9_part 35 = .ok (.aload_n 0, 1) := by decide +kernel
theorem dX9_part_36 : decode cX9_part 36 = .ok (.bipush 59, 2) := by decide +kernel
theorem dX9_part_38 : decode cX9_part 38 = .ok (.invokevirtual 215, 3) := by decide +kernel
theorem dX9_part_41 : decode cX9_part 41 = .ok (.ifCond .ne 7, 3) := by decide +kernel
theorem dX9_part_44 : decode cX9_part 44 = .ok (.aload_n 0, 1) := by decide +kernel
theorem dX9_part_45 : decode cX9_part 45 = .ok (.invokevirtual 187, 3) := by decide +kernel
theorem dX9_part_48 : decode cX9_part 48 = .ok (.aload_n 0, 1) := by decide +kernel
theorem dX9_part_49 : decode cX9_part 49 = .ok (.getfield 174, 3) := by decide +kernel
theorem dX9_part_52 : decode cX9_part 52 = .ok (.ifCond .ne 7, 3) := by decide +kernel
theorem dX9_part_55 : decode cX9_part 55 = .ok (.aload_n 0, 1) := by decide +kernel
theorem dX9_part_56 : decode cX9_part 56 = .ok (.invokevirtual 190, 3) := by decide +kernel
theorem dX9_part_59 : decode cX9_part 59 = .ok (.iload_n 2, 1) := by decide +kernel
theorem dX9_part_60 : decode cX9_part 60 = .ok (.ireturn, 1) := by decide +kernel
theorem dX9_read_0 : decode cX9_read 0 = .ok (.aload_n 0, 1) := by decide +kernel
theorem dX9_read_1 : decode cX9_read 1 = .ok (.sipush 160, 3) := by decide +kernel
theorem dX9_read_4 : decode cX9_read 4 = .ok (.iload_n 1, 1) := by decide +kernel
theorem dX9_read_5 : decode cX9_read 5 = .ok (.imul, 1) := by decide +kernel
theorem dX9_read_6 : decode cX9_read 6 = .ok (.putfield 147, 3) := by decide +kernel
theorem dX9_read_9 : decode cX9_read 9 = .ok (.aload_n 0, 1) := by decide +kernel
theorem dX9_read_10 : decode cX9_read 10 = .ok (.aload_n 0, 1) := by decide +kernel
theorem dX9_read_11 : decode cX9_read 11 = .ok (.getfield 17, 3) := by decide +kernel
theorem dX9_read_14 : decode cX9_read 14 = .ok (.iload_n 1, 1) := by decide +kernel
theorem dX9_read_15 : decode cX9_read 15 = .ok (.iaload, 1) := by decide +kernel
theorem dX9_read_16 : decode cX9_read 16 = .ok (.putfield 144, 3) := by decide +kernel
theorem dX9_read_19 : decode cX9_read 19 = .ok (.aload_n 0, 1) := by decide +kernel
theorem dX9_read_20 : decode cX9_read 20 = .ok (.iconst 0, 1) := by decide +kernel
theorem dX9_read_21 : decode cX9_read 21 = .ok (.putfield 150, 3) := by decide +kernel
theorem dX9_read_24 : decode cX9_read 24 = .ok (.aload_n 0, 1) := by decide +kernel
theorem dX9_read_25 : decode cX9_read 25 = .ok (.iconst 0, 1) := by decide +kernel
theorem dX9_read_26 : decode cX9_read 26 = .ok (.putfield 184, 3) := by decide +kernel
theorem dX9_read_29 : decode cX9_read 29 = .ok (.aload_n 0, 1) := by decide +kernel
theorem dX9_read_30 : decode cX9_read 30 = .ok (.iconst 0, 1) := by decide +kernel
theorem dX9_read_31 : decode cX9_read 31 = .ok (.putfield 174, 3) := by decide +kernel
theorem dX9_read_34 : decode cX9_read 34 = .ok (.aload_n 0, 1) := by decide +kernel
theorem dX9_read_35 : decode cX9_read 35 = .ok (.invokevirtual 190, 3) := by decide +kernel
theorem dX9_read_38 : decode cX9_read 38 = .ok (.aload_n 0, 1) := by decide +kernel
theorem dX9_read_39 : decode cX9_read 39 = .ok (.aload_n 0, 1) := by decide +kernel
theorem dX9_read_40 : decode cX9_read 40 = .ok (.bipush 101, 2) := by decide +kernel
theorem dX9_read_42 : decode cX9_read 42 = .ok (.bipush 97, 2) := by decide +kernel
theorem dX9_read_44 : decode cX9_read 44 = .ok (.bipush 115, 2) := by decide +kernel
theorem dX9_read_46 : decode cX9_read 46 = .ok (.bipush 116, 2) := by decide +kernel
theorem dX9_read_48 : decode cX9_read 48 = .ok (.bipush 115, 2) := by decide +kernel
theorem dX9_read_50 : decode cX9_read 50 = .ok (.iconst 0, 1) := by decide +kernel
theorem dX9_read_51 : decode cX9_read 51 = .ok (.iconst 0, 1) := by decide +kernel
theorem dX9_read_52 : decode cX9_read 52 = .ok (.iconst 0, 1) := by decide +kernel
theorem dX9_read_53 : decode cX9_read 53 = .ok (.invokevirtual 193, 3) := by decide +kernel
theorem dX9_read_56 : decode cX9_read 56 = .ok (.invokevirtual 338, 3) := by decide +kernel
theorem dX9_read_59 : decode cX9_read 59 = .ok (.istore_n 3, 1) := by decide +kernel
theorem dX9_read_60 : decode cX9_read 60 = .ok (.aload_n 0, 1) := by decide +kernel
theorem dX9_read_61 : decode cX9_read 61 = .ok (.getfield 174, 3) := by decide +kernel
theorem dX9_read_64 : decode cX9_read 64 = .ok (.ifCond .eq 7, 3) := by decide +kernel
theorem dX9_read_67 : decode cX9_read 67 = .ok (.iconst 0, 1) := by decide +kernel
theorem dX9_read_68 : decode cX9_read 68 = .ok (.goto 25, 3) := by decide +kernel
theorem dX9_read_71 : decode cX9_read 71 = .ok (.aload_n 0, 1) := by decide +kernel
theorem dX9_read_72 : decode cX9_read 72 = .ok (.aload_n 0, 1) := by decide +kernel
theorem dX9_read_73 : decode cX9_read 73 = .ok (.bipush 115, 2) := by decide +kernel
theorem dX9_read_75 : decode cX9_read 75 = .ok (.bipush 111, 2) := by decide +kernel
theorem dX9_read_77 : decode cX9_read 77 = .ok (.bipush 117, 2) := by decide +kernel
theorem dX9_read_79 : decode cX9_read 79 = .ok (.bipush 116, 2) := by decide +kernel
theorem dX9_read_81 : decode cX9_read 81 = .ok (.bipush 104, 2) := by decide +kernel
theorem dX9_read_83 : decode cX9_read 83 = .ok (.bipush 115, 2) := by decide +kernel
theorem dX9_read_85 : decode cX9_read 85 = .ok (.iconst 0, 1) := by decide +kernel
theorem dX9_read_86 : decode cX9_read 86 = .ok (.iconst 0, 1) := by decide +kernel
theorem dX9_read_87 : decode cX9_read 87 = .ok (.invokevirtual 193, 3) := by decide +kernel
theorem dX9_read_90 : decode cX9_read 90 = .ok (.invokevirtual 338, 3) := by decide +kernel
theorem dX9_read_93 : decode cX9_read 93 = .ok (.istore 4, 2) := by decide +kernel
theorem dX9_read_95 : decode cX9_read 95 = .ok (.aload_n 0, 1) := by decide +kernel
theorem dX9_read_96 : decode cX9_read 96 = .ok (.getfield 174, 3) := by decide +kernel
theorem dX9_read_99 : decode cX9_read 99 = .ok (.ifCond .eq 7, 3) := by decide +kernel
theorem dX9_read_102 : decode cX9_read 102 = .ok (.iconst 0, 1) := by decide +kernel
theorem dX9_read_103 : decode cX9_read 103 = .ok (.goto 24, 3) := by decide +kernel
theorem dX9_read_106 : decode cX9_read 106 = .ok (.aload_n 0, 1) := by decide +kernel
theorem dX9_read_107 : decode cX9_read 107 = .ok (.aload_n 0, 1) := by decide +kernel
theorem dX9_read_108 : decode cX9_read 108 = .ok (.bipush 114, 2) := by decide +kernel
theorem dX9_read_110 : decode cX9_read 110 = .ok (.bipush 105, 2) := by decide +kernel
theorem dX9_read_112 : decode cX9_read 112 = .ok (.bipush 115, 2) := by decide +kernel
theorem dX9_read_114 : decode cX9_read 114 = .ok (.bipush 101, 2) := by decide +kernel
theorem dX9_read_116 : decode cX9_read 116 = .ok (.bipush 115, 2) := by decide +kernel
theorem dX9_read_118 : decode cX9_read 118 = .ok (.iconst 0, 1) := by decide +kernel
theorem dX9_read_119 : decode cX9_read 119 = .ok (.iconst 0, 1) := by decide +kernel
theorem dX9_read_120 : decode cX9_read 120 = .ok (.iconst 0, 1) := by decide +kernel
theorem dX9_read_121 : decode cX9_read 121 = .ok (.invokevirtual 193, 3) := by decide +kernel
theorem dX9_read_124 : decode cX9_read 124 = .ok (.invokevirtual 338, 3) := by decide +kernel
theorem dX9_read_127 : decode cX9_read 127 = .ok (.istore 5, 2) := by decide +kernel
theorem dX9_read_129 : decode cX9_read 129 = .ok (.aload_n 0, 1) := by decide +kernel
theorem dX9_read_130 : decode cX9_read 130 = .ok (.getfield 174, 3) := by decide +kernel
theorem dX9_read_133 : decode cX9_read 133 = .ok (.ifCond .ne 14, 3) := by decide +kernel
theorem dX9_read_136 : decode cX9_read 136 = .ok (.aload_n 0, 1) := by decide +kernel
theorem dX9_read_137 : decode cX9_read 137 = .ok (.getfield 159, 3) := by decide +kernel
theorem dX9_read_140 : decode cX9_read 140 = .ok (.ifCond .eq 7, 3) := by decide +kernel
theorem dX9_read_143 : decode cX9_read 143 = .ok (.aload_n 0, 1) := by decide +kernel
theorem dX9_read_144 : decode cX9_read 144 = .ok (.invokevirtual 187, 3) := by decide +kernel
theorem dX9_read_147 : decode cX9_read 147 = .ok (.iload_n 2, 1) := by decide +kernel
theorem dX9_read_148 : decode cX9_read 148 = .ok (.ifCond .ne 7, 3) := by decide +kernel
theorem dX9_read_151 : decode cX9_read 151 = .ok (.iload_n 3, 1) := by decide +kernel
theorem dX9_read_152 : decode cX9_read 152 = .ok (.goto 15, 3) := by decide +kernel
theorem dX9_read_155 : decode cX9_read 155 = .ok (.iload_n 2, 1) := by decide +kernel
theorem dX9_read_156 : decode cX9_read 156 = .ok (.iconst 1, 1) := by decide +kernel
theorem dX9_read_157 : decode cX9_read 157 = .ok (.if_icmp .ne 8, 3) := by decide +kernel
theorem dX9_read_160 : decode cX9_read 160 = .ok (.iload 4, 2) := by decide +kernel
theorem dX9_read_162 : decode cX9_read 162 = .ok (.goto 5, 3) := by decide +kernel
theorem dX9_read_165 : decode cX9_read 165 = .ok (.iload 5, 2) := by decide +kernel
theorem dX9_read_167 : decode cX9_read 167 = .ok (.ireturn, 1) := by decide +kernel
theorem dX9_text_0 : decode cX9_text 0 = .ok (.aload_n 0, 1) := by decide +kernel
theorem dX9_text_1 : decode cX9_text 1 = .ok (.getfield 77, 3) := by decide +kernel
theorem dX9_text_4 : decode cX9_text 4 = .ok (.bipush 6, 2) := by decide +kernel
theorem dX9_text_6 : decode cX9_text 6 = .ok (.if_icmp .ne 6, 3) := by decide +kernel
theorem dX9_text_9 : decode cX9_text 9 = .ok (.bipush (-4), 2) := by decide +kernel
theorem dX9_text_11 : decode cX9_text 11 = .ok (.ireturn, 1) := by decide +kernel
theorem dX9_text_12 : decode cX9_text 12 = .ok (.iconst 0, 1) := by decide +kernel
theorem dX9_text_13 : decode cX9_text 13 = .ok (.istore_n 1, 1) := by decide +kernel
theorem dX9_text_14 : decode cX9_text 14 = .ok (.iload_n 1, 1) := by decide +kernel
theorem dX9_text_15 : decode cX9_text 15 = .ok (.aload_n 0, 1) := by decide +kernel
theorem dX9_text_16 : decode cX9_text 16 = .ok (.getfield 141, 3) := by decide +kernel
theorem dX9_text_19 : decode cX9_text 19 = .ok (.if_icmp .ge 30, 3) := by decide +kernel
theorem dX9_text_22 : decode cX9_text 22 = .ok (.aload_n 0, 1) := by decide +kernel
theorem dX9_text_23 : decode cX9_text 23 = .ok (.getfield 13, 3) := by decide +kernel
theorem dX9_text_26 : decode cX9_text 26 = .ok (.sipush 160, 3) := by decide +kernel
theorem dX9_text_29 : decode cX9_text 29 = .ok (.aload_n 0, 1) := by decide +kernel
theorem dX9_text_30 : decode cX9_text 30 = .ok (.getfield 77, 3) := by decide +kernel
theorem dX9_text_33 : decode cX9_text 33 = .ok (.imul, 1) := by decide +kernel
theorem dX9_text_34 : decode cX9_text 34 = .ok (.iload_n 1, 1) := by decide +kernel
theorem dX9_text_35 : decode cX9_text 35 = .ok (.iadd, 1) := by decide +kernel
theorem dX9_text_36 : decode cX9_text 36 = .ok (.aload_n 0, 1) := by decide +kernel
theorem dX9_text_37 : decode cX9_text 37 = .ok (.getfield 20, 3) := by decide +kernel
theorem dX9_text_40 : decode cX9_text 40 = .ok (.iload_n 1, 1) := by decide +kernel
theorem dX9_text_41 : decode cX9_text 41 = .ok (.iaload, 1) := by decide +kernel
theorem dX9_text_42 : decode cX9_text 42 = .ok (.iastore, 1) := by decide +kernel
theorem dX9_text_43 : decode cX9_text 43 = .ok (.iinc 1 1, 3) := by decide +kernel
theorem dX9_text_46 : decode cX9_text 46 = .ok (.goto (-32), 3) := by decide +kernel
theorem dX9_text_49 : decode cX9_text 49 = .ok (.aload_n 0, 1) := by decide +kernel
theorem dX9_text_50 : decode cX9_text 50 = .ok (.getfield 17, 3) := by decide +kernel
theorem dX9_text_53 : decode cX9_text 53 = .ok (.aload_n 0, 1) := by decide +kernel
theorem dX9_text_54 : decode cX9_text 54 = .ok (.getfield 77, 3) := by decide +kernel
theorem dX9_text_57 : decode cX9_text 57 = .ok (.aload_n 0, 1) := by decide +kernel
theorem dX9_text_58 : decode cX9_text 58 = .ok (.getfield 141, 3) := by decide +kernel
theorem dX9_text_61 : decode cX9_text 61 = .ok (.iastore, 1) := by decide +kernel
theorem dX9_text_62 : decode cX9_text 62 = .ok (.aload_n 0, 1) := by decide +kernel
theorem dX9_text_63 : decode cX9_text 63 = .ok (.iconst 0, 1) := by decide +kernel
theorem dX9_text_64 : decode cX9_text 64 = .ok (.putfield 141, 3) := by decide +kernel
theorem dX9_text_67 : decode cX9_text 67 = .ok (.aload_n 0, 1) := by decide +kernel
theorem dX9_text_68 : decode cX9_text 68 = .ok (.aload_n 0, 1) := by decide +kernel
theorem dX9_text_69 : decode cX9_text 69 = .ok (.getfield 77, 3) := by decide +kernel
theorem dX9_text_72 : decode cX9_text 72 = .ok (.iconst 0, 1) := by decide +kernel
theorem dX9_text_73 : decode cX9_text 73 = .ok (.invokevirtual 342, 3) := by decide +kernel
theorem dX9_text_76 : decode cX9_text 76 = .ok (.istore_n 1, 1) := by decide +kernel
theorem dX9_text_77 : decode cX9_text 77 = .ok (.aload_n 0, 1) := by decide +kernel
theorem dX9_text_78 : decode cX9_text 78 = .ok (.getfield 174, 3) := by decide +kernel
theorem dX9_text_81 : decode cX9_text 81 = .ok (.ifCond .eq 11, 3) := by decide +kernel
theorem dX9_text_84 : decode cX9_text 84 = .ok (.bipush (-100), 2) := by decide +kernel
theorem dX9_text_86 : decode cX9_text 86 = .ok (.aload_n 0, 1) := by decide +kernel
theorem dX9_text_87 : decode cX9_text 87 = .ok (.getfield 178, 3) := by decide +kernel
theorem dX9_text_90 : decode cX9_text 90 = .ok (.isub, 1) := by decide +kernel
theorem dX9_text_91 : decode cX9_text 91 = .ok (.ireturn, 1) := by decide +kernel
theorem dX9_text_92 : decode cX9_text 92 = .ok (.aload_n 0, 1) := by decide +kernel
theorem dX9_text_93 : decode cX9_text 93 = .ok (.dup, 1) := by decide +kernel
theorem dX9_text_94 : decode cX9_text 94 = .ok (.getfield 77, 3) := by decide +kernel
theorem dX9_text_97 : decode cX9_text 97 = .ok (.iconst 1, 1) := by decide +kernel
theorem dX9_text_98 : decode cX9_text 98 = .ok (.iadd, 1) := by decide +kernel
theorem dX9_text_99 : decode cX9_text 99 = .ok (.putfield 77, 3) := by decide +kernel
theorem dX9_text_102 : decode cX9_text 102 = .ok (.aload_n 0, 1) := by decide +kernel
theorem dX9_text_103 : decode cX9_text 103 = .ok (.getfield 77, 3) := by decide +kernel
theorem dX9_text_106 : decode cX9_text 106 = .ok (.iconst 1, 1) := by decide +kernel
theorem dX9_text_107 : decode cX9_text 107 = .ok (.isub, 1) := by decide +kernel
theorem dX9_text_108 : decode cX9_text 108 = .ok (.ireturn, 1) := by decide +kernel
theorem dX9_force_0 : decode cX9_force 0 = .ok (.iload_n 1, 1) := by decide +kernel
theorem dX9_force_1 : decode cX9_force 1 = .ok (.i2l, 1) := by decide +kernel
theorem dX9_force_2 : decode cX9_force 2 = .ok (.lconst 0, 1) := by decide +kernel
theorem dX9_force_3 : decode cX9_force 3 = .ok (.aload_n 0, 1) := by decide +kernel
theorem dX9_force_4 : decode cX9_force 4 = .ok (.getfield 77, 3) := by decide +kernel
theorem dX9_force_7 : decode cX9_force 7 = .ok (.iconst 1, 1) := by decide +kernel
theorem dX9_force_8 : decode cX9_force 8 = .ok (.isub, 1) := by decide +kernel
theorem dX9_force_9 : decode cX9_force 9 = .ok (.i2l, 1) := by decide +kernel
theorem dX9_force_10 : decode cX9_force 10 = .ok (.invokestatic 83, 3) := by decide +kernel
theorem dX9_force_13 : decode cX9_force 13 = .ok (.ifCond .ne 6, 3) := by decide +kernel
theorem dX9_force_16 : decode cX9_force 16 = .ok (.bipush (-2), 2) := by decide +kernel
theorem dX9_force_18 : decode cX9_force 18 = .ok (.ireturn, 1) := by decide +kernel
theorem dX9_force_19 : decode cX9_force 19 = .ok (.aload_n 0, 1) := by decide +kernel
theorem dX9_force_20 : decode cX9_force 20 = .ok (.getfield 119, 3) := by decide +kernel
theorem dX9_force_23 : decode cX9_force 23 = .ok (.istore_n 2, 1) := by decide +kernel
theorem dX9_force_24 : decode cX9_force 24 = .ok (.aload_n 0, 1) := by decide +kernel
theorem dX9_force_25 : decode cX9_force 25 = .ok (.iload_n 1, 1) := by decide +kernel
theorem dX9_force_26 : decode cX9_force 26 = .ok (.putfield 119, 3) := by decide +kernel
theorem dX9_force_29 : decode cX9_force 29 = .ok (.iload_n 2, 1) := by decide +kernel
theorem dX9_force_30 : decode cX9_force 30 = .ok (.ireturn, 1) := by decide +kernel
theorem dX9_says_0 : decode cX9_says 0 = .ok (.aload_n 0, 1) := by decide +kernel
theorem dX9_says_1 : decode cX9_says 1 = .ok (.iload 4, 2) := by decide +kernel
theorem dX9_says_3 : decode cX9_says 3 = .ok (.putfield 197, 3) := by decide +kernel
theorem dX9_says_6 : decode cX9_says 6 = .ok (.aload_n 0, 1) := by decide +kernel
theorem dX9_says_7 : decode cX9_says 7 = .ok (.aload_n 0, 1) := by decide +kernel
theorem dX9_says_8 : decode cX9_says 8 = .ok (.getfield 29, 3) := by decide +kernel
theorem dX9_says_11 : decode cX9_says 11 = .ok (.iconst 3, 1) := by decide +kernel
theorem dX9_says_12 : decode cX9_says 12 = .ok (.iload_n 2, 1) := by decide +kernel
theorem dX9_says_13 : decode cX9_says 13 = .ok (.imul, 1) := by decide +kernel
theorem dX9_says_14 : decode cX9_says 14 = .ok (.iaload, 1) := by decide +kernel
theorem dX9_says_15 : decode cX9_says 15 = .ok (.putfield 200, 3) := by decide +kernel
theorem dX9_says_18 : decode cX9_says 18 = .ok (.aload_n 0, 1) := by decide +kernel
theorem dX9_says_19 : decode cX9_says 19 = .ok (.iload_n 3, 1) := by decide +kernel
theorem dX9_says_20 : decode cX9_says 20 = .ok (.bipush 6, 2) := by decide +kernel
theorem dX9_says_22 : decode cX9_says 22 = .ok (.irem, 1) := by decide +kernel
theorem dX9_says_23 : decode cX9_says 23 = .ok (.putfield 203, 3) := by decide +kernel
theorem dX9_says_26 : decode cX9_says 26 = .ok (.aload_n 0, 1) := by decide +kernel
theorem dX9_says_27 : decode cX9_says 27 = .ok (.iload_n 3, 1) := by decide +kernel
theorem dX9_says_28 : decode cX9_says 28 = .ok (.bipush 6, 2) := by decide +kernel
theorem dX9_says_30 : decode cX9_says 30 = .ok (.idiv, 1) := by decide +kernel
theorem dX9_says_31 : decode cX9_says 31 = .ok (.putfield 206, 3) := by decide +kernel
theorem dX9_says_34 : decode cX9_says 34 = .ok (.aload_n 0, 1) := by decide +kernel
theorem dX9_says_35 : decode cX9_says 35 = .ok (.aload_n 0, 1) := by decide +kernel
theorem dX9_says_36 : decode cX9_says 36 = .ok (.getfield 116, 3) := by decide +kernel
theorem dX9_says_39 : decode cX9_says 39 = .ok (.putfield 209, 3) := by decide +kernel
theorem dX9_says_42 : decode cX9_says 42 = .ok (.aload_n 0, 1) := by decide +kernel
theorem dX9_says_43 : decode cX9_says 43 = .ok (.aload_n 0, 1) := by decide +kernel
theorem dX9_says_44 : decode cX9_says 44 = .ok (.getfield 29, 3) := by decide +kernel
theorem dX9_says_47 : decode cX9_says 47 = .ok (.iconst 3, 1) := by decide +kernel
theorem dX9_says_48 : decode cX9_says 48 = .ok (.iload_n 2, 1) := by decide +kernel
theorem dX9_says_49 : decode cX9_says 49 = .ok (.imul, 1) := by decide +kernel
theorem dX9_says_50 : decode cX9_says 50 = .ok (.iconst 2, 1) := by decide +kernel
theorem dX9_says_51 : decode cX9_says 51 = .ok (.iadd, 1) := by decide +kernel
theorem dX9_says_52 : decode cX9_says 52 = .ok (.iaload, 1) := by decide +kernel
theorem dX9_says_53 : decode cX9_says 53 = .ok (.putfield 212, 3) := by decide +kernel
theorem dX9_says_56 : decode cX9_says 56 = .ok (.aload_n 0, 1) := by decide +kernel
theorem dX9_says_57 : decode cX9_says 57 = .ok (.aload_n 0, 1) := by decide +kernel
theorem dX9_says_58 : decode cX9_says 58 = .ok (.getfield 119, 3) := by decide +kernel
theorem dX9_says_61 : decode cX9_says 61 = .ok (.iload_n 1, 1) := by decide +kernel
theorem dX9_says_62 : decode cX9_says 62 = .ok (.invokevirtual 342, 3) := by decide +kernel
theorem dX9_says_65 : decode cX9_says 65 = .ok (.istore 5, 2) := by decide +kernel
theorem dX9_says_67 : decode cX9_says 67 = .ok (.iload_n 1, 1) := by decide +kernel
theorem dX9_says_68 : decode cX9_says 68 = .ok (.iconst 2, 1) := by decide +kernel
theorem dX9_says_69 : decode cX9_says 69 = .ok (.if_icmp .ne 14, 3) := by decide +kernel
theorem dX9_says_72 : decode cX9_says 72 = .ok (.iload 5, 2) := by decide +kernel
theorem dX9_says_74 : decode cX9_says 74 = .ok (.iconst 0, 1) := by decide +kernel
theorem dX9_says_75 : decode cX9_says 75 = .ok (.bipush 99, 2) := by decide +kernel
theorem dX9_says_77 : decode cX9_says 77 = .ok (.invokestatic 345, 3) := by decide +kernel
theorem dX9_says_80 : decode cX9_says 80 = .ok (.goto 11, 3) := by decide +kernel
theorem dX9_says_83 : decode cX9_says 83 = .ok (.iload 5, 2) := by decide +kernel
theorem dX9_says_85 : decode cX9_says 85 = .ok (.bipush (-5), 2) := by decide +kernel
theorem dX9_says_87 : decode cX9_says 87 = .ok (.iconst 5, 1) := by decide +kernel
theorem dX9_says_88 : decode cX9_says 88 = .ok (.invokestatic 345, 3) := by decide +kernel
theorem dX9_says_91 : decode cX9_says 91 = .ok (.ireturn, 1) := by decide +kernel
theorem dX9_eastOf_0 : decode cX9_eastOf 0 = .ok (.aload_n 0, 1) := by decide +kernel
theorem dX9_eastOf_1 : decode cX9_eastOf 1 = .ok (.getfield 26, 3) := by decide +kernel
theorem dX9_eastOf_4 : decode cX9_eastOf 4 = .ok (.iload_n 1, 1) := by decide +kernel
theorem dX9_eastOf_5 : decode cX9_eastOf 5 = .ok (.iaload, 1) := by decide +kernel
theorem dX9_eastOf_6 : decode cX9_eastOf 6 = .ok (.istore 4, 2) := by decide +kernel
theorem dX9_eastOf_8 : decode cX9_eastOf 8 = .ok (.iload 4, 2) := by decide +kernel
theorem dX9_eastOf_10 : decode cX9_eastOf 10 = .ok (.iconst 2, 1) := by decide +kernel
theorem dX9_eastOf_11 : decode cX9_eastOf 11 = .ok (.if_icmp .eq 9, 3) := by decide +kernel
theorem dX9_eastOf_14 : decode cX9_eastOf 14 = .ok (.iload 4, 2) := by decide +kernel
theorem dX9_eastOf_16 : decode cX9_eastOf 16 = .ok (.iconst 4, 1) := by decide +kernel
theorem dX9_eastOf_17 : decode cX9_eastOf 17 = .ok (.if_icmp .ne 10, 3) := by decide +kernel
theorem dX9_eastOf_20 : decode cX9_eastOf 20 = .ok (.iload_n 3, 1) := by decide +kernel
theorem dX9_eastOf_21 : decode cX9_eastOf 21 = .ok (.iconst 2, 1) := by decide +kernel
theorem dX9_eastOf_22 : decode cX9_eastOf 22 = .ok (.irem, 1) := by decide +kernel
theorem dX9_eastOf_23 : decode cX9_eastOf 23 = .ok (.iconst 1, 1) := by decide +kernel
theorem dX9_eastOf_24 : decode cX9_eastOf 24 = .ok (.if_icmp .eq 19, 3) := by decide +kernel
theorem dX9_eastOf_27 : decode cX9_eastOf 27 = .ok (.iload 4, 2) := by decide +kernel
theorem dX9_eastOf_29 : decode cX9_eastOf 29 = .ok (.iconst 4, 1) := by decide +kernel
theorem dX9_eastOf_30 : decode cX9_eastOf 30 = .ok (.if_icmp .ne 15, 3) := by decide +kernel
theorem dX9_eastOf_33 : decode cX9_eastOf 33 = .ok (.aload_n 0, 1) := by decide +kernel
theorem dX9_eastOf_34 : decode cX9_eastOf 34 = .ok (.getfield 116, 3) := by decide +kernel
theorem dX9_eastOf_37 : decode cX9_eastOf 37 = .ok (.iconst 2, 1) := by decide +kernel
theorem dX9_eastOf_38 : decode cX9_eastOf 38 = .ok (.irem, 1) := by decide +kernel
theorem dX9_eastOf_39 : decode cX9_eastOf 39 = .ok (.iconst 1, 1) := by decide +kernel
theorem dX9_eastOf_40 : decode cX9_eastOf 40 = .ok (.if_icmp .ne 5, 3) := by decide +kernel
theorem dX9_eastOf_43 : decode cX9_eastOf 43 = .ok (.iconst 0, 1) := by decide +kernel
theorem dX9_eastOf_44 : decode cX9_eastOf 44 = .ok (.ireturn, 1) := by decide +kernel
theorem dX9_eastOf_45 : decode cX9_eastOf 45 = .ok (.aload_n 0, 1) := by decide +kernel
theorem dX9_eastOf_46 : decode cX9_eastOf 46 = .ok (.iconst 0, 1) := by decide +kernel
theorem dX9_eastOf_47 : decode cX9_eastOf 47 = .ok (.iload_n 1, 1) := by decide +kernel
theorem dX9_eastOf_48 : decode cX9_eastOf 48 = .ok (.iload_n 2, 1) := by decide +kernel
theorem dX9_eastOf_49 : decode cX9_eastOf 49 = .ok (.iload_n 3, 1) := by decide +kernel
theorem dX9_eastOf_50 : decode cX9_eastOf 50 = .ok (.invokevirtual 348, 3) := by decide +kernel
theorem dX9_eastOf_53 : decode cX9_eastOf 53 = .ok (.istore 5, 2) := by decide +kernel
theorem dX9_eastOf_55 : decode cX9_eastOf 55 = .ok (.iload 4, 2) := by decide +kernel
theorem dX9_eastOf_57 : decode cX9_eastOf 57 = .ok (.iconst 1, 1) := by decide +kernel
theorem dX9_eastOf_58 : decode cX9_eastOf 58 = .ok (.if_icmp .ne 10, 3) := by decide +kernel
theorem dX9_eastOf_61 : decode cX9_eastOf 61 = .ok (.iconst 2, 1) := by decide +kernel
theorem dX9_eastOf_62 : decode cX9_eastOf 62 = .ok (.iload 5, 2) := by decide +kernel
theorem dX9_eastOf_64 : decode cX9_eastOf 64 = .ok (.imul, 1) := by decide +kernel
theorem dX9_eastOf_65 : decode cX9_eastOf 65 = .ok (.goto 41, 3) := by decide +kernel
theorem dX9_eastOf_68 : decode cX9_eastOf 68 = .ok (.iload 4, 2) := by decide +kernel
theorem dX9_eastOf_70 : decode cX9_eastOf 70 = .ok (.iconst 3, 1) := by decide +kernel
theorem dX9_eastOf_71 : decode cX9_eastOf 71 = .ok (.if_icmp .ne 21, 3) := by decide +kernel
theorem dX9_eastOf_74 : decode cX9_eastOf 74 = .ok (.iconst 2, 1) := by decide +kernel
theorem dX9_eastOf_75 : decode cX9_eastOf 75 = .ok (.iload 5, 2) := by decide +kernel
theorem dX9_eastOf_77 : decode cX9_eastOf 77 = .ok (.imul, 1) := by decide +kernel
theorem dX9_eastOf_78 : decode cX9_eastOf 78 = .ok (.aload_n 0, 1) := by decide +kernel
theorem dX9_eastOf_79 : decode cX9_eastOf 79 = .ok (.getfield 29, 3) := by decide +kernel
theorem dX9_eastOf_82 : decode cX9_eastOf 82 = .ok (.iconst 3, 1) := by decide +kernel
theorem dX9_eastOf_83 : decode cX9_eastOf 83 = .ok (.iload_n 1, 1) := by decide +kernel
theorem dX9_eastOf_84 : decode cX9_eastOf 84 = .ok (.imul, 1) := by decide +kernel
theorem dX9_eastOf_85 : decode cX9_eastOf 85 = .ok (.iaload, 1) := by decide +kernel
theorem dX9_eastOf_86 : decode cX9_eastOf 86 = .ok (.iconst 3, 1) := by decide +kernel
theorem dX9_eastOf_87 : decode cX9_eastOf 87 = .ok (.irem, 1) := by decide +kernel
theorem dX9_eastOf_88 : decode cX9_eastOf 88 = .ok (.iadd, 1) := by decide +kernel
theorem dX9_eastOf_89 : decode cX9_eastOf 89 = .ok (.goto 17, 3) := by decide +kernel
theorem dX9_eastOf_92 : decode cX9_eastOf 92 = .ok (.iload 4, 2) := by decide +kernel
theorem dX9_eastOf_94 : decode cX9_eastOf 94 = .ok (.iconst 5, 1) := by decide +kernel
theorem dX9_eastOf_95 : decode cX9_eastOf 95 = .ok (.if_icmp .ne 9, 3) := by decide +kernel
theorem dX9_eastOf_98 : decode cX9_eastOf 98 = .ok (.iload 5, 2) := by decide +kernel
theorem dX9_eastOf_100 : decode cX9_eastOf 100 = .ok (.ineg, 1) := by decide +kernel
theorem dX9_eastOf_101 : decode cX9_eastOf 101 = .ok (.goto 5, 3) := by decide +kernel
theorem dX9_eastOf_104 : decode cX9_eastOf 104 = .ok (.iload 5, 2) := by decide +kernel
theorem dX9_eastOf_106 : decode cX9_eastOf 106 = .ok (.bipush (-5), 2) := by decide +kernel
theorem dX9_eastOf_108 : decode cX9_eastOf 108 = .ok (.iconst 5, 1) := by decide +kernel
theorem dX9_eastOf_109 : decode cX9_eastOf 109 = .ok (.invokestatic 345, 3) := by decide +kernel
theorem dX9_eastOf_112 : decode cX9_eastOf 112 = .ok (.ireturn, 1) := by decide +kernel
theorem dX9_southOf_0 : decode cX9_southOf 0 = .ok (.aload_n 0, 1) := by decide +kernel
theorem dX9_southOf_1 : decode cX9_southOf 1 = .ok (.getfield 26, 3) := by decide +kernel
theorem dX9_southOf_4 : decode cX9_southOf 4 = .ok (.iload_n 1, 1) := by decide +kernel
theorem dX9_southOf_5 : decode cX9_southOf 5 = .ok (.iaload, 1) := by decide +kernel
theorem dX9_southOf_6 : decode cX9_southOf 6 = .ok (.istore 4, 2) := by decide +kernel
theorem dX9_southOf_8 : decode cX9_southOf 8 = .ok (.aload_n 0, 1) := by decide +kernel
theorem dX9_southOf_9 : decode cX9_southOf 9 = .ok (.iconst 1, 1) := by decide +kernel
theorem dX9_southOf_10 : decode cX9_southOf 10 = .ok (.iload_n 1, 1) := by decide +kernel
theorem dX9_southOf_11 : decode cX9_southOf 11 = .ok (.iload_n 2, 1) := by decide +kernel
theorem dX9_southOf_12 : decode cX9_southOf 12 = .ok (.iload_n 3, 1) := by decide +kernel
theorem dX9_southOf_13 : decode cX9_southOf 13 = .ok (.invokevirtual 348, 3) := by decide +kernel
theorem dX9_southOf_16 : decode cX9_southOf 16 = .ok (.istore 5, 2) := by decide +kernel
theorem dX9_southOf_18 : decode cX9_southOf 18 = .ok (.iload 4, 2) := by decide +kernel
theorem dX9_southOf_20 : decode cX9_southOf 20 = .ok (.iconst 2, 1) := by decide +kernel
theorem dX9_southOf_21 : decode cX9_southOf 21 = .ok (.if_icmp .eq 9, 3) := by decide +kernel
theorem dX9_southOf_24 : decode cX9_southOf 24 = .ok (.iload 4, 2) := by decide +kernel
theorem dX9_southOf_26 : decode cX9_southOf 26 = .ok (.iconst 4, 1) := by decide +kernel
theorem dX9_southOf_27 : decode cX9_southOf 27 = .ok (.if_icmp .ne 10, 3) := by decide +kernel
theorem dX9_southOf_30 : decode cX9_southOf 30 = .ok (.iload 5, 2) := by decide +kernel
theorem dX9_southOf_32 : decode cX9_southOf 32 = .ok (.iconst 1, 1) := by decide +kernel
theorem dX9_southOf_33 : decode cX9_southOf 33 = .ok (.iadd, 1) := by decide +kernel
theorem dX9_southOf_34 : decode cX9_southOf 34 = .ok (.goto 35, 3) := by decide +kernel
theorem dX9_southOf_37 : decode cX9_southOf 37 = .ok (.iload 4, 2) := by decide +kernel
theorem dX9_southOf_39 : decode cX9_southOf 39 = .ok (.iconst 3, 1) := by decide +kernel
theorem dX9_southOf_40 : decode cX9_southOf 40 = .ok (.if_icmp .ne 14, 3) := by decide +kernel
theorem dX9_southOf_43 : decode cX9_southOf 43 = .ok (.iload_n 3, 1) := by decide +kernel
theorem dX9_southOf_44 : decode cX9_southOf 44 = .ok (.iconst 5, 1) := by decide +kernel
theorem dX9_southOf_45 : decode cX9_southOf 45 = .ok (.if_icmp .le 9, 3) := by decide +kernel
theorem dX9_southOf_48 : decode cX9_southOf 48 = .ok (.iload 5, 2) := by decide +kernel
theorem dX9_southOf_50 : decode cX9_southOf 50 = .ok (.ineg, 1) := by decide +kernel
theorem dX9_southOf_51 : decode cX9_southOf 51 = .ok (.goto 18, 3) := by decide +kernel
theorem dX9_southOf_54 : decode cX9_southOf 54 = .ok (.iload 4, 2) := by decide +kernel
theorem dX9_southOf_56 : decode cX9_southOf 56 = .ok (.iconst 5, 1) := by decide +kernel
theorem dX9_southOf_57 : decode cX9_southOf 57 = .ok (.if_icmp .ne 10, 3) := by decide +kernel
theorem dX9_southOf_60 : decode cX9_southOf 60 = .ok (.iload 5, 2) := by decide +kernel
theorem dX9_southOf_62 : decode cX9_southOf 62 = .ok (.iconst 2, 1) := by decide +kernel
theorem dX9_southOf_63 : decode cX9_southOf 63 = .ok (.idiv, 1) := by decide +kernel
theorem dX9_southOf_64 : decode cX9_southOf 64 = .ok (.goto 5, 3) := by decide +kernel
theorem dX9_southOf_67 : decode cX9_southOf 67 = .ok (.iload 5, 2) := by decide +kernel
theorem dX9_southOf_69 : decode cX9_southOf 69 = .ok (.bipush (-5), 2) := by decide +kernel
theorem dX9_southOf_71 : decode cX9_southOf 71 = .ok (.iconst 5, 1) := by decide +kernel
theorem dX9_southOf_72 : decode cX9_southOf 72 = .ok (.invokestatic 345, 3) := by decide +kernel
theorem dX9_southOf_75 : decode cX9_southOf 75 = .ok (.ireturn, 1) := by decide +kernel
theorem dX9_goesTo_0 : decode cX9_goesTo 0 = .ok (.iload_n 2, 1) := by decide +kernel
theorem dX9_goesTo_1 : decode cX9_goesTo 1 = .ok (.bipush 6, 2) := by decide +kernel
theorem dX9_goesTo_3 : decode cX9_goesTo 3 = .ok (.irem, 1) := by decide +kernel
theorem dX9_goesTo_4 : decode cX9_goesTo 4 = .ok (.aload_n 0, 1) := by decide +kernel
theorem dX9_goesTo_5 : decode cX9_goesTo 5 = .ok (.iload_n 1, 1) := by decide +kernel
theorem dX9_goesTo_6 : decode cX9_goesTo 6 = .ok (.iload_n 2, 1) := by decide +kernel
theorem dX9_goesTo_7 : decode cX9_goesTo 7 = .ok (.iload_n 3, 1) := by decide +kernel
theorem dX9_goesTo_8 : decode cX9_goesTo 8 = .ok (.invokevirtual 352, 3) := by decide +kernel
theorem dX9_goesTo_11 : decode cX9_goesTo 11 = .ok (.iadd, 1) := by decide +kernel
theorem dX9_goesTo_12 : decode cX9_goesTo 12 = .ok (.istore 4, 2) := by decide +kernel
theorem dX9_goesTo_14 : decode cX9_goesTo 14 = .ok (.iload_n 2, 1) := by decide +kernel
theorem dX9_goesTo_15 : decode cX9_goesTo 15 = .ok (.bipush 6, 2) := by decide +kernel
theorem dX9_goesTo_17 : decode cX9_goesTo 17 = .ok (.idiv, 1) := by decide +kernel
theorem dX9_goesTo_18 : decode cX9_goesTo 18 = .ok (.aload_n 0, 1) := by decide +kernel
theorem dX9_goesTo_19 : decode cX9_goesTo 19 = .ok (.iload_n 1, 1) := by decide +kernel
theorem dX9_goesTo_20 : decode cX9_goesTo 20 = .ok (.iload_n 2, 1) := by decide +kernel
theorem dX9_goesTo_21 : decode cX9_goesTo 21 = .ok (.iload_n 3, 1) := by decide +kernel
theorem dX9_goesTo_22 : decode cX9_goesTo 22 = .ok (.invokevirtual 355, 3) := by decide +kernel
theorem dX9_goesTo_25 : decode cX9_goesTo 25 = .ok (.iadd, 1) := by decide +kernel
theorem dX9_goesTo_26 : decode cX9_goesTo 26 = .ok (.istore 5, 2) := by decide +kernel
theorem dX9_goesTo_28 : decode cX9_goesTo 28 = .ok (.iload 4, 2) := by decide +kernel
theorem dX9_goesTo_30 : decode cX9_goesTo 30 = .ok (.i2l, 1) := by decide +kernel
theorem dX9_goesTo_31 : decode cX9_goesTo 31 = .ok (.lconst 0, 1) := by decide +kernel
theorem dX9_goesTo_32 : decode cX9_goesTo 32 = .ok (.ldc2_w 122, 3) := by decide +kernel
theorem dX9_goesTo_35 : decode cX9_goesTo 35 = .ok (.invokestatic 83, 3) := by decide +kernel
theorem dX9_goesTo_38 : decode cX9_goesTo 38 = .ok (.ifCond .eq 16, 3) := by decide +kernel
theorem dX9_goesTo_41 : decode cX9_goesTo 41 = .ok (.iload 5, 2) := by decide +kernel
theorem dX9_goesTo_43 : decode cX9_goesTo 43 = .ok (.i2l, 1) := by decide +kernel
theorem dX9_goesTo_44 : decode cX9_goesTo 44 = .ok (.lconst 0, 1) := by decide +kernel
theorem dX9_goesTo_45 : decode cX9_goesTo 45 = .ok (.ldc2_w 122, 3) := by decide +kernel
theorem dX9_goesTo_48 : decode cX9_goesTo 48 = .ok (.invokestatic 83, 3) := by decide +kernel
theorem dX9_goesTo_51 : decode cX9_goesTo 51 = .ok (.ifCond .ne 5, 3) := by decide +kernel
theorem dX9_goesTo_54 : decode cX9_goesTo 54 = .ok (.iload_n 2, 1) := by decide +kernel
theorem dX9_goesTo_55 : decode cX9_goesTo 55 = .ok (.ireturn, 1) := by decide +kernel
theorem dX9_goesTo_56 : decode cX9_goesTo 56 = .ok (.bipush 6, 2) := by decide +kernel
theorem dX9_goesTo_58 : decode cX9_goesTo 58 = .ok (.iload 5, 2) := by decide +kernel
theorem dX9_goesTo_60 : decode cX9_goesTo 60 = .ok (.imul, 1) := by decide +kernel
theorem dX9_goesTo_61 : decode cX9_goesTo 61 = .ok (.iload 4, 2) := by decide +kernel
theorem dX9_goesTo_63 : decode cX9_goesTo 63 = .ok (.iadd, 1) := by decide +kernel
theorem dX9_goesTo_64 : decode cX9_goesTo 64 = .ok (.istore 6, 2) := by decide +kernel
theorem dX9_goesTo_66 : decode cX9_goesTo 66 = .ok (.aload_n 0, 1) := by decide +kernel
theorem dX9_goesTo_67 : decode cX9_goesTo 67 = .ok (.getfield 23, 3) := by decide +kernel
theorem dX9_goesTo_70 : decode cX9_goesTo 70 = .ok (.iload 6, 2) := by decide +kernel
theorem dX9_goesTo_72 : decode cX9_goesTo 72 = .ok (.iaload, 1) := by decide +kernel
theorem dX9_goesTo_73 : decode cX9_goesTo 73 = .ok (.iconst 1, 1) := by decide +kernel
theorem dX9_goesTo_74 : decode cX9_goesTo 74 = .ok (.if_icmp .ne 7, 3) := by decide +kernel
theorem dX9_goesTo_77 : decode cX9_goesTo 77 = .ok (.iload_n 2, 1) := by decide +kernel
theorem dX9_goesTo_78 : decode cX9_goesTo 78 = .ok (.goto 5, 3) := by decide +kernel
theorem dX9_goesTo_81 : decode cX9_goesTo 81 = .ok (.iload 6, 2) := by decide +kernel
theorem dX9_goesTo_83 : decode cX9_goesTo 83 = .ok (.ireturn, 1) := by decide +kernel
theorem dX9_steps_0 : decode cX9_steps 0 = .ok (.iload_n 0, 1) := by decide +kernel
theorem dX9_steps_1 : decode cX9_steps 1 = .ok (.bipush 6, 2) := by decide +kernel
theorem dX9_steps_3 : decode cX9_steps 3 = .ok (.irem, 1) := by decide +kernel
theorem dX9_steps_4 : decode cX9_steps 4 = .ok (.iload_n 1, 1) := by decide +kernel
theorem dX9_steps_5 : decode cX9_steps 5 = .ok (.bipush 6, 2) := by decide +kernel
theorem dX9_steps_7 : decode cX9_steps 7 = .ok (.irem, 1) := by decide +kernel
theorem dX9_steps_8 : decode cX9_steps 8 = .ok (.isub, 1) := by decide +kernel
theorem dX9_steps_9 : decode cX9_steps 9 = .ok (.istore_n 2, 1) := by decide +kernel
theorem dX9_steps_10 : decode cX9_steps 10 = .ok (.iload_n 0, 1) := by decide +kernel
theorem dX9_steps_11 : decode cX9_steps 11 = .ok (.bipush 6, 2) := by decide +kernel
theorem dX9_steps_13 : decode cX9_steps 13 = .ok (.idiv, 1) := by decide +kernel
theorem dX9_steps_14 : decode cX9_steps 14 = .ok (.iload_n 1, 1) := by decide +kernel
theorem dX9_steps_15 : decode cX9_steps 15 = .ok (.bipush 6, 2) := by decide +kernel
theorem dX9_steps_17 : decode cX9_steps 17 = .ok (.idiv, 1) := by decide +kernel
theorem dX9_steps_18 : decode cX9_steps 18 = .ok (.isub, 1) := by decide +kernel
theorem dX9_steps_19 : decode cX9_steps 19 = .ok (.istore_n 3, 1) := by decide +kernel
theorem dX9_steps_20 : decode cX9_steps 20 = .ok (.iload_n 2, 1) := by decide +kernel
theorem dX9_steps_21 : decode cX9_steps 21 = .ok (.ifCond .ge 8, 3) := by decide +kernel
theorem dX9_steps_24 : decode cX9_steps 24 = .ok (.iload_n 2, 1) := by decide +kernel
theorem dX9_steps_25 : decode cX9_steps 25 = .ok (.ineg, 1) := by decide +kernel
theorem dX9_steps_26 : decode cX9_steps 26 = .ok (.goto 4, 3) := by decide +kernel
theorem dX9_steps_29 : decode cX9_steps 29 = .ok (.iload_n 2, 1) := by decide +kernel
theorem dX9_steps_30 : decode cX9_steps 30 = .ok (.iload_n 3, 1) := by decide +kernel
theorem dX9_steps_31 : decode cX9_steps 31 = .ok (.ifCond .ge 8, 3) := by decide +kernel
theorem dX9_steps_34 : decode cX9_steps 34 = .ok (.iload_n 3, 1) := by decide +kernel
theorem dX9_steps_35 : decode cX9_steps 35 = .ok (.ineg, 1) := by decide +kernel
theorem dX9_steps_36 : decode cX9_steps 36 = .ok (.goto 4, 3) := by decide +kernel
theorem dX9_steps_39 : decode cX9_steps 39 = .ok (.iload_n 3, 1) := by decide +kernel
theorem dX9_steps_40 : decode cX9_steps 40 = .ok (.iadd, 1) := by decide +kernel
theorem dX9_steps_41 : decode cX9_steps 41 = .ok (.ireturn, 1) := by decide +kernel
theorem dX9_highOf_0 : decode cX9_highOf 0 = .ok (.aload_n 0, 1) := by decide +kernel
theorem dX9_highOf_1 : decode cX9_highOf 1 = .ok (.getfield 26, 3) := by decide +kernel
theorem dX9_highOf_4 : decode cX9_highOf 4 = .ok (.iload_n 1, 1) := by decide +kernel
theorem dX9_highOf_5 : decode cX9_highOf 5 = .ok (.iaload, 1) := by decide +kernel
theorem dX9_highOf_6 : decode cX9_highOf 6 = .ok (.istore_n 2, 1) := by decide +kernel
theorem dX9_highOf_7 : decode cX9_highOf 7 = .ok (.iload_n 2, 1) := by decide +kernel
theorem dX9_highOf_8 : decode cX9_highOf 8 = .ok (.iconst 4, 1) := by decide +kernel
theorem dX9_highOf_9 : decode cX9_highOf 9 = .ok (.if_icmp .ne 5, 3) := by decide +kernel
theorem dX9_highOf_12 : decode cX9_highOf 12 = .ok (.iconst 0, 1) := by decide +kernel
theorem dX9_highOf_13 : decode cX9_highOf 13 = .ok (.ireturn, 1) := by decide +kernel
theorem dX9_highOf_14 : decode cX9_highOf 14 = .ok (.iconst 0, 1) := by decide +kernel
theorem dX9_highOf_15 : decode cX9_highOf 15 = .ok (.istore_n 3, 1) := by decide +kernel
theorem dX9_highOf_16 : decode cX9_highOf 16 = .ok (.iconst 0, 1) := by decide +kernel
theorem dX9_highOf_17 : decode cX9_highOf 17 = .ok (.istore 4, 2) := by decide +kernel
theorem dX9_highOf_19 : decode cX9_highOf 19 = .ok (.iload 4, 2) := by decide +kernel
theorem dX9_highOf_21 : decode cX9_highOf 21 = .ok (.aload_n 0, 1) := by decide +kernel
theorem dX9_highOf_22 : decode cX9_highOf 22 = .ok (.getfield 80, 3) := by decide +kernel
theorem dX9_highOf_25 : decode cX9_highOf 25 = .ok (.if_icmp .ge 51, 3) := by decide +kernel
theorem dX9_highOf_28 : decode cX9_highOf 28 = .ok (.iload_n 3, 1) := by decide +kernel
theorem dX9_highOf_29 : decode cX9_highOf 29 = .ok (.iload 4, 2) := by decide +kernel
theorem dX9_highOf_31 : decode cX9_highOf 31 = .ok (.iload_n 1, 1) := by decide +kernel
theorem dX9_highOf_32 : decode cX9_highOf 32 = .ok (.if_icmp .eq 35, 3) := by decide +kernel
theorem dX9_highOf_35 : decode cX9_highOf 35 = .ok (.aload_n 0, 1) := by decide +kernel
theorem dX9_highOf_36 : decode cX9_highOf 36 = .ok (.getfield 29, 3) := by decide +kernel
theorem dX9_highOf_39 : decode cX9_highOf 39 = .ok (.iconst 3, 1) := by decide +kernel
theorem dX9_highOf_40 : decode cX9_highOf 40 = .ok (.iload 4, 2) := by decide +kernel
theorem dX9_highOf_42 : decode cX9_highOf 42 = .ok (.imul, 1) := by decide +kernel
theorem dX9_highOf_43 : decode cX9_highOf 43 = .ok (.iconst 1, 1) := by decide +kernel
theorem dX9_highOf_44 : decode cX9_highOf 44 = .ok (.iadd, 1) := by decide +kernel
theorem dX9_highOf_45 : decode cX9_highOf 45 = .ok (.iaload, 1) := by decide +kernel
theorem dX9_highOf_46 : decode cX9_highOf 46 = .ok (.aload_n 0, 1) := by decide +kernel
theorem dX9_highOf_47 : decode cX9_highOf 47 = .ok (.getfield 29, 3) := by decide +kernel
theorem dX9_highOf_50 : decode cX9_highOf 50 = .ok (.iconst 3, 1) := by decide +kernel
theorem dX9_highOf_51 : decode cX9_highOf 51 = .ok (.iload_n 1, 1) := by decide +kernel
theorem dX9_highOf_52 : decode cX9_highOf 52 = .ok (.imul, 1) := by decide +kernel
theorem dX9_highOf_53 : decode cX9_highOf 53 = .ok (.iconst 1, 1) := by decide +kernel
theorem dX9_highOf_54 : decode cX9_highOf 54 = .ok (.iadd, 1) := by decide +kernel
theorem dX9_highOf_55 : decode cX9_highOf 55 = .ok (.iaload, 1) := by decide +kernel
theorem dX9_highOf_56 : decode cX9_highOf 56 = .ok (.invokestatic 358, 3) := by decide +kernel
theorem dX9_highOf_59 : decode cX9_highOf 59 = .ok (.iconst 2, 1) := by decide +kernel
theorem dX9_highOf_60 : decode cX9_highOf 60 = .ok (.if_icmp .ge 7, 3) := by decide +kernel
theorem dX9_highOf_63 : decode cX9_highOf 63 = .ok (.iconst 1, 1) := by decide +kernel
theorem dX9_highOf_64 : decode cX9_highOf 64 = .ok (.goto 4, 3) := by decide +kernel
theorem dX9_highOf_67 : decode cX9_highOf 67 = .ok (.iconst 0, 1) := by decide +kernel
theorem dX9_highOf_68 : decode cX9_highOf 68 = .ok (.iadd, 1) := by decide +kernel
theorem dX9_highOf_69 : decode cX9_highOf 69 = .ok (.istore_n 3, 1) := by decide +kernel
theorem dX9_highOf_70 : decode cX9_highOf 70 = .ok (.iinc 4 1, 3) := by decide +kernel
theorem dX9_highOf_73 : decode cX9_highOf 73 = .ok (.goto (-54), 3) := by decide +kernel
theorem dX9_highOf_76 : decode cX9_highOf 76 = .ok (.aload_n 0, 1) := by decide +kernel
theorem dX9_highOf_77 : decode cX9_highOf 77 = .ok (.iconst 2, 1) := by decide +kernel
theorem dX9_highOf_78 : decode cX9_highOf 78 = .ok (.iload_n 1, 1) := by decide +kernel
theorem dX9_highOf_79 : decode cX9_highOf 79 = .ok (.aload_n 0, 1) := by decide +kernel
theorem dX9_highOf_80 : decode cX9_highOf 80 = .ok (.getfield 29, 3) := by decide +kernel
theorem dX9_highOf_83 : decode cX9_highOf 83 = .ok (.iconst 3, 1) := by decide +kernel
theorem dX9_highOf_84 : decode cX9_highOf 84 = .ok (.iload_n 1, 1) := by decide +kernel
theorem dX9_highOf_85 : decode cX9_highOf 85 = .ok (.imul, 1) := by decide +kernel
theorem dX9_highOf_86 : decode cX9_highOf 86 = .ok (.iconst 1, 1) := by decide +kernel
theorem dX9_highOf_87 : decode cX9_highOf 87 = .ok (.iadd, 1) := by decide +kernel
theorem dX9_highOf_88 : decode cX9_highOf 88 = .ok (.iaload, 1) := by decide +kernel
theorem dX9_highOf_89 : decode cX9_highOf 89 = .ok (.iconst 0, 1) := by decide +kernel
theorem dX9_highOf_90 : decode cX9_highOf 90 = .ok (.invokevirtual 348, 3) := by decide +kernel
theorem dX9_highOf_93 : decode cX9_highOf 93 = .ok (.istore 4, 2) := by decide +kernel
theorem dX9_highOf_95 : decode cX9_highOf 95 = .ok (.iload 4, 2) := by decide +kernel
theorem dX9_highOf_97 : decode cX9_highOf 97 = .ok (.iload_n 3, 1) := by decide +kernel
theorem dX9_highOf_98 : decode cX9_highOf 98 = .ok (.iadd, 1) := by decide +kernel
theorem dX9_highOf_99 : decode cX9_highOf 99 = .ok (.istore 5, 2) := by decide +kernel
theorem dX9_highOf_101 : decode cX9_highOf 101 = .ok (.iload_n 2, 1) := by decide +kernel
theorem dX9_highOf_102 : decode cX9_highOf 102 = .ok (.iconst 2, 1) := by decide +kernel
theorem dX9_highOf_103 : decode cX9_highOf 103 = .ok (.if_icmp .ne 8, 3) := by decide +kernel
theorem dX9_highOf_106 : decode cX9_highOf 106 = .ok (.iload 4, 2) := by decide +kernel
theorem dX9_highOf_108 : decode cX9_highOf 108 = .ok (.goto 31, 3) := by decide +kernel
theorem dX9_highOf_111 : decode cX9_highOf 111 = .ok (.iload_n 2, 1) := by decide +kernel
theorem dX9_highOf_112 : decode cX9_highOf 112 = .ok (.iconst 1, 1) := by decide +kernel
theorem dX9_highOf_113 : decode cX9_highOf 113 = .ok (.if_icmp .ne 10, 3) := by decide +kernel
theorem dX9_highOf_116 : decode cX9_highOf 116 = .ok (.iload 5, 2) := by decide +kernel
theorem dX9_highOf_118 : decode cX9_highOf 118 = .ok (.iconst 2, 1) := by decide +kernel
theorem dX9_highOf_119 : decode cX9_highOf 119 = .ok (.iadd, 1) := by decide +kernel
theorem dX9_highOf_120 : decode cX9_highOf 120 = .ok (.goto 19, 3) := by decide +kernel
theorem dX9_highOf_123 : decode cX9_highOf 123 = .ok (.iload_n 2, 1) := by decide +kernel
theorem dX9_highOf_124 : decode cX9_highOf 124 = .ok (.iconst 3, 1) := by decide +kernel
theorem dX9_highOf_125 : decode cX9_highOf 125 = .ok (.if_icmp .ne 12, 3) := by decide +kernel
theorem dX9_highOf_128 : decode cX9_highOf 128 = .ok (.iconst 2, 1) := by decide +kernel
theorem dX9_highOf_129 : decode cX9_highOf 129 = .ok (.iload 5, 2) := by decide +kernel
theorem dX9_highOf_131 : decode cX9_highOf 131 = .ok (.iconst 2, 1) := by decide +kernel
theorem dX9_highOf_132 : decode cX9_highOf 132 = .ok (.iadd, 1) := by decide +kernel
theorem dX9_highOf_133 : decode cX9_highOf 133 = .ok (.imul, 1) := by decide +kernel
theorem dX9_highOf_134 : decode cX9_highOf 134 = .ok (.goto 5, 3) := by decide +kernel
theorem dX9_highOf_137 : decode cX9_highOf 137 = .ok (.iload 5, 2) := by decide +kernel
theorem dX9_highOf_139 : decode cX9_highOf 139 = .ok (.iconst 0, 1) := by decide +kernel
theorem dX9_highOf_140 : decode cX9_highOf 140 = .ok (.bipush 99, 2) := by decide +kernel
theorem dX9_highOf_142 : decode cX9_highOf 142 = .ok (.invokestatic 345, 3) := by decide +kernel
theorem dX9_highOf_145 : decode cX9_highOf 145 = .ok (.ireturn, 1) := by decide +kernel
theorem dX9_asks_0 : decode cX9_asks 0 = .ok (.aload_n 0, 1) := by decide +kernel
theorem dX9_asks_1 : decode cX9_asks 1 = .ok (.iload_n 1, 1) := by decide +kernel
theorem dX9_asks_2 : decode cX9_asks 2 = .ok (.invokevirtual 95, 3) := by decide +kernel
theorem dX9_asks_5 : decode cX9_asks 5 = .ok (.ifCond .eq 28, 3) := by decide +kernel
theorem dX9_asks_8 : decode cX9_asks 8 = .ok (.iload_n 2, 1) := by decide +kernel
theorem dX9_asks_9 : decode cX9_asks 9 = .ok (.invokestatic 91, 3) := by decide +kernel
theorem dX9_asks_12 : decode cX9_asks 12 = .ok (.ifCond .eq 21, 3) := by decide +kernel
theorem dX9_asks_15 : decode cX9_asks 15 = .ok (.iload_n 3, 1) := by decide +kernel
theorem dX9_asks_16 : decode cX9_asks 16 = .ok (.invokestatic 361, 3) := by decide +kernel
theorem dX9_asks_19 : decode cX9_asks 19 = .ok (.ifCond .eq 14, 3) := by decide +kernel
theorem dX9_asks_22 : decode cX9_asks 22 = .ok (.iload 4, 2) := by decide +kernel
theorem dX9_asks_24 : decode cX9_asks 24 = .ok (.i2l, 1) := by decide +kernel
theorem dX9_asks_25 : decode cX9_asks 25 = .ok (.lconst 0, 1) := by decide +kernel
theorem dX9_asks_26 : decode cX9_asks 26 = .ok (.lconst 1, 1) := by decide +kernel
theorem dX9_asks_27 : decode cX9_asks 27 = .ok (.invokestatic 83, 3) := by decide +kernel
theorem dX9_asks_30 : decode cX9_asks 30 = .ok (.ifCond .ne 7, 3) := by decide +kernel
theorem dX9_asks_33 : decode cX9_asks 33 = .ok (.sipush (-1000), 3) := by decide +kernel
theorem dX9_asks_36 : decode cX9_asks 36 = .ok (.ireturn, 1) := by decide +kernel
theorem dX9_asks_37 : decode cX9_asks 37 = .ok (.iload 4, 2) := by decide +kernel
theorem dX9_asks_39 : decode cX9_asks 39 = .ok (.ifCond .ne 13, 3) := by decide +kernel
theorem dX9_asks_42 : decode cX9_asks 42 = .ok (.aload_n 0, 1) := by decide +kernel
theorem dX9_asks_43 : decode cX9_asks 43 = .ok (.iload_n 1, 1) := by decide +kernel
theorem dX9_asks_44 : decode cX9_asks 44 = .ok (.iload_n 2, 1) := by decide +kernel
theorem dX9_asks_45 : decode cX9_asks 45 = .ok (.iload_n 3, 1) := by decide +kernel
theorem dX9_asks_46 : decode cX9_asks 46 = .ok (.invokevirtual 352, 3) := by decide +kernel
theorem dX9_asks_49 : decode cX9_asks 49 = .ok (.goto 10, 3) := by decide +kernel
theorem dX9_asks_52 : decode cX9_asks 52 = .ok (.aload_n 0, 1) := by decide +kernel
theorem dX9_asks_53 : decode cX9_asks 53 = .ok (.iload_n 1, 1) := by decide +kernel
theorem dX9_asks_54 : decode cX9_asks 54 = .ok (.iload_n 2, 1) := by decide +kernel
theorem dX9_asks_55 : decode cX9_asks 55 = .ok (.iload_n 3, 1) := by decide +kernel
theorem dX9_asks_56 : decode cX9_asks 56 = .ok (.invokevirtual 355, 3) := by decide +kernel
theorem dX9_asks_59 : decode cX9_asks 59 = .ok (.ireturn, 1) := by decide +kernel
theorem dX9_flies1_0 : decode cX9_flies1 0 = .ok (.aload_n 0, 1) := by decide +kernel
theorem dX9_flies1_1 : decode cX9_flies1 1 = .ok (.iload_n 1, 1) := by decide +kernel
theorem dX9_flies1_2 : decode cX9_flies1 2 = .ok (.aload_n 0, 1) := by decide +kernel
theorem dX9_flies1_3 : decode cX9_flies1 3 = .ok (.getfield 29, 3) := by decide +kernel
theorem dX9_flies1_6 : decode cX9_flies1 6 = .ok (.iconst 3, 1) := by decide +kernel
theorem dX9_flies1_7 : decode cX9_flies1 7 = .ok (.iload_n 1, 1) := by decide +kernel
theorem dX9_flies1_8 : decode cX9_flies1 8 = .ok (.imul, 1) := by decide +kernel
theorem dX9_flies1_9 : decode cX9_flies1 9 = .ok (.iconst 1, 1) := by decide +kernel
theorem dX9_flies1_10 : decode cX9_flies1 10 = .ok (.iadd, 1) := by decide +kernel
theorem dX9_flies1_11 : decode cX9_flies1 11 = .ok (.iaload, 1) := by decide +kernel
theorem dX9_flies1_12 : decode cX9_flies1 12 = .ok (.iload_n 2, 1) := by decide +kernel
theorem dX9_flies1_13 : decode cX9_flies1 13 = .ok (.invokevirtual 132, 3) := by decide +kernel
theorem dX9_flies1_16 : decode cX9_flies1 16 = .ok (.istore_n 3, 1) := by decide +kernel
theorem dX9_flies1_17 : decode cX9_flies1 17 = .ok (.iload_n 3, 1) := by decide +kernel
theorem dX9_flies1_18 : decode cX9_flies1 18 = .ok (.aload_n 0, 1) := by decide +kernel
theorem dX9_flies1_19 : decode cX9_flies1 19 = .ok (.getfield 29, 3) := by decide +kernel
theorem dX9_flies1_22 : decode cX9_flies1 22 = .ok (.iconst 3, 1) := by decide +kernel
theorem dX9_flies1_23 : decode cX9_flies1 23 = .ok (.iload_n 1, 1) := by decide +kernel
theorem dX9_flies1_24 : decode cX9_flies1 24 = .ok (.imul, 1) := by decide +kernel
theorem dX9_flies1_25 : decode cX9_flies1 25 = .ok (.iconst 1, 1) := by decide +kernel
theorem dX9_flies1_26 : decode cX9_flies1 26 = .ok (.iadd, 1) := by decide +kernel
theorem dX9_flies1_27 : decode cX9_flies1 27 = .ok (.iaload, 1) := by decide +kernel
theorem dX9_flies1_28 : decode cX9_flies1 28 = .ok (.if_icmp .ne 5, 3) := by decide +kernel
theorem dX9_flies1_31 : decode cX9_flies1 31 = .ok (.iconst 0, 1) := by decide +kernel
theorem dX9_flies1_32 : decode cX9_flies1 32 = .ok (.ireturn, 1) := by decide +kernel
theorem dX9_flies1_33 : decode cX9_flies1 33 = .ok (.aload_n 0, 1) := by decide +kernel
theorem dX9_flies1_34 : decode cX9_flies1 34 = .ok (.getfield 29, 3) := by decide +kernel
theorem dX9_flies1_37 : decode cX9_flies1 37 = .ok (.iconst 3, 1) := by decide +kernel
theorem dX9_flies1_38 : decode cX9_flies1 38 = .ok (.iload_n 1, 1) := by decide +kernel
theorem dX9_flies1_39 : decode cX9_flies1 39 = .ok (.imul, 1) := by decide +kernel
theorem dX9_flies1_40 : decode cX9_flies1 40 = .ok (.iconst 1, 1) := by decide +kernel
theorem dX9_flies1_41 : decode cX9_flies1 41 = .ok (.iadd, 1) := by decide +kernel
theorem dX9_flies1_42 : decode cX9_flies1 42 = .ok (.iload_n 3, 1) := by decide +kernel
theorem dX9_flies1_43 : decode cX9_flies1 43 = .ok (.iastore, 1) := by decide +kernel
theorem dX9_flies1_44 : decode cX9_flies1 44 = .ok (.aload_n 0, 1) := by decide +kernel
theorem dX9_flies1_45 : decode cX9_flies1 45 = .ok (.getfield 29, 3) := by decide +kernel
theorem dX9_flies1_48 : decode cX9_flies1 48 = .ok (.iconst 3, 1) := by decide +kernel
theorem dX9_flies1_49 : decode cX9_flies1 49 = .ok (.iload_n 1, 1) := by decide +kernel
theorem dX9_flies1_50 : decode cX9_flies1 50 = .ok (.imul, 1) := by decide +kernel
theorem dX9_flies1_51 : decode cX9_flies1 51 = .ok (.iconst 2, 1) := by decide +kernel
theorem dX9_flies1_52 : decode cX9_flies1 52 = .ok (.iadd, 1) := by decide +kernel
theorem dX9_flies1_53 : decode cX9_flies1 53 = .ok (.iconst 1, 1) := by decide +kernel
theorem dX9_flies1_54 : decode cX9_flies1 54 = .ok (.iastore, 1) := by decide +kernel
theorem dX9_flies1_55 : decode cX9_flies1 55 = .ok (.iconst 1, 1) := by decide +kernel
theorem dX9_flies1_56 : decode cX9_flies1 56 = .ok (.ireturn, 1) := by decide +kernel
theorem dX9_say_0 : decode cX9_say 0 = .ok (.iload_n 1, 1) := by decide +kernel
theorem dX9_say_1 : decode cX9_say 1 = .ok (.iconst (-1), 1) := by decide +kernel
theorem dX9_say_2 : decode cX9_say 2 = .ok (.if_icmp .eq 11, 3) := by decide +kernel
theorem dX9_say_5 : decode cX9_say 5 = .ok (.aload_n 0, 1) := by decide +kernel
theorem dX9_say_6 : decode cX9_say 6 = .ok (.iload_n 1, 1) := by decide +kernel
theorem dX9_say_7 : decode cX9_say 7 = .ok (.invokevirtual 95, 3) := by decide +kernel
theorem dX9_say_10 : decode cX9_say 10 = .ok (.ifCond .eq 10, 3) := by decide +kernel
theorem dX9_say_13 : decode cX9_say 13 = .ok (.iload_n 2, 1) := by decide +kernel
theorem dX9_say_14 : decode cX9_say 14 = .ok (.invokestatic 361, 3) := by decide +kernel
theorem dX9_say_17 : decode cX9_say 17 = .ok (.ifCond .ne 6, 3) := by decide +kernel
theorem dX9_say_20 : decode cX9_say 20 = .ok (.bipush (-2), 2) := by decide +kernel
theorem dX9_say_22 : decode cX9_say 22 = .ok (.ireturn, 1) := by decide +kernel
theorem dX9_say_23 : decode cX9_say 23 = .ok (.iconst 0, 1) := by decide +kernel
theorem dX9_say_24 : decode cX9_say 24 = .ok (.istore_n 3, 1) := by decide +kernel
theorem dX9_say_25 : decode cX9_say 25 = .ok (.iconst 0, 1) := by decide +kernel
theorem dX9_say_26 : decode cX9_say 26 = .ok (.istore 4, 2) := by decide +kernel
theorem dX9_say_28 : decode cX9_say 28 = .ok (.iload 4, 2) := by decide +kernel
theorem dX9_say_30 : decode cX9_say 30 = .ok (.aload_n 0, 1) := by decide +kernel
theorem dX9_say_31 : decode cX9_say 31 = .ok (.getfield 80, 3) := by decide +kernel
theorem dX9_say_34 : decode cX9_say 34 = .ok (.if_icmp .ge 34, 3) := by decide +kernel
theorem dX9_say_37 : decode cX9_say 37 = .ok (.iload_n 3, 1) := by decide +kernel
theorem dX9_say_38 : decode cX9_say 38 = .ok (.iload_n 1, 1) := by decide +kernel
theorem dX9_say_39 : decode cX9_say 39 = .ok (.iconst (-1), 1) := by decide +kernel
theorem dX9_say_40 : decode cX9_say 40 = .ok (.if_icmp .eq 9, 3) := by decide +kernel
theorem dX9_say_43 : decode cX9_say 43 = .ok (.iload_n 1, 1) := by decide +kernel
theorem dX9_say_44 : decode cX9_say 44 = .ok (.iload 4, 2) := by decide +kernel
theorem dX9_say_46 : decode cX9_say 46 = .ok (.if_icmp .ne 13, 3) := by decide +kernel
theorem dX9_say_49 : decode cX9_say 49 = .ok (.aload_n 0, 1) := by decide +kernel
theorem dX9_say_50 : decode cX9_say 50 = .ok (.iload 4, 2) := by decide +kernel
theorem dX9_say_52 : decode cX9_say 52 = .ok (.iload_n 2, 1) := by decide +kernel
theorem dX9_say_53 : decode cX9_say 53 = .ok (.invokevirtual 363, 3) := by decide +kernel
theorem dX9_say_56 : decode cX9_say 56 = .ok (.goto 4, 3) := by decide +kernel
theorem dX9_say_59 : decode cX9_say 59 = .ok (.iconst 0, 1) := by decide +kernel
theorem dX9_say_60 : decode cX9_say 60 = .ok (.iadd, 1) := by decide +kernel
theorem dX9_say_61 : decode cX9_say 61 = .ok (.istore_n 3, 1) := by decide +kernel
theorem dX9_say_62 : decode cX9_say 62 = .ok (.iinc 4 1, 3) := by decide +kernel
theorem dX9_say_65 : decode cX9_say 65 = .ok (.goto (-37), 3) := by decide +kernel
theorem dX9_say_68 : decode cX9_say 68 = .ok (.iload_n 3, 1) := by decide +kernel
theorem dX9_say_69 : decode cX9_say 69 = .ok (.ireturn, 1) := by decide +kernel
theorem dX9_flies_0 : decode cX9_flies 0 = .ok (.iload_n 1, 1) := by decide +kernel
theorem dX9_flies_1 : decode cX9_flies 1 = .ok (.invokestatic 366, 3) := by decide +kernel
theorem dX9_flies_4 : decode cX9_flies 4 = .ok (.ifCond .eq 21, 3) := by decide +kernel
theorem dX9_flies_7 : decode cX9_flies 7 = .ok (.aload_n 0, 1) := by decide +kernel
theorem dX9_flies_8 : decode cX9_flies 8 = .ok (.iload_n 2, 1) := by decide +kernel
theorem dX9_flies_9 : decode cX9_flies 9 = .ok (.invokevirtual 95, 3) := by decide +kernel
theorem dX9_flies_12 : decode cX9_flies 12 = .ok (.ifCond .eq 13, 3) := by decide +kernel
theorem dX9_flies_15 : decode cX9_flies 15 = .ok (.iload_n 3, 1) := by decide +kernel
theorem dX9_flies_16 : decode cX9_flies 16 = .ok (.i2l, 1) := by decide +kernel
theorem dX9_flies_17 : decode cX9_flies 17 = .ok (.lconst 0, 1) := by decide +kernel
theorem dX9_flies_18 : decode cX9_flies 18 = .ok (.lconst 1, 1) := by decide +kernel
theorem dX9_flies_19 : decode cX9_flies 19 = .ok (.invokestatic 83, 3) := by decide +kernel
theorem dX9_flies_22 : decode cX9_flies 22 = .ok (.ifCond .ne 6, 3) := by decide +kernel
theorem dX9_flies_25 : decode cX9_flies 25 = .ok (.bipush (-2), 2) := by decide +kernel
theorem dX9_flies_27 : decode cX9_flies 27 = .ok (.ireturn, 1) := by decide +kernel
theorem dX9_flies_28 : decode cX9_flies 28 = .ok (.aload_n 0, 1) := by decide +kernel
theorem dX9_flies_29 : decode cX9_flies 29 = .ok (.getfield 60, 3) := by decide +kernel
theorem dX9_flies_32 : decode cX9_flies 32 = .ok (.iload_n 1, 1) := by decide +kernel
theorem dX9_flies_33 : decode cX9_flies 33 = .ok (.baload, 1) := by decide +kernel
theorem dX9_flies_34 : decode cX9_flies 34 = .ok (.ifCond .ne 6, 3) := by decide +kernel
theorem dX9_flies_37 : decode cX9_flies 37 = .ok (.bipush (-11), 2) := by decide +kernel
theorem dX9_flies_39 : decode cX9_flies 39 = .ok (.ireturn, 1) := by decide +kernel
theorem dX9_flies_40 : decode cX9_flies 40 = .ok (.iconst 0, 1) := by decide +kernel
theorem dX9_flies_41 : decode cX9_flies 41 = .ok (.istore 4, 2) := by decide +kernel
theorem dX9_flies_43 : decode cX9_flies 43 = .ok (.iload 4, 2) := by decide +kernel
theorem dX9_flies_45 : decode cX9_flies 45 = .ok (.aload_n 0, 1) := by decide +kernel
theorem dX9_flies_46 : decode cX9_flies 46 = .ok (.getfield 67, 3) := by decide +kernel
theorem dX9_flies_49 : decode cX9_flies 49 = .ok (.iload_n 1, 1) := by decide +kernel
theorem dX9_flies_50 : decode cX9_flies 50 = .ok (.iaload, 1) := by decide +kernel
theorem dX9_flies_51 : decode cX9_flies 51 = .ok (.if_icmp .ge 30, 3) := by decide +kernel
theorem dX9_flies_54 : decode cX9_flies 54 = .ok (.aload_n 0, 1) := by decide +kernel
theorem dX9_flies_55 : decode cX9_flies 55 = .ok (.getfield 70, 3) := by decide +kernel
theorem dX9_flies_58 : decode cX9_flies 58 = .ok (.bipush 40, 2) := by decide +kernel
theorem dX9_flies_60 : decode cX9_flies 60 = .ok (.iload_n 1, 1) := by decide +kernel
theorem dX9_flies_61 : decode cX9_flies 61 = .ok (.imul, 1) := by decide +kernel
theorem dX9_flies_62 : decode cX9_flies 62 = .ok (.iload 4, 2) := by decide +kernel
theorem dX9_flies_64 : decode cX9_flies 64 = .ok (.iadd, 1) := by decide +kernel
theorem dX9_flies_65 : decode cX9_flies 65 = .ok (.iaload, 1) := by decide +kernel
theorem dX9_flies_66 : decode cX9_flies 66 = .ok (.invokestatic 361, 3) := by decide +kernel
theorem dX9_flies_69 : decode cX9_flies 69 = .ok (.ifCond .ne 6, 3) := by decide +kernel
theorem dX9_flies_72 : decode cX9_flies 72 = .ok (.bipush (-2), 2) := by decide +kernel
theorem dX9_flies_74 : decode cX9_flies 74 = .ok (.ireturn, 1) := by decide +kernel
theorem dX9_flies_75 : decode cX9_flies 75 = .ok (.iinc 4 1, 3) := by decide +kernel
theorem dX9_flies_78 : decode cX9_flies 78 = .ok (.goto (-35), 3) := by decide +kernel
theorem dX9_flies_81 : decode cX9_flies 81 = .ok (.aload_n 0, 1) := by decide +kernel
theorem dX9_flies_82 : decode cX9_flies 82 = .ok (.getfield 29, 3) := by decide +kernel
theorem dX9_flies_85 : decode cX9_flies 85 = .ok (.iconst 3, 1) := by decide +kernel
theorem dX9_flies_86 : decode cX9_flies 86 = .ok (.iload_n 2, 1) := by decide +kernel
theorem dX9_flies_87 : decode cX9_flies 87 = .ok (.imul, 1) := by decide +kernel
theorem dX9_flies_88 : decode cX9_flies 88 = .ok (.iconst 1, 1) := by decide +kernel
theorem dX9_flies_89 : decode cX9_flies 89 = .ok (.iadd, 1) := by decide +kernel
theorem dX9_flies_90 : decode cX9_flies 90 = .ok (.iaload, 1) := by decide +kernel
theorem dX9_flies_91 : decode cX9_flies 91 = .ok (.istore 4, 2) := by decide +kernel
theorem dX9_flies_93 : decode cX9_flies 93 = .ok (.iconst 0, 1) := by decide +kernel
theorem dX9_flies_94 : decode cX9_flies 94 = .ok (.istore 5, 2) := by decide +kernel
theorem dX9_flies_96 : decode cX9_flies 96 = .ok (.iconst 0, 1) := by decide +kernel
theorem dX9_flies_97 : decode cX9_flies 97 = .ok (.istore 6, 2) := by decide +kernel
theorem dX9_flies_99 : decode cX9_flies 99 = .ok (.iload 6, 2) := by decide +kernel
theorem dX9_flies_101 : decode cX9_flies 101 = .ok (.aload_n 0, 1) := by decide +kernel
theorem dX9_flies_102 : decode cX9_flies 102 = .ok (.getfield 67, 3) := by decide +kernel
theorem dX9_flies_105 : decode cX9_flies 105 = .ok (.iload_n 1, 1) := by decide +kernel
theorem dX9_flies_106 : decode cX9_flies 106 = .ok (.iaload, 1) := by decide +kernel
theorem dX9_flies_107 : decode cX9_flies 107 = .ok (.if_icmp .ge 51, 3) := by decide +kernel
theorem dX9_flies_110 : decode cX9_flies 110 = .ok (.aload_n 0, 1) := by decide +kernel
theorem dX9_flies_111 : decode cX9_flies 111 = .ok (.iload_n 2, 1) := by decide +kernel
theorem dX9_flies_112 : decode cX9_flies 112 = .ok (.iload 4, 2) := by decide +kernel
theorem dX9_flies_114 : decode cX9_flies 114 = .ok (.aload_n 0, 1) := by decide +kernel
theorem dX9_flies_115 : decode cX9_flies 115 = .ok (.getfield 70, 3) := by decide +kernel
theorem dX9_flies_118 : decode cX9_flies 118 = .ok (.bipush 40, 2) := by decide +kernel
theorem dX9_flies_120 : decode cX9_flies 120 = .ok (.iload_n 1, 1) := by decide +kernel
theorem dX9_flies_121 : decode cX9_flies 121 = .ok (.imul, 1) := by decide +kernel
theorem dX9_flies_122 : decode cX9_flies 122 = .ok (.iload 6, 2) := by decide +kernel
theorem dX9_flies_124 : decode cX9_flies 124 = .ok (.iadd, 1) := by decide +kernel
theorem dX9_flies_125 : decode cX9_flies 125 = .ok (.iaload, 1) := by decide +kernel
theorem dX9_flies_126 : decode cX9_flies 126 = .ok (.invokevirtual 132, 3) := by decide +kernel
theorem dX9_flies_129 : decode cX9_flies 129 = .ok (.istore 7, 2) := by decide +kernel
theorem dX9_flies_131 : decode cX9_flies 131 = .ok (.iload 5, 2) := by decide +kernel
theorem dX9_flies_133 : decode cX9_flies 133 = .ok (.iload 7, 2) := by decide +kernel
theorem dX9_flies_135 : decode cX9_flies 135 = .ok (.iload 4, 2) := by decide +kernel
theorem dX9_flies_137 : decode cX9_flies 137 = .ok (.if_icmp .ne 7, 3) := by decide +kernel
theorem dX9_flies_140 : decode cX9_flies 140 = .ok (.iconst 0, 1) := by decide +kernel
theorem dX9_flies_141 : decode cX9_flies 141 = .ok (.goto 4, 3) := by decide +kernel
theorem dX9_flies_144 : decode cX9_flies 144 = .ok (.iconst 1, 1) := by decide +kernel
theorem dX9_flies_145 : decode cX9_flies 145 = .ok (.iadd, 1) := by decide +kernel
theorem dX9_flies_146 : decode cX9_flies 146 = .ok (.istore 5, 2) := by decide +kernel
theorem dX9_flies_148 : decode cX9_flies 148 = .ok (.iload 7, 2) := by decide +kernel
theorem dX9_flies_150 : decode cX9_flies 150 = .ok (.istore 4, 2) := by decide +kernel
theorem dX9_flies_152 : decode cX9_flies 152 = .ok (.iinc 6 1, 3) := by decide +kernel
theorem dX9_flies_155 : decode cX9_flies 155 = .ok (.goto (-56), 3) := by decide +kernel
theorem dX9_flies_158 : decode cX9_flies 158 = .ok (.iload_n 3, 1) := by decide +kernel
theorem dX9_flies_159 : decode cX9_flies 159 = .ok (.ifCond .ne 8, 3) := by decide +kernel
theorem dX9_flies_162 : decode cX9_flies 162 = .ok (.iload 4, 2) := by decide +kernel
theorem dX9_flies_164 : decode cX9_flies 164 = .ok (.goto 5, 3) := by decide +kernel
theorem dX9_flies_167 : decode cX9_flies 167 = .ok (.iload 5, 2) := by decide +kernel
theorem dX9_flies_169 : decode cX9_flies 169 = .ok (.ireturn, 1) := by decide +kernel
theorem dX9_tables_0 : decode cX9_tables 0 = .ok (.iconst 0, 1) := by decide +kernel
theorem dX9_tables_1 : decode cX9_tables 1 = .ok (.istore_n 3, 1) := by decide +kernel
theorem dX9_tables_2 : decode cX9_tables 2 = .ok (.iload_n 3, 1) := by decide +kernel
theorem dX9_tables_3 : decode cX9_tables 3 = .ok (.bipush 36, 2) := by decide +kernel
theorem dX9_tables_5 : decode cX9_tables 5 = .ok (.if_icmp .ge 42, 3) := by decide +kernel
theorem dX9_tables_8 : decode cX9_tables 8 = .ok (.iconst 0, 1) := by decide +kernel
theorem dX9_tables_9 : decode cX9_tables 9 = .ok (.istore 4, 2) := by decide +kernel
theorem dX9_tables_11 : decode cX9_tables 11 = .ok (.iload 4, 2) := by decide +kernel
theorem dX9_tables_13 : decode cX9_tables 13 = .ok (.bipush 8, 2) := by decide +kernel
theorem dX9_tables_15 : decode cX9_tables 15 = .ok (.if_icmp .ge 26, 3) := by decide +kernel
theorem dX9_tables_18 : decode cX9_tables 18 = .ok (.aload_n 2, 1) := by decide +kernel
theorem dX9_tables_19 : decode cX9_tables 19 = .ok (.bipush 8, 2) := by decide +kernel
theorem dX9_tables_21 : decode cX9_tables 21 = .ok (.iload_n 3, 1) := by decide +kernel
theorem dX9_tables_22 : decode cX9_tables 22 = .ok (.imul, 1) := by decide +kernel
theorem dX9_tables_23 : decode cX9_tables 23 = .ok (.iload 4, 2) := by decide +kernel
theorem dX9_tables_25 : decode cX9_tables 25 = .ok (.iadd, 1) := by decide +kernel
theorem dX9_tables_26 : decode cX9_tables 26 = .ok (.aload_n 0, 1) := by decide +kernel
theorem dX9_tables_27 : decode cX9_tables 27 = .ok (.iload_n 1, 1) := by decide +kernel
theorem dX9_tables_28 : decode cX9_tables 28 = .ok (.iload_n 3, 1) := by decide +kernel
theorem dX9_tables_29 : decode cX9_tables 29 = .ok (.iload 4, 2) := by decide +kernel
theorem dX9_tables_31 : decode cX9_tables 31 = .ok (.invokevirtual 132, 3) := by decide +kernel
theorem dX9_tables_34 : decode cX9_tables 34 = .ok (.iastore, 1) := by decide +kernel
theorem dX9_tables_35 : decode cX9_tables 35 = .ok (.iinc 4 1, 3) := by decide +kernel
theorem dX9_tables_38 : decode cX9_tables 38 = .ok (.goto (-27), 3) := by decide +kernel
theorem dX9_tables_41 : decode cX9_tables 41 = .ok (.iinc 3 1, 3) := by decide +kernel
theorem dX9_tables_44 : decode cX9_tables 44 = .ok (.goto (-42), 3) := by decide +kernel
theorem dX9_tables_47 : decode cX9_tables 47 = .ok (.return_, 1) := by decide +kernel
theorem dX9_spreads_0 : decode cX9_spreads 0 = .ok (.iconst 0, 1) := by decide +kernel
theorem dX9_spreads_1 : decode cX9_spreads 1 = .ok (.istore_n 2, 1) := by decide +kernel
theorem dX9_spreads_2 : decode cX9_spreads 2 = .ok (.iload_n 2, 1) := by decide +kernel
theorem dX9_spreads_3 : decode cX9_spreads 3 = .ok (.bipush 36, 2) := by decide +kernel
theorem dX9_spreads_5 : decode cX9_spreads 5 = .ok (.if_icmp .ge 27, 3) := by decide +kernel
theorem dX9_spreads_8 : decode cX9_spreads 8 = .ok (.aload_n 0, 1) := by decide +kernel
theorem dX9_spreads_9 : decode cX9_spreads 9 = .ok (.getfield 38, 3) := by decide +kernel
theorem dX9_spreads_12 : decode cX9_spreads 12 = .ok (.iload_n 2, 1) := by decide +kernel
theorem dX9_spreads_13 : decode cX9_spreads 13 = .ok (.iload_n 2, 1) := by decide +kernel
theorem dX9_spreads_14 : decode cX9_spreads 14 = .ok (.iload_n 1, 1) := by decide +kernel
theorem dX9_spreads_15 : decode cX9_spreads 15 = .ok (.if_icmp .ne 7, 3) := by decide +kernel
theorem dX9_spreads_18 : decode cX9_spreads 18 = .ok (.iconst 0, 1) := by decide +kernel
theorem dX9_spreads_19 : decode cX9_spreads 19 = .ok (.goto 6, 3) := by decide +kernel
theorem dX9_spreads_22 : decode cX9_spreads 22 = .ok (.ldc_w 369, 3) := by decide +kernel
theorem dX9_spreads_25 : decode cX9_spreads 25 = .ok (.iastore, 1) := by decide +kernel
theorem dX9_spreads_26 : decode cX9_spreads 26 = .ok (.iinc 2 1, 3) := by decide +kernel
theorem dX9_spreads_29 : decode cX9_spreads 29 = .ok (.goto (-27), 3) := by decide +kernel
theorem dX9_spreads_32 : decode cX9_spreads 32 = .ok (.iconst 1, 1) := by decide +kernel
theorem dX9_spreads_33 : decode cX9_spreads 33 = .ok (.istore_n 2, 1) := by decide +kernel
theorem dX9_spreads_34 : decode cX9_spreads 34 = .ok (.iload_n 2, 1) := by decide +kernel
theorem dX9_spreads_35 : decode cX9_spreads 35 = .ok (.ifCond .eq 75, 3) := by decide +kernel
theorem dX9_spreads_38 : decode cX9_spreads 38 = .ok (.iconst 0, 1) := by decide +kernel
theorem dX9_spreads_39 : decode cX9_spreads 39 = .ok (.istore_n 2, 1) := by decide +kernel
theorem dX9_spreads_40 : decode cX9_spreads 40 = .ok (.iconst 0, 1) := by decide +kernel
theorem dX9_spreads_41 : decode cX9_spreads 41 = .ok (.istore_n 3, 1) := by decide +kernel
theorem dX9_spreads_42 : decode cX9_spreads 42 = .ok (.iload_n 3, 1) := by decide +kernel
theorem dX9_spreads_43 : decode cX9_spreads 43 = .ok (.sipush 288, 3) := by decide +kernel
theorem dX9_spreads_46 : decode cX9_spreads 46 = .ok (.if_icmp .ge 61, 3) := by decide +kernel
theorem dX9_spreads_49 : decode cX9_spreads 49 = .ok (.aload_n 0, 1) := by decide +kernel
theorem dX9_spreads_50 : decode cX9_spreads 50 = .ok (.getfield 38, 3) := by decide +kernel
theorem dX9_spreads_53 : decode cX9_spreads 53 = .ok (.iload_n 3, 1) := by decide +kernel
theorem dX9_spreads_54 : decode cX9_spreads 54 = .ok (.bipush 8, 2) := by decide +kernel
theorem dX9_spreads_56 : decode cX9_spreads 56 = .ok (.idiv, 1) := by decide +kernel
theorem dX9_spreads_57 : decode cX9_spreads 57 = .ok (.iaload, 1) := by decide +kernel
theorem dX9_spreads_58 : decode cX9_spreads 58 = .ok (.iconst 1, 1) := by decide +kernel
theorem dX9_spreads_59 : decode cX9_spreads 59 = .ok (.iadd, 1) := by decide +kernel
theorem dX9_spreads_60 : decode cX9_spreads 60 = .ok (.istore 4, 2) := by decide +kernel
theorem dX9_spreads_62 : decode cX9_spreads 62 = .ok (.iload 4, 2) := by decide +kernel
theorem dX9_spreads_64 : decode cX9_spreads 64 = .ok (.aload_n 0, 1) := by decide +kernel
theorem dX9_spreads_65 : decode cX9_spreads 65 = .ok (.getfield 38, 3) := by decide +kernel
theorem dX9_spreads_68 : decode cX9_spreads 68 = .ok (.aload_n 0, 1) := by decide +kernel
theorem dX9_spreads_69 : decode cX9_spreads 69 = .ok (.getfield 32, 3) := by decide +kernel
theorem dX9_spreads_72 : decode cX9_spreads 72 = .ok (.iload_n 3, 1) := by decide +kernel
theorem dX9_spreads_73 : decode cX9_spreads 73 = .ok (.iaload, 1) := by decide +kernel
theorem dX9_spreads_74 : decode cX9_spreads 74 = .ok (.iaload, 1) := by decide +kernel
theorem dX9_spreads_75 : decode cX9_spreads 75 = .ok (.if_icmp .ge 26, 3) := by decide +kernel
theorem dX9_spreads_78 : decode cX9_spreads 78 = .ok (.iload 4, 2) := by decide +kernel
theorem dX9_spreads_80 : decode cX9_spreads 80 = .ok (.ldc_w 369, 3) := by decide +kernel
theorem dX9_spreads_83 : decode cX9_spreads 83 = .ok (.if_icmp .ge 18, 3) := by decide +kernel
theorem dX9_spreads_86 : decode cX9_spreads 86 = .ok (.aload_n 0, 1) := by decide +kernel
theorem dX9_spreads_87 : decode cX9_spreads 87 = .ok (.getfield 38, 3) := by decide +kernel
theorem dX9_spreads_90 : decode cX9_spreads 90 = .ok (.aload_n 0, 1) := by decide +kernel
theorem dX9_spreads_91 : decode cX9_spreads 91 = .ok (.getfield 32, 3) := by decide +kernel
theorem dX9_spreads_94 : decode cX9_spreads 94 = .ok (.iload_n 3, 1) := by decide +kernel
theorem dX9_spreads_95 : decode cX9_spreads 95 = .ok (.iaload, 1) := by decide +kernel
theorem dX9_spreads_96 : decode cX9_spreads 96 = .ok (.iload 4, 2) := by decide +kernel
theorem dX9_spreads_98 : decode cX9_spreads 98 = .ok (.iastore, 1) := by decide +kernel
theorem dX9_spreads_99 : decode cX9_spreads 99 = .ok (.iconst 1, 1) := by decide +kernel
theorem dX9_spreads_100 : decode cX9_spreads 100 = .ok (.istore_n 2, 1) := by decide +kernel
theorem dX9_spreads_101 : decode cX9_spreads 101 = .ok (.iinc 3 1, 3) := by decide +kernel
theorem dX9_spreads_104 : decode cX9_spreads 104 = .ok (.goto (-62), 3) := by decide +kernel
theorem dX9_spreads_107 : decode cX9_spreads 107 = .ok (.goto (-73), 3) := by decide +kernel
theorem dX9_spreads_110 : decode cX9_spreads 110 = .ok (.return_, 1) := by decide +kernel
theorem dX9_gathers_0 : decode cX9_gathers 0 = .ok (.iconst 0, 1) := by decide +kernel
theorem dX9_gathers_1 : decode cX9_gathers 1 = .ok (.istore_n 2, 1) := by decide +kernel
theorem dX9_gathers_2 : decode cX9_gathers 2 = .ok (.iload_n 2, 1) := by decide +kernel
theorem dX9_gathers_3 : decode cX9_gathers 3 = .ok (.bipush 36, 2) := by decide +kernel
theorem dX9_gathers_5 : decode cX9_gathers 5 = .ok (.if_icmp .ge 27, 3) := by decide +kernel
theorem dX9_gathers_8 : decode cX9_gathers 8 = .ok (.aload_n 0, 1) := by decide +kernel
theorem dX9_gathers_9 : decode cX9_gathers 9 = .ok (.getfield 38, 3) := by decide +kernel
theorem dX9_gathers_12 : decode cX9_gathers 12 = .ok (.iload_n 2, 1) := by decide +kernel
theorem dX9_gathers_13 : decode cX9_gathers 13 = .ok (.iload_n 2, 1) := by decide +kernel
theorem dX9_gathers_14 : decode cX9_gathers 14 = .ok (.iload_n 1, 1) := by decide +kernel
theorem dX9_gathers_15 : decode cX9_gathers 15 = .ok (.if_icmp .ne 7, 3) := by decide +kernel
theorem dX9_gathers_18 : decode cX9_gathers 18 = .ok (.iconst 0, 1) := by decide +kernel
theorem dX9_gathers_19 : decode cX9_gathers 19 = .ok (.goto 6, 3) := by decide +kernel
theorem dX9_gathers_22 : decode cX9_gathers 22 = .ok (.ldc_w 369, 3) := by decide +kernel
theorem dX9_gathers_25 : decode cX9_gathers 25 = .ok (.iastore, 1) := by decide +kernel
theorem dX9_gathers_26 : decode cX9_gathers 26 = .ok (.iinc 2 1, 3) := by decide +kernel
theorem dX9_gathers_29 : decode cX9_gathers 29 = .ok (.goto (-27), 3) := by decide +kernel
theorem dX9_gathers_32 : decode cX9_gathers 32 = .ok (.iconst 1, 1) := by decide +kernel
theorem dX9_gathers_33 : decode cX9_gathers 33 = .ok (.istore_n 2, 1) := by decide +kernel
theorem dX9_gathers_34 : decode cX9_gathers 34 = .ok (.iload_n 2, 1) := by decide +kernel
theorem dX9_gathers_35 : decode cX9_gathers 35 = .ok (.ifCond .eq 73, 3) := by decide +kernel
theorem dX9_gathers_38 : decode cX9_gathers 38 = .ok (.iconst 0, 1) := by decide +kernel
theorem dX9_gathers_39 : decode cX9_gathers 39 = .ok (.istore_n 2, 1) := by decide +kernel
theorem dX9_gathers_40 : decode cX9_gathers 40 = .ok (.iconst 0, 1) := by decide +kernel
theorem dX9_gathers_41 : decode cX9_gathers 41 = .ok (.istore_n 3, 1) := by decide +kernel
theorem dX9_gathers_42 : decode cX9_gathers 42 = .ok (.iload_n 3, 1) := by decide +kernel
theorem dX9_gathers_43 : decode cX9_gathers 43 = .ok (.sipush 288, 3) := by decide +kernel
theorem dX9_gathers_46 : decode cX9_gathers 46 = .ok (.if_icmp .ge 59, 3) := by decide +kernel
theorem dX9_gathers_49 : decode cX9_gathers 49 = .ok (.aload_n 0, 1) := by decide +kernel
theorem dX9_gathers_50 : decode cX9_gathers 50 = .ok (.getfield 38, 3) := by decide +kernel
theorem dX9_gathers_53 : decode cX9_gathers 53 = .ok (.aload_n 0, 1) := by decide +kernel
theorem dX9_gathers_54 : decode cX9_gathers 54 = .ok (.getfield 32, 3) := by decide +kernel
theorem dX9_gathers_57 : decode cX9_gathers 57 = .ok (.iload_n 3, 1) := by decide +kernel
theorem dX9_gathers_58 : decode cX9_gathers 58 = .ok (.iaload, 1) := by decide +kernel
theorem dX9_gathers_59 : decode cX9_gathers 59 = .ok (.iaload, 1) := by decide +kernel
theorem dX9_gathers_60 : decode cX9_gathers 60 = .ok (.iconst 1, 1) := by decide +kernel
theorem dX9_gathers_61 : decode cX9_gathers 61 = .ok (.iadd, 1) := by decide +kernel
theorem dX9_gathers_62 : decode cX9_gathers 62 = .ok (.istore 4, 2) := by decide +kernel
theorem dX9_gathers_64 : decode cX9_gathers 64 = .ok (.iload 4, 2) := by decide +kernel
theorem dX9_gathers_66 : decode cX9_gathers 66 = .ok (.aload_n 0, 1) := by decide +kernel
theorem dX9_gathers_67 : decode cX9_gathers 67 = .ok (.getfield 38, 3) := by decide +kernel
theorem dX9_gathers_70 : decode cX9_gathers 70 = .ok (.iload_n 3, 1) := by decide +kernel
theorem dX9_gathers_71 : decode cX9_gathers 71 = .ok (.bipush 8, 2) := by decide +kernel
theorem dX9_gathers_73 : decode cX9_gathers 73 = .ok (.idiv, 1) := by decide +kernel
theorem dX9_gathers_74 : decode cX9_gathers 74 = .ok (.iaload, 1) := by decide +kernel
theorem dX9_gathers_75 : decode cX9_gathers 75 = .ok (.if_icmp .ge 24, 3) := by decide +kernel
theorem dX9_gathers_78 : decode cX9_gathers 78 = .ok (.iload 4, 2) := by decide +kernel
theorem dX9_gathers_80 : decode cX9_gathers 80 = .ok (.ldc_w 369, 3) := by decide +kernel
theorem dX9_gathers_83 : decode cX9_gathers 83 = .ok (.if_icmp .ge 16, 3) := by decide +kernel
theorem dX9_gathers_86 : decode cX9_gathers 86 = .ok (.aload_n 0, 1) := by decide +kernel
theorem dX9_gathers_87 : decode cX9_gathers 87 = .ok (.getfield 38, 3) := by decide +kernel
theorem dX9_gathers_90 : decode cX9_gathers 90 = .ok (.iload_n 3, 1) := by decide +kernel
theorem dX9_gathers_91 : decode cX9_gathers 91 = .ok (.bipush 8, 2) := by decide +kernel
theorem dX9_gathers_93 : decode cX9_gathers 93 = .ok (.idiv, 1) := by decide +kernel
theorem dX9_gathers_94 : decode cX9_gathers 94 = .ok (.iload 4, 2) := by decide +kernel
theorem dX9_gathers_96 : decode cX9_gathers 96 = .ok (.iastore, 1) := by decide +kernel
theorem dX9_gathers_97 : decode cX9_gathers 97 = .ok (.iconst 1, 1) := by decide +kernel
theorem dX9_gathers_98 : decode cX9_gathers 98 = .ok (.istore_n 2, 1) := by decide +kernel
theorem dX9_gathers_99 : decode cX9_gathers 99 = .ok (.iinc 3 1, 3) := by decide +kernel
theorem dX9_gathers_102 : decode cX9_gathers 102 = .ok (.goto (-60), 3) := by decide +kernel
theorem dX9_gathers_105 : decode cX9_gathers 105 = .ok (.goto (-71), 3) := by decide +kernel
theorem dX9_gathers_108 : decode cX9_gathers 108 = .ok (.return_, 1) := by decide +kernel
theorem dX9_shortest_0 : decode cX9_shortest 0 = .ok (.aload_n 0, 1) := by decide +kernel
theorem dX9_shortest_1 : decode cX9_shortest 1 = .ok (.iload_n 1, 1) := by decide +kernel
theorem dX9_shortest_2 : decode cX9_shortest 2 = .ok (.invokevirtual 95, 3) := by decide +kernel
theorem dX9_shortest_5 : decode cX9_shortest 5 = .ok (.ifCond .eq 20, 3) := by decide +kernel
theorem dX9_shortest_8 : decode cX9_shortest 8 = .ok (.iload_n 2, 1) := by decide +kernel
theorem dX9_shortest_9 : decode cX9_shortest 9 = .ok (.invokestatic 91, 3) := by decide +kernel
theorem dX9_shortest_12 : decode cX9_shortest 12 = .ok (.ifCond .eq 13, 3) := by decide +kernel
theorem dX9_shortest_15 : decode cX9_shortest 15 = .ok (.iload_n 3, 1) := by decide +kernel
theorem dX9_shortest_16 : decode cX9_shortest 16 = .ok (.i2l, 1) := by decide +kernel
theorem dX9_shortest_17 : decode cX9_shortest 17 = .ok (.lconst 0, 1) := by decide +kernel
theorem dX9_shortest_18 : decode cX9_shortest 18 = .ok (.lconst 1, 1) := by decide +kernel
theorem dX9_shortest_19 : decode cX9_shortest 19 = .ok (.invokestatic 83, 3) := by decide +kernel
theorem dX9_shortest_22 : decode cX9_shortest 22 = .ok (.ifCond .ne 6, 3) := by decide +kernel
theorem dX9_shortest_25 : decode cX9_shortest 25 = .ok (.bipush (-2), 2) := by decide +kernel
theorem dX9_shortest_27 : decode cX9_shortest 27 = .ok (.ireturn, 1) := by decide +kernel
theorem dX9_shortest_28 : decode cX9_shortest 28 = .ok (.aload_n 0, 1) := by decide +kernel
theorem dX9_shortest_29 : decode cX9_shortest 29 = .ok (.iload_n 1, 1) := by decide +kernel
theorem dX9_shortest_30 : decode cX9_shortest 30 = .ok (.aload_n 0, 1) := by decide +kernel
theorem dX9_shortest_31 : decode cX9_shortest 31 = .ok (.getfield 32, 3) := by decide +kernel
theorem dX9_shortest_34 : decode cX9_shortest 34 = .ok (.invokevirtual 370, 3) := by decide +kernel
theorem dX9_shortest_37 : decode cX9_shortest 37 = .ok (.aload_n 0, 1) := by decide +kernel
theorem dX9_shortest_38 : decode cX9_shortest 38 = .ok (.iload_n 2, 1) := by decide +kernel
theorem dX9_shortest_39 : decode cX9_shortest 39 = .ok (.invokevirtual 374, 3) := by decide +kernel
theorem dX9_shortest_42 : decode cX9_shortest 42 = .ok (.aload_n 0, 1) := by decide +kernel
theorem dX9_shortest_43 : decode cX9_shortest 43 = .ok (.getfield 29, 3) := by decide +kernel
theorem dX9_shortest_46 : decode cX9_shortest 46 = .ok (.iconst 3, 1) := by decide +kernel
theorem dX9_shortest_47 : decode cX9_shortest 47 = .ok (.iload_n 1, 1) := by decide +kernel
theorem dX9_shortest_48 : decode cX9_shortest 48 = .ok (.imul, 1) := by decide +kernel
theorem dX9_shortest_49 : decode cX9_shortest 49 = .ok (.iconst 1, 1) := by decide +kernel
theorem dX9_shortest_50 : decode cX9_shortest 50 = .ok (.iadd, 1) := by decide +kernel
theorem dX9_shortest_51 : decode cX9_shortest 51 = .ok (.iaload, 1) := by decide +kernel
theorem dX9_shortest_52 : decode cX9_shortest 52 = .ok (.istore 4, 2) := by decide +kernel
theorem dX9_shortest_54 : decode cX9_shortest 54 = .ok (.aload_n 0, 1) := by decide +kernel
theorem dX9_shortest_55 : decode cX9_shortest 55 = .ok (.getfield 38, 3) := by decide +kernel
theorem dX9_shortest_58 : decode cX9_shortest 58 = .ok (.iload 4, 2) := by decide +kernel
theorem dX9_shortest_60 : decode cX9_shortest 60 = .ok (.iaload, 1) := by decide +kernel
theorem dX9_shortest_61 : decode cX9_shortest 61 = .ok (.istore 5, 2) := by decide +kernel
theorem dX9_shortest_63 : decode cX9_shortest 63 = .ok (.iload 5, 2) := by decide +kernel
theorem dX9_shortest_65 : decode cX9_shortest 65 = .ok (.ldc_w 369, 3) := by decide +kernel
theorem dX9_shortest_68 : decode cX9_shortest 68 = .ok (.if_icmp .eq 15, 3) := by decide +kernel
theorem dX9_shortest_71 : decode cX9_shortest 71 = .ok (.iload_n 3, 1) := by decide +kernel
theorem dX9_shortest_72 : decode cX9_shortest 72 = .ok (.iconst 1, 1) := by decide +kernel
theorem dX9_shortest_73 : decode cX9_shortest 73 = .ok (.if_icmp .ne 12, 3) := by decide +kernel
theorem dX9_shortest_76 : decode cX9_shortest 76 = .ok (.iload 5, 2) := by decide +kernel
theorem dX9_shortest_78 : decode cX9_shortest 78 = .ok (.bipush 9, 2) := by decide +kernel
theorem dX9_shortest_80 : decode cX9_shortest 80 = .ok (.if_icmp .le 5, 3) := by decide +kernel
theorem dX9_shortest_83 : decode cX9_shortest 83 = .ok (.iconst (-1), 1) := by decide +kernel
theorem dX9_shortest_84 : decode cX9_shortest 84 = .ok (.ireturn, 1) := by decide +kernel
theorem dX9_shortest_85 : decode cX9_shortest 85 = .ok (.iload_n 3, 1) := by decide +kernel
theorem dX9_shortest_86 : decode cX9_shortest 86 = .ok (.ifCond .ne 6, 3) := by decide +kernel
theorem dX9_shortest_89 : decode cX9_shortest 89 = .ok (.iload 5, 2) := by decide +kernel
theorem dX9_shortest_91 : decode cX9_shortest 91 = .ok (.ireturn, 1) := by decide +kernel
theorem dX9_shortest_92 : decode cX9_shortest 92 = .ok (.iconst 0, 1) := by decide +kernel
theorem dX9_shortest_93 : decode cX9_shortest 93 = .ok (.istore 6, 2) := by decide +kernel
theorem dX9_shortest_95 : decode cX9_shortest 95 = .ok (.iload 4, 2) := by decide +kernel
theorem dX9_shortest_97 : decode cX9_shortest 97 = .ok (.iload_n 2, 1) := by decide +kernel
theorem dX9_shortest_98 : decode cX9_shortest 98 = .ok (.if_icmp .eq 72, 3) := by decide +kernel
theorem dX9_shortest_101 : decode cX9_shortest 101 = .ok (.iconst 0, 1) := by decide +kernel
theorem dX9_shortest_102 : decode cX9_shortest 102 = .ok (.istore 7, 2) := by decide +kernel
theorem dX9_shortest_104 : decode cX9_shortest 104 = .ok (.aload_n 0, 1) := by decide +kernel
theorem dX9_shortest_105 : decode cX9_shortest 105 = .ok (.getfield 38, 3) := by decide +kernel
theorem dX9_shortest_108 : decode cX9_shortest 108 = .ok (.aload_n 0, 1) := by decide +kernel
theorem dX9_shortest_109 : decode cX9_shortest 109 = .ok (.getfield 32, 3) := by decide +kernel
theorem dX9_shortest_112 : decode cX9_shortest 112 = .ok (.bipush 8, 2) := by decide +kernel
theorem dX9_shortest_114 : decode cX9_shortest 114 = .ok (.iload 4, 2) := by decide +kernel
theorem dX9_shortest_116 : decode cX9_shortest 116 = .ok (.imul, 1) := by decide +kernel
theorem dX9_shortest_117 : decode cX9_shortest 117 = .ok (.iload 7, 2) := by decide +kernel
theorem dX9_shortest_119 : decode cX9_shortest 119 = .ok (.iadd, 1) := by decide +kernel
theorem dX9_shortest_120 : decode cX9_shortest 120 = .ok (.iaload, 1) := by decide +kernel
theorem dX9_shortest_121 : decode cX9_shortest 121 = .ok (.iaload, 1) := by decide +kernel
theorem dX9_shortest_122 : decode cX9_shortest 122 = .ok (.aload_n 0, 1) := by decide +kernel
theorem dX9_shortest_123 : decode cX9_shortest 123 = .ok (.getfield 38, 3) := by decide +kernel
theorem dX9_shortest_126 : decode cX9_shortest 126 = .ok (.iload 4, 2) := by decide +kernel
theorem dX9_shortest_128 : decode cX9_shortest 128 = .ok (.iaload, 1) := by decide +kernel
theorem dX9_shortest_129 : decode cX9_shortest 129 = .ok (.iconst 1, 1) := by decide +kernel
theorem dX9_shortest_130 : decode cX9_shortest 130 = .ok (.isub, 1) := by decide +kernel
theorem dX9_shortest_131 : decode cX9_shortest 131 = .ok (.if_icmp .eq 9, 3) := by decide +kernel
theorem dX9_shortest_134 : decode cX9_shortest 134 = .ok (.iinc 7 1, 3) := by decide +kernel
theorem dX9_shortest_137 : decode cX9_shortest 137 = .ok (.goto (-33), 3) := by decide +kernel
theorem dX9_shortest_140 : decode cX9_shortest 140 = .ok (.bipush 10, 2) := by decide +kernel
theorem dX9_shortest_142 : decode cX9_shortest 142 = .ok (.iload 6, 2) := by decide +kernel
theorem dX9_shortest_144 : decode cX9_shortest 144 = .ok (.imul, 1) := by decide +kernel
theorem dX9_shortest_145 : decode cX9_shortest 145 = .ok (.iload 7, 2) := by decide +kernel
theorem dX9_shortest_147 : decode cX9_shortest 147 = .ok (.iadd, 1) := by decide +kernel
theorem dX9_shortest_148 : decode cX9_shortest 148 = .ok (.iconst 1, 1) := by decide +kernel
theorem dX9_shortest_149 : decode cX9_shortest 149 = .ok (.iadd, 1) := by decide +kernel
theorem dX9_shortest_150 : decode cX9_shortest 150 = .ok (.istore 6, 2) := by decide +kernel
theorem dX9_shortest_152 : decode cX9_shortest 152 = .ok (.aload_n 0, 1) := by decide +kernel
theorem dX9_shortest_153 : decode cX9_shortest 153 = .ok (.getfield 32, 3) := by decide +kernel
theorem dX9_shortest_156 : decode cX9_shortest 156 = .ok (.bipush 8, 2) := by decide +kernel
theorem dX9_shortest_158 : decode cX9_shortest 158 = .ok (.iload 4, 2) := by decide +kernel
theorem dX9_shortest_160 : decode cX9_shortest 160 = .ok (.imul, 1) := by decide +kernel
theorem dX9_shortest_161 : decode cX9_shortest 161 = .ok (.iload 7, 2) := by decide +kernel
theorem dX9_shortest_163 : decode cX9_shortest 163 = .ok (.iadd, 1) := by decide +kernel
theorem dX9_shortest_164 : decode cX9_shortest 164 = .ok (.iaload, 1) := by decide +kernel
theorem dX9_shortest_165 : decode cX9_shortest 165 = .ok (.istore 4, 2) := by decide +kernel
theorem dX9_shortest_167 : decode cX9_shortest 167 = .ok (.goto (-72), 3) := by decide +kernel
theorem dX9_shortest_170 : decode cX9_shortest 170 = .ok (.iload 6, 2) := by decide +kernel
theorem dX9_shortest_172 : decode cX9_shortest 172 = .ok (.ireturn, 1) := by decide +kernel
theorem dX9_there_0 : decode cX9_there 0 = .ok (.aload_n 0, 1) := by decide +kernel
theorem dX9_there_1 : decode cX9_there 1 = .ok (.iload_n 1, 1) := by decide +kernel
theorem dX9_there_2 : decode cX9_there 2 = .ok (.invokevirtual 95, 3) := by decide +kernel
theorem dX9_there_5 : decode cX9_there 5 = .ok (.ifCond .eq 13, 3) := by decide +kernel
theorem dX9_there_8 : decode cX9_there 8 = .ok (.iload_n 2, 1) := by decide +kernel
theorem dX9_there_9 : decode cX9_there 9 = .ok (.i2l, 1) := by decide +kernel
theorem dX9_there_10 : decode cX9_there 10 = .ok (.lconst 0, 1) := by decide +kernel
theorem dX9_there_11 : decode cX9_there 11 = .ok (.lconst 1, 1) := by decide +kernel
theorem dX9_there_12 : decode cX9_there 12 = .ok (.invokestatic 83, 3) := by decide +kernel
theorem dX9_there_15 : decode cX9_there 15 = .ok (.ifCond .ne 7, 3) := by decide +kernel
theorem dX9_there_18 : decode cX9_there 18 = .ok (.ldc2_w 378, 3) := by decide +kernel
theorem dX9_there_21 : decode cX9_there 21 = .ok (.lreturn, 1) := by decide +kernel
theorem dX9_there_22 : decode cX9_there 22 = .ok (.aload_n 0, 1) := by decide +kernel
theorem dX9_there_23 : decode cX9_there 23 = .ok (.iload_n 1, 1) := by decide +kernel
theorem dX9_there_24 : decode cX9_there 24 = .ok (.aload_n 0, 1) := by decide +kernel
theorem dX9_there_25 : decode cX9_there 25 = .ok (.getfield 32, 3) := by decide +kernel
theorem dX9_there_28 : decode cX9_there 28 = .ok (.invokevirtual 370, 3) := by decide +kernel
theorem dX9_there_31 : decode cX9_there 31 = .ok (.aload_n 0, 1) := by decide +kernel
theorem dX9_there_32 : decode cX9_there 32 = .ok (.aload_n 0, 1) := by decide +kernel
theorem dX9_there_33 : decode cX9_there 33 = .ok (.getfield 29, 3) := by decide +kernel
theorem dX9_there_36 : decode cX9_there 36 = .ok (.iconst 3, 1) := by decide +kernel
theorem dX9_there_37 : decode cX9_there 37 = .ok (.iload_n 1, 1) := by decide +kernel
theorem dX9_there_38 : decode cX9_there 38 = .ok (.imul, 1) := by decide +kernel
theorem dX9_there_39 : decode cX9_there 39 = .ok (.iconst 1, 1) := by decide +kernel
theorem dX9_there_40 : decode cX9_there 40 = .ok (.iadd, 1) := by decide +kernel
theorem dX9_there_41 : decode cX9_there 41 = .ok (.iaload, 1) := by decide +kernel
theorem dX9_there_42 : decode cX9_there 42 = .ok (.invokevirtual 380, 3) := by decide +kernel
theorem dX9_there_45 : decode cX9_there 45 = .ok (.lconst 0, 1) := by decide +kernel
theorem dX9_there_46 : decode cX9_there 46 = .ok (.lstore_n 3, 1) := by decide +kernel
theorem dX9_there_47 : decode cX9_there 47 = .ok (.iconst 0, 1) := by decide +kernel
theorem dX9_there_48 : decode cX9_there 48 = .ok (.istore 5, 2) := by decide +kernel
theorem dX9_there_50 : decode cX9_there 50 = .ok (.iload 5, 2) := by decide +kernel
theorem dX9_there_52 : decode cX9_there 52 = .ok (.bipush 36, 2) := by decide +kernel
theorem dX9_there_54 : decode cX9_there 54 = .ok (.if_icmp .ge 46, 3) := by decide +kernel
theorem dX9_there_57 : decode cX9_there 57 = .ok (.lload_n 3, 1) := by decide +kernel
theorem dX9_there_58 : decode cX9_there 58 = .ok (.aload_n 0, 1) := by decide +kernel
theorem dX9_there_59 : decode cX9_there 59 = .ok (.getfield 38, 3) := by decide +kernel
theorem dX9_there_62 : decode cX9_there 62 = .ok (.iload 5, 2) := by decide +kernel
theorem dX9_there_64 : decode cX9_there 64 = .ok (.iaload, 1) := by decide +kernel
theorem dX9_there_65 : decode cX9_there 65 = .ok (.ldc_w 369, 3) := by decide +kernel
theorem dX9_there_68 : decode cX9_there 68 = .ok (.if_icmp .ge 23, 3) := by decide +kernel
theorem dX9_there_71 : decode cX9_there 71 = .ok (.iload_n 2, 1) := by decide +kernel
theorem dX9_there_72 : decode cX9_there 72 = .ok (.ifCond .eq 12, 3) := by decide +kernel
theorem dX9_there_75 : decode cX9_there 75 = .ok (.aload_n 0, 1) := by decide +kernel
theorem dX9_there_76 : decode cX9_there 76 = .ok (.iload 5, 2) := by decide +kernel
theorem dX9_there_78 : decode cX9_there 78 = .ok (.invokevirtual 383, 3) := by decide +kernel
theorem dX9_there_81 : decode cX9_there 81 = .ok (.ifCond .eq 10, 3) := by decide +kernel
theorem dX9_there_84 : decode cX9_there 84 = .ok (.lconst 1, 1) := by decide +kernel
theorem dX9_there_85 : decode cX9_there 85 = .ok (.iload 5, 2) := by decide +kernel
theorem dX9_there_87 : decode cX9_there 87 = .ok (.lshl, 1) := by decide +kernel
theorem dX9_there_88 : decode cX9_there 88 = .ok (.goto 4, 3) := by decide +kernel
theorem dX9_there_91 : decode cX9_there 91 = .ok (.lconst 0, 1) := by decide +kernel
theorem dX9_there_92 : decode cX9_there 92 = .ok (.lor, 1) := by decide +kernel
theorem dX9_there_93 : decode cX9_there 93 = .ok (.lstore_n 3, 1) := by decide +kernel
theorem dX9_there_94 : decode cX9_there 94 = .ok (.iinc 5 1, 3) := by decide +kernel
theorem dX9_there_97 : decode cX9_there 97 = .ok (.goto (-47), 3) := by decide +kernel
theorem dX9_there_100 : decode cX9_there 100 = .ok (.lload_n 3, 1) := by decide +kernel
theorem dX9_there_101 : decode cX9_there 101 = .ok (.lreturn, 1) := by decide +kernel
theorem dX9_isSink_0 : decode cX9_isSink 0 = .ok (.iconst 0, 1) := by decide +kernel
theorem dX9_isSink_1 : decode cX9_isSink 1 = .ok (.istore_n 2, 1) := by decide +kernel
theorem dX9_isSink_2 : decode cX9_isSink 2 = .ok (.iload_n 2, 1) := by decide +kernel
theorem dX9_isSink_3 : decode cX9_isSink 3 = .ok (.bipush 8, 2) := by decide +kernel
theorem dX9_isSink_5 : decode cX9_isSink 5 = .ok (.if_icmp .ge 26, 3) := by decide +kernel
theorem dX9_isSink_8 : decode cX9_isSink 8 = .ok (.aload_n 0, 1) := by decide +kernel
theorem dX9_isSink_9 : decode cX9_isSink 9 = .ok (.getfield 32, 3) := by decide +kernel
theorem dX9_isSink_12 : decode cX9_isSink 12 = .ok (.bipush 8, 2) := by decide +kernel
theorem dX9_isSink_14 : decode cX9_isSink 14 = .ok (.iload_n 1, 1) := by decide +kernel
theorem dX9_isSink_15 : decode cX9_isSink 15 = .ok (.imul, 1) := by decide +kernel
theorem dX9_isSink_16 : decode cX9_isSink 16 = .ok (.iload_n 2, 1) := by decide +kernel
theorem dX9_isSink_17 : decode cX9_isSink 17 = .ok (.iadd, 1) := by decide +kernel
theorem dX9_isSink_18 : decode cX9_isSink 18 = .ok (.iaload, 1) := by decide +kernel
theorem dX9_isSink_19 : decode cX9_isSink 19 = .ok (.iload_n 1, 1) := by decide +kernel
theorem dX9_isSink_20 : decode cX9_isSink 20 = .ok (.if_icmp .eq 5, 3) := by decide +kernel
theorem dX9_isSink_23 : decode cX9_isSink 23 = .ok (.iconst 0, 1) := by decide +kernel
theorem dX9_isSink_24 : decode cX9_isSink 24 = .ok (.ireturn, 1) := by decide +kernel
theorem dX9_isSink_25 : decode cX9_isSink 25 = .ok (.iinc 2 1, 3) := by decide +kernel
theorem dX9_isSink_28 : decode cX9_isSink 28 = .ok (.goto (-26), 3) := by decide +kernel
theorem dX9_isSink_31 : decode cX9_isSink 31 = .ok (.iconst 1, 1) := by decide +kernel
theorem dX9_isSink_32 : decode cX9_isSink 32 = .ok (.ireturn, 1) := by decide +kernel
theorem dX9_furthest_0 : decode cX9_furthest 0 = .ok (.aload_n 0, 1) := by decide +kernel
theorem dX9_furthest_1 : decode cX9_furthest 1 = .ok (.iload_n 1, 1) := by decide +kernel
theorem dX9_furthest_2 : decode cX9_furthest 2 = .ok (.invokevirtual 95, 3) := by decide +kernel
theorem dX9_furthest_5 : decode cX9_furthest 5 = .ok (.ifCond .eq 15, 3) := by decide +kernel
theorem dX9_furthest_8 : decode cX9_furthest 8 = .ok (.iload_n 2, 1) := by decide +kernel
theorem dX9_furthest_9 : decode cX9_furthest 9 = .ok (.i2l, 1) := by decide +kernel
theorem dX9_furthest_10 : decode cX9_furthest 10 = .ok (.lconst 0, 1) := by decide +kernel
theorem dX9_furthest_11 : decode cX9_furthest 11 = .ok (.ldc2_w 386, 3) := by decide +kernel
theorem dX9_furthest_14 : decode cX9_furthest 14 = .ok (.invokestatic 83, 3) := by decide +kernel
theorem dX9_furthest_17 : decode cX9_furthest 17 = .ok (.ifCond .ne 6, 3) := by decide +kernel
theorem dX9_furthest_20 : decode cX9_furthest 20 = .ok (.bipush (-2), 2) := by decide +kernel
theorem dX9_furthest_22 : decode cX9_furthest 22 = .ok (.ireturn, 1) := by decide +kernel
theorem dX9_furthest_23 : decode cX9_furthest 23 = .ok (.aload_n 0, 1) := by decide +kernel
theorem dX9_furthest_24 : decode cX9_furthest 24 = .ok (.iload_n 1, 1) := by decide +kernel
theorem dX9_furthest_25 : decode cX9_furthest 25 = .ok (.aload_n 0, 1) := by decide +kernel
theorem dX9_furthest_26 : decode cX9_furthest 26 = .ok (.getfield 32, 3) := by decide +kernel
theorem dX9_furthest_29 : decode cX9_furthest 29 = .ok (.invokevirtual 370, 3) := by decide +kernel
theorem dX9_furthest_32 : decode cX9_furthest 32 = .ok (.aload_n 0, 1) := by decide +kernel
theorem dX9_furthest_33 : decode cX9_furthest 33 = .ok (.aload_n 0, 1) := by decide +kernel
theorem dX9_furthest_34 : decode cX9_furthest 34 = .ok (.getfield 29, 3) := by decide +kernel
theorem dX9_furthest_37 : decode cX9_furthest 37 = .ok (.iconst 3, 1) := by decide +kernel
theorem dX9_furthest_38 : decode cX9_furthest 38 = .ok (.iload_n 1, 1) := by decide +kernel
theorem dX9_furthest_39 : decode cX9_furthest 39 = .ok (.imul, 1) := by decide +kernel
theorem dX9_furthest_40 : decode cX9_furthest 40 = .ok (.iconst 1, 1) := by decide +kernel
theorem dX9_furthest_41 : decode cX9_furthest 41 = .ok (.iadd, 1) := by decide +kernel
theorem dX9_furthest_42 : decode cX9_furthest 42 = .ok (.iaload, 1) := by decide +kernel
theorem dX9_furthest_43 : decode cX9_furthest 43 = .ok (.invokevirtual 380, 3) := by decide +kernel
theorem dX9_furthest_46 : decode cX9_furthest 46 = .ok (.iconst (-1), 1) := by decide +kernel
theorem dX9_furthest_47 : decode cX9_furthest 47 = .ok (.istore_n 3, 1) := by decide +kernel
theorem dX9_furthest_48 : decode cX9_furthest 48 = .ok (.sipush 255, 3) := by decide +kernel
theorem dX9_furthest_51 : decode cX9_furthest 51 = .ok (.istore 4, 2) := by decide +kernel
theorem dX9_furthest_53 : decode cX9_furthest 53 = .ok (.iconst 0, 1) := by decide +kernel
theorem dX9_furthest_54 : decode cX9_furthest 54 = .ok (.istore 5, 2) := by decide +kernel
theorem dX9_furthest_56 : decode cX9_furthest 56 = .ok (.iload 5, 2) := by decide +kernel
theorem dX9_furthest_58 : decode cX9_furthest 58 = .ok (.bipush 36, 2) := by decide +kernel
theorem dX9_furthest_60 : decode cX9_furthest 60 = .ok (.if_icmp .ge 105, 3) := by decide +kernel
theorem dX9_furthest_63 : decode cX9_furthest 63 = .ok (.aload_n 0, 1) := by decide +kernel
theorem dX9_furthest_64 : decode cX9_furthest 64 = .ok (.getfield 38, 3) := by decide +kernel
theorem dX9_furthest_67 : decode cX9_furthest 67 = .ok (.iload 5, 2) := by decide +kernel
theorem dX9_furthest_69 : decode cX9_furthest 69 = .ok (.iaload, 1) := by decide +kernel
theorem dX9_furthest_70 : decode cX9_furthest 70 = .ok (.ldc_w 369, 3) := by decide +kernel
theorem dX9_furthest_73 : decode cX9_furthest 73 = .ok (.if_icmp .ge 86, 3) := by decide +kernel
theorem dX9_furthest_76 : decode cX9_furthest 76 = .ok (.iload_n 3, 1) := by decide +kernel
theorem dX9_furthest_77 : decode cX9_furthest 77 = .ok (.iconst (-1), 1) := by decide +kernel
theorem dX9_furthest_78 : decode cX9_furthest 78 = .ok (.if_icmp .eq 19, 3) := by decide +kernel
theorem dX9_furthest_81 : decode cX9_furthest 81 = .ok (.aload_n 0, 1) := by decide +kernel
theorem dX9_furthest_82 : decode cX9_furthest 82 = .ok (.getfield 38, 3) := by decide +kernel
theorem dX9_furthest_85 : decode cX9_furthest 85 = .ok (.iload 5, 2) := by decide +kernel
theorem dX9_furthest_87 : decode cX9_furthest 87 = .ok (.iaload, 1) := by decide +kernel
theorem dX9_furthest_88 : decode cX9_furthest 88 = .ok (.aload_n 0, 1) := by decide +kernel
theorem dX9_furthest_89 : decode cX9_furthest 89 = .ok (.getfield 38, 3) := by decide +kernel
theorem dX9_furthest_92 : decode cX9_furthest 92 = .ok (.iload_n 3, 1) := by decide +kernel
theorem dX9_furthest_93 : decode cX9_furthest 93 = .ok (.iaload, 1) := by decide +kernel
theorem dX9_furthest_94 : decode cX9_furthest 94 = .ok (.if_icmp .le 8, 3) := by decide +kernel
theorem dX9_furthest_97 : decode cX9_furthest 97 = .ok (.iload 5, 2) := by decide +kernel
theorem dX9_furthest_99 : decode cX9_furthest 99 = .ok (.goto 4, 3) := by decide +kernel
theorem dX9_furthest_102 : decode cX9_furthest 102 = .ok (.iload_n 3, 1) := by decide +kernel
theorem dX9_furthest_103 : decode cX9_furthest 103 = .ok (.istore_n 3, 1) := by decide +kernel
theorem dX9_furthest_104 : decode cX9_furthest 104 = .ok (.iconst 0, 1) := by decide +kernel
theorem dX9_furthest_105 : decode cX9_furthest 105 = .ok (.istore 6, 2) := by decide +kernel
theorem dX9_furthest_107 : decode cX9_furthest 107 = .ok (.iload 6, 2) := by decide +kernel
theorem dX9_furthest_109 : decode cX9_furthest 109 = .ok (.bipush 8, 2) := by decide +kernel
theorem dX9_furthest_111 : decode cX9_furthest 111 = .ok (.if_icmp .ge 48, 3) := by decide +kernel
theorem dX9_furthest_114 : decode cX9_furthest 114 = .ok (.iload 4, 2) := by decide +kernel
theorem dX9_furthest_116 : decode cX9_furthest 116 = .ok (.aload_n 0, 1) := by decide +kernel
theorem dX9_furthest_117 : decode cX9_furthest 117 = .ok (.getfield 32, 3) := by decide +kernel
theorem dX9_furthest_120 : decode cX9_furthest 120 = .ok (.bipush 8, 2) := by decide +kernel
theorem dX9_furthest_122 : decode cX9_furthest 122 = .ok (.iload 5, 2) := by decide +kernel
theorem dX9_furthest_124 : decode cX9_furthest 124 = .ok (.imul, 1) := by decide +kernel
theorem dX9_furthest_125 : decode cX9_furthest 125 = .ok (.iload 6, 2) := by decide +kernel
theorem dX9_furthest_127 : decode cX9_furthest 127 = .ok (.iadd, 1) := by decide +kernel
theorem dX9_furthest_128 : decode cX9_furthest 128 = .ok (.iaload, 1) := by decide +kernel
theorem dX9_furthest_129 : decode cX9_furthest 129 = .ok (.iload 5, 2) := by decide +kernel
theorem dX9_furthest_131 : decode cX9_furthest 131 = .ok (.if_icmp .ne 9, 3) := by decide +kernel
theorem dX9_furthest_134 : decode cX9_furthest 134 = .ok (.sipush 255, 3) := by decide +kernel
theorem dX9_furthest_137 : decode cX9_furthest 137 = .ok (.goto 13, 3) := by decide +kernel
theorem dX9_furthest_140 : decode cX9_furthest 140 = .ok (.sipush 255, 3) := by decide +kernel
theorem dX9_furthest_143 : decode cX9_furthest 143 = .ok (.iconst 1, 1) := by decide +kernel
theorem dX9_furthest_144 : decode cX9_furthest 144 = .ok (.iload 6, 2) := by decide +kernel
theorem dX9_furthest_146 : decode cX9_furthest 146 = .ok (.ishl, 1) := by decide +kernel
theorem dX9_furthest_147 : decode cX9_furthest 147 = .ok (.iconst (-1), 1) := by decide +kernel
theorem dX9_furthest_148 : decode cX9_furthest 148 = .ok (.ixor, 1) := by decide +kernel
theorem dX9_furthest_149 : decode cX9_furthest 149 = .ok (.iand, 1) := by decide +kernel
theorem dX9_furthest_150 : decode cX9_furthest 150 = .ok (.iand, 1) := by decide +kernel
theorem dX9_furthest_151 : decode cX9_furthest 151 = .ok (.istore 4, 2) := by decide +kernel
