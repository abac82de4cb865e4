theorem dX8_lay_36 : decode cX8_lay 36 = .ok (.iload_n 3, 1) := by decide +kernel
theorem dX8_lay_37 : decode cX8_lay 37 = .ok (.invokevirtual 147, 3) := by decide +kernel
theorem dX8_lay_40 : decode cX8_lay 40 = .ok (.ireturn, 1) := by decide +kernel
theorem dX8_told_0 : decode cX8_told 0 = .ok (.iload_n 2, 1) := by decide +kernel
theorem dX8_told_1 : decode cX8_told 1 = .ok (.ifCond .ne 11, 3) := by decide +kernel
theorem dX8_told_4 : decode cX8_told 4 = .ok (.aload_n 0, 1) := by decide +kernel
theorem dX8_told_5 : decode cX8_told 5 = .ok (.getfield 12, 3) := by decide +kernel
theorem dX8_told_8 : decode cX8_told 8 = .ok (.getfield 120, 3) := by decide +kernel
theorem dX8_told_11 : decode cX8_told 11 = .ok (.ireturn, 1) := by decide +kernel
theorem dX8_told_12 : decode cX8_told 12 = .ok (.iload_n 2, 1) := by decide +kernel
theorem dX8_told_13 : decode cX8_told 13 = .ok (.iconst 1, 1) := by decide +kernel
theorem dX8_told_14 : decode cX8_told 14 = .ok (.if_icmp .ne 26, 3) := by decide +kernel
theorem dX8_told_17 : decode cX8_told 17 = .ok (.iload_n 1, 1) := by decide +kernel
theorem dX8_told_18 : decode cX8_told 18 = .ok (.bipush 36, 2) := by decide +kernel
theorem dX8_told_20 : decode cX8_told 20 = .ok (.invokestatic 116, 3) := by decide +kernel
theorem dX8_told_23 : decode cX8_told 23 = .ok (.ifCond .eq 14, 3) := by decide +kernel
theorem dX8_told_26 : decode cX8_told 26 = .ok (.aload_n 0, 1) := by decide +kernel
theorem dX8_told_27 : decode cX8_told 27 = .ok (.getfield 12, 3) := by decide +kernel
theorem dX8_told_30 : decode cX8_told 30 = .ok (.iload_n 1, 1) := by decide +kernel
theorem dX8_told_31 : decode cX8_told 31 = .ok (.invokevirtual 123, 3) := by decide +kernel
theorem dX8_told_34 : decode cX8_told 34 = .ok (.goto 5, 3) := by decide +kernel
theorem dX8_told_37 : decode cX8_told 37 = .ok (.bipush (-2), 2) := by decide +kernel
theorem dX8_told_39 : decode cX8_told 39 = .ok (.ireturn, 1) := by decide +kernel
theorem dX8_told_40 : decode cX8_told 40 = .ok (.aload_n 0, 1) := by decide +kernel
theorem dX8_told_41 : decode cX8_told 41 = .ok (.getfield 12, 3) := by decide +kernel
theorem dX8_told_44 : decode cX8_told 44 = .ok (.iload_n 1, 1) := by decide +kernel
theorem dX8_told_45 : decode cX8_told 45 = .ok (.invokevirtual 130, 3) := by decide +kernel
theorem dX8_told_48 : decode cX8_told 48 = .ok (.astore_n 3, 1) := by decide +kernel
theorem dX8_told_49 : decode cX8_told 49 = .ok (.aload_n 3, 1) := by decide +kernel
theorem dX8_told_50 : decode cX8_told 50 = .ok (.ifnonnull 6, 3) := by decide +kernel
theorem dX8_told_53 : decode cX8_told 53 = .ok (.bipush (-2), 2) := by decide +kernel
theorem dX8_told_55 : decode cX8_told 55 = .ok (.ireturn, 1) := by decide +kernel
theorem dX8_told_56 : decode cX8_told 56 = .ok (.iload_n 2, 1) := by decide +kernel
theorem dX8_told_57 : decode cX8_told 57 = .ok (.iconst 2, 1) := by decide +kernel
theorem dX8_told_58 : decode cX8_told 58 = .ok (.if_icmp .lt 14, 3) := by decide +kernel
theorem dX8_told_61 : decode cX8_told 61 = .ok (.iload_n 2, 1) := by decide +kernel
theorem dX8_told_62 : decode cX8_told 62 = .ok (.iconst 5, 1) := by decide +kernel
theorem dX8_told_63 : decode cX8_told 63 = .ok (.if_icmp .gt 9, 3) := by decide +kernel
theorem dX8_told_66 : decode cX8_told 66 = .ok (.aload_n 3, 1) := by decide +kernel
theorem dX8_told_67 : decode cX8_told 67 = .ok (.iload_n 2, 1) := by decide +kernel
theorem dX8_told_68 : decode cX8_told 68 = .ok (.invokevirtual 137, 3) := by decide +kernel
theorem dX8_told_71 : decode cX8_told 71 = .ok (.ireturn, 1) := by decide +kernel
theorem dX8_told_72 : decode cX8_told 72 = .ok (.iload_n 2, 1) := by decide +kernel
theorem dX8_told_73 : decode cX8_told 73 = .ok (.bipush 6, 2) := by decide +kernel
theorem dX8_told_75 : decode cX8_told 75 = .ok (.if_icmp .ne 9, 3) := by decide +kernel
theorem dX8_told_78 : decode cX8_told 78 = .ok (.aload_n 0, 1) := by decide +kernel
theorem dX8_told_79 : decode cX8_told 79 = .ok (.iload_n 1, 1) := by decide +kernel
theorem dX8_told_80 : decode cX8_told 80 = .ok (.invokevirtual 150, 3) := by decide +kernel
theorem dX8_told_83 : decode cX8_told 83 = .ok (.ireturn, 1) := by decide +kernel
theorem dX8_told_84 : decode cX8_told 84 = .ok (.iload_n 2, 1) := by decide +kernel
theorem dX8_told_85 : decode cX8_told 85 = .ok (.bipush 10, 2) := by decide +kernel
theorem dX8_told_87 : decode cX8_told 87 = .ok (.if_icmp .lt 36, 3) := by decide +kernel
theorem dX8_told_90 : decode cX8_told 90 = .ok (.iload_n 2, 1) := by decide +kernel
theorem dX8_told_91 : decode cX8_told 91 = .ok (.bipush 10, 2) := by decide +kernel
theorem dX8_told_93 : decode cX8_told 93 = .ok (.isub, 1) := by decide +kernel
theorem dX8_told_94 : decode cX8_told 94 = .ok (.bipush 8, 2) := by decide +kernel
theorem dX8_told_96 : decode cX8_told 96 = .ok (.invokestatic 116, 3) := by decide +kernel
theorem dX8_told_99 : decode cX8_told 99 = .ok (.ifCond .eq 24, 3) := by decide +kernel
theorem dX8_told_102 : decode cX8_told 102 = .ok (.aload_n 0, 1) := by decide +kernel
theorem dX8_told_103 : decode cX8_told 103 = .ok (.aload_n 3, 1) := by decide +kernel
theorem dX8_told_104 : decode cX8_told 104 = .ok (.invokevirtual 153, 3) := by decide +kernel
theorem dX8_told_107 : decode cX8_told 107 = .ok (.aload_n 0, 1) := by decide +kernel
theorem dX8_told_108 : decode cX8_told 108 = .ok (.getfield 49, 3) := by decide +kernel
theorem dX8_told_111 : decode cX8_told 111 = .ok (.aload_n 3, 1) := by decide +kernel
theorem dX8_told_112 : decode cX8_told 112 = .ok (.getfield 157, 3) := by decide +kernel
theorem dX8_told_115 : decode cX8_told 115 = .ok (.iload_n 2, 1) := by decide +kernel
theorem dX8_told_116 : decode cX8_told 116 = .ok (.bipush 10, 2) := by decide +kernel
theorem dX8_told_118 : decode cX8_told 118 = .ok (.isub, 1) := by decide +kernel
theorem dX8_told_119 : decode cX8_told 119 = .ok (.invokevirtual 160, 3) := by decide +kernel
theorem dX8_told_122 : decode cX8_told 122 = .ok (.ireturn, 1) := by decide +kernel
theorem dX8_told_123 : decode cX8_told 123 = .ok (.bipush (-2), 2) := by decide +kernel
theorem dX8_told_125 : decode cX8_told 125 = .ok (.ireturn, 1) := by decide +kernel
theorem dX8_heightOf_0 : decode cX8_heightOf 0 = .ok (.aload_n 0, 1) := by decide +kernel
theorem dX8_heightOf_1 : decode cX8_heightOf 1 = .ok (.getfield 12, 3) := by decide +kernel
theorem dX8_heightOf_4 : decode cX8_heightOf 4 = .ok (.iload_n 1, 1) := by decide +kernel
theorem dX8_heightOf_5 : decode cX8_heightOf 5 = .ok (.invokevirtual 130, 3) := by decide +kernel
theorem dX8_heightOf_8 : decode cX8_heightOf 8 = .ok (.astore_n 2, 1) := by decide +kernel
theorem dX8_heightOf_9 : decode cX8_heightOf 9 = .ok (.aload_n 2, 1) := by decide +kernel
theorem dX8_heightOf_10 : decode cX8_heightOf 10 = .ok (.ifnonnull 5, 3) := by decide +kernel
theorem dX8_heightOf_13 : decode cX8_heightOf 13 = .ok (.iconst (-1), 1) := by decide +kernel
theorem dX8_heightOf_14 : decode cX8_heightOf 14 = .ok (.ireturn, 1) := by decide +kernel
theorem dX8_heightOf_15 : decode cX8_heightOf 15 = .ok (.aload_n 0, 1) := by decide +kernel
theorem dX8_heightOf_16 : decode cX8_heightOf 16 = .ok (.aload_n 2, 1) := by decide +kernel
theorem dX8_heightOf_17 : decode cX8_heightOf 17 = .ok (.invokevirtual 153, 3) := by decide +kernel
theorem dX8_heightOf_20 : decode cX8_heightOf 20 = .ok (.aload_n 0, 1) := by decide +kernel
theorem dX8_heightOf_21 : decode cX8_heightOf 21 = .ok (.getfield 49, 3) := by decide +kernel
theorem dX8_heightOf_24 : decode cX8_heightOf 24 = .ok (.aload_n 2, 1) := by decide +kernel
theorem dX8_heightOf_25 : decode cX8_heightOf 25 = .ok (.getfield 157, 3) := by decide +kernel
theorem dX8_heightOf_28 : decode cX8_heightOf 28 = .ok (.aload_n 0, 1) := by decide +kernel
theorem dX8_heightOf_29 : decode cX8_heightOf 29 = .ok (.getfield 12, 3) := by decide +kernel
theorem dX8_heightOf_32 : decode cX8_heightOf 32 = .ok (.iload_n 1, 1) := by decide +kernel
theorem dX8_heightOf_33 : decode cX8_heightOf 33 = .ok (.invokevirtual 163, 3) := by decide +kernel
theorem dX8_heightOf_36 : decode cX8_heightOf 36 = .ok (.invokevirtual 166, 3) := by decide +kernel
theorem dX8_heightOf_39 : decode cX8_heightOf 39 = .ok (.ireturn, 1) := by decide +kernel
theorem dX8_asks_0 : decode cX8_asks 0 = .ok (.aload_n 0, 1) := by decide +kernel
theorem dX8_asks_1 : decode cX8_asks 1 = .ok (.getfield 12, 3) := by decide +kernel
theorem dX8_asks_4 : decode cX8_asks 4 = .ok (.iload_n 1, 1) := by decide +kernel
theorem dX8_asks_5 : decode cX8_asks 5 = .ok (.invokevirtual 130, 3) := by decide +kernel
theorem dX8_asks_8 : decode cX8_asks 8 = .ok (.astore 5, 2) := by decide +kernel
theorem dX8_asks_10 : decode cX8_asks 10 = .ok (.aload 5, 2) := by decide +kernel
theorem dX8_asks_12 : decode cX8_asks 12 = .ok (.ifnull 30, 3) := by decide +kernel
theorem dX8_asks_15 : decode cX8_asks 15 = .ok (.iload_n 2, 1) := by decide +kernel
theorem dX8_asks_16 : decode cX8_asks 16 = .ok (.bipush 36, 2) := by decide +kernel
theorem dX8_asks_18 : decode cX8_asks 18 = .ok (.invokestatic 116, 3) := by decide +kernel
theorem dX8_asks_21 : decode cX8_asks 21 = .ok (.ifCond .eq 21, 3) := by decide +kernel
theorem dX8_asks_24 : decode cX8_asks 24 = .ok (.iload_n 3, 1) := by decide +kernel
theorem dX8_asks_25 : decode cX8_asks 25 = .ok (.bipush 8, 2) := by decide +kernel
theorem dX8_asks_27 : decode cX8_asks 27 = .ok (.invokestatic 116, 3) := by decide +kernel
theorem dX8_asks_30 : decode cX8_asks 30 = .ok (.ifCond .eq 12, 3) := by decide +kernel
theorem dX8_asks_33 : decode cX8_asks 33 = .ok (.iload 4, 2) := by decide +kernel
theorem dX8_asks_35 : decode cX8_asks 35 = .ok (.iconst 2, 1) := by decide +kernel
theorem dX8_asks_36 : decode cX8_asks 36 = .ok (.invokestatic 116, 3) := by decide +kernel
theorem dX8_asks_39 : decode cX8_asks 39 = .ok (.ifCond .ne 7, 3) := by decide +kernel
theorem dX8_asks_42 : decode cX8_asks 42 = .ok (.sipush (-1000), 3) := by decide +kernel
theorem dX8_asks_45 : decode cX8_asks 45 = .ok (.ireturn, 1) := by decide +kernel
theorem dX8_asks_46 : decode cX8_asks 46 = .ok (.aload_n 0, 1) := by decide +kernel
theorem dX8_asks_47 : decode cX8_asks 47 = .ok (.aload 5, 2) := by decide +kernel
theorem dX8_asks_49 : decode cX8_asks 49 = .ok (.invokevirtual 153, 3) := by decide +kernel
theorem dX8_asks_52 : decode cX8_asks 52 = .ok (.iload 4, 2) := by decide +kernel
theorem dX8_asks_54 : decode cX8_asks 54 = .ok (.ifCond .ne 15, 3) := by decide +kernel
theorem dX8_asks_57 : decode cX8_asks 57 = .ok (.aload_n 0, 1) := by decide +kernel
theorem dX8_asks_58 : decode cX8_asks 58 = .ok (.getfield 49, 3) := by decide +kernel
theorem dX8_asks_61 : decode cX8_asks 61 = .ok (.iload_n 2, 1) := by decide +kernel
theorem dX8_asks_62 : decode cX8_asks 62 = .ok (.iload_n 3, 1) := by decide +kernel
theorem dX8_asks_63 : decode cX8_asks 63 = .ok (.invokevirtual 169, 3) := by decide +kernel
theorem dX8_asks_66 : decode cX8_asks 66 = .ok (.goto 12, 3) := by decide +kernel
theorem dX8_asks_69 : decode cX8_asks 69 = .ok (.aload_n 0, 1) := by decide +kernel
theorem dX8_asks_70 : decode cX8_asks 70 = .ok (.getfield 49, 3) := by decide +kernel
theorem dX8_asks_73 : decode cX8_asks 73 = .ok (.iload_n 2, 1) := by decide +kernel
theorem dX8_asks_74 : decode cX8_asks 74 = .ok (.iload_n 3, 1) := by decide +kernel
theorem dX8_asks_75 : decode cX8_asks 75 = .ok (.invokevirtual 172, 3) := by decide +kernel
theorem dX8_asks_78 : decode cX8_asks 78 = .ok (.ireturn, 1) := by decide +kernel
theorem dX8_feed_0 : decode cX8_feed 0 = .ok (.iload_n 1, 1) := by decide +kernel
theorem dX8_feed_1 : decode cX8_feed 1 = .ok (.sipush 256, 3) := by decide +kernel
theorem dX8_feed_4 : decode cX8_feed 4 = .ok (.invokestatic 116, 3) := by decide +kernel
theorem dX8_feed_7 : decode cX8_feed 7 = .ok (.ifCond .ne 6, 3) := by decide +kernel
theorem dX8_feed_10 : decode cX8_feed 10 = .ok (.bipush (-2), 2) := by decide +kernel
theorem dX8_feed_12 : decode cX8_feed 12 = .ok (.ireturn, 1) := by decide +kernel
theorem dX8_feed_13 : decode cX8_feed 13 = .ok (.aload_n 0, 1) := by decide +kernel
theorem dX8_feed_14 : decode cX8_feed 14 = .ok (.getfield 26, 3) := by decide +kernel
theorem dX8_feed_17 : decode cX8_feed 17 = .ok (.iload_n 1, 1) := by decide +kernel
theorem dX8_feed_18 : decode cX8_feed 18 = .ok (.invokevirtual 90, 3) := by decide +kernel
theorem dX8_feed_21 : decode cX8_feed 21 = .ok (.ireturn, 1) := by decide +kernel
theorem dX8_text_0 : decode cX8_text 0 = .ok (.aload_n 0, 1) := by decide +kernel
theorem dX8_text_1 : decode cX8_text 1 = .ok (.getfield 36, 3) := by decide +kernel
theorem dX8_text_4 : decode cX8_text 4 = .ok (.aload_n 0, 1) := by decide +kernel
theorem dX8_text_5 : decode cX8_text 5 = .ok (.getfield 32, 3) := by decide +kernel
theorem dX8_text_8 : decode cX8_text 8 = .ok (.arraylength, 1) := by decide +kernel
theorem dX8_text_9 : decode cX8_text 9 = .ok (.invokestatic 116, 3) := by decide +kernel
theorem dX8_text_12 : decode cX8_text 12 = .ok (.ifCond .ne 6, 3) := by decide +kernel
theorem dX8_text_15 : decode cX8_text 15 = .ok (.bipush (-4), 2) := by decide +kernel
theorem dX8_text_17 : decode cX8_text 17 = .ok (.ireturn, 1) := by decide +kernel
theorem dX8_text_18 : decode cX8_text 18 = .ok (.aload_n 0, 1) := by decide +kernel
theorem dX8_text_19 : decode cX8_text 19 = .ok (.getfield 26, 3) := by decide +kernel
theorem dX8_text_22 : decode cX8_text 22 = .ok (.invokevirtual 94, 3) := by decide +kernel
theorem dX8_text_25 : decode cX8_text 25 = .ok (.ifCond .ne 23, 3) := by decide +kernel
theorem dX8_text_28 : decode cX8_text 28 = .ok (.aload_n 0, 1) := by decide +kernel
theorem dX8_text_29 : decode cX8_text 29 = .ok (.getfield 26, 3) := by decide +kernel
theorem dX8_text_32 : decode cX8_text 32 = .ok (.invokevirtual 175, 3) := by decide +kernel
theorem dX8_text_35 : decode cX8_text 35 = .ok (.istore_n 1, 1) := by decide +kernel
theorem dX8_text_36 : decode cX8_text 36 = .ok (.aload_n 0, 1) := by decide +kernel
theorem dX8_text_37 : decode cX8_text 37 = .ok (.getfield 26, 3) := by decide +kernel
theorem dX8_text_40 : decode cX8_text 40 = .ok (.invokevirtual 102, 3) := by decide +kernel
theorem dX8_text_43 : decode cX8_text 43 = .ok (.bipush (-100), 2) := by decide +kernel
theorem dX8_text_45 : decode cX8_text 45 = .ok (.iload_n 1, 1) := by decide +kernel
theorem dX8_text_46 : decode cX8_text 46 = .ok (.isub, 1) := by decide +kernel
theorem dX8_text_47 : decode cX8_text 47 = .ok (.ireturn, 1) := by decide +kernel
theorem dX8_text_48 : decode cX8_text 48 = .ok (.aload_n 0, 1) := by decide +kernel
theorem dX8_text_49 : decode cX8_text 49 = .ok (.getfield 32, 3) := by decide +kernel
theorem dX8_text_52 : decode cX8_text 52 = .ok (.aload_n 0, 1) := by decide +kernel
theorem dX8_text_53 : decode cX8_text 53 = .ok (.getfield 36, 3) := by decide +kernel
theorem dX8_text_56 : decode cX8_text 56 = .ok (.aload_n 0, 1) := by decide +kernel
theorem dX8_text_57 : decode cX8_text 57 = .ok (.getfield 26, 3) := by decide +kernel
theorem dX8_text_60 : decode cX8_text 60 = .ok (.invokevirtual 98, 3) := by decide +kernel
theorem dX8_text_63 : decode cX8_text 63 = .ok (.aastore, 1) := by decide +kernel
theorem dX8_text_64 : decode cX8_text 64 = .ok (.aload_n 0, 1) := by decide +kernel
theorem dX8_text_65 : decode cX8_text 65 = .ok (.getfield 26, 3) := by decide +kernel
theorem dX8_text_68 : decode cX8_text 68 = .ok (.invokevirtual 102, 3) := by decide +kernel
theorem dX8_text_71 : decode cX8_text 71 = .ok (.aload_n 0, 1) := by decide +kernel
theorem dX8_text_72 : decode cX8_text 72 = .ok (.dup, 1) := by decide +kernel
theorem dX8_text_73 : decode cX8_text 73 = .ok (.getfield 36, 3) := by decide +kernel
theorem dX8_text_76 : decode cX8_text 76 = .ok (.iconst 1, 1) := by decide +kernel
theorem dX8_text_77 : decode cX8_text 77 = .ok (.iadd, 1) := by decide +kernel
theorem dX8_text_78 : decode cX8_text 78 = .ok (.putfield 36, 3) := by decide +kernel
theorem dX8_text_81 : decode cX8_text 81 = .ok (.aload_n 0, 1) := by decide +kernel
theorem dX8_text_82 : decode cX8_text 82 = .ok (.getfield 36, 3) := by decide +kernel
theorem dX8_text_85 : decode cX8_text 85 = .ok (.iconst 1, 1) := by decide +kernel
theorem dX8_text_86 : decode cX8_text 86 = .ok (.isub, 1) := by decide +kernel
theorem dX8_text_87 : decode cX8_text 87 = .ok (.ireturn, 1) := by decide +kernel
theorem dX8_force_0 : decode cX8_force 0 = .ok (.iload_n 1, 1) := by decide +kernel
theorem dX8_force_1 : decode cX8_force 1 = .ok (.aload_n 0, 1) := by decide +kernel
theorem dX8_force_2 : decode cX8_force 2 = .ok (.getfield 36, 3) := by decide +kernel
theorem dX8_force_5 : decode cX8_force 5 = .ok (.invokestatic 116, 3) := by decide +kernel
theorem dX8_force_8 : decode cX8_force 8 = .ok (.ifCond .ne 6, 3) := by decide +kernel
theorem dX8_force_11 : decode cX8_force 11 = .ok (.bipush (-2), 2) := by decide +kernel
theorem dX8_force_13 : decode cX8_force 13 = .ok (.ireturn, 1) := by decide +kernel
theorem dX8_force_14 : decode cX8_force 14 = .ok (.aload_n 0, 1) := by decide +kernel
theorem dX8_force_15 : decode cX8_force 15 = .ok (.getfield 12, 3) := by decide +kernel
theorem dX8_force_18 : decode cX8_force 18 = .ok (.getfield 178, 3) := by decide +kernel
theorem dX8_force_21 : decode cX8_force 21 = .ok (.istore_n 2, 1) := by decide +kernel
theorem dX8_force_22 : decode cX8_force 22 = .ok (.aload_n 0, 1) := by decide +kernel
theorem dX8_force_23 : decode cX8_force 23 = .ok (.getfield 12, 3) := by decide +kernel
theorem dX8_force_26 : decode cX8_force 26 = .ok (.iload_n 1, 1) := by decide +kernel
theorem dX8_force_27 : decode cX8_force 27 = .ok (.putfield 178, 3) := by decide +kernel
theorem dX8_force_30 : decode cX8_force 30 = .ok (.iload_n 2, 1) := by decide +kernel
theorem dX8_force_31 : decode cX8_force 31 = .ok (.ireturn, 1) := by decide +kernel
theorem dX8_textAt_0 : decode cX8_textAt 0 = .ok (.iload_n 1, 1) := by decide +kernel
theorem dX8_textAt_1 : decode cX8_textAt 1 = .ok (.aload_n 0, 1) := by decide +kernel
theorem dX8_textAt_2 : decode cX8_textAt 2 = .ok (.getfield 32, 3) := by decide +kernel
theorem dX8_textAt_5 : decode cX8_textAt 5 = .ok (.arraylength, 1) := by decide +kernel
theorem dX8_textAt_6 : decode cX8_textAt 6 = .ok (.invokestatic 116, 3) := by decide +kernel
theorem dX8_textAt_9 : decode cX8_textAt 9 = .ok (.ifCond .eq 12, 3) := by decide +kernel
theorem dX8_textAt_12 : decode cX8_textAt 12 = .ok (.aload_n 0, 1) := by decide +kernel
theorem dX8_textAt_13 : decode cX8_textAt 13 = .ok (.getfield 32, 3) := by decide +kernel
theorem dX8_textAt_16 : decode cX8_textAt 16 = .ok (.iload_n 1, 1) := by decide +kernel
theorem dX8_textAt_17 : decode cX8_textAt 17 = .ok (.aaload, 1) := by decide +kernel
theorem dX8_textAt_18 : decode cX8_textAt 18 = .ok (.goto 4, 3) := by decide +kernel
theorem dX8_textAt_21 : decode cX8_textAt 21 = .ok (.aconst_null, 1) := by decide +kernel
theorem dX8_textAt_22 : decode cX8_textAt 22 = .ok (.areturn, 1) := by decide +kernel
theorem dX8_say_0 : decode cX8_say 0 = .ok (.iload_n 2, 1) := by decide +kernel
theorem dX8_say_1 : decode cX8_say 1 = .ok (.bipush 8, 2) := by decide +kernel
theorem dX8_say_3 : decode cX8_say 3 = .ok (.invokestatic 116, 3) := by decide +kernel
theorem dX8_say_6 : decode cX8_say 6 = .ok (.ifCond .ne 6, 3) := by decide +kernel
theorem dX8_say_9 : decode cX8_say 9 = .ok (.bipush (-2), 2) := by decide +kernel
theorem dX8_say_11 : decode cX8_say 11 = .ok (.ireturn, 1) := by decide +kernel
theorem dX8_say_12 : decode cX8_say 12 = .ok (.iload_n 1, 1) := by decide +kernel
theorem dX8_say_13 : decode cX8_say 13 = .ok (.iconst (-1), 1) := by decide +kernel
theorem dX8_say_14 : decode cX8_say 14 = .ok (.if_icmp .eq 28, 3) := by decide +kernel
theorem dX8_say_17 : decode cX8_say 17 = .ok (.aload_n 0, 1) := by decide +kernel
theorem dX8_say_18 : decode cX8_say 18 = .ok (.getfield 12, 3) := by decide +kernel
theorem dX8_say_21 : decode cX8_say 21 = .ok (.iload_n 1, 1) := by decide +kernel
theorem dX8_say_22 : decode cX8_say 22 = .ok (.invokevirtual 130, 3) := by decide +kernel
theorem dX8_say_25 : decode cX8_say 25 = .ok (.astore_n 3, 1) := by decide +kernel
theorem dX8_say_26 : decode cX8_say 26 = .ok (.aload_n 3, 1) := by decide +kernel
theorem dX8_say_27 : decode cX8_say 27 = .ok (.ifnonnull 8, 3) := by decide +kernel
theorem dX8_say_30 : decode cX8_say 30 = .ok (.bipush (-2), 2) := by decide +kernel
theorem dX8_say_32 : decode cX8_say 32 = .ok (.goto 9, 3) := by decide +kernel
theorem dX8_say_35 : decode cX8_say 35 = .ok (.aload_n 0, 1) := by decide +kernel
theorem dX8_say_36 : decode cX8_say 36 = .ok (.aload_n 3, 1) := by decide +kernel
theorem dX8_say_37 : decode cX8_say 37 = .ok (.iload_n 2, 1) := by decide +kernel
theorem dX8_say_38 : decode cX8_say 38 = .ok (.invokevirtual 181, 3) := by decide +kernel
theorem dX8_say_41 : decode cX8_say 41 = .ok (.ireturn, 1) := by decide +kernel
theorem dX8_say_42 : decode cX8_say 42 = .ok (.iconst 0, 1) := by decide +kernel
theorem dX8_say_43 : decode cX8_say 43 = .ok (.istore_n 3, 1) := by decide +kernel
theorem dX8_say_44 : decode cX8_say 44 = .ok (.iconst 0, 1) := by decide +kernel
theorem dX8_say_45 : decode cX8_say 45 = .ok (.istore 4, 2) := by decide +kernel
theorem dX8_say_47 : decode cX8_say 47 = .ok (.iload 4, 2) := by decide +kernel
theorem dX8_say_49 : decode cX8_say 49 = .ok (.iconst 4, 1) := by decide +kernel
theorem dX8_say_50 : decode cX8_say 50 = .ok (.if_icmp .ge 39, 3) := by decide +kernel
theorem dX8_say_53 : decode cX8_say 53 = .ok (.aload_n 0, 1) := by decide +kernel
theorem dX8_say_54 : decode cX8_say 54 = .ok (.getfield 12, 3) := by decide +kernel
theorem dX8_say_57 : decode cX8_say 57 = .ok (.iload 4, 2) := by decide +kernel
theorem dX8_say_59 : decode cX8_say 59 = .ok (.invokevirtual 130, 3) := by decide +kernel
theorem dX8_say_62 : decode cX8_say 62 = .ok (.astore 5, 2) := by decide +kernel
theorem dX8_say_64 : decode cX8_say 64 = .ok (.iload_n 3, 1) := by decide +kernel
theorem dX8_say_65 : decode cX8_say 65 = .ok (.aload 5, 2) := by decide +kernel
theorem dX8_say_67 : decode cX8_say 67 = .ok (.ifnonnull 7, 3) := by decide +kernel
theorem dX8_say_70 : decode cX8_say 70 = .ok (.iconst 0, 1) := by decide +kernel
theorem dX8_say_71 : decode cX8_say 71 = .ok (.goto 10, 3) := by decide +kernel
theorem dX8_say_74 : decode cX8_say 74 = .ok (.aload_n 0, 1) := by decide +kernel
theorem dX8_say_75 : decode cX8_say 75 = .ok (.aload 5, 2) := by decide +kernel
theorem dX8_say_77 : decode cX8_say 77 = .ok (.iload_n 2, 1) := by decide +kernel
theorem dX8_say_78 : decode cX8_say 78 = .ok (.invokevirtual 181, 3) := by decide +kernel
theorem dX8_say_81 : decode cX8_say 81 = .ok (.iadd, 1) := by decide +kernel
theorem dX8_say_82 : decode cX8_say 82 = .ok (.istore_n 3, 1) := by decide +kernel
theorem dX8_say_83 : decode cX8_say 83 = .ok (.iinc 4 1, 3) := by decide +kernel
theorem dX8_say_86 : decode cX8_say 86 = .ok (.goto (-39), 3) := by decide +kernel
theorem dX8_say_89 : decode cX8_say 89 = .ok (.iload_n 3, 1) := by decide +kernel
theorem dX8_say_90 : decode cX8_say 90 = .ok (.ireturn, 1) := by decide +kernel
theorem dX8_fly_0 : decode cX8_fly 0 = .ok (.aload_n 0, 1) := by decide +kernel
theorem dX8_fly_1 : decode cX8_fly 1 = .ok (.aload_n 1, 1) := by decide +kernel
theorem dX8_fly_2 : decode cX8_fly 2 = .ok (.invokevirtual 153, 3) := by decide +kernel
theorem dX8_fly_5 : decode cX8_fly 5 = .ok (.aload_n 0, 1) := by decide +kernel
theorem dX8_fly_6 : decode cX8_fly 6 = .ok (.getfield 49, 3) := by decide +kernel
theorem dX8_fly_9 : decode cX8_fly 9 = .ok (.aload_n 1, 1) := by decide +kernel
theorem dX8_fly_10 : decode cX8_fly 10 = .ok (.getfield 157, 3) := by decide +kernel
theorem dX8_fly_13 : decode cX8_fly 13 = .ok (.iload_n 2, 1) := by decide +kernel
theorem dX8_fly_14 : decode cX8_fly 14 = .ok (.invokevirtual 160, 3) := by decide +kernel
theorem dX8_fly_17 : decode cX8_fly 17 = .ok (.istore_n 3, 1) := by decide +kernel
theorem dX8_fly_18 : decode cX8_fly 18 = .ok (.iload_n 3, 1) := by decide +kernel
theorem dX8_fly_19 : decode cX8_fly 19 = .ok (.aload_n 1, 1) := by decide +kernel
theorem dX8_fly_20 : decode cX8_fly 20 = .ok (.getfield 157, 3) := by decide +kernel
theorem dX8_fly_23 : decode cX8_fly 23 = .ok (.if_icmp .ne 5, 3) := by decide +kernel
theorem dX8_fly_26 : decode cX8_fly 26 = .ok (.iconst 0, 1) := by decide +kernel
theorem dX8_fly_27 : decode cX8_fly 27 = .ok (.ireturn, 1) := by decide +kernel
theorem dX8_fly_28 : decode cX8_fly 28 = .ok (.aload_n 1, 1) := by decide +kernel
theorem dX8_fly_29 : decode cX8_fly 29 = .ok (.iload_n 3, 1) := by decide +kernel
theorem dX8_fly_30 : decode cX8_fly 30 = .ok (.putfield 157, 3) := by decide +kernel
theorem dX8_fly_33 : decode cX8_fly 33 = .ok (.aload_n 1, 1) := by decide +kernel
theorem dX8_fly_34 : decode cX8_fly 34 = .ok (.iconst 1, 1) := by decide +kernel
theorem dX8_fly_35 : decode cX8_fly 35 = .ok (.putfield 185, 3) := by decide +kernel
theorem dX8_fly_38 : decode cX8_fly 38 = .ok (.iconst 1, 1) := by decide +kernel
theorem dX8_fly_39 : decode cX8_fly 39 = .ok (.ireturn, 1) := by decide +kernel
theorem dX8_flies_0 : decode cX8_flies 0 = .ok (.aload_n 0, 1) := by decide +kernel
theorem dX8_flies_1 : decode cX8_flies 1 = .ok (.iload_n 1, 1) := by decide +kernel
theorem dX8_flies_2 : decode cX8_flies 2 = .ok (.iload_n 2, 1) := by decide +kernel
theorem dX8_flies_3 : decode cX8_flies 3 = .ok (.iload_n 3, 1) := by decide +kernel
theorem dX8_flies_4 : decode cX8_flies 4 = .ok (.iconst 2, 1) := by decide +kernel
theorem dX8_flies_5 : decode cX8_flies 5 = .ok (.invokestatic 116, 3) := by decide +kernel
theorem dX8_flies_8 : decode cX8_flies 8 = .ok (.bipush 40, 2) := by decide +kernel
theorem dX8_flies_10 : decode cX8_flies 10 = .ok (.bipush 8, 2) := by decide +kernel
theorem dX8_flies_12 : decode cX8_flies 12 = .ok (.invokevirtual 188, 3) := by decide +kernel
theorem dX8_flies_15 : decode cX8_flies 15 = .ok (.istore 4, 2) := by decide +kernel
theorem dX8_flies_17 : decode cX8_flies 17 = .ok (.aload_n 0, 1) := by decide +kernel
theorem dX8_flies_18 : decode cX8_flies 18 = .ok (.iload_n 1, 1) := by decide +kernel
theorem dX8_flies_19 : decode cX8_flies 19 = .ok (.invokevirtual 192, 3) := by decide +kernel
theorem dX8_flies_22 : decode cX8_flies 22 = .ok (.astore 5, 2) := by decide +kernel
theorem dX8_flies_24 : decode cX8_flies 24 = .ok (.aload_n 0, 1) := by decide +kernel
theorem dX8_flies_25 : decode cX8_flies 25 = .ok (.getfield 12, 3) := by decide +kernel
theorem dX8_flies_28 : decode cX8_flies 28 = .ok (.iload_n 2, 1) := by decide +kernel
theorem dX8_flies_29 : decode cX8_flies 29 = .ok (.invokevirtual 130, 3) := by decide +kernel
theorem dX8_flies_32 : decode cX8_flies 32 = .ok (.astore 6, 2) := by decide +kernel
theorem dX8_flies_34 : decode cX8_flies 34 = .ok (.iload 4, 2) := by decide +kernel
theorem dX8_flies_36 : decode cX8_flies 36 = .ok (.ifCond .ne 13, 3) := by decide +kernel
theorem dX8_flies_39 : decode cX8_flies 39 = .ok (.aload 5, 2) := by decide +kernel
theorem dX8_flies_41 : decode cX8_flies 41 = .ok (.ifnull 8, 3) := by decide +kernel
theorem dX8_flies_44 : decode cX8_flies 44 = .ok (.aload 6, 2) := by decide +kernel
theorem dX8_flies_46 : decode cX8_flies 46 = .ok (.ifnonnull 6, 3) := by decide +kernel
theorem dX8_flies_49 : decode cX8_flies 49 = .ok (.iload 4, 2) := by decide +kernel
theorem dX8_flies_51 : decode cX8_flies 51 = .ok (.ireturn, 1) := by decide +kernel
theorem dX8_flies_52 : decode cX8_flies 52 = .ok (.aload_n 0, 1) := by decide +kernel
theorem dX8_flies_53 : decode cX8_flies 53 = .ok (.aload 6, 2) := by decide +kernel
theorem dX8_flies_55 : decode cX8_flies 55 = .ok (.invokevirtual 153, 3) := by decide +kernel
theorem dX8_flies_58 : decode cX8_flies 58 = .ok (.aload 6, 2) := by decide +kernel
theorem dX8_flies_60 : decode cX8_flies 60 = .ok (.getfield 157, 3) := by decide +kernel
theorem dX8_flies_63 : decode cX8_flies 63 = .ok (.istore 7, 2) := by decide +kernel
theorem dX8_flies_65 : decode cX8_flies 65 = .ok (.iconst 0, 1) := by decide +kernel
theorem dX8_flies_66 : decode cX8_flies 66 = .ok (.istore 8, 2) := by decide +kernel
theorem dX8_flies_68 : decode cX8_flies 68 = .ok (.iconst 0, 1) := by decide +kernel
theorem dX8_flies_69 : decode cX8_flies 69 = .ok (.istore 9, 2) := by decide +kernel
theorem dX8_flies_71 : decode cX8_flies 71 = .ok (.iload 9, 2) := by decide +kernel
theorem dX8_flies_73 : decode cX8_flies 73 = .ok (.aload 5, 2) := by decide +kernel
theorem dX8_flies_75 : decode cX8_flies 75 = .ok (.getfield 196, 3) := by decide +kernel
theorem dX8_flies_78 : decode cX8_flies 78 = .ok (.if_icmp .ge 48, 3) := by decide +kernel
theorem dX8_flies_81 : decode cX8_flies 81 = .ok (.aload_n 0, 1) := by decide +kernel
theorem dX8_flies_82 : decode cX8_flies 82 = .ok (.getfield 49, 3) := by decide +kernel
theorem dX8_flies_85 : decode cX8_flies 85 = .ok (.iload 7, 2) := by decide +kernel
theorem dX8_flies_87 : decode cX8_flies 87 = .ok (.aload 5, 2) := by decide +kernel
theorem dX8_flies_89 : decode cX8_flies 89 = .ok (.iload 9, 2) := by decide +kernel
theorem dX8_flies_91 : decode cX8_flies 91 = .ok (.invokevirtual 199, 3) := by decide +kernel
theorem dX8_flies_94 : decode cX8_flies 94 = .ok (.invokevirtual 160, 3) := by decide +kernel
theorem dX8_flies_97 : decode cX8_flies 97 = .ok (.istore 10, 2) := by decide +kernel
theorem dX8_flies_99 : decode cX8_flies 99 = .ok (.iload 8, 2) := by decide +kernel
theorem dX8_flies_101 : decode cX8_flies 101 = .ok (.iload 10, 2) := by decide +kernel
theorem dX8_flies_103 : decode cX8_flies 103 = .ok (.iload 7, 2) := by decide +kernel
theorem dX8_flies_105 : decode cX8_flies 105 = .ok (.if_icmp .ne 7, 3) := by decide +kernel
theorem dX8_flies_108 : decode cX8_flies 108 = .ok (.iconst 0, 1) := by decide +kernel
theorem dX8_flies_109 : decode cX8_flies 109 = .ok (.goto 4, 3) := by decide +kernel
theorem dX8_flies_112 : decode cX8_flies 112 = .ok (.iconst 1, 1) := by decide +kernel
theorem dX8_flies_113 : decode cX8_flies 113 = .ok (.iadd, 1) := by decide +kernel
theorem dX8_flies_114 : decode cX8_flies 114 = .ok (.istore 8, 2) := by decide +kernel
theorem dX8_flies_116 : decode cX8_flies 116 = .ok (.iload 10, 2) := by decide +kernel
theorem dX8_flies_118 : decode cX8_flies 118 = .ok (.istore 7, 2) := by decide +kernel
theorem dX8_flies_120 : decode cX8_flies 120 = .ok (.iinc 9 1, 3) := by decide +kernel
theorem dX8_flies_123 : decode cX8_flies 123 = .ok (.goto (-52), 3) := by decide +kernel
theorem dX8_flies_126 : decode cX8_flies 126 = .ok (.iload_n 3, 1) := by decide +kernel
theorem dX8_flies_127 : decode cX8_flies 127 = .ok (.ifCond .ne 8, 3) := by decide +kernel
theorem dX8_flies_130 : decode cX8_flies 130 = .ok (.iload 7, 2) := by decide +kernel
theorem dX8_flies_132 : decode cX8_flies 132 = .ok (.goto 5, 3) := by decide +kernel
theorem dX8_flies_135 : decode cX8_flies 135 = .ok (.iload 8, 2) := by decide +kernel
theorem dX8_flies_137 : decode cX8_flies 137 = .ok (.ireturn, 1) := by decide +kernel
theorem dX8_shortest_0 : decode cX8_shortest 0 = .ok (.iload_n 2, 1) := by decide +kernel
theorem dX8_shortest_1 : decode cX8_shortest 1 = .ok (.bipush 36, 2) := by decide +kernel
theorem dX8_shortest_3 : decode cX8_shortest 3 = .ok (.invokestatic 116, 3) := by decide +kernel
theorem dX8_shortest_6 : decode cX8_shortest 6 = .ok (.ifCond .eq 23, 3) := by decide +kernel
theorem dX8_shortest_9 : decode cX8_shortest 9 = .ok (.iload_n 3, 1) := by decide +kernel
theorem dX8_shortest_10 : decode cX8_shortest 10 = .ok (.iconst 2, 1) := by decide +kernel
theorem dX8_shortest_11 : decode cX8_shortest 11 = .ok (.invokestatic 116, 3) := by decide +kernel
theorem dX8_shortest_14 : decode cX8_shortest 14 = .ok (.ifCond .eq 15, 3) := by decide +kernel
theorem dX8_shortest_17 : decode cX8_shortest 17 = .ok (.aload_n 0, 1) := by decide +kernel
theorem dX8_shortest_18 : decode cX8_shortest 18 = .ok (.aload_n 0, 1) := by decide +kernel
theorem dX8_shortest_19 : decode cX8_shortest 19 = .ok (.getfield 56, 3) := by decide +kernel
theorem dX8_shortest_22 : decode cX8_shortest 22 = .ok (.iload_n 1, 1) := by decide +kernel
theorem dX8_shortest_23 : decode cX8_shortest 23 = .ok (.invokevirtual 202, 3) := by decide +kernel
theorem dX8_shortest_26 : decode cX8_shortest 26 = .ok (.ifCond .ne 6, 3) := by decide +kernel
theorem dX8_shortest_29 : decode cX8_shortest 29 = .ok (.bipush (-2), 2) := by decide +kernel
theorem dX8_shortest_31 : decode cX8_shortest 31 = .ok (.ireturn, 1) := by decide +kernel
theorem dX8_shortest_32 : decode cX8_shortest 32 = .ok (.iload_n 3, 1) := by decide +kernel
theorem dX8_shortest_33 : decode cX8_shortest 33 = .ok (.ifCond .ne 14, 3) := by decide +kernel
theorem dX8_shortest_36 : decode cX8_shortest 36 = .ok (.aload_n 0, 1) := by decide +kernel
theorem dX8_shortest_37 : decode cX8_shortest 37 = .ok (.getfield 56, 3) := by decide +kernel
theorem dX8_shortest_40 : decode cX8_shortest 40 = .ok (.iload_n 2, 1) := by decide +kernel
theorem dX8_shortest_41 : decode cX8_shortest 41 = .ok (.invokevirtual 206, 3) := by decide +kernel
theorem dX8_shortest_44 : decode cX8_shortest 44 = .ok (.goto 11, 3) := by decide +kernel
theorem dX8_shortest_47 : decode cX8_shortest 47 = .ok (.aload_n 0, 1) := by decide +kernel
theorem dX8_shortest_48 : decode cX8_shortest 48 = .ok (.getfield 56, 3) := by decide +kernel
theorem dX8_shortest_51 : decode cX8_shortest 51 = .ok (.iload_n 2, 1) := by decide +kernel
theorem dX8_shortest_52 : decode cX8_shortest 52 = .ok (.invokevirtual 209, 3) := by decide +kernel
theorem dX8_shortest_55 : decode cX8_shortest 55 = .ok (.ireturn, 1) := by decide +kernel
theorem dX8_there_0 : decode cX8_there 0 = .ok (.iload_n 2, 1) := by decide +kernel
theorem dX8_there_1 : decode cX8_there 1 = .ok (.iconst 2, 1) := by decide +kernel
theorem dX8_there_2 : decode cX8_there 2 = .ok (.invokestatic 116, 3) := by decide +kernel
theorem dX8_there_5 : decode cX8_there 5 = .ok (.ifCond .eq 15, 3) := by decide +kernel
theorem dX8_there_8 : decode cX8_there 8 = .ok (.aload_n 0, 1) := by decide +kernel
theorem dX8_there_9 : decode cX8_there 9 = .ok (.aload_n 0, 1) := by decide +kernel
theorem dX8_there_10 : decode cX8_there 10 = .ok (.getfield 56, 3) := by decide +kernel
theorem dX8_there_13 : decode cX8_there 13 = .ok (.iload_n 1, 1) := by decide +kernel
theorem dX8_there_14 : decode cX8_there 14 = .ok (.invokevirtual 202, 3) := by decide +kernel
theorem dX8_there_17 : decode cX8_there 17 = .ok (.ifCond .ne 7, 3) := by decide +kernel
theorem dX8_there_20 : decode cX8_there 20 = .ok (.ldc2_w 212, 3) := by decide +kernel
theorem dX8_there_23 : decode cX8_there 23 = .ok (.lreturn, 1) := by decide +kernel
theorem dX8_there_24 : decode cX8_there 24 = .ok (.iload_n 2, 1) := by decide +kernel
theorem dX8_there_25 : decode cX8_there 25 = .ok (.ifCond .ne 13, 3) := by decide +kernel
theorem dX8_there_28 : decode cX8_there 28 = .ok (.aload_n 0, 1) := by decide +kernel
theorem dX8_there_29 : decode cX8_there 29 = .ok (.getfield 56, 3) := by decide +kernel
theorem dX8_there_32 : decode cX8_there 32 = .ok (.invokevirtual 214, 3) := by decide +kernel
theorem dX8_there_35 : decode cX8_there 35 = .ok (.goto 10, 3) := by decide +kernel
theorem dX8_there_38 : decode cX8_there 38 = .ok (.aload_n 0, 1) := by decide +kernel
theorem dX8_there_39 : decode cX8_there 39 = .ok (.getfield 56, 3) := by decide +kernel
theorem dX8_there_42 : decode cX8_there 42 = .ok (.invokevirtual 218, 3) := by decide +kernel
theorem dX8_there_45 : decode cX8_there 45 = .ok (.lreturn, 1) := by decide +kernel
theorem dX8_furthest_0 : decode cX8_furthest 0 = .ok (.iload_n 2, 1) := by decide +kernel
theorem dX8_furthest_1 : decode cX8_furthest 1 = .ok (.iconst 3, 1) := by decide +kernel
theorem dX8_furthest_2 : decode cX8_furthest 2 = .ok (.invokestatic 116, 3) := by decide +kernel
theorem dX8_furthest_5 : decode cX8_furthest 5 = .ok (.ifCond .eq 15, 3) := by decide +kernel
theorem dX8_furthest_8 : decode cX8_furthest 8 = .ok (.aload_n 0, 1) := by decide +kernel
theorem dX8_furthest_9 : decode cX8_furthest 9 = .ok (.aload_n 0, 1) := by decide +kernel
theorem dX8_furthest_10 : decode cX8_furthest 10 = .ok (.getfield 56, 3) := by decide +kernel
theorem dX8_furthest_13 : decode cX8_furthest 13 = .ok (.iload_n 1, 1) := by decide +kernel
theorem dX8_furthest_14 : decode cX8_furthest 14 = .ok (.invokevirtual 202, 3) := by decide +kernel
theorem dX8_furthest_17 : decode cX8_furthest 17 = .ok (.ifCond .ne 6, 3) := by decide +kernel
theorem dX8_furthest_20 : decode cX8_furthest 20 = .ok (.bipush (-2), 2) := by decide +kernel
theorem dX8_furthest_22 : decode cX8_furthest 22 = .ok (.ireturn, 1) := by decide +kernel
theorem dX8_furthest_23 : decode cX8_furthest 23 = .ok (.iload_n 2, 1) := by decide +kernel
theorem dX8_furthest_24 : decode cX8_furthest 24 = .ok (.iconst 2, 1) := by decide +kernel
theorem dX8_furthest_25 : decode cX8_furthest 25 = .ok (.if_icmp .ne 11, 3) := by decide +kernel
theorem dX8_furthest_28 : decode cX8_furthest 28 = .ok (.aload_n 0, 1) := by decide +kernel
theorem dX8_furthest_29 : decode cX8_furthest 29 = .ok (.getfield 56, 3) := by decide +kernel
theorem dX8_furthest_32 : decode cX8_furthest 32 = .ok (.invokevirtual 221, 3) := by decide +kernel
theorem dX8_furthest_35 : decode cX8_furthest 35 = .ok (.ireturn, 1) := by decide +kernel
theorem dX8_furthest_36 : decode cX8_furthest 36 = .ok (.aload_n 0, 1) := by decide +kernel
theorem dX8_furthest_37 : decode cX8_furthest 37 = .ok (.getfield 56, 3) := by decide +kernel
theorem dX8_furthest_40 : decode cX8_furthest 40 = .ok (.invokevirtual 224, 3) := by decide +kernel
theorem dX8_furthest_43 : decode cX8_furthest 43 = .ok (.istore_n 3, 1) := by decide +kernel
theorem dX8_furthest_44 : decode cX8_furthest 44 = .ok (.iload_n 2, 1) := by decide +kernel
theorem dX8_furthest_45 : decode cX8_furthest 45 = .ok (.ifCond .ne 7, 3) := by decide +kernel
theorem dX8_furthest_48 : decode cX8_furthest 48 = .ok (.iload_n 3, 1) := by decide +kernel
theorem dX8_furthest_49 : decode cX8_furthest 49 = .ok (.goto 11, 3) := by decide +kernel
theorem dX8_furthest_52 : decode cX8_furthest 52 = .ok (.aload_n 0, 1) := by decide +kernel
theorem dX8_furthest_53 : decode cX8_furthest 53 = .ok (.getfield 56, 3) := by decide +kernel
theorem dX8_furthest_56 : decode cX8_furthest 56 = .ok (.iload_n 3, 1) := by decide +kernel
theorem dX8_furthest_57 : decode cX8_furthest 57 = .ok (.invokevirtual 206, 3) := by decide +kernel
theorem dX8_furthest_60 : decode cX8_furthest 60 = .ok (.ireturn, 1) := by decide +kernel
theorem dX8_meet_0 : decode cX8_meet 0 = .ok (.iload_n 1, 1) := by decide +kernel
theorem dX8_meet_1 : decode cX8_meet 1 = .ok (.iload_n 2, 1) := by decide +kernel
theorem dX8_meet_2 : decode cX8_meet 2 = .ok (.if_icmp .eq 35, 3) := by decide +kernel
theorem dX8_meet_5 : decode cX8_meet 5 = .ok (.iload_n 3, 1) := by decide +kernel
theorem dX8_meet_6 : decode cX8_meet 6 = .ok (.iconst 2, 1) := by decide +kernel
theorem dX8_meet_7 : decode cX8_meet 7 = .ok (.invokestatic 116, 3) := by decide +kernel
theorem dX8_meet_10 : decode cX8_meet 10 = .ok (.ifCond .eq 27, 3) := by decide +kernel
theorem dX8_meet_13 : decode cX8_meet 13 = .ok (.aload_n 0, 1) := by decide +kernel
theorem dX8_meet_14 : decode cX8_meet 14 = .ok (.aload_n 0, 1) := by decide +kernel
theorem dX8_meet_15 : decode cX8_meet 15 = .ok (.getfield 56, 3) := by decide +kernel
theorem dX8_meet_18 : decode cX8_meet 18 = .ok (.iload_n 1, 1) := by decide +kernel
theorem dX8_meet_19 : decode cX8_meet 19 = .ok (.invokevirtual 202, 3) := by decide +kernel
theorem dX8_meet_22 : decode cX8_meet 22 = .ok (.ifCond .eq 15, 3) := by decide +kernel
theorem dX8_meet_25 : decode cX8_meet 25 = .ok (.aload_n 0, 1) := by decide +kernel
theorem dX8_meet_26 : decode cX8_meet 26 = .ok (.aload_n 0, 1) := by decide +kernel
theorem dX8_meet_27 : decode cX8_meet 27 = .ok (.getfield 60, 3) := by decide +kernel
theorem dX8_meet_30 : decode cX8_meet 30 = .ok (.iload_n 2, 1) := by decide +kernel
theorem dX8_meet_31 : decode cX8_meet 31 = .ok (.invokevirtual 202, 3) := by decide +kernel
theorem dX8_meet_34 : decode cX8_meet 34 = .ok (.ifCond .ne 6, 3) := by decide +kernel
theorem dX8_meet_37 : decode cX8_meet 37 = .ok (.bipush (-2), 2) := by decide +kernel
theorem dX8_meet_39 : decode cX8_meet 39 = .ok (.ireturn, 1) := by decide +kernel
theorem dX8_meet_40 : decode cX8_meet 40 = .ok (.aload_n 0, 1) := by decide +kernel
theorem dX8_meet_41 : decode cX8_meet 41 = .ok (.getfield 66, 3) := by decide +kernel
theorem dX8_meet_44 : decode cX8_meet 44 = .ok (.aload_n 0, 1) := by decide +kernel
theorem dX8_meet_45 : decode cX8_meet 45 = .ok (.getfield 56, 3) := by decide +kernel
theorem dX8_meet_48 : decode cX8_meet 48 = .ok (.aload_n 0, 1) := by decide +kernel
theorem dX8_meet_49 : decode cX8_meet 49 = .ok (.getfield 60, 3) := by decide +kernel
theorem dX8_meet_52 : decode cX8_meet 52 = .ok (.invokevirtual 227, 3) := by decide +kernel
theorem dX8_meet_55 : decode cX8_meet 55 = .ok (.iload_n 3, 1) := by decide +kernel
theorem dX8_meet_56 : decode cX8_meet 56 = .ok (.ifCond .ne 13, 3) := by decide +kernel
theorem dX8_meet_59 : decode cX8_meet 59 = .ok (.aload_n 0, 1) := by decide +kernel
theorem dX8_meet_60 : decode cX8_meet 60 = .ok (.getfield 66, 3) := by decide +kernel
theorem dX8_meet_63 : decode cX8_meet 63 = .ok (.getfield 231, 3) := by decide +kernel
theorem dX8_meet_66 : decode cX8_meet 66 = .ok (.goto 10, 3) := by decide +kernel
theorem dX8_meet_69 : decode cX8_meet 69 = .ok (.aload_n 0, 1) := by decide +kernel
theorem dX8_meet_70 : decode cX8_meet 70 = .ok (.getfield 66, 3) := by decide +kernel
theorem dX8_meet_73 : decode cX8_meet 73 = .ok (.getfield 234, 3) := by decide +kernel
theorem dX8_meet_76 : decode cX8_meet 76 = .ok (.ireturn, 1) := by decide +kernel
theorem dX8_rows_0 : decode cX8_rows 0 = .ok (.iload_n 2, 1) := by decide +kernel
theorem dX8_rows_1 : decode cX8_rows 1 = .ok (.bipush 36, 2) := by decide +kernel
theorem dX8_rows_3 : decode cX8_rows 3 = .ok (.invokestatic 116, 3) := by decide +kernel
theorem dX8_rows_6 : decode cX8_rows 6 = .ok (.ifCond .eq 24, 3) := by decide +kernel
theorem dX8_rows_9 : decode cX8_rows 9 = .ok (.iload_n 3, 1) := by decide +kernel
theorem dX8_rows_10 : decode cX8_rows 10 = .ok (.bipush 21, 2) := by decide +kernel
theorem dX8_rows_12 : decode cX8_rows 12 = .ok (.invokestatic 116, 3) := by decide +kernel
theorem dX8_rows_15 : decode cX8_rows 15 = .ok (.ifCond .eq 15, 3) := by decide +kernel
theorem dX8_rows_18 : decode cX8_rows 18 = .ok (.aload_n 0, 1) := by decide +kernel
theorem dX8_rows_19 : decode cX8_rows 19 = .ok (.aload_n 0, 1) := by decide +kernel
theorem dX8_rows_20 : decode cX8_rows 20 = .ok (.getfield 56, 3) := by decide +kernel
theorem dX8_rows_23 : decode cX8_rows 23 = .ok (.iload_n 1, 1) := by decide +kernel
theorem dX8_rows_24 : decode cX8_rows 24 = .ok (.invokevirtual 202, 3) := by decide +kernel
theorem dX8_rows_27 : decode cX8_rows 27 = .ok (.ifCond .ne 7, 3) := by decide +kernel
theorem dX8_rows_30 : decode cX8_rows 30 = .ok (.ldc2_w 212, 3) := by decide +kernel
theorem dX8_rows_33 : decode cX8_rows 33 = .ok (.lreturn, 1) := by decide +kernel
theorem dX8_rows_34 : decode cX8_rows 34 = .ok (.aload_n 0, 1) := by decide +kernel
theorem dX8_rows_35 : decode cX8_rows 35 = .ok (.getfield 56, 3) := by decide +kernel
theorem dX8_rows_38 : decode cX8_rows 38 = .ok (.invokevirtual 235, 3) := by decide +kernel
theorem dX8_rows_41 : decode cX8_rows 41 = .ok (.istore 4, 2) := by decide +kernel
theorem dX8_rows_43 : decode cX8_rows 43 = .ok (.aload_n 0, 1) := by decide +kernel
theorem dX8_rows_44 : decode cX8_rows 44 = .ok (.getfield 70, 3) := by decide +kernel
theorem dX8_rows_47 : decode cX8_rows 47 = .ok (.lconst 0, 1) := by decide +kernel
theorem dX8_rows_48 : decode cX8_rows 48 = .ok (.invokestatic 238, 3) := by decide +kernel
theorem dX8_rows_51 : decode cX8_rows 51 = .ok (.iload 4, 2) := by decide +kernel
theorem dX8_rows_53 : decode cX8_rows 53 = .ok (.aload_n 0, 1) := by decide +kernel
theorem dX8_rows_54 : decode cX8_rows 54 = .ok (.getfield 70, 3) := by decide +kernel
theorem dX8_rows_57 : decode cX8_rows 57 = .ok (.arraylength, 1) := by decide +kernel
theorem dX8_rows_58 : decode cX8_rows 58 = .ok (.invokestatic 116, 3) := by decide +kernel
theorem dX8_rows_61 : decode cX8_rows 61 = .ok (.ifCond .eq 11, 3) := by decide +kernel
theorem dX8_rows_64 : decode cX8_rows 64 = .ok (.aload_n 0, 1) := by decide +kernel
theorem dX8_rows_65 : decode cX8_rows 65 = .ok (.getfield 70, 3) := by decide +kernel
theorem dX8_rows_68 : decode cX8_rows 68 = .ok (.iload 4, 2) := by decide +kernel
theorem dX8_rows_70 : decode cX8_rows 70 = .ok (.lconst 1, 1) := by decide +kernel
theorem dX8_rows_71 : decode cX8_rows 71 = .ok (.lastore, 1) := by decide +kernel
theorem dX8_rows_72 : decode cX8_rows 72 = .ok (.iconst 0, 1) := by decide +kernel
theorem dX8_rows_73 : decode cX8_rows 73 = .ok (.istore 5, 2) := by decide +kernel
theorem dX8_rows_75 : decode cX8_rows 75 = .ok (.iload 5, 2) := by decide +kernel
theorem dX8_rows_77 : decode cX8_rows 77 = .ok (.iload_n 3, 1) := by decide +kernel
theorem dX8_rows_78 : decode cX8_rows 78 = .ok (.if_icmp .ge 52, 3) := by decide +kernel
theorem dX8_rows_81 : decode cX8_rows 81 = .ok (.aload_n 0, 1) := by decide +kernel
theorem dX8_rows_82 : decode cX8_rows 82 = .ok (.getfield 74, 3) := by decide +kernel
theorem dX8_rows_85 : decode cX8_rows 85 = .ok (.lconst 0, 1) := by decide +kernel
theorem dX8_rows_86 : decode cX8_rows 86 = .ok (.invokestatic 238, 3) := by decide +kernel
theorem dX8_rows_89 : decode cX8_rows 89 = .ok (.aload_n 0, 1) := by decide +kernel
theorem dX8_rows_90 : decode cX8_rows 90 = .ok (.getfield 56, 3) := by decide +kernel
theorem dX8_rows_93 : decode cX8_rows 93 = .ok (.aload_n 0, 1) := by decide +kernel
theorem dX8_rows_94 : decode cX8_rows 94 = .ok (.getfield 70, 3) := by decide +kernel
theorem dX8_rows_97 : decode cX8_rows 97 = .ok (.aload_n 0, 1) := by decide +kernel
theorem dX8_rows_98 : decode cX8_rows 98 = .ok (.getfield 74, 3) := by decide +kernel
theorem dX8_rows_101 : decode cX8_rows 101 = .ok (.invokevirtual 244, 3) := by decide +kernel
theorem dX8_rows_104 : decode cX8_rows 104 = .ok (.aload_n 0, 1) := by decide +kernel
theorem dX8_rows_105 : decode cX8_rows 105 = .ok (.getfield 70, 3) := by decide +kernel
theorem dX8_rows_108 : decode cX8_rows 108 = .ok (.astore 6, 2) := by decide +kernel
theorem dX8_rows_110 : decode cX8_rows 110 = .ok (.aload_n 0, 1) := by decide +kernel
theorem dX8_rows_111 : decode cX8_rows 111 = .ok (.aload_n 0, 1) := by decide +kernel
theorem dX8_rows_112 : decode cX8_rows 112 = .ok (.getfield 74, 3) := by decide +kernel
theorem dX8_rows_115 : decode cX8_rows 115 = .ok (.putfield 70, 3) := by decide +kernel
theorem dX8_rows_118 : decode cX8_rows 118 = .ok (.aload_n 0, 1) := by decide +kernel
theorem dX8_rows_119 : decode cX8_rows 119 = .ok (.aload 6, 2) := by decide +kernel
theorem dX8_rows_121 : decode cX8_rows 121 = .ok (.putfield 74, 3) := by decide +kernel
theorem dX8_rows_124 : decode cX8_rows 124 = .ok (.iinc 5 1, 3) := by decide +kernel
theorem dX8_rows_127 : decode cX8_rows 127 = .ok (.goto (-52), 3) := by decide +kernel
theorem dX8_rows_130 : decode cX8_rows 130 = .ok (.aload_n 0, 1) := by decide +kernel
theorem dX8_rows_131 : decode cX8_rows 131 = .ok (.getfield 70, 3) := by decide +kernel
theorem dX8_rows_134 : decode cX8_rows 134 = .ok (.iload_n 2, 1) := by decide +kernel
theorem dX8_rows_135 : decode cX8_rows 135 = .ok (.laload, 1) := by decide +kernel
theorem dX8_rows_136 : decode cX8_rows 136 = .ok (.lreturn, 1) := by decide +kernel
theorem dX8_highest_0 : decode cX8_highest 0 = .ok (.iload_n 1, 1) := by decide +kernel
theorem dX8_highest_1 : decode cX8_highest 1 = .ok (.iconst 2, 1) := by decide +kernel
theorem dX8_highest_2 : decode cX8_highest 2 = .ok (.invokestatic 116, 3) := by decide +kernel
theorem dX8_highest_5 : decode cX8_highest 5 = .ok (.ifCond .ne 6, 3) := by decide +kernel
theorem dX8_highest_8 : decode cX8_highest 8 = .ok (.bipush (-2), 2) := by decide +kernel
theorem dX8_highest_10 : decode cX8_highest 10 = .ok (.ireturn, 1) := by decide +kernel
theorem dX8_highest_11 : decode cX8_highest 11 = .ok (.iconst (-1), 1) := by decide +kernel
theorem dX8_highest_12 : decode cX8_highest 12 = .ok (.istore_n 2, 1) := by decide +kernel
theorem dX8_highest_13 : decode cX8_highest 13 = .ok (.iconst (-1), 1) := by decide +kernel
theorem dX8_highest_14 : decode cX8_highest 14 = .ok (.istore_n 3, 1) := by decide +kernel
theorem dX8_highest_15 : decode cX8_highest 15 = .ok (.iconst 0, 1) := by decide +kernel
theorem dX8_highest_16 : decode cX8_highest 16 = .ok (.istore 4, 2) := by decide +kernel
theorem dX8_highest_18 : decode cX8_highest 18 = .ok (.iload 4, 2) := by decide +kernel
theorem dX8_highest_20 : decode cX8_highest 20 = .ok (.aload_n 0, 1) := by decide +kernel
theorem dX8_highest_21 : decode cX8_highest 21 = .ok (.getfield 12, 3) := by decide +kernel
theorem dX8_highest_24 : decode cX8_highest 24 = .ok (.getfield 248, 3) := by decide +kernel
theorem dX8_highest_27 : decode cX8_highest 27 = .ok (.if_icmp .ge 29, 3) := by decide +kernel
theorem dX8_highest_30 : decode cX8_highest 30 = .ok (.aload_n 0, 1) := by decide +kernel
theorem dX8_highest_31 : decode cX8_highest 31 = .ok (.iload 4, 2) := by decide +kernel
theorem dX8_highest_33 : decode cX8_highest 33 = .ok (.invokevirtual 150, 3) := by decide +kernel
theorem dX8_highest_36 : decode cX8_highest 36 = .ok (.istore 5, 2) := by decide +kernel
theorem dX8_highest_38 : decode cX8_highest 38 = .ok (.iload 5, 2) := by decide +kernel
theorem dX8_highest_40 : decode cX8_highest 40 = .ok (.iload_n 3, 1) := by decide +kernel
theorem dX8_highest_41 : decode cX8_highest 41 = .ok (.if_icmp .le 9, 3) := by decide +kernel
theorem dX8_highest_44 : decode cX8_highest 44 = .ok (.iload 4, 2) := by decide +kernel
theorem dX8_highest_46 : decode cX8_highest 46 = .ok (.istore_n 2, 1) := by decide +kernel
theorem dX8_highest_47 : decode cX8_highest 47 = .ok (.iload 5, 2) := by decide +kernel
theorem dX8_highest_49 : decode cX8_highest 49 = .ok (.istore_n 3, 1) := by decide +kernel
theorem dX8_highest_50 : decode cX8_highest 50 = .ok (.iinc 4 1, 3) := by decide +kernel
theorem dX8_highest_53 : decode cX8_highest 53 = .ok (.goto (-35), 3) := by decide +kernel
theorem dX8_highest_56 : decode cX8_highest 56 = .ok (.iload_n 1, 1) := by decide +kernel
theorem dX8_highest_57 : decode cX8_highest 57 = .ok (.ifCond .ne 7, 3) := by decide +kernel
theorem dX8_highest_60 : decode cX8_highest 60 = .ok (.iload_n 2, 1) := by decide +kernel
theorem dX8_highest_61 : decode cX8_highest 61 = .ok (.goto 4, 3) := by decide +kernel
theorem dX8_highest_64 : decode cX8_highest 64 = .ok (.iload_n 3, 1) := by decide +kernel
theorem dX8_highest_65 : decode cX8_highest 65 = .ok (.ireturn, 1) := by decide +kernel
theorem dX8_explore_0 : decode cX8_explore 0 = .ok (.aload_n 0, 1) := by decide +kernel
theorem dX8_explore_1 : decode cX8_explore 1 = .ok (.getfield 12, 3) := by decide +kernel
theorem dX8_explore_4 : decode cX8_explore 4 = .ok (.iload_n 2, 1) := by decide +kernel
theorem dX8_explore_5 : decode cX8_explore 5 = .ok (.invokevirtual 130, 3) := by decide +kernel
theorem dX8_explore_8 : decode cX8_explore 8 = .ok (.astore_n 3, 1) := by decide +kernel
theorem dX8_explore_9 : decode cX8_explore 9 = .ok (.aload_n 3, 1) := by decide +kernel
theorem dX8_explore_10 : decode cX8_explore 10 = .ok (.ifnonnull 5, 3) := by decide +kernel
theorem dX8_explore_13 : decode cX8_explore 13 = .ok (.iconst 0, 1) := by decide +kernel
theorem dX8_explore_14 : decode cX8_explore 14 = .ok (.ireturn, 1) := by decide +kernel
theorem dX8_explore_15 : decode cX8_explore 15 = .ok (.aload_n 0, 1) := by decide +kernel
theorem dX8_explore_16 : decode cX8_explore 16 = .ok (.aload_n 3, 1) := by decide +kernel
theorem dX8_explore_17 : decode cX8_explore 17 = .ok (.invokevirtual 153, 3) := by decide +kernel
theorem dX8_explore_20 : decode cX8_explore 20 = .ok (.aload_n 1, 1) := by decide +kernel
theorem dX8_explore_21 : decode cX8_explore 21 = .ok (.aload_n 0, 1) := by decide +kernel
theorem dX8_explore_22 : decode cX8_explore 22 = .ok (.getfield 49, 3) := by decide +kernel
theorem dX8_explore_25 : decode cX8_explore 25 = .ok (.aload_n 3, 1) := by decide +kernel
theorem dX8_explore_26 : decode cX8_explore 26 = .ok (.getfield 157, 3) := by decide +kernel
theorem dX8_explore_29 : decode cX8_explore 29 = .ok (.invokevirtual 251, 3) := by decide +kernel
theorem dX8_explore_32 : decode cX8_explore 32 = .ok (.iconst 1, 1) := by decide +kernel
theorem dX8_explore_33 : decode cX8_explore 33 = .ok (.ireturn, 1) := by decide +kernel
theorem dX8_tells_0 : decode cX8_tells 0 = .ok (.aload_n 0, 1) := by decide +kernel
theorem dX8_tells_1 : decode cX8_tells 1 = .ok (.iload_n 1, 1) := by decide +kernel
theorem dX8_tells_2 : decode cX8_tells 2 = .ok (.iload_n 2, 1) := by decide +kernel
theorem dX8_tells_3 : decode cX8_tells 3 = .ok (.iload_n 3, 1) := by decide +kernel
theorem dX8_tells_4 : decode cX8_tells 4 = .ok (.bipush 6, 2) := by decide +kernel
theorem dX8_tells_6 : decode cX8_tells 6 = .ok (.invokestatic 116, 3) := by decide +kernel
theorem dX8_tells_9 : decode cX8_tells 9 = .ok (.bipush 20, 2) := by decide +kernel
theorem dX8_tells_11 : decode cX8_tells 11 = .ok (.bipush 36, 2) := by decide +kernel
theorem dX8_tells_13 : decode cX8_tells 13 = .ok (.invokevirtual 188, 3) := by decide +kernel
theorem dX8_tells_16 : decode cX8_tells 16 = .ok (.istore 4, 2) := by decide +kernel
theorem dX8_tells_18 : decode cX8_tells 18 = .ok (.aload_n 0, 1) := by decide +kernel
theorem dX8_tells_19 : decode cX8_tells 19 = .ok (.iload_n 1, 1) := by decide +kernel
theorem dX8_tells_20 : decode cX8_tells 20 = .ok (.invokevirtual 192, 3) := by decide +kernel
theorem dX8_tells_23 : decode cX8_tells 23 = .ok (.astore 5, 2) := by decide +kernel
theorem dX8_tells_25 : decode cX8_tells 25 = .ok (.aload_n 0, 1) := by decide +kernel
theorem dX8_tells_26 : decode cX8_tells 26 = .ok (.getfield 12, 3) := by decide +kernel
theorem dX8_tells_29 : decode cX8_tells 29 = .ok (.iload_n 2, 1) := by decide +kernel
theorem dX8_tells_30 : decode cX8_tells 30 = .ok (.invokevirtual 130, 3) := by decide +kernel
theorem dX8_tells_33 : decode cX8_tells 33 = .ok (.astore 6, 2) := by decide +kernel
theorem dX8_tells_35 : decode cX8_tells 35 = .ok (.iload 4, 2) := by decide +kernel
theorem dX8_tells_37 : decode cX8_tells 37 = .ok (.ifCond .ne 13, 3) := by decide +kernel
theorem dX8_tells_40 : decode cX8_tells 40 = .ok (.aload 5, 2) := by decide +kernel
theorem dX8_tells_42 : decode cX8_tells 42 = .ok (.ifnull 8, 3) := by decide +kernel
theorem dX8_tells_45 : decode cX8_tells 45 = .ok (.aload 6, 2) := by decide +kernel
theorem dX8_tells_47 : decode cX8_tells 47 = .ok (.ifnonnull 6, 3) := by decide +kernel
theorem dX8_tells_50 : decode cX8_tells 50 = .ok (.iload 4, 2) := by decide +kernel
theorem dX8_tells_52 : decode cX8_tells 52 = .ok (.ireturn, 1) := by decide +kernel
theorem dX8_tells_53 : decode cX8_tells 53 = .ok (.aload_n 0, 1) := by decide +kernel
theorem dX8_tells_54 : decode cX8_tells 54 = .ok (.aload 6, 2) := by decide +kernel
theorem dX8_tells_56 : decode cX8_tells 56 = .ok (.invokevirtual 153, 3) := by decide +kernel
theorem dX8_tells_59 : decode cX8_tells 59 = .ok (.iload_n 3, 1) := by decide +kernel
theorem dX8_tells_60 : decode cX8_tells 60 = .ok (.tableswitch 96 0 4 #[36, 48, 60, 72, 84], 36) := by decide +kernel
theorem dX8_tells_96 : decode cX8_tells 96 = .ok (.aload_n 0, 1) := by decide +kernel
theorem dX8_tells_97 : decode cX8_tells 97 = .ok (.aload 5, 2) := by decide +kernel
theorem dX8_tells_99 : decode cX8_tells 99 = .ok (.aload 6, 2) := by decide +kernel
theorem dX8_tells_101 : decode cX8_tells 101 = .ok (.getfield 157, 3) := by decide +kernel
theorem dX8_tells_104 : decode cX8_tells 104 = .ok (.invokevirtual 254, 3) := by decide +kernel
theorem dX8_tells_107 : decode cX8_tells 107 = .ok (.ireturn, 1) := by decide +kernel
theorem dX8_tells_108 : decode cX8_tells 108 = .ok (.aload_n 0, 1) := by decide +kernel
theorem dX8_tells_109 : decode cX8_tells 109 = .ok (.aload 5, 2) := by decide +kernel
theorem dX8_tells_111 : decode cX8_tells 111 = .ok (.aload 6, 2) := by decide +kernel
theorem dX8_tells_113 : decode cX8_tells 113 = .ok (.getfield 157, 3) := by decide +kernel
theorem dX8_tells_116 : decode cX8_tells 116 = .ok (.invokevirtual 258, 3) := by decide +kernel
theorem dX8_tells_119 : decode cX8_tells 119 = .ok (.ireturn, 1) := by decide +kernel
theorem dX8_tells_120 : decode cX8_tells 120 = .ok (.aload_n 0, 1) := by decide +kernel
theorem dX8_tells_121 : decode cX8_tells 121 = .ok (.aload 5, 2) := by decide +kernel
theorem dX8_tells_123 : decode cX8_tells 123 = .ok (.aload 6, 2) := by decide +kernel
theorem dX8_tells_125 : decode cX8_tells 125 = .ok (.getfield 157, 3) := by decide +kernel
theorem dX8_tells_128 : decode cX8_tells 128 = .ok (.invokevirtual 261, 3) := by decide +kernel
theorem dX8_tells_131 : decode cX8_tells 131 = .ok (.ireturn, 1) := by decide +kernel
theorem dX8_tells_132 : decode cX8_tells 132 = .ok (.aload_n 0, 1) := by decide +kernel
theorem dX8_tells_133 : decode cX8_tells 133 = .ok (.aload 5, 2) := by decide +kernel
theorem dX8_tells_135 : decode cX8_tells 135 = .ok (.aload 6, 2) := by decide +kernel
theorem dX8_tells_137 : decode cX8_tells 137 = .ok (.getfield 157, 3) := by decide +kernel
theorem dX8_tells_140 : decode cX8_tells 140 = .ok (.invokevirtual 264, 3) := by decide +kernel
theorem dX8_tells_143 : decode cX8_tells 143 = .ok (.ireturn, 1) := by decide +kernel
theorem dX8_tells_144 : decode cX8_tells 144 = .ok (.aload_n 0, 1) := by decide +kernel
theorem dX8_tells_145 : decode cX8_tells 145 = .ok (.aload 5, 2) := by decide +kernel
theorem dX8_tells_147 : decode cX8_tells 147 = .ok (.aload 6, 2) := by decide +kernel
theorem dX8_tells_149 : decode cX8_tells 149 = .ok (.getfield 157, 3) := by decide +kernel
theorem dX8_tells_152 : decode cX8_tells 152 = .ok (.invokevirtual 267, 3) := by decide +kernel
theorem dX8_tells_155 : decode cX8_tells 155 = .ok (.ireturn, 1) := by decide +kernel
theorem dX8_tells_156 : decode cX8_tells 156 = .ok (.aload_n 0, 1) := by decide +kernel
theorem dX8_tells_157 : decode cX8_tells 157 = .ok (.aload 5, 2) := by decide +kernel
theorem dX8_tells_159 : decode cX8_tells 159 = .ok (.aload 6, 2) := by decide +kernel
theorem dX8_tells_161 : decode cX8_tells 161 = .ok (.getfield 157, 3) := by decide +kernel
theorem dX8_tells_164 : decode cX8_tells 164 = .ok (.invokevirtual 270, 3) := by decide +kernel
theorem dX8_tells_167 : decode cX8_tells 167 = .ok (.ireturn, 1) := by decide +kernel
theorem dX8_ways_0 : decode cX8_ways 0 = .ok (.aload_n 0, 1) := by decide +kernel
theorem dX8_ways_1 : decode cX8_ways 1 = .ok (.iload_n 1, 1) := by decide +kernel
theorem dX8_ways_2 : decode cX8_ways 2 = .ok (.iload_n 2, 1) := by decide +kernel
theorem dX8_ways_3 : decode cX8_ways 3 = .ok (.iload_n 3, 1) := by decide +kernel
theorem dX8_ways_4 : decode cX8_ways 4 = .ok (.iconst 2, 1) := by decide +kernel
theorem dX8_ways_5 : decode cX8_ways 5 = .ok (.invokestatic 116, 3) := by decide +kernel
theorem dX8_ways_8 : decode cX8_ways 8 = .ok (.bipush 20, 2) := by decide +kernel
theorem dX8_ways_10 : decode cX8_ways 10 = .ok (.bipush 36, 2) := by decide +kernel
theorem dX8_ways_12 : decode cX8_ways 12 = .ok (.invokevirtual 188, 3) := by decide +kernel
theorem dX8_ways_15 : decode cX8_ways 15 = .ok (.istore 4, 2) := by decide +kernel
theorem dX8_ways_17 : decode cX8_ways 17 = .ok (.aload_n 0, 1) := by decide +kernel
theorem dX8_ways_18 : decode cX8_ways 18 = .ok (.iload_n 1, 1) := by decide +kernel
theorem dX8_ways_19 : decode cX8_ways 19 = .ok (.invokevirtual 192, 3) := by decide +kernel
theorem dX8_ways_22 : decode cX8_ways 22 = .ok (.astore 5, 2) := by decide +kernel
theorem dX8_ways_24 : decode cX8_ways 24 = .ok (.aload_n 0, 1) := by decide +kernel
theorem dX8_ways_25 : decode cX8_ways 25 = .ok (.getfield 12, 3) := by decide +kernel
theorem dX8_ways_28 : decode cX8_ways 28 = .ok (.iload_n 2, 1) := by decide +kernel
theorem dX8_ways_29 : decode cX8_ways 29 = .ok (.invokevirtual 130, 3) := by decide +kernel
theorem dX8_ways_32 : decode cX8_ways 32 = .ok (.astore 6, 2) := by decide +kernel
theorem dX8_ways_34 : decode cX8_ways 34 = .ok (.iload 4, 2) := by decide +kernel
theorem dX8_ways_36 : decode cX8_ways 36 = .ok (.ifCond .ne 13, 3) := by decide +kernel
theorem dX8_ways_39 : decode cX8_ways 39 = .ok (.aload 5, 2) := by decide +kernel
theorem dX8_ways_41 : decode cX8_ways 41 = .ok (.ifnull 8, 3) := by decide +kernel
theorem dX8_ways_44 : decode cX8_ways 44 = .ok (.aload 6, 2) := by decide +kernel
theorem dX8_ways_46 : decode cX8_ways 46 = .ok (.ifnonnull 7, 3) := by decide +kernel
theorem dX8_ways_49 : decode cX8_ways 49 = .ok (.ldc2_w 212, 3) := by decide +kernel
theorem dX8_ways_52 : decode cX8_ways 52 = .ok (.lreturn, 1) := by decide +kernel
theorem dX8_ways_53 : decode cX8_ways 53 = .ok (.aload_n 0, 1) := by decide +kernel
theorem dX8_ways_54 : decode cX8_ways 54 = .ok (.aload 6, 2) := by decide +kernel
theorem dX8_ways_56 : decode cX8_ways 56 = .ok (.invokevirtual 153, 3) := by decide +kernel
theorem dX8_ways_59 : decode cX8_ways 59 = .ok (.iload_n 3, 1) := by decide +kernel
theorem dX8_ways_60 : decode cX8_ways 60 = .ok (.ifCond .ne 17, 3) := by decide +kernel
theorem dX8_ways_63 : decode cX8_ways 63 = .ok (.aload_n 0, 1) := by decide +kernel
theorem dX8_ways_64 : decode cX8_ways 64 = .ok (.aload 5, 2) := by decide +kernel
theorem dX8_ways_66 : decode cX8_ways 66 = .ok (.aload 6, 2) := by decide +kernel
theorem dX8_ways_68 : decode cX8_ways 68 = .ok (.getfield 157, 3) := by decide +kernel
theorem dX8_ways_71 : decode cX8_ways 71 = .ok (.invokevirtual 273, 3) := by decide +kernel
theorem dX8_ways_74 : decode cX8_ways 74 = .ok (.goto 9, 3) := by decide +kernel
theorem dX8_ways_77 : decode cX8_ways 77 = .ok (.aload_n 0, 1) := by decide +kernel
theorem dX8_ways_78 : decode cX8_ways 78 = .ok (.aload 5, 2) := by decide +kernel
theorem dX8_ways_80 : decode cX8_ways 80 = .ok (.invokevirtual 277, 3) := by decide +kernel
theorem dX8_ways_83 : decode cX8_ways 83 = .ok (.lreturn, 1) := by decide +kernel
theorem dX8_refusalOfTold_0 : decode cX8_refusalOfTold 0 = .ok (.aload_n 0, 1) := by decide +kernel
theorem dX8_refusalOfTold_1 : decode cX8_refusalOfTold 1 = .ok (.iload_n 1, 1) := by decide +kernel
theorem dX8_refusalOfTold_2 : decode cX8_refusalOfTold 2 = .ok (.invokevirtual 192, 3) := by decide +kernel
theorem dX8_refusalOfTold_5 : decode cX8_refusalOfTold 5 = .ok (.astore 6, 2) := by decide +kernel
theorem dX8_refusalOfTold_7 : decode cX8_refusalOfTold 7 = .ok (.aload 6, 2) := by decide +kernel
theorem dX8_refusalOfTold_9 : decode cX8_refusalOfTold 9 = .ok (.ifnull 18, 3) := by decide +kernel
theorem dX8_refusalOfTold_12 : decode cX8_refusalOfTold 12 = .ok (.aload_n 0, 1) := by decide +kernel
theorem dX8_refusalOfTold_13 : decode cX8_refusalOfTold 13 = .ok (.getfield 12, 3) := by decide +kernel
theorem dX8_refusalOfTold_16 : decode cX8_refusalOfTold 16 = .ok (.iload_n 2, 1) := by decide +kernel
theorem dX8_refusalOfTold_17 : decode cX8_refusalOfTold 17 = .ok (.invokevirtual 130, 3) := by decide +kernel
theorem dX8_refusalOfTold_20 : decode cX8_refusalOfTold 20 = .ok (.ifnull 7, 3) := by decide +kernel
theorem dX8_refusalOfTold_23 : decode cX8_refusalOfTold 23 = .ok (.iload_n 3, 1) := by decide +kernel
theorem dX8_refusalOfTold_24 : decode cX8_refusalOfTold 24 = .ok (.ifCond .ne 6, 3) := by decide +kernel
theorem dX8_refusalOfTold_27 : decode cX8_refusalOfTold 27 = .ok (.bipush (-2), 2) := by decide +kernel
theorem dX8_refusalOfTold_29 : decode cX8_refusalOfTold 29 = .ok (.ireturn, 1) := by decide +kernel
theorem dX8_refusalOfTold_30 : decode cX8_refusalOfTold 30 = .ok (.aload 6, 2) := by decide +kernel
theorem dX8_refusalOfTold_32 : decode cX8_refusalOfTold 32 = .ok (.invokevirtual 281, 3) := by decide +kernel
theorem dX8_refusalOfTold_35 : decode cX8_refusalOfTold 35 = .ok (.ifCond .eq 6, 3) := by decide +kernel
theorem dX8_refusalOfTold_38 : decode cX8_refusalOfTold 38 = .ok (.bipush (-11), 2) := by decide +kernel
theorem dX8_refusalOfTold_40 : decode cX8_refusalOfTold 40 = .ok (.ireturn, 1) := by decide +kernel
theorem dX8_refusalOfTold_41 : decode cX8_refusalOfTold 41 = .ok (.aload 6, 2) := by decide +kernel
theorem dX8_refusalOfTold_43 : decode cX8_refusalOfTold 43 = .ok (.getfield 196, 3) := by decide +kernel
theorem dX8_refusalOfTold_46 : decode cX8_refusalOfTold 46 = .ok (.iload 4, 2) := by decide +kernel
theorem dX8_refusalOfTold_48 : decode cX8_refusalOfTold 48 = .ok (.if_icmp .gt 17, 3) := by decide +kernel
theorem dX8_refusalOfTold_51 : decode cX8_refusalOfTold 51 = .ok (.aload 6, 2) := by decide +kernel
theorem dX8_refusalOfTold_53 : decode cX8_refusalOfTold 53 = .ok (.iload 5, 2) := by decide +kernel
theorem dX8_refusalOfTold_55 : decode cX8_refusalOfTold 55 = .ok (.invokevirtual 284, 3) := by decide +kernel
theorem dX8_refusalOfTold_58 : decode cX8_refusalOfTold 58 = .ok (.ifCond .eq 7, 3) := by decide +kernel
theorem dX8_refusalOfTold_61 : decode cX8_refusalOfTold 61 = .ok (.iconst 0, 1) := by decide +kernel
theorem dX8_refusalOfTold_62 : decode cX8_refusalOfTold 62 = .ok (.goto 5, 3) := by decide +kernel
theorem dX8_refusalOfTold_65 : decode cX8_refusalOfTold 65 = .ok (.bipush (-2), 2) := by decide +kernel
theorem dX8_refusalOfTold_67 : decode cX8_refusalOfTold 67 = .ok (.ireturn, 1) := by decide +kernel
theorem dX8_cellAhead_0 : decode cX8_cellAhead 0 = .ok (.iload_n 1, 1) := by decide +kernel
theorem dX8_cellAhead_1 : decode cX8_cellAhead 1 = .ok (.ifCond .ne 7, 3) := by decide +kernel
theorem dX8_cellAhead_4 : decode cX8_cellAhead 4 = .ok (.iload_n 2, 1) := by decide +kernel
theorem dX8_cellAhead_5 : decode cX8_cellAhead 5 = .ok (.goto 10, 3) := by decide +kernel
theorem dX8_cellAhead_8 : decode cX8_cellAhead 8 = .ok (.aload_n 0, 1) := by decide +kernel
theorem dX8_cellAhead_9 : decode cX8_cellAhead 9 = .ok (.iload_n 1, 1) := by decide +kernel
theorem dX8_cellAhead_10 : decode cX8_cellAhead 10 = .ok (.iconst 1, 1) := by decide +kernel
theorem dX8_cellAhead_11 : decode cX8_cellAhead 11 = .ok (.isub, 1) := by decide +kernel
theorem dX8_cellAhead_12 : decode cX8_cellAhead 12 = .ok (.invokevirtual 199, 3) := by decide +kernel
theorem dX8_cellAhead_15 : decode cX8_cellAhead 15 = .ok (.ireturn, 1) := by decide +kernel
theorem dX8_firstThatCannotBe_0 : decode cX8_firstThatCannotBe 0 = .ok (.iconst 0, 1) := by decide +kernel
theorem dX8_firstThatCannotBe_1 : decode cX8_firstThatCannotBe 1 = .ok (.istore_n 3, 1) := by decide +kernel
theorem dX8_firstThatCannotBe_2 : decode cX8_firstThatCannotBe 2 = .ok (.iload_n 3, 1) := by decide +kernel
theorem dX8_firstThatCannotBe_3 : decode cX8_firstThatCannotBe 3 = .ok (.aload_n 1, 1) := by decide +kernel
theorem dX8_firstThatCannotBe_4 : decode cX8_firstThatCannotBe 4 = .ok (.getfield 196, 3) := by decide +kernel
theorem dX8_firstThatCannotBe_7 : decode cX8_firstThatCannotBe 7 = .ok (.if_icmp .ge 33, 3) := by decide +kernel
theorem dX8_firstThatCannotBe_10 : decode cX8_firstThatCannotBe 10 = .ok (.aload_n 0, 1) := by decide +kernel
theorem dX8_firstThatCannotBe_11 : decode cX8_firstThatCannotBe 11 = .ok (.getfield 49, 3) := by decide +kernel
theorem dX8_firstThatCannotBe_14 : decode cX8_firstThatCannotBe 14 = .ok (.aload_n 1, 1) := by decide +kernel
theorem dX8_firstThatCannotBe_15 : decode cX8_firstThatCannotBe 15 = .ok (.iload_n 3, 1) := by decide +kernel
theorem dX8_firstThatCannotBe_16 : decode cX8_firstThatCannotBe 16 = .ok (.iload_n 2, 1) := by decide +kernel
theorem dX8_firstThatCannotBe_17 : decode cX8_firstThatCannotBe 17 = .ok (.invokestatic 288, 3) := by decide +kernel
theorem dX8_firstThatCannotBe_20 : decode cX8_firstThatCannotBe 20 = .ok (.aload_n 1, 1) := by decide +kernel
theorem dX8_firstThatCannotBe_21 : decode cX8_firstThatCannotBe 21 = .ok (.iload_n 3, 1) := by decide +kernel
theorem dX8_firstThatCannotBe_22 : decode cX8_firstThatCannotBe 22 = .ok (.invokevirtual 199, 3) := by decide +kernel
theorem dX8_firstThatCannotBe_25 : decode cX8_firstThatCannotBe 25 = .ok (.invokevirtual 292, 3) := by decide +kernel
theorem dX8_firstThatCannotBe_28 : decode cX8_firstThatCannotBe 28 = .ok (.iconst (-1), 1) := by decide +kernel
theorem dX8_firstThatCannotBe_29 : decode cX8_firstThatCannotBe 29 = .ok (.if_icmp .ne 5, 3) := by decide +kernel
theorem dX8_firstThatCannotBe_32 : decode cX8_firstThatCannotBe 32 = .ok (.iload_n 3, 1) := by decide +kernel
theorem dX8_firstThatCannotBe_33 : decode cX8_firstThatCannotBe 33 = .ok (.ireturn, 1) := by decide +kernel
theorem dX8_firstThatCannotBe_34 : decode cX8_firstThatCannotBe 34 = .ok (.iinc 3 1, 3) := by decide +kernel
theorem dX8_firstThatCannotBe_37 : decode cX8_firstThatCannotBe 37 = .ok (.goto (-35), 3) := by decide +kernel
theorem dX8_firstThatCannotBe_40 : decode cX8_firstThatCannotBe 40 = .ok (.iconst (-1), 1) := by decide +kernel
theorem dX8_firstThatCannotBe_41 : decode cX8_firstThatCannotBe 41 = .ok (.ireturn, 1) := by decide +kernel
theorem dX8_firstRow_0 : decode cX8_firstRow 0 = .ok (.aload_n 0, 1) := by decide +kernel
theorem dX8_firstRow_1 : decode cX8_firstRow 1 = .ok (.aload_n 1, 1) := by decide +kernel
theorem dX8_firstRow_2 : decode cX8_firstRow 2 = .ok (.iload_n 2, 1) := by decide +kernel
theorem dX8_firstRow_3 : decode cX8_firstRow 3 = .ok (.invokevirtual 254, 3) := by decide +kernel
theorem dX8_firstRow_6 : decode cX8_firstRow 6 = .ok (.iconst (-1), 1) := by decide +kernel
theorem dX8_firstRow_7 : decode cX8_firstRow 7 = .ok (.if_icmp .eq 5, 3) := by decide +kernel
theorem dX8_firstRow_10 : decode cX8_firstRow 10 = .ok (.iconst 0, 1) := by decide +kernel
theorem dX8_firstRow_11 : decode cX8_firstRow 11 = .ok (.ireturn, 1) := by decide +kernel
theorem dX8_firstRow_12 : decode cX8_firstRow 12 = .ok (.aload_n 1, 1) := by decide +kernel
theorem dX8_firstRow_13 : decode cX8_firstRow 13 = .ok (.getfield 196, 3) := by decide +kernel
theorem dX8_firstRow_16 : decode cX8_firstRow 16 = .ok (.bipush 9, 2) := by decide +kernel
theorem dX8_firstRow_18 : decode cX8_firstRow 18 = .ok (.if_icmp .le 5, 3) := by decide +kernel
theorem dX8_firstRow_21 : decode cX8_firstRow 21 = .ok (.iconst (-1), 1) := by decide +kernel
theorem dX8_firstRow_22 : decode cX8_firstRow 22 = .ok (.ireturn, 1) := by decide +kernel
theorem dX8_firstRow_23 : decode cX8_firstRow 23 = .ok (.iconst 0, 1) := by decide +kernel
theorem dX8_firstRow_24 : decode cX8_firstRow 24 = .ok (.istore_n 3, 1) := by decide +kernel
theorem dX8_firstRow_25 : decode cX8_firstRow 25 = .ok (.iconst 0, 1) := by decide +kernel
theorem dX8_firstRow_26 : decode cX8_firstRow 26 = .ok (.istore 4, 2) := by decide +kernel
theorem dX8_firstRow_28 : decode cX8_firstRow 28 = .ok (.iload 4, 2) := by decide +kernel
theorem dX8_firstRow_30 : decode cX8_firstRow 30 = .ok (.aload_n 1, 1) := by decide +kernel
theorem dX8_firstRow_31 : decode cX8_firstRow 31 = .ok (.getfield 196, 3) := by decide +kernel
theorem dX8_firstRow_34 : decode cX8_firstRow 34 = .ok (.if_icmp .ge 37, 3) := by decide +kernel
theorem dX8_firstRow_37 : decode cX8_firstRow 37 = .ok (.iload_n 3, 1) := by decide +kernel
theorem dX8_firstRow_38 : decode cX8_firstRow 38 = .ok (.bipush 10, 2) := by decide +kernel
theorem dX8_firstRow_40 : decode cX8_firstRow 40 = .ok (.imul, 1) := by decide +kernel
theorem dX8_firstRow_41 : decode cX8_firstRow 41 = .ok (.aload_n 0, 1) := by decide +kernel
theorem dX8_firstRow_42 : decode cX8_firstRow 42 = .ok (.getfield 49, 3) := by decide +kernel
theorem dX8_firstRow_45 : decode cX8_firstRow 45 = .ok (.aload_n 1, 1) := by decide +kernel
theorem dX8_firstRow_46 : decode cX8_firstRow 46 = .ok (.iload 4, 2) := by decide +kernel
theorem dX8_firstRow_48 : decode cX8_firstRow 48 = .ok (.iload_n 2, 1) := by decide +kernel
theorem dX8_firstRow_49 : decode cX8_firstRow 49 = .ok (.invokestatic 288, 3) := by decide +kernel
theorem dX8_firstRow_52 : decode cX8_firstRow 52 = .ok (.aload_n 1, 1) := by decide +kernel
theorem dX8_firstRow_53 : decode cX8_firstRow 53 = .ok (.iload 4, 2) := by decide +kernel
theorem dX8_firstRow_55 : decode cX8_firstRow 55 = .ok (.invokevirtual 199, 3) := by decide +kernel
theorem dX8_firstRow_58 : decode cX8_firstRow 58 = .ok (.invokevirtual 292, 3) := by decide +kernel
theorem dX8_firstRow_61 : decode cX8_firstRow 61 = .ok (.iadd, 1) := by decide +kernel
theorem dX8_firstRow_62 : decode cX8_firstRow 62 = .ok (.iconst 1, 1) := by decide +kernel
theorem dX8_firstRow_63 : decode cX8_firstRow 63 = .ok (.iadd, 1) := by decide +kernel
theorem dX8_firstRow_64 : decode cX8_firstRow 64 = .ok (.istore_n 3, 1) := by decide +kernel
theorem dX8_firstRow_65 : decode cX8_firstRow 65 = .ok (.iinc 4 1, 3) := by decide +kernel
theorem dX8_firstRow_68 : decode cX8_firstRow 68 = .ok (.goto (-40), 3) := by decide +kernel
theorem dX8_firstRow_71 : decode cX8_firstRow 71 = .ok (.iload_n 3, 1) := by decide +kernel
theorem dX8_firstRow_72 : decode cX8_firstRow 72 = .ok (.ireturn, 1) := by decide +kernel
theorem dX8_sureWords_0 : decode cX8_sureWords 0 = .ok (.iconst 0, 1) := by decide +kernel
theorem dX8_sureWords_1 : decode cX8_sureWords 1 = .ok (.istore_n 3, 1) := by decide +kernel
theorem dX8_sureWords_2 : decode cX8_sureWords 2 = .ok (.iconst 0, 1) := by decide +kernel
theorem dX8_sureWords_3 : decode cX8_sureWords 3 = .ok (.istore 4, 2) := by decide +kernel
theorem dX8_sureWords_5 : decode cX8_sureWords 5 = .ok (.iload 4, 2) := by decide +kernel
theorem dX8_sureWords_7 : decode cX8_sureWords 7 = .ok (.aload_n 1, 1) := by decide +kernel
theorem dX8_sureWords_8 : decode cX8_sureWords 8 = .ok (.getfield 196, 3) := by decide +kernel
theorem dX8_sureWords_11 : decode cX8_sureWords 11 = .ok (.if_icmp .ge 41, 3) := by decide +kernel
theorem dX8_sureWords_14 : decode cX8_sureWords 14 = .ok (.iload_n 3, 1) := by decide +kernel
theorem dX8_sureWords_15 : decode cX8_sureWords 15 = .ok (.aload_n 0, 1) := by decide +kernel
theorem dX8_sureWords_16 : decode cX8_sureWords 16 = .ok (.getfield 49, 3) := by decide +kernel
theorem dX8_sureWords_19 : decode cX8_sureWords 19 = .ok (.aload_n 1, 1) := by decide +kernel
theorem dX8_sureWords_20 : decode cX8_sureWords 20 = .ok (.iload 4, 2) := by decide +kernel
theorem dX8_sureWords_22 : decode cX8_sureWords 22 = .ok (.iload_n 2, 1) := by decide +kernel
theorem dX8_sureWords_23 : decode cX8_sureWords 23 = .ok (.invokestatic 288, 3) := by decide +kernel
theorem dX8_sureWords_26 : decode cX8_sureWords 26 = .ok (.aload_n 1, 1) := by decide +kernel
theorem dX8_sureWords_27 : decode cX8_sureWords 27 = .ok (.iload 4, 2) := by decide +kernel
theorem dX8_sureWords_29 : decode cX8_sureWords 29 = .ok (.invokevirtual 199, 3) := by decide +kernel
theorem dX8_sureWords_32 : decode cX8_sureWords 32 = .ok (.invokevirtual 295, 3) := by decide +kernel
theorem dX8_sureWords_35 : decode cX8_sureWords 35 = .ok (.iconst 1, 1) := by decide +kernel
theorem dX8_sureWords_36 : decode cX8_sureWords 36 = .ok (.if_icmp .ne 7, 3) := by decide +kernel
theorem dX8_sureWords_39 : decode cX8_sureWords 39 = .ok (.iconst 1, 1) := by decide +kernel
theorem dX8_sureWords_40 : decode cX8_sureWords 40 = .ok (.goto 4, 3) := by decide +kernel
theorem dX8_sureWords_43 : decode cX8_sureWords 43 = .ok (.iconst 0, 1) := by decide +kernel
theorem dX8_sureWords_44 : decode cX8_sureWords 44 = .ok (.iadd, 1) := by decide +kernel
theorem dX8_sureWords_45 : decode cX8_sureWords 45 = .ok (.istore_n 3, 1) := by decide +kernel
theorem dX8_sureWords_46 : decode cX8_sureWords 46 = .ok (.iinc 4 1, 3) := by decide +kernel
theorem dX8_sureWords_49 : decode cX8_sureWords 49 = .ok (.goto (-44), 3) := by decide +kernel
theorem dX8_sureWords_52 : decode cX8_sureWords 52 = .ok (.iload_n 3, 1) := by decide +kernel
theorem dX8_sureWords_53 : decode cX8_sureWords 53 = .ok (.ireturn, 1) := by decide +kernel
theorem dX8_howMany_0 : decode cX8_howMany 0 = .ok (.lconst 1, 1) := by decide +kernel
theorem dX8_howMany_1 : decode cX8_howMany 1 = .ok (.lstore_n 3, 1) := by decide +kernel
theorem dX8_howMany_2 : decode cX8_howMany 2 = .ok (.iconst 0, 1) := by decide +kernel
theorem dX8_howMany_3 : decode cX8_howMany 3 = .ok (.istore 5, 2) := by decide +kernel
theorem dX8_howMany_5 : decode cX8_howMany 5 = .ok (.iload 5, 2) := by decide +kernel
theorem dX8_howMany_7 : decode cX8_howMany 7 = .ok (.aload_n 1, 1) := by decide +kernel
theorem dX8_howMany_8 : decode cX8_howMany 8 = .ok (.getfield 196, 3) := by decide +kernel
theorem dX8_howMany_11 : decode cX8_howMany 11 = .ok (.if_icmp .ge 33, 3) := by decide +kernel
theorem dX8_howMany_14 : decode cX8_howMany 14 = .ok (.lload_n 3, 1) := by decide +kernel
theorem dX8_howMany_15 : decode cX8_howMany 15 = .ok (.aload_n 0, 1) := by decide +kernel
theorem dX8_howMany_16 : decode cX8_howMany 16 = .ok (.getfield 49, 3) := by decide +kernel
theorem dX8_howMany_19 : decode cX8_howMany 19 = .ok (.aload_n 1, 1) := by decide +kernel
theorem dX8_howMany_20 : decode cX8_howMany 20 = .ok (.iload 5, 2) := by decide +kernel
theorem dX8_howMany_22 : decode cX8_howMany 22 = .ok (.iload_n 2, 1) := by decide +kernel
theorem dX8_howMany_23 : decode cX8_howMany 23 = .ok (.invokestatic 288, 3) := by decide +kernel
theorem dX8_howMany_26 : decode cX8_howMany 26 = .ok (.aload_n 1, 1) := by decide +kernel
theorem dX8_howMany_27 : decode cX8_howMany 27 = .ok (.iload 5, 2) := by decide +kernel
theorem dX8_howMany_29 : decode cX8_howMany 29 = .ok (.invokevirtual 199, 3) := by decide +kernel
theorem dX8_howMany_32 : decode cX8_howMany 32 = .ok (.invokevirtual 295, 3) := by decide +kernel
theorem dX8_howMany_35 : decode cX8_howMany 35 = .ok (.i2l, 1) := by decide +kernel
theorem dX8_howMany_36 : decode cX8_howMany 36 = .ok (.lmul, 1) := by decide +kernel
theorem dX8_howMany_37 : decode cX8_howMany 37 = .ok (.lstore_n 3, 1) := by decide +kernel
theorem dX8_howMany_38 : decode cX8_howMany 38 = .ok (.iinc 5 1, 3) := by decide +kernel
theorem dX8_howMany_41 : decode cX8_howMany 41 = .ok (.goto (-36), 3) := by decide +kernel
theorem dX8_howMany_44 : decode cX8_howMany 44 = .ok (.lload_n 3, 1) := by decide +kernel
theorem dX8_howMany_45 : decode cX8_howMany 45 = .ok (.lreturn, 1) := by decide +kernel
theorem dX8_kindsThatFit_0 : decode cX8_kindsThatFit 0 = .ok (.iconst 0, 1) := by decide +kernel
theorem dX8_kindsThatFit_1 : decode cX8_kindsThatFit 1 = .ok (.istore_n 3, 1) := by decide +kernel
theorem dX8_kindsThatFit_2 : decode cX8_kindsThatFit 2 = .ok (.iconst 0, 1) := by decide +kernel
theorem dX8_kindsThatFit_3 : decode cX8_kindsThatFit 3 = .ok (.istore 4, 2) := by decide +kernel
theorem dX8_kindsThatFit_5 : decode cX8_kindsThatFit 5 = .ok (.iload 4, 2) := by decide +kernel
theorem dX8_kindsThatFit_7 : decode cX8_kindsThatFit 7 = .ok (.bipush 6, 2) := by decide +kernel
theorem dX8_kindsThatFit_9 : decode cX8_kindsThatFit 9 = .ok (.if_icmp .ge 39, 3) := by decide +kernel
theorem dX8_kindsThatFit_12 : decode cX8_kindsThatFit 12 = .ok (.aload_n 0, 1) := by decide +kernel
theorem dX8_kindsThatFit_13 : decode cX8_kindsThatFit 13 = .ok (.getfield 49, 3) := by decide +kernel
theorem dX8_kindsThatFit_16 : decode cX8_kindsThatFit 16 = .ok (.iload 4, 2) := by decide +kernel
theorem dX8_kindsThatFit_18 : decode cX8_kindsThatFit 18 = .ok (.invokevirtual 298, 3) := by decide +kernel
theorem dX8_kindsThatFit_21 : decode cX8_kindsThatFit 21 = .ok (.iload_n 3, 1) := by decide +kernel
theorem dX8_kindsThatFit_22 : decode cX8_kindsThatFit 22 = .ok (.aload_n 0, 1) := by decide +kernel
theorem dX8_kindsThatFit_23 : decode cX8_kindsThatFit 23 = .ok (.aload_n 1, 1) := by decide +kernel
theorem dX8_kindsThatFit_24 : decode cX8_kindsThatFit 24 = .ok (.iload_n 2, 1) := by decide +kernel
theorem dX8_kindsThatFit_25 : decode cX8_kindsThatFit 25 = .ok (.invokevirtual 254, 3) := by decide +kernel
theorem dX8_kindsThatFit_28 : decode cX8_kindsThatFit 28 = .ok (.iconst (-1), 1) := by decide +kernel
theorem dX8_kindsThatFit_29 : decode cX8_kindsThatFit 29 = .ok (.if_icmp .ne 10, 3) := by decide +kernel
theorem dX8_kindsThatFit_32 : decode cX8_kindsThatFit 32 = .ok (.iconst 1, 1) := by decide +kernel
theorem dX8_kindsThatFit_33 : decode cX8_kindsThatFit 33 = .ok (.iload 4, 2) := by decide +kernel
theorem dX8_kindsThatFit_35 : decode cX8_kindsThatFit 35 = .ok (.ishl, 1) := by decide +kernel
theorem dX8_kindsThatFit_36 : decode cX8_kindsThatFit 36 = .ok (.goto 4, 3) := by decide +kernel
theorem dX8_kindsThatFit_39 : decode cX8_kindsThatFit 39 = .ok (.iconst 0, 1) := by decide +kernel
theorem dX8_kindsThatFit_40 : decode cX8_kindsThatFit 40 = .ok (.ior, 1) := by decide +kernel
theorem dX8_kindsThatFit_41 : decode cX8_kindsThatFit 41 = .ok (.istore_n 3, 1) := by decide +kernel
theorem dX8_kindsThatFit_42 : decode cX8_kindsThatFit 42 = .ok (.iinc 4 1, 3) := by decide +kernel
theorem dX8_kindsThatFit_45 : decode cX8_kindsThatFit 45 = .ok (.goto (-40), 3) := by decide +kernel
theorem dX8_kindsThatFit_48 : decode cX8_kindsThatFit 48 = .ok (.iload_n 3, 1) := by decide +kernel
theorem dX8_kindsThatFit_49 : decode cX8_kindsThatFit 49 = .ok (.ireturn, 1) := by decide +kernel
theorem dX8_numbersThatFit_0 : decode cX8_numbersThatFit 0 = .ok (.iconst 0, 1) := by decide +kernel
theorem dX8_numbersThatFit_1 : decode cX8_numbersThatFit 1 = .ok (.istore_n 3, 1) := by decide +kernel
theorem dX8_numbersThatFit_2 : decode cX8_numbersThatFit 2 = .ok (.iconst 0, 1) := by decide +kernel
theorem dX8_numbersThatFit_3 : decode cX8_numbersThatFit 3 = .ok (.istore 4, 2) := by decide +kernel
theorem dX8_numbersThatFit_5 : decode cX8_numbersThatFit 5 = .ok (.iload 4, 2) := by decide +kernel
theorem dX8_numbersThatFit_7 : decode cX8_numbersThatFit 7 = .ok (.bipush 10, 2) := by decide +kernel
theorem dX8_numbersThatFit_9 : decode cX8_numbersThatFit 9 = .ok (.if_icmp .ge 39, 3) := by decide +kernel
theorem dX8_numbersThatFit_12 : decode cX8_numbersThatFit 12 = .ok (.aload_n 0, 1) := by decide +kernel
theorem dX8_numbersThatFit_13 : decode cX8_numbersThatFit 13 = .ok (.getfield 49, 3) := by decide +kernel
theorem dX8_numbersThatFit_16 : decode cX8_numbersThatFit 16 = .ok (.iload 4, 2) := by decide +kernel
theorem dX8_numbersThatFit_18 : decode cX8_numbersThatFit 18 = .ok (.invokevirtual 302, 3) := by decide +kernel
theorem dX8_numbersThatFit_21 : decode cX8_numbersThatFit 21 = .ok (.iload_n 3, 1) := by decide +kernel
theorem dX8_numbersThatFit_22 : decode cX8_numbersThatFit 22 = .ok (.aload_n 0, 1) := by decide +kernel
theorem dX8_numbersThatFit_23 : decode cX8_numbersThatFit 23 = .ok (.aload_n 1, 1) := by decide +kernel
theorem dX8_numbersThatFit_24 : decode cX8_numbersThatFit 24 = .ok (.iload_n 2, 1) := by decide +kernel
theorem dX8_numbersThatFit_25 : decode cX8_numbersThatFit 25 = .ok (.invokevirtual 254, 3) := by decide +kernel
theorem dX8_numbersThatFit_28 : decode cX8_numbersThatFit 28 = .ok (.iconst (-1), 1) := by decide +kernel
theorem dX8_numbersThatFit_29 : decode cX8_numbersThatFit 29 = .ok (.if_icmp .ne 10, 3) := by decide +kernel
theorem dX8_numbersThatFit_32 : decode cX8_numbersThatFit 32 = .ok (.iconst 1, 1) := by decide +kernel
theorem dX8_numbersThatFit_33 : decode cX8_numbersThatFit 33 = .ok (.iload 4, 2) := by decide +kernel
theorem dX8_numbersThatFit_35 : decode cX8_numbersThatFit 35 = .ok (.ishl, 1) := by decide +kernel
theorem dX8_numbersThatFit_36 : decode cX8_numbersThatFit 36 = .ok (.goto 4, 3) := by decide +kernel
theorem dX8_numbersThatFit_39 : decode cX8_numbersThatFit 39 = .ok (.iconst 0, 1) := by decide +kernel
theorem dX8_numbersThatFit_40 : decode cX8_numbersThatFit 40 = .ok (.ior, 1) := by decide +kernel
theorem dX8_numbersThatFit_41 : decode cX8_numbersThatFit 41 = .ok (.istore_n 3, 1) := by decide +kernel
theorem dX8_numbersThatFit_42 : decode cX8_numbersThatFit 42 = .ok (.iinc 4 1, 3) := by decide +kernel
theorem dX8_numbersThatFit_45 : decode cX8_numbersThatFit 45 = .ok (.goto (-40), 3) := by decide +kernel
theorem dX8_numbersThatFit_48 : decode cX8_numbersThatFit 48 = .ok (.iload_n 3, 1) := by decide +kernel
theorem dX8_numbersThatFit_49 : decode cX8_numbersThatFit 49 = .ok (.ireturn, 1) := by decide +kernel
theorem dX8_textsThatFit_0 : decode cX8_textsThatFit 0 = .ok (.iconst 0, 1) := by decide +kernel
theorem dX8_textsThatFit_1 : decode cX8_textsThatFit 1 = .ok (.istore_n 3, 1) := by decide +kernel
theorem dX8_textsThatFit_2 : decode cX8_textsThatFit 2 = .ok (.iconst 0, 1) := by decide +kernel
theorem dX8_textsThatFit_3 : decode cX8_textsThatFit 3 = .ok (.istore 4, 2) := by decide +kernel
theorem dX8_textsThatFit_5 : decode cX8_textsThatFit 5 = .ok (.iload 4, 2) := by decide +kernel
theorem dX8_textsThatFit_7 : decode cX8_textsThatFit 7 = .ok (.aload_n 0, 1) := by decide +kernel
theorem dX8_textsThatFit_8 : decode cX8_textsThatFit 8 = .ok (.getfield 36, 3) := by decide +kernel
theorem dX8_textsThatFit_11 : decode cX8_textsThatFit 11 = .ok (.if_icmp .ge 43, 3) := by decide +kernel
theorem dX8_textsThatFit_14 : decode cX8_textsThatFit 14 = .ok (.aload_n 0, 1) := by decide +kernel
theorem dX8_textsThatFit_15 : decode cX8_textsThatFit 15 = .ok (.getfield 49, 3) := by decide +kernel
theorem dX8_textsThatFit_18 : decode cX8_textsThatFit 18 = .ok (.aload_n 0, 1) := by decide +kernel
theorem dX8_textsThatFit_19 : decode cX8_textsThatFit 19 = .ok (.iload 4, 2) := by decide +kernel
theorem dX8_textsThatFit_21 : decode cX8_textsThatFit 21 = .ok (.invokevirtual 305, 3) := by decide +kernel
theorem dX8_textsThatFit_24 : decode cX8_textsThatFit 24 = .ok (.invokevirtual 309, 3) := by decide +kernel
theorem dX8_textsThatFit_27 : decode cX8_textsThatFit 27 = .ok (.iload_n 3, 1) := by decide +kernel
theorem dX8_textsThatFit_28 : decode cX8_textsThatFit 28 = .ok (.aload_n 0, 1) := by decide +kernel
theorem dX8_textsThatFit_29 : decode cX8_textsThatFit 29 = .ok (.aload_n 1, 1) := by decide +kernel
theorem dX8_textsThatFit_30 : decode cX8_textsThatFit 30 = .ok (.iload_n 2, 1) := by decide +kernel
theorem dX8_textsThatFit_31 : decode cX8_textsThatFit 31 = .ok (.invokevirtual 254, 3) := by decide +kernel
theorem dX8_textsThatFit_34 : decode cX8_textsThatFit 34 = .ok (.iconst (-1), 1) := by decide +kernel
theorem dX8_textsThatFit_35 : decode cX8_textsThatFit 35 = .ok (.if_icmp .ne 10, 3) := by decide +kernel
theorem dX8_textsThatFit_38 : decode cX8_textsThatFit 38 = .ok (.iconst 1, 1) := by decide +kernel
theorem dX8_textsThatFit_39 : decode cX8_textsThatFit 39 = .ok (.iload 4, 2) := by decide +kernel
theorem dX8_textsThatFit_41 : decode cX8_textsThatFit 41 = .ok (.ishl, 1) := by decide +kernel
theorem dX8_textsThatFit_42 : decode cX8_textsThatFit 42 = .ok (.goto 4, 3) := by decide +kernel
theorem dX8_textsThatFit_45 : decode cX8_textsThatFit 45 = .ok (.iconst 0, 1) := by decide +kernel
theorem dX8_textsThatFit_46 : decode cX8_textsThatFit 46 = .ok (.ior, 1) := by decide +kernel
theorem dX8_textsThatFit_47 : decode cX8_textsThatFit 47 = .ok (.istore_n 3, 1) := by decide +kernel
theorem dX8_textsThatFit_48 : decode cX8_textsThatFit 48 = .ok (.iinc 4 1, 3) := by decide +kernel
theorem dX8_textsThatFit_51 : decode cX8_textsThatFit 51 = .ok (.goto (-46), 3) := by decide +kernel
theorem dX8_textsThatFit_54 : decode cX8_textsThatFit 54 = .ok (.iload_n 3, 1) := by decide +kernel
theorem dX8_textsThatFit_55 : decode cX8_textsThatFit 55 = .ok (.ireturn, 1) := by decide +kernel
theorem dX8_startsThatFit_0 : decode cX8_startsThatFit 0 = .ok (.aload_n 1, 1) := by decide +kernel
theorem dX8_startsThatFit_1 : decode cX8_startsThatFit 1 = .ok (.getfield 196, 3) := by decide +kernel
theorem dX8_startsThatFit_4 : decode cX8_startsThatFit 4 = .ok (.ifCond .ne 7, 3) := by decide +kernel
theorem dX8_startsThatFit_7 : decode cX8_startsThatFit 7 = .ok (.ldc2_w 313, 3) := by decide +kernel
theorem dX8_startsThatFit_10 : decode cX8_startsThatFit 10 = .ok (.lreturn, 1) := by decide +kernel
theorem dX8_startsThatFit_11 : decode cX8_startsThatFit 11 = .ok (.iconst 1, 1) := by decide +kernel
theorem dX8_startsThatFit_12 : decode cX8_startsThatFit 12 = .ok (.istore_n 2, 1) := by decide +kernel
theorem dX8_startsThatFit_13 : decode cX8_startsThatFit 13 = .ok (.iload_n 2, 1) := by decide +kernel
theorem dX8_startsThatFit_14 : decode cX8_startsThatFit 14 = .ok (.aload_n 1, 1) := by decide +kernel
theorem dX8_startsThatFit_15 : decode cX8_startsThatFit 15 = .ok (.getfield 196, 3) := by decide +kernel
theorem dX8_startsThatFit_18 : decode cX8_startsThatFit 18 = .ok (.if_icmp .ge 34, 3) := by decide +kernel
theorem dX8_startsThatFit_21 : decode cX8_startsThatFit 21 = .ok (.aload_n 0, 1) := by decide +kernel
theorem dX8_startsThatFit_22 : decode cX8_startsThatFit 22 = .ok (.getfield 49, 3) := by decide +kernel
theorem dX8_startsThatFit_25 : decode cX8_startsThatFit 25 = .ok (.aload_n 1, 1) := by decide +kernel
theorem dX8_startsThatFit_26 : decode cX8_startsThatFit 26 = .ok (.iload_n 2, 1) := by decide +kernel
theorem dX8_startsThatFit_27 : decode cX8_startsThatFit 27 = .ok (.iconst 1, 1) := by decide +kernel
theorem dX8_startsThatFit_28 : decode cX8_startsThatFit 28 = .ok (.isub, 1) := by decide +kernel
theorem dX8_startsThatFit_29 : decode cX8_startsThatFit 29 = .ok (.invokevirtual 199, 3) := by decide +kernel
theorem dX8_startsThatFit_32 : decode cX8_startsThatFit 32 = .ok (.aload_n 1, 1) := by decide +kernel
theorem dX8_startsThatFit_33 : decode cX8_startsThatFit 33 = .ok (.iload_n 2, 1) := by decide +kernel
theorem dX8_startsThatFit_34 : decode cX8_startsThatFit 34 = .ok (.invokevirtual 199, 3) := by decide +kernel
theorem dX8_startsThatFit_37 : decode cX8_startsThatFit 37 = .ok (.invokevirtual 292, 3) := by decide +kernel
theorem dX8_startsThatFit_40 : decode cX8_startsThatFit 40 = .ok (.iconst (-1), 1) := by decide +kernel
theorem dX8_startsThatFit_41 : decode cX8_startsThatFit 41 = .ok (.if_icmp .ne 5, 3) := by decide +kernel
theorem dX8_startsThatFit_44 : decode cX8_startsThatFit 44 = .ok (.lconst 0, 1) := by decide +kernel
theorem dX8_startsThatFit_45 : decode cX8_startsThatFit 45 = .ok (.lreturn, 1) := by decide +kernel
theorem dX8_startsThatFit_46 : decode cX8_startsThatFit 46 = .ok (.iinc 2 1, 3) := by decide +kernel
theorem dX8_startsThatFit_49 : decode cX8_startsThatFit 49 = .ok (.goto (-36), 3) := by decide +kernel
theorem dX8_startsThatFit_52 : decode cX8_startsThatFit 52 = .ok (.lconst 0, 1) := by decide +kernel
theorem dX8_startsThatFit_53 : decode cX8_startsThatFit 53 = .ok (.lstore_n 2, 1) := by decide +kernel
theorem dX8_startsThatFit_54 : decode cX8_startsThatFit 54 = .ok (.iconst 0, 1) := by decide +kernel
theorem dX8_startsThatFit_55 : decode cX8_startsThatFit 55 = .ok (.istore 4, 2) := by decide +kernel
theorem dX8_startsThatFit_57 : decode cX8_startsThatFit 57 = .ok (.iload 4, 2) := by decide +kernel
theorem dX8_startsThatFit_59 : decode cX8_startsThatFit 59 = .ok (.bipush 36, 2) := by decide +kernel
theorem dX8_startsThatFit_61 : decode cX8_startsThatFit 61 = .ok (.if_icmp .ge 38, 3) := by decide +kernel
theorem dX8_startsThatFit_64 : decode cX8_startsThatFit 64 = .ok (.lload_n 2, 1) := by decide +kernel
theorem dX8_startsThatFit_65 : decode cX8_startsThatFit 65 = .ok (.aload_n 0, 1) := by decide +kernel
theorem dX8_startsThatFit_66 : decode cX8_startsThatFit 66 = .ok (.getfield 49, 3) := by decide +kernel
theorem dX8_startsThatFit_69 : decode cX8_startsThatFit 69 = .ok (.iload 4, 2) := by decide +kernel
theorem dX8_startsThatFit_71 : decode cX8_startsThatFit 71 = .ok (.aload_n 1, 1) := by decide +kernel
theorem dX8_startsThatFit_72 : decode cX8_startsThatFit 72 = .ok (.iconst 0, 1) := by decide +kernel
theorem dX8_startsThatFit_73 : decode cX8_startsThatFit 73 = .ok (.invokevirtual 199, 3) := by decide +kernel
theorem dX8_startsThatFit_76 : decode cX8_startsThatFit 76 = .ok (.invokevirtual 292, 3) := by decide +kernel
theorem dX8_startsThatFit_79 : decode cX8_startsThatFit 79 = .ok (.iconst (-1), 1) := by decide +kernel
theorem dX8_startsThatFit_80 : decode cX8_startsThatFit 80 = .ok (.if_icmp .ne 7, 3) := by decide +kernel
theorem dX8_startsThatFit_83 : decode cX8_startsThatFit 83 = .ok (.lconst 0, 1) := by decide +kernel
theorem dX8_startsThatFit_84 : decode cX8_startsThatFit 84 = .ok (.goto 7, 3) := by decide +kernel
theorem dX8_startsThatFit_87 : decode cX8_startsThatFit 87 = .ok (.lconst 1, 1) := by decide +kernel
theorem dX8_startsThatFit_88 : decode cX8_startsThatFit 88 = .ok (.iload 4, 2) := by decide +kernel
theorem dX8_startsThatFit_90 : decode cX8_startsThatFit 90 = .ok (.lshl, 1) := by decide +kernel
theorem dX8_startsThatFit_91 : decode cX8_startsThatFit 91 = .ok (.lor, 1) := by decide +kernel
theorem dX8_startsThatFit_92 : decode cX8_startsThatFit 92 = .ok (.lstore_n 2, 1) := by decide +kernel
theorem dX8_startsThatFit_93 : decode cX8_startsThatFit 93 = .ok (.iinc 4 1, 3) := by decide +kernel
theorem dX8_startsThatFit_96 : decode cX8_startsThatFit 96 = .ok (.goto (-39), 3) := by decide +kernel
theorem dX8_startsThatFit_99 : decode cX8_startsThatFit 99 = .ok (.lload_n 2, 1) := by decide +kernel
theorem dX8_startsThatFit_100 : decode cX8_startsThatFit 100 = .ok (.lreturn, 1) := by decide +kernel
theorem dX8_drawn_0 : decode cX8_drawn 0 = .ok (.aload_n 0, 1) := by decide +kernel
theorem dX8_drawn_1 : decode cX8_drawn 1 = .ok (.getfield 12, 3) := by decide +kernel
theorem dX8_drawn_4 : decode cX8_drawn 4 = .ok (.iload_n 2, 1) := by decide +kernel
theorem dX8_drawn_5 : decode cX8_drawn 5 = .ok (.invokevirtual 130, 3) := by decide +kernel
theorem dX8_drawn_8 : decode cX8_drawn 8 = .ok (.astore 4, 2) := by decide +kernel
theorem dX8_drawn_10 : decode cX8_drawn 10 = .ok (.aload 4, 2) := by decide +kernel
theorem dX8_drawn_12 : decode cX8_drawn 12 = .ok (.ifnull 12, 3) := by decide +kernel
theorem dX8_drawn_15 : decode cX8_drawn 15 = .ok (.iload_n 3, 1) := by decide +kernel
theorem dX8_drawn_16 : decode cX8_drawn 16 = .ok (.bipush 100, 2) := by decide +kernel
theorem dX8_drawn_18 : decode cX8_drawn 18 = .ok (.invokestatic 116, 3) := by decide +kernel
theorem dX8_drawn_21 : decode cX8_drawn 21 = .ok (.ifCond .ne 6, 3) := by decide +kernel
theorem dX8_drawn_24 : decode cX8_drawn 24 = .ok (.bipush (-2), 2) := by decide +kernel
theorem dX8_drawn_26 : decode cX8_drawn 26 = .ok (.ireturn, 1) := by decide +kernel
theorem dX8_drawn_27 : decode cX8_drawn 27 = .ok (.aload_n 0, 1) := by decide +kernel
theorem dX8_drawn_28 : decode cX8_drawn 28 = .ok (.aload 4, 2) := by decide +kernel
theorem dX8_drawn_30 : decode cX8_drawn 30 = .ok (.invokevirtual 153, 3) := by decide +kernel
theorem dX8_drawn_33 : decode cX8_drawn 33 = .ok (.aload 4, 2) := by decide +kernel
theorem dX8_drawn_35 : decode cX8_drawn 35 = .ok (.getfield 157, 3) := by decide +kernel
theorem dX8_drawn_38 : decode cX8_drawn 38 = .ok (.istore 5, 2) := by decide +kernel
theorem dX8_drawn_40 : decode cX8_drawn 40 = .ok (.iload_n 1, 1) := by decide +kernel
theorem dX8_drawn_41 : decode cX8_drawn 41 = .ok (.istore 6, 2) := by decide +kernel
theorem dX8_drawn_43 : decode cX8_drawn 43 = .ok (.iconst 0, 1) := by decide +kernel
theorem dX8_drawn_44 : decode cX8_drawn 44 = .ok (.istore 7, 2) := by decide +kernel
theorem dX8_drawn_46 : decode cX8_drawn 46 = .ok (.iload 7, 2) := by decide +kernel
theorem dX8_drawn_48 : decode cX8_drawn 48 = .ok (.iload_n 3, 1) := by decide +kernel
theorem dX8_drawn_49 : decode cX8_drawn 49 = .ok (.if_icmp .ge 32, 3) := by decide +kernel
theorem dX8_drawn_52 : decode cX8_drawn 52 = .ok (.iload 6, 2) := by decide +kernel
theorem dX8_drawn_54 : decode cX8_drawn 54 = .ok (.invokestatic 315, 3) := by decide +kernel
theorem dX8_drawn_57 : decode cX8_drawn 57 = .ok (.istore 6, 2) := by decide +kernel
theorem dX8_drawn_59 : decode cX8_drawn 59 = .ok (.aload_n 0, 1) := by decide +kernel
theorem dX8_drawn_60 : decode cX8_drawn 60 = .ok (.getfield 49, 3) := by decide +kernel
theorem dX8_drawn_63 : decode cX8_drawn 63 = .ok (.iload 5, 2) := by decide +kernel
theorem dX8_drawn_65 : decode cX8_drawn 65 = .ok (.iload 6, 2) := by decide +kernel
theorem dX8_drawn_67 : decode cX8_drawn 67 = .ok (.invokestatic 318, 3) := by decide +kernel
theorem dX8_drawn_70 : decode cX8_drawn 70 = .ok (.invokevirtual 160, 3) := by decide +kernel
theorem dX8_drawn_73 : decode cX8_drawn 73 = .ok (.istore 5, 2) := by decide +kernel
theorem dX8_drawn_75 : decode cX8_drawn 75 = .ok (.iinc 7 1, 3) := by decide +kernel
theorem dX8_drawn_78 : decode cX8_drawn 78 = .ok (.goto (-32), 3) := by decide +kernel
theorem dX8_drawn_81 : decode cX8_drawn 81 = .ok (.iload 5, 2) := by decide +kernel
theorem dX8_drawn_83 : decode cX8_drawn 83 = .ok (.ireturn, 1) := by decide +kernel
theorem dX8_drawnAfter_0 : decode cX8_drawnAfter 0 = .ok (.iload_n 0, 1) := by decide +kernel
theorem dX8_drawnAfter_1 : decode cX8_drawnAfter 1 = .ok (.ldc_w 321, 3) := by decide +kernel
theorem dX8_drawnAfter_4 : decode cX8_drawnAfter 4 = .ok (.imul, 1) := by decide +kernel
theorem dX8_drawnAfter_5 : decode cX8_drawnAfter 5 = .ok (.sipush 12345, 3) := by decide +kernel
theorem dX8_drawnAfter_8 : decode cX8_drawnAfter 8 = .ok (.iadd, 1) := by decide +kernel
theorem dX8_drawnAfter_9 : decode cX8_drawnAfter 9 = .ok (.ireturn, 1) := by decide +kernel
theorem dX8_wordOf_0 : decode cX8_wordOf 0 = .ok (.iload_n 0, 1) := by decide +kernel
theorem dX8_wordOf_1 : decode cX8_wordOf 1 = .ok (.bipush 9, 2) := by decide +kernel
theorem dX8_wordOf_3 : decode cX8_wordOf 3 = .ok (.iushr, 1) := by decide +kernel
theorem dX8_wordOf_4 : decode cX8_wordOf 4 = .ok (.bipush 8, 2) := by decide +kernel
theorem dX8_wordOf_6 : decode cX8_wordOf 6 = .ok (.irem, 1) := by decide +kernel
theorem dX8_wordOf_7 : decode cX8_wordOf 7 = .ok (.ireturn, 1) := by decide +kernel
theorem dX8_chance_0 : decode cX8_chance 0 = .ok (.aload_n 0, 1) := by decide +kernel
theorem dX8_chance_1 : decode cX8_chance 1 = .ok (.getfield 12, 3) := by decide +kernel
theorem dX8_chance_4 : decode cX8_chance 4 = .ok (.iload_n 3, 1) := by decide +kernel
theorem dX8_chance_5 : decode cX8_chance 5 = .ok (.invokevirtual 130, 3) := by decide +kernel
theorem dX8_chance_8 : decode cX8_chance 8 = .ok (.astore 6, 2) := by decide +kernel
theorem dX8_chance_10 : decode cX8_chance 10 = .ok (.aload 6, 2) := by decide +kernel
theorem dX8_chance_12 : decode cX8_chance 12 = .ok (.ifnull 35, 3) := by decide +kernel
theorem dX8_chance_15 : decode cX8_chance 15 = .ok (.iload 4, 2) := by decide +kernel
theorem dX8_chance_17 : decode cX8_chance 17 = .ok (.bipush 36, 2) := by decide +kernel
theorem dX8_chance_19 : decode cX8_chance 19 = .ok (.invokestatic 116, 3) := by decide +kernel
theorem dX8_chance_22 : decode cX8_chance 22 = .ok (.ifCond .eq 25, 3) := by decide +kernel
theorem dX8_chance_25 : decode cX8_chance 25 = .ok (.iload_n 2, 1) := by decide +kernel
theorem dX8_chance_26 : decode cX8_chance 26 = .ok (.bipush 21, 2) := by decide +kernel
theorem dX8_chance_28 : decode cX8_chance 28 = .ok (.invokestatic 116, 3) := by decide +kernel
theorem dX8_chance_31 : decode cX8_chance 31 = .ok (.ifCond .eq 16, 3) := by decide +kernel
theorem dX8_chance_34 : decode cX8_chance 34 = .ok (.iload_n 2, 1) := by decide +kernel
theorem dX8_chance_35 : decode cX8_chance 35 = .ok (.ifCond .eq 12, 3) := by decide +kernel
theorem dX8_chance_38 : decode cX8_chance 38 = .ok (.iload 5, 2) := by decide +kernel
theorem dX8_chance_40 : decode cX8_chance 40 = .ok (.iconst 2, 1) := by decide +kernel
theorem dX8_chance_41 : decode cX8_chance 41 = .ok (.invokestatic 116, 3) := by decide +kernel
theorem dX8_chance_44 : decode cX8_chance 44 = .ok (.ifCond .ne 7, 3) := by decide +kernel
theorem dX8_chance_47 : decode cX8_chance 47 = .ok (.ldc2_w 212, 3) := by decide +kernel
theorem dX8_chance_50 : decode cX8_chance 50 = .ok (.lreturn, 1) := by decide +kernel
theorem dX8_chance_51 : decode cX8_chance 51 = .ok (.aload_n 0, 1) := by decide +kernel
theorem dX8_chance_52 : decode cX8_chance 52 = .ok (.aload 6, 2) := by decide +kernel
theorem dX8_chance_54 : decode cX8_chance 54 = .ok (.invokevirtual 153, 3) := by decide +kernel
theorem dX8_chance_57 : decode cX8_chance 57 = .ok (.iconst 0, 1) := by decide +kernel
theorem dX8_chance_58 : decode cX8_chance 58 = .ok (.istore 7, 2) := by decide +kernel
theorem dX8_chance_60 : decode cX8_chance 60 = .ok (.iconst 0, 1) := by decide +kernel
theorem dX8_chance_61 : decode cX8_chance 61 = .ok (.istore 8, 2) := by decide +kernel
theorem dX8_chance_63 : decode cX8_chance 63 = .ok (.iload 8, 2) := by decide +kernel
theorem dX8_chance_65 : decode cX8_chance 65 = .ok (.iload_n 2, 1) := by decide +kernel
theorem dX8_chance_66 : decode cX8_chance 66 = .ok (.if_icmp .ge 37, 3) := by decide +kernel
theorem dX8_chance_69 : decode cX8_chance 69 = .ok (.iload 7, 2) := by decide +kernel
theorem dX8_chance_71 : decode cX8_chance 71 = .ok (.aload_n 0, 1) := by decide +kernel
theorem dX8_chance_72 : decode cX8_chance 72 = .ok (.iload_n 1, 1) := by decide +kernel
theorem dX8_chance_73 : decode cX8_chance 73 = .ok (.iload 8, 2) := by decide +kernel
theorem dX8_chance_75 : decode cX8_chance 75 = .ok (.iadd, 1) := by decide +kernel
theorem dX8_chance_76 : decode cX8_chance 76 = .ok (.aload 6, 2) := by decide +kernel
theorem dX8_chance_78 : decode cX8_chance 78 = .ok (.getfield 157, 3) := by decide +kernel
theorem dX8_chance_81 : decode cX8_chance 81 = .ok (.iload 4, 2) := by decide +kernel
theorem dX8_chance_83 : decode cX8_chance 83 = .ok (.invokevirtual 322, 3) := by decide +kernel
theorem dX8_chance_86 : decode cX8_chance 86 = .ok (.ifCond .eq 7, 3) := by decide +kernel
theorem dX8_chance_89 : decode cX8_chance 89 = .ok (.iconst 1, 1) := by decide +kernel
theorem dX8_chance_90 : decode cX8_chance 90 = .ok (.goto 4, 3) := by decide +kernel
theorem dX8_chance_93 : decode cX8_chance 93 = .ok (.iconst 0, 1) := by decide +kernel
theorem dX8_chance_94 : decode cX8_chance 94 = .ok (.iadd, 1) := by decide +kernel
theorem dX8_chance_95 : decode cX8_chance 95 = .ok (.istore 7, 2) := by decide +kernel
theorem dX8_chance_97 : decode cX8_chance 97 = .ok (.iinc 8 1, 3) := by decide +kernel
theorem dX8_chance_100 : decode cX8_chance 100 = .ok (.goto (-37), 3) := by decide +kernel
theorem dX8_chance_103 : decode cX8_chance 103 = .ok (.iload 7, 2) := by decide +kernel
theorem dX8_chance_105 : decode cX8_chance 105 = .ok (.iload_n 2, 1) := by decide +kernel
theorem dX8_chance_106 : decode cX8_chance 106 = .ok (.invokestatic 326, 3) := by decide +kernel
theorem dX8_chance_109 : decode cX8_chance 109 = .ok (.istore 8, 2) := by decide +kernel
theorem dX8_chance_111 : decode cX8_chance 111 = .ok (.iload 5, 2) := by decide +kernel
theorem dX8_chance_113 : decode cX8_chance 113 = .ok (.ifCond .ne 8, 3) := by decide +kernel
theorem dX8_chance_116 : decode cX8_chance 116 = .ok (.iload 7, 2) := by decide +kernel
theorem dX8_chance_118 : decode cX8_chance 118 = .ok (.goto 4, 3) := by decide +kernel
theorem dX8_chance_121 : decode cX8_chance 121 = .ok (.iload_n 2, 1) := by decide +kernel
theorem dX8_chance_122 : decode cX8_chance 122 = .ok (.iconst 1, 1) := by decide +kernel
theorem dX8_chance_123 : decode cX8_chance 123 = .ok (.iload 8, 2) := by decide +kernel
theorem dX8_chance_125 : decode cX8_chance 125 = .ok (.invokestatic 329, 3) := by decide +kernel
theorem dX8_chance_128 : decode cX8_chance 128 = .ok (.idiv, 1) := by decide +kernel
theorem dX8_chance_129 : decode cX8_chance 129 = .ok (.i2l, 1) := by decide +kernel
theorem dX8_chance_130 : decode cX8_chance 130 = .ok (.lreturn, 1) := by decide +kernel
theorem dX8_comesBy_0 : decode cX8_comesBy 0 = .ok (.iload_n 2, 1) := by decide +kernel
theorem dX8_comesBy_1 : decode cX8_comesBy 1 = .ok (.istore 4, 2) := by decide +kernel
theorem dX8_comesBy_3 : decode cX8_comesBy 3 = .ok (.iload_n 1, 1) := by decide +kernel
theorem dX8_comesBy_4 : decode cX8_comesBy 4 = .ok (.istore 5, 2) := by decide +kernel
theorem dX8_comesBy_6 : decode cX8_comesBy 6 = .ok (.iconst 0, 1) := by decide +kernel
theorem dX8_comesBy_7 : decode cX8_comesBy 7 = .ok (.istore 6, 2) := by decide +kernel
theorem dX8_comesBy_9 : decode cX8_comesBy 9 = .ok (.iload 6, 2) := by decide +kernel
theorem dX8_comesBy_11 : decode cX8_comesBy 11 = .ok (.bipush 12, 2) := by decide +kernel
theorem dX8_comesBy_13 : decode cX8_comesBy 13 = .ok (.if_icmp .ge 38, 3) := by decide +kernel
theorem dX8_comesBy_16 : decode cX8_comesBy 16 = .ok (.iload 4, 2) := by decide +kernel
theorem dX8_comesBy_18 : decode cX8_comesBy 18 = .ok (.iload_n 3, 1) := by decide +kernel
theorem dX8_comesBy_19 : decode cX8_comesBy 19 = .ok (.if_icmp .eq 32, 3) := by decide +kernel
theorem dX8_comesBy_22 : decode cX8_comesBy 22 = .ok (.iload 5, 2) := by decide +kernel
theorem dX8_comesBy_24 : decode cX8_comesBy 24 = .ok (.invokestatic 315, 3) := by decide +kernel
theorem dX8_comesBy_27 : decode cX8_comesBy 27 = .ok (.istore 5, 2) := by decide +kernel
theorem dX8_comesBy_29 : decode cX8_comesBy 29 = .ok (.aload_n 0, 1) := by decide +kernel
theorem dX8_comesBy_30 : decode cX8_comesBy 30 = .ok (.getfield 49, 3) := by decide +kernel
theorem dX8_comesBy_33 : decode cX8_comesBy 33 = .ok (.iload 4, 2) := by decide +kernel
theorem dX8_comesBy_35 : decode cX8_comesBy 35 = .ok (.iload 5, 2) := by decide +kernel
theorem dX8_comesBy_37 : decode cX8_comesBy 37 = .ok (.invokestatic 318, 3) := by decide +kernel
theorem dX8_comesBy_40 : decode cX8_comesBy 40 = .ok (.invokevirtual 160, 3) := by decide +kernel
theorem dX8_comesBy_43 : decode cX8_comesBy 43 = .ok (.istore 4, 2) := by decide +kernel
theorem dX8_comesBy_45 : decode cX8_comesBy 45 = .ok (.iinc 6 1, 3) := by decide +kernel
theorem dX8_comesBy_48 : decode cX8_comesBy 48 = .ok (.goto (-39), 3) := by decide +kernel
theorem dX8_comesBy_51 : decode cX8_comesBy 51 = .ok (.iload 4, 2) := by decide +kernel
theorem dX8_comesBy_53 : decode cX8_comesBy 53 = .ok (.iload_n 3, 1) := by decide +kernel
theorem dX8_comesBy_54 : decode cX8_comesBy 54 = .ok (.if_icmp .ne 7, 3) := by decide +kernel
theorem dX8_comesBy_57 : decode cX8_comesBy 57 = .ok (.iconst 1, 1) := by decide +kernel
theorem dX8_comesBy_58 : decode cX8_comesBy 58 = .ok (.goto 4, 3) := by decide +kernel
theorem dX8_comesBy_61 : decode cX8_comesBy 61 = .ok (.iconst 0, 1) := by decide +kernel
theorem dX8_comesBy_62 : decode cX8_comesBy 62 = .ok (.ireturn, 1) := by decide +kernel
theorem dX8_commonDivisor_0 : decode cX8_commonDivisor 0 = .ok (.iload_n 1, 1) := by decide +kernel
theorem dX8_commonDivisor_1 : decode cX8_commonDivisor 1 = .ok (.istore_n 2, 1) := by decide +kernel
theorem dX8_commonDivisor_2 : decode cX8_commonDivisor 2 = .ok (.iload_n 2, 1) := by decide +kernel
theorem dX8_commonDivisor_3 : decode cX8_commonDivisor 3 = .ok (.iconst 1, 1) := by decide +kernel
theorem dX8_commonDivisor_4 : decode cX8_commonDivisor 4 = .ok (.if_icmp .le 23, 3) := by decide +kernel
theorem dX8_commonDivisor_7 : decode cX8_commonDivisor 7 = .ok (.iload_n 0, 1) := by decide +kernel
theorem dX8_commonDivisor_8 : decode cX8_commonDivisor 8 = .ok (.iload_n 2, 1) := by decide +kernel
theorem dX8_commonDivisor_9 : decode cX8_commonDivisor 9 = .ok (.irem, 1) := by decide +kernel
theorem dX8_commonDivisor_10 : decode cX8_commonDivisor 10 = .ok (.ifCond .ne 11, 3) := by decide +kernel
theorem dX8_commonDivisor_13 : decode cX8_commonDivisor 13 = .ok (.iload_n 1, 1) := by decide +kernel
theorem dX8_commonDivisor_14 : decode cX8_commonDivisor 14 = .ok (.iload_n 2, 1) := by decide +kernel
theorem dX8_commonDivisor_15 : decode cX8_commonDivisor 15 = .ok (.irem, 1) := by decide +kernel
theorem dX8_commonDivisor_16 : decode cX8_commonDivisor 16 = .ok (.ifCond .ne 5, 3) := by decide +kernel
theorem dX8_commonDivisor_19 : decode cX8_commonDivisor 19 = .ok (.iload_n 2, 1) := by decide +kernel
theorem dX8_commonDivisor_20 : decode cX8_commonDivisor 20 = .ok (.ireturn, 1) := by decide +kernel
theorem dX8_commonDivisor_21 : decode cX8_commonDivisor 21 = .ok (.iinc 2 (-1), 3) := by decide +kernel
theorem dX8_commonDivisor_24 : decode cX8_commonDivisor 24 = .ok (.goto (-22), 3) := by decide +kernel
theorem dX8_commonDivisor_27 : decode cX8_commonDivisor 27 = .ok (.iconst 1, 1) := by decide +kernel
theorem dX8_commonDivisor_28 : decode cX8_commonDivisor 28 = .ok (.ireturn, 1) := by decide +kernel
theorem dX8_image_0 : decode cX8_image 0 = .ok (.aload_n 0, 1) := by decide +kernel
theorem dX8_image_1 : decode cX8_image 1 = .ok (.getfield 16, 3) := by decide +kernel
theorem dX8_image_4 : decode cX8_image 4 = .ok (.aload_n 0, 1) := by decide +kernel
theorem dX8_image_5 : decode cX8_image 5 = .ok (.getfield 12, 3) := by decide +kernel
theorem dX8_image_8 : decode cX8_image 8 = .ok (.invokevirtual 334, 3) := by decide +kernel
theorem dX8_image_11 : decode cX8_image 11 = .ok (.aload_n 0, 1) := by decide +kernel
theorem dX8_image_12 : decode cX8_image 12 = .ok (.iconst 1, 1) := by decide +kernel
theorem dX8_image_13 : decode cX8_image 13 = .ok (.putfield 19, 3) := by decide +kernel
theorem dX8_image_16 : decode cX8_image 16 = .ok (.aload_n 0, 1) := by decide +kernel
theorem dX8_image_17 : decode cX8_image 17 = .ok (.getfield 16, 3) := by decide +kernel
theorem dX8_image_20 : decode cX8_image 20 = .ok (.getfield 248, 3) := by decide +kernel
theorem dX8_image_23 : decode cX8_image 23 = .ok (.ireturn, 1) := by decide +kernel
theorem dX8_back_0 : decode cX8_back 0 = .ok (.aload_n 0, 1) := by decide +kernel
theorem dX8_back_1 : decode cX8_back 1 = .ok (.getfield 19, 3) := by decide +kernel
theorem dX8_back_4 : decode cX8_back 4 = .ok (.ifCond .ne 6, 3) := by decide +kernel
theorem dX8_back_7 : decode cX8_back 7 = .ok (.bipush (-3), 2) := by decide +kernel
theorem dX8_back_9 : decode cX8_back 9 = .ok (.ireturn, 1) := by decide +kernel
theorem dX8_back_10 : decode cX8_back 10 = .ok (.aload_n 0, 1) := by decide +kernel
theorem dX8_back_11 : decode cX8_back 11 = .ok (.getfield 12, 3) := by decide +kernel
theorem dX8_back_14 : decode cX8_back 14 = .ok (.aload_n 0, 1) := by decide +kernel
theorem dX8_back_15 : decode cX8_back 15 = .ok (.getfield 16, 3) := by decide +kernel
theorem dX8_back_18 : decode cX8_back 18 = .ok (.invokevirtual 334, 3) := by decide +kernel
theorem dX8_back_21 : decode cX8_back 21 = .ok (.aload_n 0, 1) := by decide +kernel
theorem dX8_back_22 : decode cX8_back 22 = .ok (.getfield 12, 3) := by decide +kernel
theorem dX8_back_25 : decode cX8_back 25 = .ok (.getfield 248, 3) := by decide +kernel
theorem dX8_back_28 : decode cX8_back 28 = .ok (.ireturn, 1) := by decide +kernel
theorem dX8_count_0 : decode cX8_count 0 = .ok (.iload_n 1, 1) := by decide +kernel
theorem dX8_count_1 : decode cX8_count 1 = .ok (.tableswitch 87 0 5 #[39, 47, 58, 66, 71, 79], 39) := by decide +kernel
theorem dX8_count_40 : decode cX8_count 40 = .ok (.aload_n 0, 1) := by decide +kernel
theorem dX8_count_41 : decode cX8_count 41 = .ok (.getfield 12, 3) := by decide +kernel
theorem dX8_count_44 : decode cX8_count 44 = .ok (.getfield 248, 3) := by decide +kernel
theorem dX8_count_47 : decode cX8_count 47 = .ok (.ireturn, 1) := by decide +kernel
theorem dX8_count_48 : decode cX8_count 48 = .ok (.aload_n 0, 1) := by decide +kernel
theorem dX8_count_49 : decode cX8_count 49 = .ok (.getfield 12, 3) := by decide +kernel
theorem dX8_count_52 : decode cX8_count 52 = .ok (.getfield 338, 3) := by decide +kernel
theorem dX8_count_55 : decode cX8_count 55 = .ok (.invokestatic 342, 3) := by decide +kernel
theorem dX8_count_58 : decode cX8_count 58 = .ok (.ireturn, 1) := by decide +kernel
theorem dX8_count_59 : decode cX8_count 59 = .ok (.aload_n 0, 1) := by decide +kernel
theorem dX8_count_60 : decode cX8_count 60 = .ok (.getfield 12, 3) := by decide +kernel
theorem dX8_count_63 : decode cX8_count 63 = .ok (.invokevirtual 348, 3) := by decide +kernel
theorem dX8_count_66 : decode cX8_count 66 = .ok (.ireturn, 1) := by decide +kernel
theorem dX8_count_67 : decode cX8_count 67 = .ok (.aload_n 0, 1) := by decide +kernel
theorem dX8_count_68 : decode cX8_count 68 = .ok (.getfield 36, 3) := by decide +kernel
theorem dX8_count_71 : decode cX8_count 71 = .ok (.ireturn, 1) := by decide +kernel
theorem dX8_count_72 : decode cX8_count 72 = .ok (.aload_n 0, 1) := by decide +kernel
theorem dX8_count_73 : decode cX8_count 73 = .ok (.getfield 26, 3) := by decide +kernel
theorem dX8_count_76 : decode cX8_count 76 = .ok (.getfield 351, 3) := by decide +kernel
theorem dX8_count_79 : decode cX8_count 79 = .ok (.ireturn, 1) := by decide +kernel
theorem dX8_count_80 : decode cX8_count 80 = .ok (.aload_n 0, 1) := by decide +kernel
theorem dX8_count_81 : decode cX8_count 81 = .ok (.getfield 12, 3) := by decide +kernel
theorem dX8_count_84 : decode cX8_count 84 = .ok (.getfield 178, 3) := by decide +kernel
theorem dX8_count_87 : decode cX8_count 87 = .ok (.ireturn, 1) := by decide +kernel
theorem dX8_count_88 : decode cX8_count 88 = .ok (.bipush (-2), 2) := by decide +kernel
theorem dX8_count_90 : decode cX8_count 90 = .ok (.ireturn, 1) := by decide +kernel
theorem dX8_sheet_0 : decode cX8_sheet 0 = .ok (.aload_n 0, 1) := by decide +kernel
theorem dX8_sheet_1 : decode cX8_sheet 1 = .ok (.iload_n 1, 1) := by decide +kernel
theorem dX8_sheet_2 : decode cX8_sheet 2 = .ok (.invokevirtual 192, 3) := by decide +kernel
theorem dX8_sheet_5 : decode cX8_sheet 5 = .ok (.astore 4, 2) := by decide +kernel
theorem dX8_sheet_7 : decode cX8_sheet 7 = .ok (.aload 4, 2) := by decide +kernel
theorem dX8_sheet_9 : decode cX8_sheet 9 = .ok (.ifnull 13, 3) := by decide +kernel
theorem dX8_sheet_12 : decode cX8_sheet 12 = .ok (.iload_n 2, 1) := by decide +kernel
theorem dX8_sheet_13 : decode cX8_sheet 13 = .ok (.iconst (-1), 1) := by decide +kernel
theorem dX8_sheet_14 : decode cX8_sheet 14 = .ok (.if_icmp .lt 8, 3) := by decide +kernel
theorem dX8_sheet_17 : decode cX8_sheet 17 = .ok (.iload_n 2, 1) := by decide +kernel
theorem dX8_sheet_18 : decode cX8_sheet 18 = .ok (.iconst 3, 1) := by decide +kernel
theorem dX8_sheet_19 : decode cX8_sheet 19 = .ok (.if_icmp .lt 6, 3) := by decide +kernel
theorem dX8_sheet_22 : decode cX8_sheet 22 = .ok (.bipush (-2), 2) := by decide +kernel
theorem dX8_sheet_24 : decode cX8_sheet 24 = .ok (.ireturn, 1) := by decide +kernel
theorem dX8_sheet_25 : decode cX8_sheet 25 = .ok (.iload_n 2, 1) := by decide +kernel
theorem dX8_sheet_26 : decode cX8_sheet 26 = .ok (.iconst (-1), 1) := by decide +kernel
theorem dX8_sheet_27 : decode cX8_sheet 27 = .ok (.if_icmp .ne 10, 3) := by decide +kernel
theorem dX8_sheet_30 : decode cX8_sheet 30 = .ok (.aload 4, 2) := by decide +kernel
theorem dX8_sheet_32 : decode cX8_sheet 32 = .ok (.invokevirtual 352, 3) := by decide +kernel
theorem dX8_sheet_35 : decode cX8_sheet 35 = .ok (.iconst 1, 1) := by decide +kernel
theorem dX8_sheet_36 : decode cX8_sheet 36 = .ok (.ireturn, 1) := by decide +kernel
theorem dX8_sheet_37 : decode cX8_sheet 37 = .ok (.iload_n 3, 1) := by decide +kernel
theorem dX8_sheet_38 : decode cX8_sheet 38 = .ok (.bipush 40, 2) := by decide +kernel
theorem dX8_sheet_40 : decode cX8_sheet 40 = .ok (.if_icmp .le 6, 3) := by decide +kernel
theorem dX8_sheet_43 : decode cX8_sheet 43 = .ok (.bipush (-2), 2) := by decide +kernel
theorem dX8_sheet_45 : decode cX8_sheet 45 = .ok (.ireturn, 1) := by decide +kernel
theorem dX8_sheet_46 : decode cX8_sheet 46 = .ok (.iload_n 3, 1) := by decide +kernel
theorem dX8_sheet_47 : decode cX8_sheet 47 = .ok (.ifCond .ge 6, 3) := by decide +kernel
theorem dX8_sheet_50 : decode cX8_sheet 50 = .ok (.bipush (-14), 2) := by decide +kernel
theorem dX8_sheet_52 : decode cX8_sheet 52 = .ok (.ireturn, 1) := by decide +kernel
theorem dX8_sheet_53 : decode cX8_sheet 53 = .ok (.aload 4, 2) := by decide +kernel
theorem dX8_sheet_55 : decode cX8_sheet 55 = .ok (.iload_n 2, 1) := by decide +kernel
theorem dX8_sheet_56 : decode cX8_sheet 56 = .ok (.iload_n 3, 1) := by decide +kernel
theorem dX8_sheet_57 : decode cX8_sheet 57 = .ok (.invokevirtual 355, 3) := by decide +kernel
theorem dX8_sheet_60 : decode cX8_sheet 60 = .ok (.iconst 1, 1) := by decide +kernel
theorem dX8_sheet_61 : decode cX8_sheet 61 = .ok (.ireturn, 1) := by decide +kernel
theorem dX8_cell_0 : decode cX8_cell 0 = .ok (.aload_n 0, 1) := by decide +kernel
theorem dX8_cell_1 : decode cX8_cell 1 = .ok (.iload_n 1, 1) := by decide +kernel
theorem dX8_cell_2 : decode cX8_cell 2 = .ok (.invokevirtual 192, 3) := by decide +kernel
theorem dX8_cell_5 : decode cX8_cell 5 = .ok (.astore 4, 2) := by decide +kernel
theorem dX8_cell_7 : decode cX8_cell 7 = .ok (.aload 4, 2) := by decide +kernel
theorem dX8_cell_9 : decode cX8_cell 9 = .ok (.ifnonnull 6, 3) := by decide +kernel
theorem dX8_cell_12 : decode cX8_cell 12 = .ok (.bipush (-2), 2) := by decide +kernel
theorem dX8_cell_14 : decode cX8_cell 14 = .ok (.ireturn, 1) := by decide +kernel
theorem dX8_cell_15 : decode cX8_cell 15 = .ok (.aload 4, 2) := by decide +kernel
theorem dX8_cell_17 : decode cX8_cell 17 = .ok (.invokevirtual 281, 3) := by decide +kernel
theorem dX8_cell_20 : decode cX8_cell 20 = .ok (.ifCond .eq 6, 3) := by decide +kernel
theorem dX8_cell_23 : decode cX8_cell 23 = .ok (.bipush (-11), 2) := by decide +kernel
theorem dX8_cell_25 : decode cX8_cell 25 = .ok (.ireturn, 1) := by decide +kernel
theorem dX8_cell_26 : decode cX8_cell 26 = .ok (.iload_n 2, 1) := by decide +kernel
theorem dX8_cell_27 : decode cX8_cell 27 = .ok (.aload 4, 2) := by decide +kernel
theorem dX8_cell_29 : decode cX8_cell 29 = .ok (.getfield 196, 3) := by decide +kernel
theorem dX8_cell_32 : decode cX8_cell 32 = .ok (.invokestatic 116, 3) := by decide +kernel
theorem dX8_cell_35 : decode cX8_cell 35 = .ok (.ifCond .ne 6, 3) := by decide +kernel
theorem dX8_cell_38 : decode cX8_cell 38 = .ok (.bipush (-12), 2) := by decide +kernel
theorem dX8_cell_40 : decode cX8_cell 40 = .ok (.ireturn, 1) := by decide +kernel
theorem dX8_cell_41 : decode cX8_cell 41 = .ok (.aload 4, 2) := by decide +kernel
theorem dX8_cell_43 : decode cX8_cell 43 = .ok (.iload_n 2, 1) := by decide +kernel
theorem dX8_cell_44 : decode cX8_cell 44 = .ok (.iload_n 3, 1) := by decide +kernel
theorem dX8_cell_45 : decode cX8_cell 45 = .ok (.invokevirtual 358, 3) := by decide +kernel
theorem dX8_cell_48 : decode cX8_cell 48 = .ok (.iconst 1, 1) := by decide +kernel
theorem dX8_cell_49 : decode cX8_cell 49 = .ok (.ireturn, 1) := by decide +kernel
theorem dX8_copy_0 : decode cX8_copy 0 = .ok (.aload_n 0, 1) := by decide +kernel
theorem dX8_copy_1 : decode cX8_copy 1 = .ok (.iload_n 1, 1) := by decide +kernel
theorem dX8_copy_2 : decode cX8_copy 2 = .ok (.invokevirtual 192, 3) := by decide +kernel
theorem dX8_copy_5 : decode cX8_copy 5 = .ok (.astore 6, 2) := by decide +kernel
theorem dX8_copy_7 : decode cX8_copy 7 = .ok (.aload_n 0, 1) := by decide +kernel
theorem dX8_copy_8 : decode cX8_copy 8 = .ok (.iload_n 3, 1) := by decide +kernel
theorem dX8_copy_9 : decode cX8_copy 9 = .ok (.invokevirtual 192, 3) := by decide +kernel
theorem dX8_copy_12 : decode cX8_copy 12 = .ok (.astore 7, 2) := by decide +kernel
theorem dX8_copy_14 : decode cX8_copy 14 = .ok (.aload 6, 2) := by decide +kernel
theorem dX8_copy_16 : decode cX8_copy 16 = .ok (.ifnull 8, 3) := by decide +kernel
theorem dX8_copy_19 : decode cX8_copy 19 = .ok (.aload 7, 2) := by decide +kernel
theorem dX8_copy_21 : decode cX8_copy 21 = .ok (.ifnonnull 6, 3) := by decide +kernel
theorem dX8_copy_24 : decode cX8_copy 24 = .ok (.bipush (-2), 2) := by decide +kernel
theorem dX8_copy_26 : decode cX8_copy 26 = .ok (.ireturn, 1) := by decide +kernel
theorem dX8_copy_27 : decode cX8_copy 27 = .ok (.aload 6, 2) := by decide +kernel
theorem dX8_copy_29 : decode cX8_copy 29 = .ok (.invokevirtual 281, 3) := by decide +kernel
theorem dX8_copy_32 : decode cX8_copy 32 = .ok (.ifCond .ne 11, 3) := by decide +kernel
theorem dX8_copy_35 : decode cX8_copy 35 = .ok (.aload 7, 2) := by decide +kernel
theorem dX8_copy_37 : decode cX8_copy 37 = .ok (.invokevirtual 281, 3) := by decide +kernel
theorem dX8_copy_40 : decode cX8_copy 40 = .ok (.ifCond .eq 6, 3) := by decide +kernel
theorem dX8_copy_43 : decode cX8_copy 43 = .ok (.bipush (-11), 2) := by decide +kernel
theorem dX8_copy_45 : decode cX8_copy 45 = .ok (.ireturn, 1) := by decide +kernel
theorem dX8_copy_46 : decode cX8_copy 46 = .ok (.aload 6, 2) := by decide +kernel
theorem dX8_copy_48 : decode cX8_copy 48 = .ok (.getfield 359, 3) := by decide +kernel
theorem dX8_copy_51 : decode cX8_copy 51 = .ok (.aload 7, 2) := by decide +kernel
theorem dX8_copy_53 : decode cX8_copy 53 = .ok (.getfield 359, 3) := by decide +kernel
theorem dX8_copy_56 : decode cX8_copy 56 = .ok (.if_icmp .eq 6, 3) := by decide +kernel
theorem dX8_copy_59 : decode cX8_copy 59 = .ok (.bipush (-13), 2) := by decide +kernel
theorem dX8_copy_61 : decode cX8_copy 61 = .ok (.ireturn, 1) := by decide +kernel
theorem dX8_copy_62 : decode cX8_copy 62 = .ok (.aload 6, 2) := by decide +kernel
theorem dX8_copy_64 : decode cX8_copy 64 = .ok (.iload_n 2, 1) := by decide +kernel
theorem dX8_copy_65 : decode cX8_copy 65 = .ok (.iload 5, 2) := by decide +kernel
theorem dX8_copy_67 : decode cX8_copy 67 = .ok (.invokevirtual 362, 3) := by decide +kernel
theorem dX8_copy_70 : decode cX8_copy 70 = .ok (.ifCond .eq 15, 3) := by decide +kernel
theorem dX8_copy_73 : decode cX8_copy 73 = .ok (.aload 7, 2) := by decide +kernel
theorem dX8_copy_75 : decode cX8_copy 75 = .ok (.iload 4, 2) := by decide +kernel
theorem dX8_copy_77 : decode cX8_copy 77 = .ok (.iload 5, 2) := by decide +kernel
theorem dX8_copy_79 : decode cX8_copy 79 = .ok (.invokevirtual 362, 3) := by decide +kernel
theorem dX8_copy_82 : decode cX8_copy 82 = .ok (.ifCond .ne 6, 3) := by decide +kernel
theorem dX8_copy_85 : decode cX8_copy 85 = .ok (.bipush (-12), 2) := by decide +kernel
theorem dX8_copy_87 : decode cX8_copy 87 = .ok (.ireturn, 1) := by decide +kernel
theorem dX8_copy_88 : decode cX8_copy 88 = .ok (.aload 6, 2) := by decide +kernel
theorem dX8_copy_90 : decode cX8_copy 90 = .ok (.getfield 365, 3) := by decide +kernel
theorem dX8_copy_93 : decode cX8_copy 93 = .ok (.iload_n 2, 1) := by decide +kernel
theorem dX8_copy_94 : decode cX8_copy 94 = .ok (.aload 7, 2) := by decide +kernel
theorem dX8_copy_96 : decode cX8_copy 96 = .ok (.getfield 365, 3) := by decide +kernel
theorem dX8_copy_99 : decode cX8_copy 99 = .ok (.iload 4, 2) := by decide +kernel
theorem dX8_copy_101 : decode cX8_copy 101 = .ok (.iload 5, 2) := by decide +kernel
theorem dX8_copy_103 : decode cX8_copy 103 = .ok (.invokestatic 369, 3) := by decide +kernel
theorem dX8_copy_106 : decode cX8_copy 106 = .ok (.iload 5, 2) := by decide +kernel
theorem dX8_copy_108 : decode cX8_copy 108 = .ok (.ireturn, 1) := by decide +kernel
theorem dX8_carpets_0 : decode cX8_carpets 0 = .ok (.aload_n 0, 1) := by decide +kernel
theorem dX8_carpets_1 : decode cX8_carpets 1 = .ok (.iload_n 1, 1) := by decide +kernel
theorem dX8_carpets_2 : decode cX8_carpets 2 = .ok (.invokevirtual 192, 3) := by decide +kernel
theorem dX8_carpets_5 : decode cX8_carpets 5 = .ok (.astore 5, 2) := by decide +kernel
theorem dX8_carpets_7 : decode cX8_carpets 7 = .ok (.aload 5, 2) := by decide +kernel
theorem dX8_carpets_9 : decode cX8_carpets 9 = .ok (.ifnull 20, 3) := by decide +kernel
theorem dX8_carpets_12 : decode cX8_carpets 12 = .ok (.iload_n 2, 1) := by decide +kernel
theorem dX8_carpets_13 : decode cX8_carpets 13 = .ok (.iconst 3, 1) := by decide +kernel
theorem dX8_carpets_14 : decode cX8_carpets 14 = .ok (.invokestatic 116, 3) := by decide +kernel
theorem dX8_carpets_17 : decode cX8_carpets 17 = .ok (.ifCond .eq 12, 3) := by decide +kernel
theorem dX8_carpets_20 : decode cX8_carpets 20 = .ok (.iload 4, 2) := by decide +kernel
theorem dX8_carpets_22 : decode cX8_carpets 22 = .ok (.iconst 5, 1) := by decide +kernel
theorem dX8_carpets_23 : decode cX8_carpets 23 = .ok (.invokestatic 116, 3) := by decide +kernel
theorem dX8_carpets_26 : decode cX8_carpets 26 = .ok (.ifCond .ne 6, 3) := by decide +kernel
theorem dX8_carpets_29 : decode cX8_carpets 29 = .ok (.bipush (-2), 2) := by decide +kernel
theorem dX8_carpets_31 : decode cX8_carpets 31 = .ok (.ireturn, 1) := by decide +kernel
theorem dX8_carpets_32 : decode cX8_carpets 32 = .ok (.aload 5, 2) := by decide +kernel
theorem dX8_carpets_34 : decode cX8_carpets 34 = .ok (.invokevirtual 281, 3) := by decide +kernel
theorem dX8_carpets_37 : decode cX8_carpets 37 = .ok (.ifCond .ne 15, 3) := by decide +kernel
theorem dX8_carpets_40 : decode cX8_carpets 40 = .ok (.aload 5, 2) := by decide +kernel
theorem dX8_carpets_42 : decode cX8_carpets 42 = .ok (.getfield 359, 3) := by decide +kernel
theorem dX8_carpets_45 : decode cX8_carpets 45 = .ok (.iload_n 2, 1) := by decide +kernel
theorem dX8_carpets_46 : decode cX8_carpets 46 = .ok (.if_icmp .eq 6, 3) := by decide +kernel
theorem dX8_carpets_49 : decode cX8_carpets 49 = .ok (.bipush (-13), 2) := by decide +kernel
theorem dX8_carpets_51 : decode cX8_carpets 51 = .ok (.ireturn, 1) := by decide +kernel
theorem dX8_carpets_52 : decode cX8_carpets 52 = .ok (.aload 5, 2) := by decide +kernel
theorem dX8_carpets_54 : decode cX8_carpets 54 = .ok (.invokevirtual 281, 3) := by decide +kernel
theorem dX8_carpets_57 : decode cX8_carpets 57 = .ok (.ifCond .eq 6, 3) := by decide +kernel
theorem dX8_carpets_60 : decode cX8_carpets 60 = .ok (.bipush (-11), 2) := by decide +kernel
theorem dX8_carpets_62 : decode cX8_carpets 62 = .ok (.ireturn, 1) := by decide +kernel
theorem dX8_carpets_63 : decode cX8_carpets 63 = .ok (.iconst 0, 1) := by decide +kernel
theorem dX8_carpets_64 : decode cX8_carpets 64 = .ok (.istore 6, 2) := by decide +kernel
theorem dX8_carpets_66 : decode cX8_carpets 66 = .ok (.iconst 0, 1) := by decide +kernel
theorem dX8_carpets_67 : decode cX8_carpets 67 = .ok (.istore 7, 2) := by decide +kernel
theorem dX8_carpets_69 : decode cX8_carpets 69 = .ok (.iload 7, 2) := by decide +kernel
theorem dX8_carpets_71 : decode cX8_carpets 71 = .ok (.iload 4, 2) := by decide +kernel
theorem dX8_carpets_73 : decode cX8_carpets 73 = .ok (.if_icmp .ge 73, 3) := by decide +kernel
theorem dX8_carpets_76 : decode cX8_carpets 76 = .ok (.iload_n 3, 1) := by decide +kernel
theorem dX8_carpets_77 : decode cX8_carpets 77 = .ok (.iconst 3, 1) := by decide +kernel
theorem dX8_carpets_78 : decode cX8_carpets 78 = .ok (.iload 7, 2) := by decide +kernel
theorem dX8_carpets_80 : decode cX8_carpets 80 = .ok (.imul, 1) := by decide +kernel
theorem dX8_carpets_81 : decode cX8_carpets 81 = .ok (.iadd, 1) := by decide +kernel
theorem dX8_carpets_82 : decode cX8_carpets 82 = .ok (.istore 8, 2) := by decide +kernel
theorem dX8_carpets_84 : decode cX8_carpets 84 = .ok (.aload 5, 2) := by decide +kernel
theorem dX8_carpets_86 : decode cX8_carpets 86 = .ok (.iload 8, 2) := by decide +kernel
theorem dX8_carpets_88 : decode cX8_carpets 88 = .ok (.iconst 3, 1) := by decide +kernel
theorem dX8_carpets_89 : decode cX8_carpets 89 = .ok (.invokevirtual 362, 3) := by decide +kernel
theorem dX8_carpets_92 : decode cX8_carpets 92 = .ok (.ifCond .ne 6, 3) := by decide +kernel
theorem dX8_carpets_95 : decode cX8_carpets 95 = .ok (.bipush (-12), 2) := by decide +kernel
theorem dX8_carpets_97 : decode cX8_carpets 97 = .ok (.ireturn, 1) := by decide +kernel
theorem dX8_carpets_98 : decode cX8_carpets 98 = .ok (.iload 6, 2) := by decide +kernel
theorem dX8_carpets_100 : decode cX8_carpets 100 = .ok (.aload_n 0, 1) := by decide +kernel
theorem dX8_carpets_101 : decode cX8_carpets 101 = .ok (.aload 5, 2) := by decide +kernel
theorem dX8_carpets_103 : decode cX8_carpets 103 = .ok (.iload 8, 2) := by decide +kernel
theorem dX8_carpets_105 : decode cX8_carpets 105 = .ok (.invokevirtual 199, 3) := by decide +kernel
theorem dX8_carpets_108 : decode cX8_carpets 108 = .ok (.aload 5, 2) := by decide +kernel
theorem dX8_carpets_110 : decode cX8_carpets 110 = .ok (.iload 8, 2) := by decide +kernel
theorem dX8_carpets_112 : decode cX8_carpets 112 = .ok (.iconst 1, 1) := by decide +kernel
theorem dX8_carpets_113 : decode cX8_carpets 113 = .ok (.iadd, 1) := by decide +kernel
theorem dX8_carpets_114 : decode cX8_carpets 114 = .ok (.invokevirtual 199, 3) := by decide +kernel
theorem dX8_carpets_117 : decode cX8_carpets 117 = .ok (.aload 5, 2) := by decide +kernel
theorem dX8_carpets_119 : decode cX8_carpets 119 = .ok (.iload 8, 2) := by decide +kernel
theorem dX8_carpets_121 : decode cX8_carpets 121 = .ok (.iconst 2, 1) := by decide +kernel
theorem dX8_carpets_122 : decode cX8_carpets 122 = .ok (.iadd, 1) := by decide +kernel
theorem dX8_carpets_123 : decode cX8_carpets 123 = .ok (.invokevirtual 199, 3) := by decide +kernel
theorem dX8_carpets_126 : decode cX8_carpets 126 = .ok (.invokevirtual 144, 3) := by decide +kernel
theorem dX8_carpets_129 : decode cX8_carpets 129 = .ok (.ifCond .lt 7, 3) := by decide +kernel
theorem dX8_carpets_132 : decode cX8_carpets 132 = .ok (.iconst 1, 1) := by decide +kernel
theorem dX8_carpets_133 : decode cX8_carpets 133 = .ok (.goto 4, 3) := by decide +kernel
theorem dX8_carpets_136 : decode cX8_carpets 136 = .ok (.iconst 0, 1) := by decide +kernel
theorem dX8_carpets_137 : decode cX8_carpets 137 = .ok (.iadd, 1) := by decide +kernel
theorem dX8_carpets_138 : decode cX8_carpets 138 = .ok (.istore 6, 2) := by decide +kernel
theorem dX8_carpets_140 : decode cX8_carpets 140 = .ok (.iinc 7 1, 3) := by decide +kernel
theorem dX8_carpets_143 : decode cX8_carpets 143 = .ok (.goto (-74), 3) := by decide +kernel
theorem dX8_carpets_146 : decode cX8_carpets 146 = .ok (.iload 6, 2) := by decide +kernel
theorem dX8_carpets_148 : decode cX8_carpets 148 = .ok (.ireturn, 1) := by decide +kernel
theorem dX8_taken_0 : decode cX8_taken 0 = .ok (.iload_n 2, 1) := by decide +kernel
theorem dX8_taken_1 : decode cX8_taken 1 = .ok (.bipush 6, 2) := by decide +kernel
theorem dX8_taken_3 : decode cX8_taken 3 = .ok (.invokestatic 116, 3) := by decide +kernel
theorem dX8_taken_6 : decode cX8_taken 6 = .ok (.ifCond .ne 6, 3) := by decide +kernel
theorem dX8_taken_9 : decode cX8_taken 9 = .ok (.bipush (-2), 2) := by decide +kernel
theorem dX8_taken_11 : decode cX8_taken 11 = .ok (.ireturn, 1) := by decide +kernel
theorem dX8_taken_12 : decode cX8_taken 12 = .ok (.aload_n 0, 1) := by decide +kernel
theorem dX8_taken_13 : decode cX8_taken 13 = .ok (.getfield 12, 3) := by decide +kernel
theorem dX8_taken_16 : decode cX8_taken 16 = .ok (.iload_n 1, 1) := by decide +kernel
theorem dX8_taken_17 : decode cX8_taken 17 = .ok (.invokevirtual 130, 3) := by decide +kernel
theorem dX8_taken_20 : decode cX8_taken 20 = .ok (.astore_n 3, 1) := by decide +kernel
theorem dX8_taken_21 : decode cX8_taken 21 = .ok (.aload_n 3, 1) := by decide +kernel
theorem dX8_taken_22 : decode cX8_taken 22 = .ok (.ifnonnull 6, 3) := by decide +kernel
theorem dX8_taken_25 : decode cX8_taken 25 = .ok (.bipush (-11), 2) := by decide +kernel
theorem dX8_taken_27 : decode cX8_taken 27 = .ok (.ireturn, 1) := by decide +kernel
theorem dX8_taken_28 : decode cX8_taken 28 = .ok (.aload_n 3, 1) := by decide +kernel
theorem dX8_taken_29 : decode cX8_taken 29 = .ok (.getfield 375, 3) := by decide +kernel
theorem dX8_taken_32 : decode cX8_taken 32 = .ok (.iload_n 2, 1) := by decide +kernel
theorem dX8_taken_33 : decode cX8_taken 33 = .ok (.invokestatic 378, 3) := by decide +kernel
theorem dX8_taken_36 : decode cX8_taken 36 = .ok (.ifCond .eq 10, 3) := by decide +kernel
theorem dX8_taken_39 : decode cX8_taken 39 = .ok (.aload_n 3, 1) := by decide +kernel
theorem dX8_taken_40 : decode cX8_taken 40 = .ok (.getfield 381, 3) := by decide +kernel
theorem dX8_taken_43 : decode cX8_taken 43 = .ok (.goto 5, 3) := by decide +kernel
theorem dX8_taken_46 : decode cX8_taken 46 = .ok (.bipush (-13), 2) := by decide +kernel
theorem dX8_taken_48 : decode cX8_taken 48 = .ok (.ireturn, 1) := by decide +kernel
theorem dX8_isUnder_0 : decode cX8_isUnder 0 = .ok (.iload_n 0, 1) := by decide +kernel
theorem dX8_isUnder_1 : decode cX8_isUnder 1 = .ok (.istore_n 2, 1) := by decide +kernel
theorem dX8_isUnder_2 : decode cX8_isUnder 2 = .ok (.iconst 0, 1) := by decide +kernel
theorem dX8_isUnder_3 : decode cX8_isUnder 3 = .ok (.istore_n 3, 1) := by decide +kernel
theorem dX8_isUnder_4 : decode cX8_isUnder 4 = .ok (.iload_n 3, 1) := by decide +kernel
theorem dX8_isUnder_5 : decode cX8_isUnder 5 = .ok (.bipush 6, 2) := by decide +kernel
theorem dX8_isUnder_7 : decode cX8_isUnder 7 = .ok (.if_icmp .ge 31, 3) := by decide +kernel
theorem dX8_isUnder_10 : decode cX8_isUnder 10 = .ok (.iload_n 2, 1) := by decide +kernel
theorem dX8_isUnder_11 : decode cX8_isUnder 11 = .ok (.iload_n 1, 1) := by decide +kernel
theorem dX8_isUnder_12 : decode cX8_isUnder 12 = .ok (.if_icmp .eq 26, 3) := by decide +kernel
theorem dX8_isUnder_15 : decode cX8_isUnder 15 = .ok (.iload_n 2, 1) := by decide +kernel
theorem dX8_isUnder_16 : decode cX8_isUnder 16 = .ok (.getstatic 384, 3) := by decide +kernel
theorem dX8_isUnder_19 : decode cX8_isUnder 19 = .ok (.arraylength, 1) := by decide +kernel
theorem dX8_isUnder_20 : decode cX8_isUnder 20 = .ok (.invokestatic 116, 3) := by decide +kernel
theorem dX8_isUnder_23 : decode cX8_isUnder 23 = .ok (.ifCond .eq 15, 3) := by decide +kernel
theorem dX8_isUnder_26 : decode cX8_isUnder 26 = .ok (.getstatic 384, 3) := by decide +kernel
theorem dX8_isUnder_29 : decode cX8_isUnder 29 = .ok (.iload_n 2, 1) := by decide +kernel
theorem dX8_isUnder_30 : decode cX8_isUnder 30 = .ok (.iaload, 1) := by decide +kernel
theorem dX8_isUnder_31 : decode cX8_isUnder 31 = .ok (.istore_n 2, 1) := by decide +kernel
theorem dX8_isUnder_32 : decode cX8_isUnder 32 = .ok (.iinc 3 1, 3) := by decide +kernel
theorem dX8_isUnder_35 : decode cX8_isUnder 35 = .ok (.goto (-31), 3) := by decide +kernel
theorem dX8_isUnder_38 : decode cX8_isUnder 38 = .ok (.iload_n 2, 1) := by decide +kernel
theorem dX8_isUnder_39 : decode cX8_isUnder 39 = .ok (.iload_n 1, 1) := by decide +kernel
theorem dX8_isUnder_40 : decode cX8_isUnder 40 = .ok (.if_icmp .ne 7, 3) := by decide +kernel
theorem dX8_isUnder_43 : decode cX8_isUnder 43 = .ok (.iconst 1, 1) := by decide +kernel
theorem dX8_isUnder_44 : decode cX8_isUnder 44 = .ok (.goto 4, 3) := by decide +kernel
theorem dX8_isUnder_47 : decode cX8_isUnder 47 = .ok (.iconst 0, 1) := by decide +kernel
theorem dX8_isUnder_48 : decode cX8_isUnder 48 = .ok (.ireturn, 1) := by decide +kernel
theorem dX8_sheetAt_0 : decode cX8_sheetAt 0 = .ok (.iload_n 1, 1) := by decide +kernel
theorem dX8_sheetAt_1 : decode cX8_sheetAt 1 = .ok (.aload_n 0, 1) := by decide +kernel
theorem dX8_sheetAt_2 : decode cX8_sheetAt 2 = .ok (.getfield 42, 3) := by decide +kernel
theorem dX8_sheetAt_5 : decode cX8_sheetAt 5 = .ok (.arraylength, 1) := by decide +kernel
theorem dX8_sheetAt_6 : decode cX8_sheetAt 6 = .ok (.invokestatic 116, 3) := by decide +kernel
theorem dX8_sheetAt_9 : decode cX8_sheetAt 9 = .ok (.ifCond .eq 12, 3) := by decide +kernel
theorem dX8_sheetAt_12 : decode cX8_sheetAt 12 = .ok (.aload_n 0, 1) := by decide +kernel
theorem dX8_sheetAt_13 : decode cX8_sheetAt 13 = .ok (.getfield 42, 3) := by decide +kernel
theorem dX8_sheetAt_16 : decode cX8_sheetAt 16 = .ok (.iload_n 1, 1) := by decide +kernel
theorem dX8_sheetAt_17 : decode cX8_sheetAt 17 = .ok (.aaload, 1) := by decide +kernel
theorem dX8_sheetAt_18 : decode cX8_sheetAt 18 = .ok (.goto 4, 3) := by decide +kernel
theorem dX8_sheetAt_21 : decode cX8_sheetAt 21 = .ok (.aconst_null, 1) := by decide +kernel
theorem dX8_sheetAt_22 : decode cX8_sheetAt 22 = .ok (.areturn, 1) := by decide +kernel
theorem dX8_think_0 : decode cX8_think 0 = .ok (.aload_n 0, 1) := by decide +kernel
theorem dX8_think_1 : decode cX8_think 1 = .ok (.getfield 49, 3) := by decide +kernel
theorem dX8_think_4 : decode cX8_think 4 = .ok (.aload_n 1, 1) := by decide +kernel
theorem dX8_think_5 : decode cX8_think 5 = .ok (.aload_n 0, 1) := by decide +kernel
theorem dX8_think_6 : decode cX8_think 6 = .ok (.getfield 12, 3) := by decide +kernel
theorem dX8_think_9 : decode cX8_think 9 = .ok (.getfield 338, 3) := by decide +kernel
theorem dX8_think_12 : decode cX8_think 12 = .ok (.aload_n 0, 1) := by decide +kernel
theorem dX8_think_13 : decode cX8_think 13 = .ok (.getfield 12, 3) := by decide +kernel
theorem dX8_think_16 : decode cX8_think 16 = .ok (.getfield 120, 3) := by decide +kernel
theorem dX8_think_19 : decode cX8_think 19 = .ok (.invokevirtual 387, 3) := by decide +kernel
theorem dX8_think_22 : decode cX8_think 22 = .ok (.aload_n 0, 1) := by decide +kernel
theorem dX8_think_23 : decode cX8_think 23 = .ok (.getfield 49, 3) := by decide +kernel
theorem dX8_think_26 : decode cX8_think 26 = .ok (.aload_n 0, 1) := by decide +kernel
theorem dX8_think_27 : decode cX8_think 27 = .ok (.aload_n 0, 1) := by decide +kernel
theorem dX8_think_28 : decode cX8_think 28 = .ok (.getfield 12, 3) := by decide +kernel
theorem dX8_think_31 : decode cX8_think 31 = .ok (.getfield 178, 3) := by decide +kernel
theorem dX8_think_34 : decode cX8_think 34 = .ok (.invokevirtual 305, 3) := by decide +kernel
theorem dX8_think_37 : decode cX8_think 37 = .ok (.invokevirtual 309, 3) := by decide +kernel
theorem dX8_think_40 : decode cX8_think 40 = .ok (.return_, 1) := by decide +kernel
theorem dX8_isBelow_0 : decode cX8_isBelow 0 = .ok (.iload_n 0, 1) := by decide +kernel
theorem dX8_isBelow_1 : decode cX8_isBelow 1 = .ok (.ifCond .lt 12, 3) := by decide +kernel
theorem dX8_isBelow_4 : decode cX8_isBelow 4 = .ok (.iload_n 0, 1) := by decide +kernel
theorem dX8_isBelow_5 : decode cX8_isBelow 5 = .ok (.iload_n 1, 1) := by decide +kernel
theorem dX8_isBelow_6 : decode cX8_isBelow 6 = .ok (.if_icmp .ge 7, 3) := by decide +kernel
theorem dX8_isBelow_9 : decode cX8_isBelow 9 = .ok (.iconst 1, 1) := by decide +kernel
theorem dX8_isBelow_10 : decode cX8_isBelow 10 = .ok (.goto 4, 3) := by decide +kernel
theorem dX8_isBelow_13 : decode cX8_isBelow 13 = .ok (.iconst 0, 1) := by decide +kernel
theorem dX8_isBelow_14 : decode cX8_isBelow 14 = .ok (.ireturn, 1) := by decide +kernel
theorem dX8_bounded_0 : decode cX8_bounded 0 = .ok (.iload_n 0, 1) := by decide +kernel
theorem dX8_bounded_1 : decode cX8_bounded 1 = .ok (.iload_n 1, 1) := by decide +kernel
theorem dX8_bounded_2 : decode cX8_bounded 2 = .ok (.if_icmp .ge 7, 3) := by decide +kernel
theorem dX8_bounded_5 : decode cX8_bounded 5 = .ok (.iload_n 1, 1) := by decide +kernel
theorem dX8_bounded_6 : decode cX8_bounded 6 = .ok (.goto 13, 3) := by decide +kernel
theorem dX8_bounded_9 : decode cX8_bounded 9 = .ok (.iload_n 0, 1) := by decide +kernel
theorem dX8_bounded_10 : decode cX8_bounded 10 = .ok (.iload_n 2, 1) := by decide +kernel
theorem dX8_bounded_11 : decode cX8_bounded 11 = .ok (.if_icmp .le 7, 3) := by decide +kernel
theorem dX8_bounded_14 : decode cX8_bounded 14 = .ok (.iload_n 2, 1) := by decide +kernel
theorem dX8_bounded_15 : decode cX8_bounded 15 = .ok (.goto 4, 3) := by decide +kernel
theorem dX8_bounded_18 : decode cX8_bounded 18 = .ok (.iload_n 0, 1) := by decide +kernel
theorem dX8_bounded_19 : decode cX8_bounded 19 = .ok (.ireturn, 1) := by decide +kernel
theorem dX9_in_0 : decode cX9_in 0 = .ok (.lload_n 0, 1) := by decide +kernel
theorem dX9_in_1 : decode cX9_in 1 = .ok (.lload_n 2, 1) := by decide +kernel
theorem dX9_in_2 : decode cX9_in 2 = .ok (.lcmp, 1) := by decide +kernel
theorem dX9_in_3 : decode cX9_in 3 = .ok (.ifCond .lt 14, 3) := by decide +kernel
theorem dX9_in_6 : decode cX9_in 6 = .ok (.lload_n 0, 1) := by decide +kernel
theorem dX9_in_7 : decode cX9_in 7 = .ok (.lload 4, 2) := by decide +kernel
theorem dX9_in_9 : decode cX9_in 9 = .ok (.lcmp, 1) := by decide +kernel
theorem dX9_in_10 : decode cX9_in 10 = .ok (.ifCond .gt 7, 3) := by decide +kernel
theorem dX9_in_13 : decode cX9_in 13 = .ok (.iconst 1, 1) := by decide +kernel
theorem dX9_in_14 : decode cX9_in 14 = .ok (.goto 4, 3) := by decide +kernel
theorem dX9_in_17 : decode cX9_in 17 = .ok (.iconst 0, 1) := by decide +kernel
theorem dX9_in_18 : decode cX9_in 18 = .ok (.ireturn, 1) := by decide +kernel
theorem dX9_within_0 : decode cX9_within 0 = .ok (.iload_n 0, 1) := by decide +kernel
theorem dX9_within_1 : decode cX9_within 1 = .ok (.iload_n 1, 1) := by decide +kernel
theorem dX9_within_2 : decode cX9_within 2 = .ok (.if_icmp .ge 7, 3) := by decide +kernel
theorem dX9_within_5 : decode cX9_within 5 = .ok (.iload_n 1, 1) := by decide +kernel
theorem dX9_within_6 : decode cX9_within 6 = .ok (.goto 13, 3) := by decide +kernel
theorem dX9_within_9 : decode cX9_within 9 = .ok (.iload_n 0, 1) := by decide +kernel
theorem dX9_within_10 : decode cX9_within 10 = .ok (.iload_n 2, 1) := by decide +kernel
theorem dX9_within_11 : decode cX9_within 11 = .ok (.if_icmp .le 7, 3) := by decide +kernel
theorem dX9_within_14 : decode cX9_within 14 = .ok (.iload_n 2, 1) := by decide +kernel
theorem dX9_within_15 : decode cX9_within 15 = .ok (.goto 4, 3) := by decide +kernel
theorem dX9_within_18 : decode cX9_within 18 = .ok (.iload_n 0, 1) := by decide +kernel
theorem dX9_within_19 : decode cX9_within 19 = .ok (.ireturn, 1) := by decide +kernel
theorem dX9_init_0 : decode cX9_init 0 = .ok (.aload_n 0, 1) := by decide +kernel
theorem dX9_init_1 : decode cX9_init 1 = .ok (.invokespecial 7, 3) := by decide +kernel
theorem dX9_init_4 : decode cX9_init 4 = .ok (.aload_n 0, 1) := by decide +kernel
theorem dX9_init_5 : decode cX9_init 5 = .ok (.sipush 960, 3) := by decide +kernel
theorem dX9_init_8 : decode cX9_init 8 = .ok (.newarray .int, 2) := by decide +kernel
theorem dX9_init_10 : decode cX9_init 10 = .ok (.putfield 13, 3) := by decide +kernel
theorem dX9_init_13 : decode cX9_init 13 = .ok (.aload_n 0, 1) := by decide +kernel
theorem dX9_init_14 : decode cX9_init 14 = .ok (.bipush 6, 2) := by decide +kernel
theorem dX9_init_16 : decode cX9_init 16 = .ok (.newarray .int, 2) := by decide +kernel
theorem dX9_init_18 : decode cX9_init 18 = .ok (.putfield 17, 3) := by decide +kernel
theorem dX9_init_21 : decode cX9_init 21 = .ok (.aload_n 0, 1) := by decide +kernel
theorem dX9_init_22 : decode cX9_init 22 = .ok (.sipush 160, 3) := by decide +kernel
theorem dX9_init_25 : decode cX9_init 25 = .ok (.newarray .int, 2) := by decide +kernel
theorem dX9_init_27 : decode cX9_init 27 = .ok (.putfield 20, 3) := by decide +kernel
theorem dX9_init_30 : decode cX9_init 30 = .ok (.aload_n 0, 1) := by decide +kernel
theorem dX9_init_31 : decode cX9_init 31 = .ok (.bipush 36, 2) := by decide +kernel
theorem dX9_init_33 : decode cX9_init 33 = .ok (.newarray .int, 2) := by decide +kernel
theorem dX9_init_35 : decode cX9_init 35 = .ok (.putfield 23, 3) := by decide +kernel
theorem dX9_init_38 : decode cX9_init 38 = .ok (.aload_n 0, 1) := by decide +kernel
theorem dX9_init_39 : decode cX9_init 39 = .ok (.iconst 4, 1) := by decide +kernel
theorem dX9_init_40 : decode cX9_init 40 = .ok (.newarray .int, 2) := by decide +kernel
theorem dX9_init_42 : decode cX9_init 42 = .ok (.putfield 26, 3) := by decide +kernel
theorem dX9_init_45 : decode cX9_init 45 = .ok (.aload_n 0, 1) := by decide +kernel
theorem dX9_init_46 : decode cX9_init 46 = .ok (.bipush 12, 2) := by decide +kernel
theorem dX9_init_48 : decode cX9_init 48 = .ok (.newarray .int, 2) := by decide +kernel
theorem dX9_init_50 : decode cX9_init 50 = .ok (.putfield 29, 3) := by decide +kernel
theorem dX9_init_53 : decode cX9_init 53 = .ok (.aload_n 0, 1) := by decide +kernel
theorem dX9_init_54 : decode cX9_init 54 = .ok (.sipush 288, 3) := by decide +kernel
theorem dX9_init_57 : decode cX9_init 57 = .ok (.newarray .int, 2) := by decide +kernel
theorem dX9_init_59 : decode cX9_init 59 = .ok (.putfield 32, 3) := by decide +kernel
theorem dX9_init_62 : decode cX9_init 62 = .ok (.aload_n 0, 1) := by decide +kernel
theorem dX9_init_63 : decode cX9_init 63 = .ok (.sipush 288, 3) := by decide +kernel
theorem dX9_init_66 : decode cX9_init 66 = .ok (.newarray .int, 2) := by decide +kernel
theorem dX9_init_68 : decode cX9_init 68 = .ok (.putfield 35, 3) := by decide +kernel
theorem dX9_init_71 : decode cX9_init 71 = .ok (.aload_n 0, 1) := by decide +kernel
theorem dX9_init_72 : decode cX9_init 72 = .ok (.bipush 36, 2) := by decide +kernel
theorem dX9_init_74 : decode cX9_init 74 = .ok (.newarray .int, 2) := by decide +kernel
theorem dX9_init_76 : decode cX9_init 76 = .ok (.putfield 38, 3) := by decide +kernel
theorem dX9_init_79 : decode cX9_init 79 = .ok (.aload_n 0, 1) := by decide +kernel
theorem dX9_init_80 : decode cX9_init 80 = .ok (.sipush 1296, 3) := by decide +kernel
theorem dX9_init_83 : decode cX9_init 83 = .ok (.newarray .int, 2) := by decide +kernel
theorem dX9_init_85 : decode cX9_init 85 = .ok (.putfield 41, 3) := by decide +kernel
theorem dX9_init_88 : decode cX9_init 88 = .ok (.aload_n 0, 1) := by decide +kernel
theorem dX9_init_89 : decode cX9_init 89 = .ok (.bipush 36, 2) := by decide +kernel
theorem dX9_init_91 : decode cX9_init 91 = .ok (.newarray .long, 2) := by decide +kernel
theorem dX9_init_93 : decode cX9_init 93 = .ok (.putfield 44, 3) := by decide +kernel
theorem dX9_init_96 : decode cX9_init 96 = .ok (.aload_n 0, 1) := by decide +kernel
theorem dX9_init_97 : decode cX9_init 97 = .ok (.bipush 36, 2) := by decide +kernel
theorem dX9_init_99 : decode cX9_init 99 = .ok (.newarray .long, 2) := by decide +kernel
theorem dX9_init_101 : decode cX9_init 101 = .ok (.putfield 48, 3) := by decide +kernel
theorem dX9_init_104 : decode cX9_init 104 = .ok (.aload_n 0, 1) := by decide +kernel
theorem dX9_init_105 : decode cX9_init 105 = .ok (.bipush 36, 2) := by decide +kernel
theorem dX9_init_107 : decode cX9_init 107 = .ok (.newarray .int, 2) := by decide +kernel
theorem dX9_init_109 : decode cX9_init 109 = .ok (.putfield 51, 3) := by decide +kernel
theorem dX9_init_112 : decode cX9_init 112 = .ok (.aload_n 0, 1) := by decide +kernel
theorem dX9_init_113 : decode cX9_init 113 = .ok (.bipush 12, 2) := by decide +kernel
theorem dX9_init_115 : decode cX9_init 115 = .ok (.newarray .int, 2) := by decide +kernel
theorem dX9_init_117 : decode cX9_init 117 = .ok (.putfield 54, 3) := by decide +kernel
theorem dX9_init_120 : decode cX9_init 120 = .ok (.aload_n 0, 1) := by decide +kernel
theorem dX9_init_121 : decode cX9_init 121 = .ok (.iconst (-1), 1) := by decide +kernel
theorem dX9_init_122 : decode cX9_init 122 = .ok (.putfield 57, 3) := by decide +kernel
theorem dX9_init_125 : decode cX9_init 125 = .ok (.aload_n 0, 1) := by decide +kernel
theorem dX9_init_126 : decode cX9_init 126 = .ok (.iconst 4, 1) := by decide +kernel
theorem dX9_init_127 : decode cX9_init 127 = .ok (.newarray .boolean, 2) := by decide +kernel
theorem dX9_init_129 : decode cX9_init 129 = .ok (.putfield 60, 3) := by decide +kernel
theorem dX9_init_132 : decode cX9_init 132 = .ok (.aload_n 0, 1) := by decide +kernel
theorem dX9_init_133 : decode cX9_init 133 = .ok (.iconst 4, 1) := by decide +kernel
theorem dX9_init_134 : decode cX9_init 134 = .ok (.newarray .int, 2) := by decide +kernel
theorem dX9_init_136 : decode cX9_init 136 = .ok (.putfield 64, 3) := by decide +kernel
theorem dX9_init_139 : decode cX9_init 139 = .ok (.aload_n 0, 1) := by decide +kernel
theorem dX9_init_140 : decode cX9_init 140 = .ok (.iconst 4, 1) := by decide +kernel
theorem dX9_init_141 : decode cX9_init 141 = .ok (.newarray .int, 2) := by decide +kernel
theorem dX9_init_143 : decode cX9_init 143 = .ok (.putfield 67, 3) := by decide +kernel
theorem dX9_init_146 : decode cX9_init 146 = .ok (.aload_n 0, 1) := by decide +kernel
theorem dX9_init_147 : decode cX9_init 147 = .ok (.sipush 160, 3) := by decide +kernel
theorem dX9_init_150 : decode cX9_init 150 = .ok (.newarray .int, 2) := by decide +kernel
theorem dX9_init_152 : decode cX9_init 152 = .ok (.putfield 70, 3) := by decide +kernel
theorem dX9_init_155 : decode cX9_init 155 = .ok (.aload_n 0, 1) := by decide +kernel
theorem dX9_init_156 : decode cX9_init 156 = .ok (.iconst 0, 1) := by decide +kernel
theorem dX9_init_157 : decode cX9_init 157 = .ok (.bipush 101, 2) := by decide +kernel
theorem dX9_init_159 : decode cX9_init 159 = .ok (.bipush 97, 2) := by decide +kernel
theorem dX9_init_161 : decode cX9_init 161 = .ok (.bipush 115, 2) := by decide +kernel
theorem dX9_init_163 : decode cX9_init 163 = .ok (.bipush 116, 2) := by decide +kernel
theorem dX9_init_165 : decode cX9_init 165 = .ok (.bipush 115, 2) := by decide +kernel
theorem dX9_init_167 : decode cX9_init 167 = .ok (.bipush 32, 2) := by decide +kernel
theorem dX9_init_169 : decode cX9_init 169 = .ok (.bipush 49, 2) := by decide +kernel
theorem dX9_init_171 : decode cX9_init 171 = .ok (.bipush 32, 2) := by decide +kernel
theorem dX9_init_173 : decode cX9_init 173 = .ok (.invokevirtual 73, 3) := by decide +kernel
theorem dX9_init_176 : decode cX9_init 176 = .ok (.aload_n 0, 1) := by decide +kernel
theorem dX9_init_177 : decode cX9_init 177 = .ok (.bipush 8, 2) := by decide +kernel
theorem dX9_init_179 : decode cX9_init 179 = .ok (.bipush 45, 2) := by decide +kernel
theorem dX9_init_181 : decode cX9_init 181 = .ok (.bipush 32, 2) := by decide +kernel
theorem dX9_init_183 : decode cX9_init 183 = .ok (.bipush 119, 2) := by decide +kernel
theorem dX9_init_185 : decode cX9_init 185 = .ok (.bipush 111, 2) := by decide +kernel
theorem dX9_init_187 : decode cX9_init 187 = .ok (.bipush 114, 2) := by decide +kernel
theorem dX9_init_189 : decode cX9_init 189 = .ok (.bipush 100, 2) := by decide +kernel
theorem dX9_init_191 : decode cX9_init 191 = .ok (.bipush 32, 2) := by decide +kernel
theorem dX9_init_193 : decode cX9_init 193 = .ok (.bipush 59, 2) := by decide +kernel
theorem dX9_init_195 : decode cX9_init 195 = .ok (.invokevirtual 73, 3) := by decide +kernel
theorem dX9_init_198 : decode cX9_init 198 = .ok (.aload_n 0, 1) := by decide +kernel
theorem dX9_init_199 : decode cX9_init 199 = .ok (.bipush 16, 2) := by decide +kernel
theorem dX9_init_201 : decode cX9_init 201 = .ok (.bipush 32, 2) := by decide +kernel
theorem dX9_init_203 : decode cX9_init 203 = .ok (.bipush 115, 2) := by decide +kernel
theorem dX9_init_205 : decode cX9_init 205 = .ok (.bipush 111, 2) := by decide +kernel
theorem dX9_init_207 : decode cX9_init 207 = .ok (.bipush 117, 2) := by decide +kernel
theorem dX9_init_209 : decode cX9_init 209 = .ok (.bipush 116, 2) := by decide +kernel
theorem dX9_init_211 : decode cX9_init 211 = .ok (.bipush 104, 2) := by decide +kernel
theorem dX9_init_213 : decode cX9_init 213 = .ok (.bipush 115, 2) := by decide +kernel
theorem dX9_init_215 : decode cX9_init 215 = .ok (.bipush 32, 2) := by decide +kernel
theorem dX9_init_217 : decode cX9_init 217 = .ok (.invokevirtual 73, 3) := by decide +kernel
theorem dX9_init_220 : decode cX9_init 220 = .ok (.aload_n 0, 1) := by decide +kernel
theorem dX9_init_221 : decode cX9_init 221 = .ok (.bipush 24, 2) := by decide +kernel
theorem dX9_init_223 : decode cX9_init 223 = .ok (.bipush 119, 2) := by decide +kernel
theorem dX9_init_225 : decode cX9_init 225 = .ok (.bipush 111, 2) := by decide +kernel
theorem dX9_init_227 : decode cX9_init 227 = .ok (.bipush 114, 2) := by decide +kernel
theorem dX9_init_229 : decode cX9_init 229 = .ok (.bipush 100, 2) := by decide +kernel
theorem dX9_init_231 : decode cX9_init 231 = .ok (.bipush 32, 2) := by decide +kernel
theorem dX9_init_233 : decode cX9_init 233 = .ok (.bipush 45, 2) := by decide +kernel
theorem dX9_init_235 : decode cX9_init 235 = .ok (.bipush 32, 2) := by decide +kernel
theorem dX9_init_237 : decode cX9_init 237 = .ok (.bipush 50, 2) := by decide +kernel
theorem dX9_init_239 : decode cX9_init 239 = .ok (.invokevirtual 73, 3) := by decide +kernel
theorem dX9_init_242 : decode cX9_init 242 = .ok (.aload_n 0, 1) := by decide +kernel
theorem dX9_init_243 : decode cX9_init 243 = .ok (.bipush 32, 2) := by decide +kernel
theorem dX9_init_245 : decode cX9_init 245 = .ok (.bipush 32, 2) := by decide +kernel
theorem dX9_init_247 : decode cX9_init 247 = .ok (.bipush 59, 2) := by decide +kernel
theorem dX9_init_249 : decode cX9_init 249 = .ok (.bipush 32, 2) := by decide +kernel
theorem dX9_init_251 : decode cX9_init 251 = .ok (.bipush 114, 2) := by decide +kernel
theorem dX9_init_253 : decode cX9_init 253 = .ok (.bipush 105, 2) := by decide +kernel
theorem dX9_init_255 : decode cX9_init 255 = .ok (.bipush 115, 2) := by decide +kernel
theorem dX9_init_257 : decode cX9_init 257 = .ok (.bipush 101, 2) := by decide +kernel
theorem dX9_init_259 : decode cX9_init 259 = .ok (.bipush 115, 2) := by decide +kernel
theorem dX9_init_261 : decode cX9_init 261 = .ok (.invokevirtual 73, 3) := by decide +kernel
theorem dX9_init_264 : decode cX9_init 264 = .ok (.aload_n 0, 1) := by decide +kernel
theorem dX9_init_265 : decode cX9_init 265 = .ok (.bipush 40, 2) := by decide +kernel
theorem dX9_init_267 : decode cX9_init 267 = .ok (.bipush 32, 2) := by decide +kernel
theorem dX9_init_269 : decode cX9_init 269 = .ok (.bipush 49, 2) := by decide +kernel
theorem dX9_init_271 : decode cX9_init 271 = .ok (.bipush 32, 2) := by decide +kernel
theorem dX9_init_273 : decode cX9_init 273 = .ok (.bipush 59, 2) := by decide +kernel
theorem dX9_init_275 : decode cX9_init 275 = .ok (.bipush 32, 2) := by decide +kernel
theorem dX9_init_277 : decode cX9_init 277 = .ok (.bipush 32, 2) := by decide +kernel
theorem dX9_init_279 : decode cX9_init 279 = .ok (.bipush 32, 2) := by decide +kernel
theorem dX9_init_281 : decode cX9_init 281 = .ok (.bipush 32, 2) := by decide +kernel
theorem dX9_init_283 : decode cX9_init 283 = .ok (.invokevirtual 73, 3) := by decide +kernel
theorem dX9_init_286 : decode cX9_init 286 = .ok (.aload_n 0, 1) := by decide +kernel
theorem dX9_init_287 : decode cX9_init 287 = .ok (.getfield 17, 3) := by decide +kernel
theorem dX9_init_290 : decode cX9_init 290 = .ok (.iconst 0, 1) := by decide +kernel
theorem dX9_init_291 : decode cX9_init 291 = .ok (.bipush 48, 2) := by decide +kernel
theorem dX9_init_293 : decode cX9_init 293 = .ok (.iastore, 1) := by decide +kernel
theorem dX9_init_294 : decode cX9_init 294 = .ok (.aload_n 0, 1) := by decide +kernel
theorem dX9_init_295 : decode cX9_init 295 = .ok (.iconst 1, 1) := by decide +kernel
theorem dX9_init_296 : decode cX9_init 296 = .ok (.putfield 77, 3) := by decide +kernel
theorem dX9_init_299 : decode cX9_init 299 = .ok (.return_, 1) := by decide +kernel
theorem dX9_spell_0 : decode cX9_spell 0 = .ok (.aload_n 0, 1) := by decide +kernel
theorem dX9_spell_1 : decode cX9_spell 1 = .ok (.getfield 13, 3) := by decide +kernel
theorem dX9_spell_4 : decode cX9_spell 4 = .ok (.iload_n 1, 1) := by decide +kernel
theorem dX9_spell_5 : decode cX9_spell 5 = .ok (.iload_n 2, 1) := by decide +kernel
theorem dX9_spell_6 : decode cX9_spell 6 = .ok (.iastore, 1) := by decide +kernel
theorem dX9_spell_7 : decode cX9_spell 7 = .ok (.aload_n 0, 1) := by decide +kernel
theorem dX9_spell_8 : decode cX9_spell 8 = .ok (.getfield 13, 3) := by decide +kernel
theorem dX9_spell_11 : decode cX9_spell 11 = .ok (.iload_n 1, 1) := by decide +kernel
theorem dX9_spell_12 : decode cX9_spell 12 = .ok (.iconst 1, 1) := by decide +kernel
theorem dX9_spell_13 : decode cX9_spell 13 = .ok (.iadd, 1) := by decide +kernel
theorem dX9_spell_14 : decode cX9_spell 14 = .ok (.iload_n 3, 1) := by decide +kernel
theorem dX9_spell_15 : decode cX9_spell 15 = .ok (.iastore, 1) := by decide +kernel
theorem dX9_spell_16 : decode cX9_spell 16 = .ok (.aload_n 0, 1) := by decide +kernel
theorem dX9_spell_17 : decode cX9_spell 17 = .ok (.getfield 13, 3) := by decide +kernel
theorem dX9_spell_20 : decode cX9_spell 20 = .ok (.iload_n 1, 1) := by decide +kernel
theorem dX9_spell_21 : decode cX9_spell 21 = .ok (.iconst 2, 1) := by decide +kernel
theorem dX9_spell_22 : decode cX9_spell 22 = .ok (.iadd, 1) := by decide +kernel
theorem dX9_spell_23 : decode cX9_spell 23 = .ok (.iload 4, 2) := by decide +kernel
theorem dX9_spell_25 : decode cX9_spell 25 = .ok (.iastore, 1) := by decide +kernel
theorem dX9_spell_26 : decode cX9_spell 26 = .ok (.aload_n 0, 1) := by decide +kernel
theorem dX9_spell_27 : decode cX9_spell 27 = .ok (.getfield 13, 3) := by decide +kernel
theorem dX9_spell_30 : decode cX9_spell 30 = .ok (.iload_n 1, 1) := by decide +kernel
theorem dX9_spell_31 : decode cX9_spell 31 = .ok (.iconst 3, 1) := by decide +kernel
theorem dX9_spell_32 : decode cX9_spell 32 = .ok (.iadd, 1) := by decide +kernel
theorem dX9_spell_33 : decode cX9_spell 33 = .ok (.iload 5, 2) := by decide +kernel
theorem dX9_spell_35 : decode cX9_spell 35 = .ok (.iastore, 1) := by decide +kernel
theorem dX9_spell_36 : decode cX9_spell 36 = .ok (.aload_n 0, 1) := by decide +kernel
theorem dX9_spell_37 : decode cX9_spell 37 = .ok (.getfield 13, 3) := by decide +kernel
theorem dX9_spell_40 : decode cX9_spell 40 = .ok (.iload_n 1, 1) := by decide +kernel
theorem dX9_spell_41 : decode cX9_spell 41 = .ok (.iconst 4, 1) := by decide +kernel
theorem dX9_spell_42 : decode cX9_spell 42 = .ok (.iadd, 1) := by decide +kernel
theorem dX9_spell_43 : decode cX9_spell 43 = .ok (.iload 6, 2) := by decide +kernel
theorem dX9_spell_45 : decode cX9_spell 45 = .ok (.iastore, 1) := by decide +kernel
theorem dX9_spell_46 : decode cX9_spell 46 = .ok (.aload_n 0, 1) := by decide +kernel
theorem dX9_spell_47 : decode cX9_spell 47 = .ok (.getfield 13, 3) := by decide +kernel
theorem dX9_spell_50 : decode cX9_spell 50 = .ok (.iload_n 1, 1) := by decide +kernel
theorem dX9_spell_51 : decode cX9_spell 51 = .ok (.iconst 5, 1) := by decide +kernel
theorem dX9_spell_52 : decode cX9_spell 52 = .ok (.iadd, 1) := by decide +kernel
theorem dX9_spell_53 : decode cX9_spell 53 = .ok (.iload 7, 2) := by decide +kernel
theorem dX9_spell_55 : decode cX9_spell 55 = .ok (.iastore, 1) := by decide +kernel
theorem dX9_spell_56 : decode cX9_spell 56 = .ok (.aload_n 0, 1) := by decide +kernel
theorem dX9_spell_57 : decode cX9_spell 57 = .ok (.getfield 13, 3) := by decide +kernel
theorem dX9_spell_60 : decode cX9_spell 60 = .ok (.iload_n 1, 1) := by decide +kernel
theorem dX9_spell_61 : decode cX9_spell 61 = .ok (.bipush 6, 2) := by decide +kernel
theorem dX9_spell_63 : decode cX9_spell 63 = .ok (.iadd, 1) := by decide +kernel
theorem dX9_spell_64 : decode cX9_spell 64 = .ok (.iload 8, 2) := by decide +kernel
theorem dX9_spell_66 : decode cX9_spell 66 = .ok (.iastore, 1) := by decide +kernel
theorem dX9_spell_67 : decode cX9_spell 67 = .ok (.aload_n 0, 1) := by decide +kernel
theorem dX9_spell_68 : decode cX9_spell 68 = .ok (.getfield 13, 3) := by decide +kernel
theorem dX9_spell_71 : decode cX9_spell 71 = .ok (.iload_n 1, 1) := by decide +kernel
theorem dX9_spell_72 : decode cX9_spell 72 = .ok (.bipush 7, 2) := by decide +kernel
theorem dX9_spell_74 : decode cX9_spell 74 = .ok (.iadd, 1) := by decide +kernel
theorem dX9_spell_75 : decode cX9_spell 75 = .ok (.iload 9, 2) := by decide +kernel
theorem dX9_spell_77 : decode cX9_spell 77 = .ok (.iastore, 1) := by decide +kernel
theorem dX9_spell_78 : decode cX9_spell 78 = .ok (.return_, 1) := by decide +kernel
theorem dX9_isOne_0 : decode cX9_isOne 0 = .ok (.iload_n 1, 1) := by decide +kernel
theorem dX9_isOne_1 : decode cX9_isOne 1 = .ok (.i2l, 1) := by decide +kernel
theorem dX9_isOne_2 : decode cX9_isOne 2 = .ok (.lconst 0, 1) := by decide +kernel
theorem dX9_isOne_3 : decode cX9_isOne 3 = .ok (.aload_n 0, 1) := by decide +kernel
theorem dX9_isOne_4 : decode cX9_isOne 4 = .ok (.getfield 80, 3) := by decide +kernel
theorem dX9_isOne_7 : decode cX9_isOne 7 = .ok (.iconst 1, 1) := by decide +kernel
theorem dX9_isOne_8 : decode cX9_isOne 8 = .ok (.isub, 1) := by decide +kernel
theorem dX9_isOne_9 : decode cX9_isOne 9 = .ok (.i2l, 1) := by decide +kernel
theorem dX9_isOne_10 : decode cX9_isOne 10 = .ok (.invokestatic 83, 3) := by decide +kernel
theorem dX9_isOne_13 : decode cX9_isOne 13 = .ok (.ireturn, 1) := by decide +kernel
theorem dX9_isCell_0 : decode cX9_isCell 0 = .ok (.iload_n 0, 1) := by decide +kernel
theorem dX9_isCell_1 : decode cX9_isCell 1 = .ok (.i2l, 1) := by decide +kernel
theorem dX9_isCell_2 : decode cX9_isCell 2 = .ok (.lconst 0, 1) := by decide +kernel
theorem dX9_isCell_3 : decode cX9_isCell 3 = .ok (.ldc2_w 87, 3) := by decide +kernel
theorem dX9_isCell_6 : decode cX9_isCell 6 = .ok (.invokestatic 83, 3) := by decide +kernel
theorem dX9_isCell_9 : decode cX9_isCell 9 = .ok (.ireturn, 1) := by decide +kernel
theorem dX9_isWord_0 : decode cX9_isWord 0 = .ok (.iload_n 0, 1) := by decide +kernel
theorem dX9_isWord_1 : decode cX9_isWord 1 = .ok (.i2l, 1) := by decide +kernel
theorem dX9_isWord_2 : decode cX9_isWord 2 = .ok (.lconst 0, 1) := by decide +kernel
theorem dX9_isWord_3 : decode cX9_isWord 3 = .ok (.ldc2_w 89, 3) := by decide +kernel
theorem dX9_isWord_6 : decode cX9_isWord 6 = .ok (.invokestatic 83, 3) := by decide +kernel
theorem dX9_isWord_9 : decode cX9_isWord 9 = .ok (.ireturn, 1) := by decide +kernel
theorem dX9_isOf_0 : decode cX9_isOf 0 = .ok (.iload_n 1, 1) := by decide +kernel
theorem dX9_isOf_1 : decode cX9_isOf 1 = .ok (.ifCond .eq 26, 3) := by decide +kernel
theorem dX9_isOf_4 : decode cX9_isOf 4 = .ok (.iload_n 1, 1) := by decide +kernel
theorem dX9_isOf_5 : decode cX9_isOf 5 = .ok (.iconst 1, 1) := by decide +kernel
theorem dX9_isOf_6 : decode cX9_isOf 6 = .ok (.if_icmp .ne 13, 3) := by decide +kernel
theorem dX9_isOf_9 : decode cX9_isOf 9 = .ok (.iload_n 2, 1) := by decide +kernel
theorem dX9_isOf_10 : decode cX9_isOf 10 = .ok (.invokestatic 91, 3) := by decide +kernel
theorem dX9_isOf_13 : decode cX9_isOf 13 = .ok (.ifCond .eq 18, 3) := by decide +kernel
theorem dX9_isOf_16 : decode cX9_isOf 16 = .ok (.goto 11, 3) := by decide +kernel
theorem dX9_isOf_19 : decode cX9_isOf 19 = .ok (.aload_n 0, 1) := by decide +kernel
theorem dX9_isOf_20 : decode cX9_isOf 20 = .ok (.iload_n 2, 1) := by decide +kernel
theorem dX9_isOf_21 : decode cX9_isOf 21 = .ok (.invokevirtual 95, 3) := by decide +kernel
theorem dX9_isOf_24 : decode cX9_isOf 24 = .ok (.ifCond .eq 7, 3) := by decide +kernel
theorem dX9_isOf_27 : decode cX9_isOf 27 = .ok (.iconst 1, 1) := by decide +kernel
theorem dX9_isOf_28 : decode cX9_isOf 28 = .ok (.goto 4, 3) := by decide +kernel
theorem dX9_isOf_31 : decode cX9_isOf 31 = .ok (.iconst 0, 1) := by decide +kernel
theorem dX9_isOf_32 : decode cX9_isOf 32 = .ok (.ireturn, 1) := by decide +kernel
theorem dX9_mostOf_0 : decode cX9_mostOf 0 = .ok (.iload_n 0, 1) := by decide +kernel
theorem dX9_mostOf_1 : decode cX9_mostOf 1 = .ok (.ifCond .ne 9, 3) := by decide +kernel
theorem dX9_mostOf_4 : decode cX9_mostOf 4 = .ok (.sipush 999, 3) := by decide +kernel
theorem dX9_mostOf_7 : decode cX9_mostOf 7 = .ok (.goto 24, 3) := by decide +kernel
theorem dX9_mostOf_10 : decode cX9_mostOf 10 = .ok (.iload_n 0, 1) := by decide +kernel
theorem dX9_mostOf_11 : decode cX9_mostOf 11 = .ok (.iconst 2, 1) := by decide +kernel
theorem dX9_mostOf_12 : decode cX9_mostOf 12 = .ok (.if_icmp .ne 8, 3) := by decide +kernel
theorem dX9_mostOf_15 : decode cX9_mostOf 15 = .ok (.bipush 9, 2) := by decide +kernel
theorem dX9_mostOf_17 : decode cX9_mostOf 17 = .ok (.goto 14, 3) := by decide +kernel
theorem dX9_mostOf_20 : decode cX9_mostOf 20 = .ok (.iload_n 0, 1) := by decide +kernel
theorem dX9_mostOf_21 : decode cX9_mostOf 21 = .ok (.iconst 3, 1) := by decide +kernel
theorem dX9_mostOf_22 : decode cX9_mostOf 22 = .ok (.if_icmp .ne 8, 3) := by decide +kernel
theorem dX9_mostOf_25 : decode cX9_mostOf 25 = .ok (.bipush 35, 2) := by decide +kernel
theorem dX9_mostOf_27 : decode cX9_mostOf 27 = .ok (.goto 4, 3) := by decide +kernel
theorem dX9_mostOf_30 : decode cX9_mostOf 30 = .ok (.iconst 1, 1) := by decide +kernel
theorem dX9_mostOf_31 : decode cX9_mostOf 31 = .ok (.ireturn, 1) := by decide +kernel
theorem dX9_set_0 : decode cX9_set 0 = .ok (.iload_n 1, 1) := by decide +kernel
theorem dX9_set_1 : decode cX9_set 1 = .ok (.i2l, 1) := by decide +kernel
theorem dX9_set_2 : decode cX9_set 2 = .ok (.lconst 0, 1) := by decide +kernel
theorem dX9_set_3 : decode cX9_set 3 = .ok (.ldc2_w 98, 3) := by decide +kernel
theorem dX9_set_6 : decode cX9_set 6 = .ok (.invokestatic 83, 3) := by decide +kernel
theorem dX9_set_9 : decode cX9_set 9 = .ok (.ifCond .eq 26, 3) := by decide +kernel
theorem dX9_set_12 : decode cX9_set 12 = .ok (.aload_n 0, 1) := by decide +kernel
theorem dX9_set_13 : decode cX9_set 13 = .ok (.iload_n 1, 1) := by decide +kernel
theorem dX9_set_14 : decode cX9_set 14 = .ok (.iload_n 2, 1) := by decide +kernel
theorem dX9_set_15 : decode cX9_set 15 = .ok (.invokevirtual 100, 3) := by decide +kernel
theorem dX9_set_18 : decode cX9_set 18 = .ok (.ifCond .eq 17, 3) := by decide +kernel
theorem dX9_set_21 : decode cX9_set 21 = .ok (.iload_n 3, 1) := by decide +kernel
theorem dX9_set_22 : decode cX9_set 22 = .ok (.i2l, 1) := by decide +kernel
theorem dX9_set_23 : decode cX9_set 23 = .ok (.lconst 0, 1) := by decide +kernel
theorem dX9_set_24 : decode cX9_set 24 = .ok (.iload_n 1, 1) := by decide +kernel
theorem dX9_set_25 : decode cX9_set 25 = .ok (.invokestatic 104, 3) := by decide +kernel
theorem dX9_set_28 : decode cX9_set 28 = .ok (.i2l, 1) := by decide +kernel
theorem dX9_set_29 : decode cX9_set 29 = .ok (.invokestatic 83, 3) := by decide +kernel
theorem dX9_set_32 : decode cX9_set 32 = .ok (.ifCond .ne 6, 3) := by decide +kernel
theorem dX9_set_35 : decode cX9_set 35 = .ok (.bipush (-2), 2) := by decide +kernel
theorem dX9_set_37 : decode cX9_set 37 = .ok (.ireturn, 1) := by decide +kernel
theorem dX9_set_38 : decode cX9_set 38 = .ok (.aload_n 0, 1) := by decide +kernel
theorem dX9_set_39 : decode cX9_set 39 = .ok (.iload_n 2, 1) := by decide +kernel
theorem dX9_set_40 : decode cX9_set 40 = .ok (.iload_n 1, 1) := by decide +kernel
theorem dX9_set_41 : decode cX9_set 41 = .ok (.invokevirtual 108, 3) := by decide +kernel
theorem dX9_set_44 : decode cX9_set 44 = .ok (.istore 4, 2) := by decide +kernel
theorem dX9_set_46 : decode cX9_set 46 = .ok (.aload_n 0, 1) := by decide +kernel
theorem dX9_set_47 : decode cX9_set 47 = .ok (.iload_n 1, 1) := by decide +kernel
theorem dX9_set_48 : decode cX9_set 48 = .ok (.iload_n 2, 1) := by decide +kernel
theorem dX9_set_49 : decode cX9_set 49 = .ok (.iload_n 3, 1) := by decide +kernel
theorem dX9_set_50 : decode cX9_set 50 = .ok (.invokevirtual 112, 3) := by decide +kernel
theorem dX9_set_53 : decode cX9_set 53 = .ok (.iload 4, 2) := by decide +kernel
theorem dX9_set_55 : decode cX9_set 55 = .ok (.ireturn, 1) := by decide +kernel
theorem dX9_lays_0 : decode cX9_lays 0 = .ok (.iload_n 1, 1) := by decide +kernel
theorem dX9_lays_1 : decode cX9_lays 1 = .ok (.ifCond .ne 11, 3) := by decide +kernel
theorem dX9_lays_4 : decode cX9_lays 4 = .ok (.aload_n 0, 1) := by decide +kernel
theorem dX9_lays_5 : decode cX9_lays 5 = .ok (.iload_n 3, 1) := by decide +kernel
theorem dX9_lays_6 : decode cX9_lays 6 = .ok (.putfield 116, 3) := by decide +kernel
theorem dX9_lays_9 : decode cX9_lays 9 = .ok (.goto 59, 3) := by decide +kernel
theorem dX9_lays_12 : decode cX9_lays 12 = .ok (.iload_n 1, 1) := by decide +kernel
theorem dX9_lays_13 : decode cX9_lays 13 = .ok (.iconst 1, 1) := by decide +kernel
theorem dX9_lays_14 : decode cX9_lays 14 = .ok (.if_icmp .ne 13, 3) := by decide +kernel
theorem dX9_lays_17 : decode cX9_lays 17 = .ok (.aload_n 0, 1) := by decide +kernel
theorem dX9_lays_18 : decode cX9_lays 18 = .ok (.getfield 23, 3) := by decide +kernel
theorem dX9_lays_21 : decode cX9_lays 21 = .ok (.iload_n 2, 1) := by decide +kernel
theorem dX9_lays_22 : decode cX9_lays 22 = .ok (.iload_n 3, 1) := by decide +kernel
theorem dX9_lays_23 : decode cX9_lays 23 = .ok (.iastore, 1) := by decide +kernel
theorem dX9_lays_24 : decode cX9_lays 24 = .ok (.goto 44, 3) := by decide +kernel
theorem dX9_lays_27 : decode cX9_lays 27 = .ok (.iload_n 1, 1) := by decide +kernel
theorem dX9_lays_28 : decode cX9_lays 28 = .ok (.iconst 5, 1) := by decide +kernel
theorem dX9_lays_29 : decode cX9_lays 29 = .ok (.if_icmp .ge 19, 3) := by decide +kernel
theorem dX9_lays_32 : decode cX9_lays 32 = .ok (.aload_n 0, 1) := by decide +kernel
theorem dX9_lays_33 : decode cX9_lays 33 = .ok (.getfield 29, 3) := by decide +kernel
theorem dX9_lays_36 : decode cX9_lays 36 = .ok (.iconst 3, 1) := by decide +kernel
theorem dX9_lays_37 : decode cX9_lays 37 = .ok (.iload_n 2, 1) := by decide +kernel
theorem dX9_lays_38 : decode cX9_lays 38 = .ok (.imul, 1) := by decide +kernel
theorem dX9_lays_39 : decode cX9_lays 39 = .ok (.iload_n 1, 1) := by decide +kernel
theorem dX9_lays_40 : decode cX9_lays 40 = .ok (.iadd, 1) := by decide +kernel
theorem dX9_lays_41 : decode cX9_lays 41 = .ok (.iconst 2, 1) := by decide +kernel
theorem dX9_lays_42 : decode cX9_lays 42 = .ok (.isub, 1) := by decide +kernel
theorem dX9_lays_43 : decode cX9_lays 43 = .ok (.iload_n 3, 1) := by decide +kernel
theorem dX9_lays_44 : decode cX9_lays 44 = .ok (.iastore, 1) := by decide +kernel
theorem dX9_lays_45 : decode cX9_lays 45 = .ok (.goto 23, 3) := by decide +kernel
theorem dX9_lays_48 : decode cX9_lays 48 = .ok (.iload_n 1, 1) := by decide +kernel
theorem dX9_lays_49 : decode cX9_lays 49 = .ok (.iconst 5, 1) := by decide +kernel
theorem dX9_lays_50 : decode cX9_lays 50 = .ok (.if_icmp .ne 13, 3) := by decide +kernel
theorem dX9_lays_53 : decode cX9_lays 53 = .ok (.aload_n 0, 1) := by decide +kernel
theorem dX9_lays_54 : decode cX9_lays 54 = .ok (.getfield 26, 3) := by decide +kernel
theorem dX9_lays_57 : decode cX9_lays 57 = .ok (.iload_n 2, 1) := by decide +kernel
theorem dX9_lays_58 : decode cX9_lays 58 = .ok (.iload_n 3, 1) := by decide +kernel
theorem dX9_lays_59 : decode cX9_lays 59 = .ok (.iastore, 1) := by decide +kernel
theorem dX9_lays_60 : decode cX9_lays 60 = .ok (.goto 8, 3) := by decide +kernel
theorem dX9_lays_63 : decode cX9_lays 63 = .ok (.aload_n 0, 1) := by decide +kernel
theorem dX9_lays_64 : decode cX9_lays 64 = .ok (.iload_n 3, 1) := by decide +kernel
theorem dX9_lays_65 : decode cX9_lays 65 = .ok (.putfield 119, 3) := by decide +kernel
theorem dX9_lays_68 : decode cX9_lays 68 = .ok (.return_, 1) := by decide +kernel
theorem dX9_carpet_0 : decode cX9_carpet 0 = .ok (.iload_n 1, 1) := by decide +kernel
theorem dX9_carpet_1 : decode cX9_carpet 1 = .ok (.i2l, 1) := by decide +kernel
theorem dX9_carpet_2 : decode cX9_carpet 2 = .ok (.lconst 0, 1) := by decide +kernel
theorem dX9_carpet_3 : decode cX9_carpet 3 = .ok (.ldc2_w 122, 3) := by decide +kernel
theorem dX9_carpet_6 : decode cX9_carpet 6 = .ok (.invokestatic 83, 3) := by decide +kernel
theorem dX9_carpet_9 : decode cX9_carpet 9 = .ok (.ifCond .eq 22, 3) := by decide +kernel
theorem dX9_carpet_12 : decode cX9_carpet 12 = .ok (.iload_n 2, 1) := by decide +kernel
theorem dX9_carpet_13 : decode cX9_carpet 13 = .ok (.i2l, 1) := by decide +kernel
theorem dX9_carpet_14 : decode cX9_carpet 14 = .ok (.lconst 0, 1) := by decide +kernel
theorem dX9_carpet_15 : decode cX9_carpet 15 = .ok (.ldc2_w 124, 3) := by decide +kernel
theorem dX9_carpet_18 : decode cX9_carpet 18 = .ok (.invokestatic 83, 3) := by decide +kernel
theorem dX9_carpet_21 : decode cX9_carpet 21 = .ok (.ifCond .eq 10, 3) := by decide +kernel
theorem dX9_carpet_24 : decode cX9_carpet 24 = .ok (.iload_n 3, 1) := by decide +kernel
theorem dX9_carpet_25 : decode cX9_carpet 25 = .ok (.invokestatic 91, 3) := by decide +kernel
theorem dX9_carpet_28 : decode cX9_carpet 28 = .ok (.ifCond .ne 6, 3) := by decide +kernel
theorem dX9_carpet_31 : decode cX9_carpet 31 = .ok (.bipush (-2), 2) := by decide +kernel
theorem dX9_carpet_33 : decode cX9_carpet 33 = .ok (.ireturn, 1) := by decide +kernel
theorem dX9_carpet_34 : decode cX9_carpet 34 = .ok (.aload_n 0, 1) := by decide +kernel
theorem dX9_carpet_35 : decode cX9_carpet 35 = .ok (.getfield 80, 3) := by decide +kernel
theorem dX9_carpet_38 : decode cX9_carpet 38 = .ok (.iconst 4, 1) := by decide +kernel
theorem dX9_carpet_39 : decode cX9_carpet 39 = .ok (.if_icmp .ne 6, 3) := by decide +kernel
theorem dX9_carpet_42 : decode cX9_carpet 42 = .ok (.bipush (-4), 2) := by decide +kernel
theorem dX9_carpet_44 : decode cX9_carpet 44 = .ok (.ireturn, 1) := by decide +kernel
theorem dX9_carpet_45 : decode cX9_carpet 45 = .ok (.aload_n 0, 1) := by decide +kernel
theorem dX9_carpet_46 : decode cX9_carpet 46 = .ok (.getfield 26, 3) := by decide +kernel
theorem dX9_carpet_49 : decode cX9_carpet 49 = .ok (.aload_n 0, 1) := by decide +kernel
theorem dX9_carpet_50 : decode cX9_carpet 50 = .ok (.getfield 80, 3) := by decide +kernel
theorem dX9_carpet_53 : decode cX9_carpet 53 = .ok (.iload_n 1, 1) := by decide +kernel
theorem dX9_carpet_54 : decode cX9_carpet 54 = .ok (.iastore, 1) := by decide +kernel
theorem dX9_carpet_55 : decode cX9_carpet 55 = .ok (.aload_n 0, 1) := by decide +kernel
theorem dX9_carpet_56 : decode cX9_carpet 56 = .ok (.getfield 29, 3) := by decide +kernel
theorem dX9_carpet_59 : decode cX9_carpet 59 = .ok (.iconst 3, 1) := by decide +kernel
theorem dX9_carpet_60 : decode cX9_carpet 60 = .ok (.aload_n 0, 1) := by decide +kernel
theorem dX9_carpet_61 : decode cX9_carpet 61 = .ok (.getfield 80, 3) := by decide +kernel
theorem dX9_carpet_64 : decode cX9_carpet 64 = .ok (.imul, 1) := by decide +kernel
theorem dX9_carpet_65 : decode cX9_carpet 65 = .ok (.iload_n 2, 1) := by decide +kernel
theorem dX9_carpet_66 : decode cX9_carpet 66 = .ok (.iastore, 1) := by decide +kernel
theorem dX9_carpet_67 : decode cX9_carpet 67 = .ok (.aload_n 0, 1) := by decide +kernel
theorem dX9_carpet_68 : decode cX9_carpet 68 = .ok (.getfield 29, 3) := by decide +kernel
theorem dX9_carpet_71 : decode cX9_carpet 71 = .ok (.iconst 3, 1) := by decide +kernel
theorem dX9_carpet_72 : decode cX9_carpet 72 = .ok (.aload_n 0, 1) := by decide +kernel
theorem dX9_carpet_73 : decode cX9_carpet 73 = .ok (.getfield 80, 3) := by decide +kernel
theorem dX9_carpet_76 : decode cX9_carpet 76 = .ok (.imul, 1) := by decide +kernel
theorem dX9_carpet_77 : decode cX9_carpet 77 = .ok (.iconst 1, 1) := by decide +kernel
theorem dX9_carpet_78 : decode cX9_carpet 78 = .ok (.iadd, 1) := by decide +kernel
theorem dX9_carpet_79 : decode cX9_carpet 79 = .ok (.iload_n 3, 1) := by decide +kernel
theorem dX9_carpet_80 : decode cX9_carpet 80 = .ok (.iastore, 1) := by decide +kernel
theorem dX9_carpet_81 : decode cX9_carpet 81 = .ok (.aload_n 0, 1) := by decide +kernel
theorem dX9_carpet_82 : decode cX9_carpet 82 = .ok (.getfield 29, 3) := by decide +kernel
theorem dX9_carpet_85 : decode cX9_carpet 85 = .ok (.iconst 3, 1) := by decide +kernel
theorem dX9_carpet_86 : decode cX9_carpet 86 = .ok (.aload_n 0, 1) := by decide +kernel
theorem dX9_carpet_87 : decode cX9_carpet 87 = .ok (.getfield 80, 3) := by decide +kernel
theorem dX9_carpet_90 : decode cX9_carpet 90 = .ok (.imul, 1) := by decide +kernel
theorem dX9_carpet_91 : decode cX9_carpet 91 = .ok (.iconst 2, 1) := by decide +kernel
theorem dX9_carpet_92 : decode cX9_carpet 92 = .ok (.iadd, 1) := by decide +kernel
theorem dX9_carpet_93 : decode cX9_carpet 93 = .ok (.iconst 0, 1) := by decide +kernel
theorem dX9_carpet_94 : decode cX9_carpet 94 = .ok (.iastore, 1) := by decide +kernel
theorem dX9_carpet_95 : decode cX9_carpet 95 = .ok (.aload_n 0, 1) := by decide +kernel
theorem dX9_carpet_96 : decode cX9_carpet 96 = .ok (.dup, 1) := by decide +kernel
theorem dX9_carpet_97 : decode cX9_carpet 97 = .ok (.getfield 80, 3) := by decide +kernel
theorem dX9_carpet_100 : decode cX9_carpet 100 = .ok (.iconst 1, 1) := by decide +kernel
theorem dX9_carpet_101 : decode cX9_carpet 101 = .ok (.iadd, 1) := by decide +kernel
theorem dX9_carpet_102 : decode cX9_carpet 102 = .ok (.putfield 80, 3) := by decide +kernel
theorem dX9_carpet_105 : decode cX9_carpet 105 = .ok (.aload_n 0, 1) := by decide +kernel
theorem dX9_carpet_106 : decode cX9_carpet 106 = .ok (.getfield 80, 3) := by decide +kernel
theorem dX9_carpet_109 : decode cX9_carpet 109 = .ok (.iconst 1, 1) := by decide +kernel
theorem dX9_carpet_110 : decode cX9_carpet 110 = .ok (.isub, 1) := by decide +kernel
theorem dX9_carpet_111 : decode cX9_carpet 111 = .ok (.ireturn, 1) := by decide +kernel
theorem dX9_told_0 : decode cX9_told 0 = .ok (.iload_n 2, 1) := by decide +kernel
theorem dX9_told_1 : decode cX9_told 1 = .ok (.i2l, 1) := by decide +kernel
theorem dX9_told_2 : decode cX9_told 2 = .ok (.lconst 0, 1) := by decide +kernel
theorem dX9_told_3 : decode cX9_told 3 = .ok (.ldc2_w 126, 3) := by decide +kernel
theorem dX9_told_6 : decode cX9_told 6 = .ok (.invokestatic 83, 3) := by decide +kernel
theorem dX9_told_9 : decode cX9_told 9 = .ok (.ifCond .ne 17, 3) := by decide +kernel
theorem dX9_told_12 : decode cX9_told 12 = .ok (.iload_n 2, 1) := by decide +kernel
theorem dX9_told_13 : decode cX9_told 13 = .ok (.i2l, 1) := by decide +kernel
theorem dX9_told_14 : decode cX9_told 14 = .ok (.ldc2_w 128, 3) := by decide +kernel
theorem dX9_told_17 : decode cX9_told 17 = .ok (.ldc2_w 130, 3) := by decide +kernel
theorem dX9_told_20 : decode cX9_told 20 = .ok (.invokestatic 83, 3) := by decide +kernel
theorem dX9_told_23 : decode cX9_told 23 = .ok (.ifCond .eq 12, 3) := by decide +kernel
theorem dX9_told_26 : decode cX9_told 26 = .ok (.aload_n 0, 1) := by decide +kernel
theorem dX9_told_27 : decode cX9_told 27 = .ok (.iload_n 2, 1) := by decide +kernel
theorem dX9_told_28 : decode cX9_told 28 = .ok (.iload_n 1, 1) := by decide +kernel
theorem dX9_told_29 : decode cX9_told 29 = .ok (.invokevirtual 100, 3) := by decide +kernel
theorem dX9_told_32 : decode cX9_told 32 = .ok (.ifCond .ne 6, 3) := by decide +kernel
theorem dX9_told_35 : decode cX9_told 35 = .ok (.bipush (-2), 2) := by decide +kernel
theorem dX9_told_37 : decode cX9_told 37 = .ok (.ireturn, 1) := by decide +kernel
theorem dX9_told_38 : decode cX9_told 38 = .ok (.iload_n 2, 1) := by decide +kernel
theorem dX9_told_39 : decode cX9_told 39 = .ok (.iconst 2, 1) := by decide +kernel
theorem dX9_told_40 : decode cX9_told 40 = .ok (.if_icmp .ge 21, 3) := by decide +kernel
theorem dX9_told_43 : decode cX9_told 43 = .ok (.iload_n 2, 1) := by decide +kernel
theorem dX9_told_44 : decode cX9_told 44 = .ok (.ifCond .ne 10, 3) := by decide +kernel
theorem dX9_told_47 : decode cX9_told 47 = .ok (.aload_n 0, 1) := by decide +kernel
theorem dX9_told_48 : decode cX9_told 48 = .ok (.getfield 116, 3) := by decide +kernel
theorem dX9_told_51 : decode cX9_told 51 = .ok (.goto 9, 3) := by decide +kernel
theorem dX9_told_54 : decode cX9_told 54 = .ok (.aload_n 0, 1) := by decide +kernel
theorem dX9_told_55 : decode cX9_told 55 = .ok (.getfield 23, 3) := by decide +kernel
theorem dX9_told_58 : decode cX9_told 58 = .ok (.iload_n 1, 1) := by decide +kernel
theorem dX9_told_59 : decode cX9_told 59 = .ok (.iaload, 1) := by decide +kernel
theorem dX9_told_60 : decode cX9_told 60 = .ok (.ireturn, 1) := by decide +kernel
theorem dX9_told_61 : decode cX9_told 61 = .ok (.iload_n 2, 1) := by decide +kernel
theorem dX9_told_62 : decode cX9_told 62 = .ok (.bipush 9, 2) := by decide +kernel
theorem dX9_told_64 : decode cX9_told 64 = .ok (.if_icmp .le 23, 3) := by decide +kernel
theorem dX9_told_67 : decode cX9_told 67 = .ok (.aload_n 0, 1) := by decide +kernel
theorem dX9_told_68 : decode cX9_told 68 = .ok (.iload_n 1, 1) := by decide +kernel
theorem dX9_told_69 : decode cX9_told 69 = .ok (.aload_n 0, 1) := by decide +kernel
theorem dX9_told_70 : decode cX9_told 70 = .ok (.getfield 29, 3) := by decide +kernel
theorem dX9_told_73 : decode cX9_told 73 = .ok (.iconst 3, 1) := by decide +kernel
theorem dX9_told_74 : decode cX9_told 74 = .ok (.iload_n 1, 1) := by decide +kernel
theorem dX9_told_75 : decode cX9_told 75 = .ok (.imul, 1) := by decide +kernel
theorem dX9_told_76 : decode cX9_told 76 = .ok (.iconst 1, 1) := by decide +kernel
theorem dX9_told_77 : decode cX9_told 77 = .ok (.iadd, 1) := by decide +kernel
theorem dX9_told_78 : decode cX9_told 78 = .ok (.iaload, 1) := by decide +kernel
theorem dX9_told_79 : decode cX9_told 79 = .ok (.iload_n 2, 1) := by decide +kernel
theorem dX9_told_80 : decode cX9_told 80 = .ok (.bipush 10, 2) := by decide +kernel
theorem dX9_told_82 : decode cX9_told 82 = .ok (.isub, 1) := by decide +kernel
theorem dX9_told_83 : decode cX9_told 83 = .ok (.invokevirtual 132, 3) := by decide +kernel
theorem dX9_told_86 : decode cX9_told 86 = .ok (.ireturn, 1) := by decide +kernel
theorem dX9_told_87 : decode cX9_told 87 = .ok (.iload_n 2, 1) := by decide +kernel
theorem dX9_told_88 : decode cX9_told 88 = .ok (.iconst 5, 1) := by decide +kernel
theorem dX9_told_89 : decode cX9_told 89 = .ok (.if_icmp .ge 18, 3) := by decide +kernel
theorem dX9_told_92 : decode cX9_told 92 = .ok (.aload_n 0, 1) := by decide +kernel
theorem dX9_told_93 : decode cX9_told 93 = .ok (.getfield 29, 3) := by decide +kernel
theorem dX9_told_96 : decode cX9_told 96 = .ok (.iconst 3, 1) := by decide +kernel
theorem dX9_told_97 : decode cX9_told 97 = .ok (.iload_n 1, 1) := by decide +kernel
theorem dX9_told_98 : decode cX9_told 98 = .ok (.imul, 1) := by decide +kernel
theorem dX9_told_99 : decode cX9_told 99 = .ok (.iload_n 2, 1) := by decide +kernel
theorem dX9_told_100 : decode cX9_told 100 = .ok (.iadd, 1) := by decide +kernel
theorem dX9_told_101 : decode cX9_told 101 = .ok (.iconst 2, 1) := by decide +kernel
theorem dX9_told_102 : decode cX9_told 102 = .ok (.isub, 1) := by decide +kernel
theorem dX9_told_103 : decode cX9_told 103 = .ok (.iaload, 1) := by decide +kernel
theorem dX9_told_104 : decode cX9_told 104 = .ok (.goto 22, 3) := by decide +kernel
theorem dX9_told_107 : decode cX9_told 107 = .ok (.iload_n 2, 1) := by decide +kernel
theorem dX9_told_108 : decode cX9_told 108 = .ok (.iconst 5, 1) := by decide +kernel
theorem dX9_told_109 : decode cX9_told 109 = .ok (.if_icmp .ne 12, 3) := by decide +kernel
theorem dX9_told_112 : decode cX9_told 112 = .ok (.aload_n 0, 1) := by decide +kernel
theorem dX9_told_113 : decode cX9_told 113 = .ok (.getfield 26, 3) := by decide +kernel
theorem dX9_told_116 : decode cX9_told 116 = .ok (.iload_n 1, 1) := by decide +kernel
theorem dX9_told_117 : decode cX9_told 117 = .ok (.iaload, 1) := by decide +kernel
theorem dX9_told_118 : decode cX9_told 118 = .ok (.goto 8, 3) := by decide +kernel
theorem dX9_told_121 : decode cX9_told 121 = .ok (.aload_n 0, 1) := by decide +kernel
theorem dX9_told_122 : decode cX9_told 122 = .ok (.iload_n 1, 1) := by decide +kernel
theorem dX9_told_123 : decode cX9_told 123 = .ok (.invokevirtual 136, 3) := by decide +kernel
theorem dX9_told_126 : decode cX9_told 126 = .ok (.ireturn, 1) := by decide +kernel
theorem dX9_feed_0 : decode cX9_feed 0 = .ok (.iload_n 1, 1) := by decide +kernel
theorem dX9_feed_1 : decode cX9_feed 1 = .ok (.i2l, 1) := by decide +kernel
theorem dX9_feed_2 : decode cX9_feed 2 = .ok (.lconst 0, 1) := by decide +kernel
theorem dX9_feed_3 : decode cX9_feed 3 = .ok (.ldc2_w 139, 3) := by decide +kernel
theorem dX9_feed_6 : decode cX9_feed 6 = .ok (.invokestatic 83, 3) := by decide +kernel
theorem dX9_feed_9 : decode cX9_feed 9 = .ok (.ifCond .ne 6, 3) := by decide +kernel
theorem dX9_feed_12 : decode cX9_feed 12 = .ok (.bipush (-2), 2) := by decide +kernel
theorem dX9_feed_14 : decode cX9_feed 14 = .ok (.ireturn, 1) := by decide +kernel
theorem dX9_feed_15 : decode cX9_feed 15 = .ok (.aload_n 0, 1) := by decide +kernel
theorem dX9_feed_16 : decode cX9_feed 16 = .ok (.getfield 141, 3) := by decide +kernel
theorem dX9_feed_19 : decode cX9_feed 19 = .ok (.sipush 160, 3) := by decide +kernel
theorem dX9_feed_22 : decode cX9_feed 22 = .ok (.if_icmp .ne 6, 3) := by decide +kernel
theorem dX9_feed_25 : decode cX9_feed 25 = .ok (.bipush (-4), 2) := by decide +kernel
theorem dX9_feed_27 : decode cX9_feed 27 = .ok (.ireturn, 1) := by decide +kernel
theorem dX9_feed_28 : decode cX9_feed 28 = .ok (.aload_n 0, 1) := by decide +kernel
theorem dX9_feed_29 : decode cX9_feed 29 = .ok (.getfield 20, 3) := by decide +kernel
theorem dX9_feed_32 : decode cX9_feed 32 = .ok (.aload_n 0, 1) := by decide +kernel
theorem dX9_feed_33 : decode cX9_feed 33 = .ok (.getfield 141, 3) := by decide +kernel
theorem dX9_feed_36 : decode cX9_feed 36 = .ok (.iload_n 1, 1) := by decide +kernel
theorem dX9_feed_37 : decode cX9_feed 37 = .ok (.iastore, 1) := by decide +kernel
theorem dX9_feed_38 : decode cX9_feed 38 = .ok (.aload_n 0, 1) := by decide +kernel
theorem dX9_feed_39 : decode cX9_feed 39 = .ok (.dup, 1) := by decide +kernel
theorem dX9_feed_40 : decode cX9_feed 40 = .ok (.getfield 141, 3) := by decide +kernel
theorem dX9_feed_43 : decode cX9_feed 43 = .ok (.iconst 1, 1) := by decide +kernel
theorem dX9_feed_44 : decode cX9_feed 44 = .ok (.iadd, 1) := by decide +kernel
theorem dX9_feed_45 : decode cX9_feed 45 = .ok (.putfield 141, 3) := by decide +kernel
theorem dX9_feed_48 : decode cX9_feed 48 = .ok (.aload_n 0, 1) := by decide +kernel
theorem dX9_feed_49 : decode cX9_feed 49 = .ok (.getfield 141, 3) := by decide +kernel
theorem dX9_feed_52 : decode cX9_feed 52 = .ok (.ireturn, 1) := by decide +kernel
theorem dX9_byteAt_0 : decode cX9_byteAt 0 = .ok (.iload_n 1, 1) := by decide +kernel
theorem dX9_byteAt_1 : decode cX9_byteAt 1 = .ok (.aload_n 0, 1) := by decide +kernel
theorem dX9_byteAt_2 : decode cX9_byteAt 2 = .ok (.getfield 144, 3) := by decide +kernel
theorem dX9_byteAt_5 : decode cX9_byteAt 5 = .ok (.if_icmp .ge 17, 3) := by decide +kernel
theorem dX9_byteAt_8 : decode cX9_byteAt 8 = .ok (.aload_n 0, 1) := by decide +kernel
theorem dX9_byteAt_9 : decode cX9_byteAt 9 = .ok (.getfield 13, 3) := by decide +kernel
theorem dX9_byteAt_12 : decode cX9_byteAt 12 = .ok (.aload_n 0, 1) := by decide +kernel
theorem dX9_byteAt_13 : decode cX9_byteAt 13 = .ok (.getfield 147, 3) := by decide +kernel
theorem dX9_byteAt_16 : decode cX9_byteAt 16 = .ok (.iload_n 1, 1) := by decide +kernel
theorem dX9_byteAt_17 : decode cX9_byteAt 17 = .ok (.iadd, 1) := by decide +kernel
theorem dX9_byteAt_18 : decode cX9_byteAt 18 = .ok (.iaload, 1) := by decide +kernel
theorem dX9_byteAt_19 : decode cX9_byteAt 19 = .ok (.goto 4, 3) := by decide +kernel
theorem dX9_byteAt_22 : decode cX9_byteAt 22 = .ok (.iconst (-1), 1) := by decide +kernel
theorem dX9_byteAt_23 : decode cX9_byteAt 23 = .ok (.ireturn, 1) := by decide +kernel
theorem dX9_next_0 : decode cX9_next 0 = .ok (.aload_n 0, 1) := by decide +kernel
theorem dX9_next_1 : decode cX9_next 1 = .ok (.aload_n 0, 1) := by decide +kernel
theorem dX9_next_2 : decode cX9_next 2 = .ok (.getfield 150, 3) := by decide +kernel
theorem dX9_next_5 : decode cX9_next 5 = .ok (.invokevirtual 153, 3) := by decide +kernel
theorem dX9_next_8 : decode cX9_next 8 = .ok (.bipush 32, 2) := by decide +kernel
theorem dX9_next_10 : decode cX9_next 10 = .ok (.if_icmp .eq 16, 3) := by decide +kernel
theorem dX9_next_13 : decode cX9_next 13 = .ok (.aload_n 0, 1) := by decide +kernel
theorem dX9_next_14 : decode cX9_next 14 = .ok (.aload_n 0, 1) := by decide +kernel
theorem dX9_next_15 : decode cX9_next 15 = .ok (.getfield 150, 3) := by decide +kernel
theorem dX9_next_18 : decode cX9_next 18 = .ok (.invokevirtual 153, 3) := by decide +kernel
theorem dX9_next_21 : decode cX9_next 21 = .ok (.bipush 10, 2) := by decide +kernel
theorem dX9_next_23 : decode cX9_next 23 = .ok (.if_icmp .ne 16, 3) := by decide +kernel
theorem dX9_next_26 : decode cX9_next 26 = .ok (.aload_n 0, 1) := by decide +kernel
theorem dX9_next_27 : decode cX9_next 27 = .ok (.dup, 1) := by decide +kernel
theorem dX9_next_28 : decode cX9_next 28 = .ok (.getfield 150, 3) := by decide +kernel
theorem dX9_next_31 : decode cX9_next 31 = .ok (.iconst 1, 1) := by decide +kernel
theorem dX9_next_32 : decode cX9_next 32 = .ok (.iadd, 1) := by decide +kernel
theorem dX9_next_33 : decode cX9_next 33 = .ok (.putfield 150, 3) := by decide +kernel
theorem dX9_next_36 : decode cX9_next 36 = .ok (.goto (-36), 3) := by decide +kernel
theorem dX9_next_39 : decode cX9_next 39 = .ok (.aload_n 0, 1) := by decide +kernel
theorem dX9_next_40 : decode cX9_next 40 = .ok (.aload_n 0, 1) := by decide +kernel
theorem dX9_next_41 : decode cX9_next 41 = .ok (.getfield 150, 3) := by decide +kernel
theorem dX9_next_44 : decode cX9_next 44 = .ok (.putfield 156, 3) := by decide +kernel
theorem dX9_next_47 : decode cX9_next 47 = .ok (.aload_n 0, 1) := by decide +kernel
theorem dX9_next_48 : decode cX9_next 48 = .ok (.aload_n 0, 1) := by decide +kernel
theorem dX9_next_49 : decode cX9_next 49 = .ok (.getfield 150, 3) := by decide +kernel
theorem dX9_next_52 : decode cX9_next 52 = .ok (.invokevirtual 153, 3) := by decide +kernel
theorem dX9_next_55 : decode cX9_next 55 = .ok (.istore_n 1, 1) := by decide +kernel
theorem dX9_next_56 : decode cX9_next 56 = .ok (.aload_n 0, 1) := by decide +kernel
theorem dX9_next_57 : decode cX9_next 57 = .ok (.iconst 4, 1) := by decide +kernel
theorem dX9_next_58 : decode cX9_next 58 = .ok (.putfield 159, 3) := by decide +kernel
theorem dX9_next_61 : decode cX9_next 61 = .ok (.iload_n 1, 1) := by decide +kernel
theorem dX9_next_62 : decode cX9_next 62 = .ok (.ifCond .ge 19, 3) := by decide +kernel
theorem dX9_next_65 : decode cX9_next 65 = .ok (.aload_n 0, 1) := by decide +kernel
theorem dX9_next_66 : decode cX9_next 66 = .ok (.iconst 0, 1) := by decide +kernel
theorem dX9_next_67 : decode cX9_next 67 = .ok (.putfield 159, 3) := by decide +kernel
theorem dX9_next_70 : decode cX9_next 70 = .ok (.aload_n 0, 1) := by decide +kernel
theorem dX9_next_71 : decode cX9_next 71 = .ok (.aload_n 0, 1) := by decide +kernel
theorem dX9_next_72 : decode cX9_next 72 = .ok (.getfield 144, 3) := by decide +kernel
theorem dX9_next_75 : decode cX9_next 75 = .ok (.putfield 156, 3) := by decide +kernel
theorem dX9_next_78 : decode cX9_next 78 = .ok (.goto 243, 3) := by decide +kernel
theorem dX9_next_81 : decode cX9_next 81 = .ok (.iload_n 1, 1) := by decide +kernel
theorem dX9_next_82 : decode cX9_next 82 = .ok (.i2l, 1) := by decide +kernel
theorem dX9_next_83 : decode cX9_next 83 = .ok (.ldc2_w 162, 3) := by decide +kernel
theorem dX9_next_86 : decode cX9_next 86 = .ok (.ldc2_w 164, 3) := by decide +kernel
theorem dX9_next_89 : decode cX9_next 89 = .ok (.invokestatic 83, 3) := by decide +kernel
theorem dX9_next_92 : decode cX9_next 92 = .ok (.ifCond .eq 42, 3) := by decide +kernel
theorem dX9_next_95 : decode cX9_next 95 = .ok (.aload_n 0, 1) := by decide +kernel
theorem dX9_next_96 : decode cX9_next 96 = .ok (.iconst 1, 1) := by decide +kernel
theorem dX9_next_97 : decode cX9_next 97 = .ok (.putfield 159, 3) := by decide +kernel
theorem dX9_next_100 : decode cX9_next 100 = .ok (.aload_n 0, 1) := by decide +kernel
theorem dX9_next_101 : decode cX9_next 101 = .ok (.aload_n 0, 1) := by decide +kernel
theorem dX9_next_102 : decode cX9_next 102 = .ok (.getfield 150, 3) := by decide +kernel
theorem dX9_next_105 : decode cX9_next 105 = .ok (.invokevirtual 153, 3) := by decide +kernel
theorem dX9_next_108 : decode cX9_next 108 = .ok (.i2l, 1) := by decide +kernel
theorem dX9_next_109 : decode cX9_next 109 = .ok (.ldc2_w 162, 3) := by decide +kernel
theorem dX9_next_112 : decode cX9_next 112 = .ok (.ldc2_w 164, 3) := by decide +kernel
theorem dX9_next_115 : decode cX9_next 115 = .ok (.invokestatic 83, 3) := by decide +kernel
theorem dX9_next_118 : decode cX9_next 118 = .ok (.ifCond .eq 203, 3) := by decide +kernel
theorem dX9_next_121 : decode cX9_next 121 = .ok (.aload_n 0, 1) := by decide +kernel
theorem dX9_next_122 : decode cX9_next 122 = .ok (.dup, 1) := by decide +kernel
theorem dX9_next_123 : decode cX9_next 123 = .ok (.getfield 150, 3) := by decide +kernel
theorem dX9_next_126 : decode cX9_next 126 = .ok (.iconst 1, 1) := by decide +kernel
theorem dX9_next_127 : decode cX9_next 127 = .ok (.iadd, 1) := by decide +kernel
theorem dX9_next_128 : decode cX9_next 128 = .ok (.putfield 150, 3) := by decide +kernel
theorem dX9_next_131 : decode cX9_next 131 = .ok (.goto (-31), 3) := by decide +kernel
theorem dX9_next_134 : decode cX9_next 134 = .ok (.iload_n 1, 1) := by decide +kernel
theorem dX9_next_135 : decode cX9_next 135 = .ok (.i2l, 1) := by decide +kernel
theorem dX9_next_136 : decode cX9_next 136 = .ok (.ldc2_w 166, 3) := by decide +kernel
theorem dX9_next_139 : decode cX9_next 139 = .ok (.ldc2_w 168, 3) := by decide +kernel
theorem dX9_next_142 : decode cX9_next 142 = .ok (.invokestatic 83, 3) := by decide +kernel
theorem dX9_next_145 : decode cX9_next 145 = .ok (.ifCond .eq 107, 3) := by decide +kernel
theorem dX9_next_148 : decode cX9_next 148 = .ok (.aload_n 0, 1) := by decide +kernel
theorem dX9_next_149 : decode cX9_next 149 = .ok (.iconst 2, 1) := by decide +kernel
theorem dX9_next_150 : decode cX9_next 150 = .ok (.putfield 159, 3) := by decide +kernel
theorem dX9_next_153 : decode cX9_next 153 = .ok (.aload_n 0, 1) := by decide +kernel
theorem dX9_next_154 : decode cX9_next 154 = .ok (.lconst 0, 1) := by decide +kernel
theorem dX9_next_155 : decode cX9_next 155 = .ok (.putfield 170, 3) := by decide +kernel
theorem dX9_next_158 : decode cX9_next 158 = .ok (.iconst 0, 1) := by decide +kernel
theorem dX9_next_159 : decode cX9_next 159 = .ok (.istore_n 2, 1) := by decide +kernel
theorem dX9_next_160 : decode cX9_next 160 = .ok (.aload_n 0, 1) := by decide +kernel
theorem dX9_next_161 : decode cX9_next 161 = .ok (.aload_n 0, 1) := by decide +kernel
theorem dX9_next_162 : decode cX9_next 162 = .ok (.getfield 150, 3) := by decide +kernel
theorem dX9_next_165 : decode cX9_next 165 = .ok (.invokevirtual 153, 3) := by decide +kernel
theorem dX9_next_168 : decode cX9_next 168 = .ok (.i2l, 1) := by decide +kernel
theorem dX9_next_169 : decode cX9_next 169 = .ok (.ldc2_w 166, 3) := by decide +kernel
theorem dX9_next_172 : decode cX9_next 172 = .ok (.ldc2_w 168, 3) := by decide +kernel
theorem dX9_next_175 : decode cX9_next 175 = .ok (.invokestatic 83, 3) := by decide +kernel
theorem dX9_next_178 : decode cX9_next 178 = .ok (.ifCond .eq 57, 3) := by decide +kernel
theorem dX9_next_181 : decode cX9_next 181 = .ok (.aload_n 0, 1) := by decide +kernel
theorem dX9_next_182 : decode cX9_next 182 = .ok (.iload_n 2, 1) := by decide +kernel
theorem dX9_next_183 : decode cX9_next 183 = .ok (.iconst 4, 1) := by decide +kernel
theorem dX9_next_184 : decode cX9_next 184 = .ok (.if_icmp .ge 28, 3) := by decide +kernel
theorem dX9_next_187 : decode cX9_next 187 = .ok (.ldc2_w 128, 3) := by decide +kernel
theorem dX9_next_190 : decode cX9_next 190 = .ok (.aload_n 0, 1) := by decide +kernel
theorem dX9_next_191 : decode cX9_next 191 = .ok (.getfield 170, 3) := by decide +kernel
theorem dX9_next_194 : decode cX9_next 194 = .ok (.lmul, 1) := by decide +kernel
theorem dX9_next_195 : decode cX9_next 195 = .ok (.aload_n 0, 1) := by decide +kernel
theorem dX9_next_196 : decode cX9_next 196 = .ok (.aload_n 0, 1) := by decide +kernel
theorem dX9_next_197 : decode cX9_next 197 = .ok (.getfield 150, 3) := by decide +kernel
theorem dX9_next_200 : decode cX9_next 200 = .ok (.invokevirtual 153, 3) := by decide +kernel
theorem dX9_next_203 : decode cX9_next 203 = .ok (.i2l, 1) := by decide +kernel
theorem dX9_next_204 : decode cX9_next 204 = .ok (.ladd, 1) := by decide +kernel
theorem dX9_next_205 : decode cX9_next 205 = .ok (.ldc2_w 166, 3) := by decide +kernel
theorem dX9_next_208 : decode cX9_next 208 = .ok (.lsub, 1) := by decide +kernel
theorem dX9_next_209 : decode cX9_next 209 = .ok (.goto 7, 3) := by decide +kernel
theorem dX9_next_212 : decode cX9_next 212 = .ok (.aload_n 0, 1) := by decide +kernel
theorem dX9_next_213 : decode cX9_next 213 = .ok (.getfield 170, 3) := by decide +kernel
theorem dX9_next_216 : decode cX9_next 216 = .ok (.putfield 170, 3) := by decide +kernel
theorem dX9_next_219 : decode cX9_next 219 = .ok (.iinc 2 1, 3) := by decide +kernel
theorem dX9_next_222 : decode cX9_next 222 = .ok (.aload_n 0, 1) := by decide +kernel
theorem dX9_next_223 : decode cX9_next 223 = .ok (.dup, 1) := by decide +kernel
theorem dX9_next_224 : decode cX9_next 224 = .ok (.getfield 150, 3) := by decide +kernel
theorem dX9_next_227 : decode cX9_next 227 = .ok (.iconst 1, 1) := by decide +kernel
theorem dX9_next_228 : decode cX9_next 228 = .ok (.iadd, 1) := by decide +kernel
theorem dX9_next_229 : decode cX9_next 229 = .ok (.putfield 150, 3) := by decide +kernel
theorem dX9_next_232 : decode cX9_next 232 = .ok (.goto (-72), 3) := by decide +kernel
theorem dX9_next_235 : decode cX9_next 235 = .ok (.aload_n 0, 1) := by decide +kernel
theorem dX9_next_236 : decode cX9_next 236 = .ok (.iload_n 2, 1) := by decide +kernel
theorem dX9_next_237 : decode cX9_next 237 = .ok (.iconst 4, 1) := by decide +kernel
theorem dX9_next_238 : decode cX9_next 238 = .ok (.if_icmp .le 7, 3) := by decide +kernel
theorem dX9_next_241 : decode cX9_next 241 = .ok (.iconst 4, 1) := by decide +kernel
theorem dX9_next_242 : decode cX9_next 242 = .ok (.goto 4, 3) := by decide +kernel
theorem dX9_next_245 : decode cX9_next 245 = .ok (.iconst 2, 1) := by decide +kernel
theorem dX9_next_246 : decode cX9_next 246 = .ok (.putfield 159, 3) := by decide +kernel
theorem dX9_next_249 : decode cX9_next 249 = .ok (.goto 72, 3) := by decide +kernel
theorem dX9_next_252 : decode cX9_next 252 = .ok (.iload_n 1, 1) := by decide +kernel
theorem dX9_next_253 : decode cX9_next 253 = .ok (.bipush 40, 2) := by decide +kernel
theorem dX9_next_255 : decode cX9_next 255 = .ok (.if_icmp .eq 45, 3) := by decide +kernel
theorem dX9_next_258 : decode cX9_next 258 = .ok (.iload_n 1, 1) := by decide +kernel
theorem dX9_next_259 : decode cX9_next 259 = .ok (.bipush 41, 2) := by decide +kernel
theorem dX9_next_261 : decode cX9_next 261 = .ok (.if_icmp .eq 39, 3) := by decide +kernel
theorem dX9_next_264 : decode cX9_next 264 = .ok (.iload_n 1, 1) := by decide +kernel
theorem dX9_next_265 : decode cX9_next 265 = .ok (.bipush 59, 2) := by decide +kernel
theorem dX9_next_267 : decode cX9_next 267 = .ok (.if_icmp .eq 33, 3) := by decide +kernel
theorem dX9_next_270 : decode cX9_next 270 = .ok (.iload_n 1, 1) := by decide +kernel
theorem dX9_next_271 : decode cX9_next 271 = .ok (.bipush 43, 2) := by decide +kernel
theorem dX9_next_273 : decode cX9_next 273 = .ok (.if_icmp .eq 27, 3) := by decide +kernel
theorem dX9_next_276 : decode cX9_next 276 = .ok (.iload_n 1, 1) := by decide +kernel
theorem dX9_next_277 : decode cX9_next 277 = .ok (.bipush 45, 2) := by decide +kernel
theorem dX9_next_279 : decode cX9_next 279 = .ok (.if_icmp .eq 21, 3) := by decide +kernel
theorem dX9_next_282 : decode cX9_next 282 = .ok (.iload_n 1, 1) := by decide +kernel
theorem dX9_next_283 : decode cX9_next 283 = .ok (.bipush 42, 2) := by decide +kernel
theorem dX9_next_285 : decode cX9_next 285 = .ok (.if_icmp .eq 15, 3) := by decide +kernel
theorem dX9_next_288 : decode cX9_next 288 = .ok (.iload_n 1, 1) := by decide +kernel
theorem dX9_next_289 : decode cX9_next 289 = .ok (.bipush 60, 2) := by decide +kernel
theorem dX9_next_291 : decode cX9_next 291 = .ok (.if_icmp .eq 9, 3) := by decide +kernel
theorem dX9_next_294 : decode cX9_next 294 = .ok (.iload_n 1, 1) := by decide +kernel
theorem dX9_next_295 : decode cX9_next 295 = .ok (.bipush 61, 2) := by decide +kernel
theorem dX9_next_297 : decode cX9_next 297 = .ok (.if_icmp .ne 24, 3) := by decide +kernel
theorem dX9_next_300 : decode cX9_next 300 = .ok (.aload_n 0, 1) := by decide +kernel
theorem dX9_next_301 : decode cX9_next 301 = .ok (.iconst 3, 1) := by decide +kernel
theorem dX9_next_302 : decode cX9_next 302 = .ok (.putfield 159, 3) := by decide +kernel
theorem dX9_next_305 : decode cX9_next 305 = .ok (.aload_n 0, 1) := by decide +kernel
theorem dX9_next_306 : decode cX9_next 306 = .ok (.iload_n 1, 1) := by decide +kernel
theorem dX9_next_307 : decode cX9_next 307 = .ok (.i2l, 1) := by decide +kernel
theorem dX9_next_308 : decode cX9_next 308 = .ok (.putfield 170, 3) := by decide +kernel
theorem dX9_next_311 : decode cX9_next 311 = .ok (.aload_n 0, 1) := by decide +kernel
theorem dX9_next_312 : decode cX9_next 312 = .ok (.dup, 1) := by decide +kernel
theorem dX9_next_313 : decode cX9_next 313 = .ok (.getfield 150, 3) := by decide +kernel
theorem dX9_next_316 : decode cX9_next 316 = .ok (.iconst 1, 1) := by decide +kernel
theorem dX9_next_317 : decode cX9_next 317 = .ok (.iadd, 1) := by decide +kernel
theorem dX9_next_318 : decode cX9_next 318 = .ok (.putfield 150, 3) := by decide +kernel
theorem dX9_next_321 : decode cX9_next 321 = .ok (.return_, 1) := by decide +kernel
theorem dX9_fail_0 : decode cX9_fail 0 = .ok (.aload_n 0, 1) := by decide +kernel
theorem dX9_fail_1 : decode cX9_fail 1 = .ok (.getfield 174, 3) := by decide +kernel
theorem dX9_fail_4 : decode cX9_fail 4 = .ok (.ifCond .ne 16, 3) := by decide +kernel
theorem dX9_fail_7 : decode cX9_fail 7 = .ok (.aload_n 0, 1) := by decide +kernel
theorem dX9_fail_8 : decode cX9_fail 8 = .ok (.iconst 1, 1) := by decide +kernel
theorem dX9_fail_9 : decode cX9_fail 9 = .ok (.putfield 174, 3) := by decide +kernel
theorem dX9_fail_12 : decode cX9_fail 12 = .ok (.aload_n 0, 1) := by decide +kernel
theorem dX9_fail_13 : decode cX9_fail 13 = .ok (.aload_n 0, 1) := by decide +kernel
theorem dX9_fail_14 : decode cX9_fail 14 = .ok (.getfield 156, 3) := by decide +kernel
theorem dX9_fail_17 : decode cX9_fail 17 = .ok (.putfield 178, 3) := by decide +kernel
theorem dX9_fail_20 : decode cX9_fail 20 = .ok (.return_, 1) := by decide +kernel
theorem dX9_isLetter_0 : decode cX9_isLetter 0 = .ok (.aload_n 0, 1) := by decide +kernel
theorem dX9_isLetter_1 : decode cX9_isLetter 1 = .ok (.getfield 156, 3) := by decide +kernel
theorem dX9_isLetter_4 : decode cX9_isLetter 4 = .ok (.iload_n 1, 1) := by decide +kernel
theorem dX9_isLetter_5 : decode cX9_isLetter 5 = .ok (.iadd, 1) := by decide +kernel
theorem dX9_isLetter_6 : decode cX9_isLetter 6 = .ok (.aload_n 0, 1) := by decide +kernel
theorem dX9_isLetter_7 : decode cX9_isLetter 7 = .ok (.getfield 150, 3) := by decide +kernel
theorem dX9_isLetter_10 : decode cX9_isLetter 10 = .ok (.if_icmp .ge 25, 3) := by decide +kernel
theorem dX9_isLetter_13 : decode cX9_isLetter 13 = .ok (.aload_n 0, 1) := by decide +kernel
theorem dX9_isLetter_14 : decode cX9_isLetter 14 = .ok (.aload_n 0, 1) := by decide +kernel
theorem dX9_isLetter_15 : decode cX9_isLetter 15 = .ok (.getfield 156, 3) := by decide +kernel
theorem dX9_isLetter_18 : decode cX9_isLetter 18 = .ok (.iload_n 1, 1) := by decide +kernel
theorem dX9_isLetter_19 : decode cX9_isLetter 19 = .ok (.iadd, 1) := by decide +kernel
theorem dX9_isLetter_20 : decode cX9_isLetter 20 = .ok (.invokevirtual 153, 3) := by decide +kernel
theorem dX9_isLetter_23 : decode cX9_isLetter 23 = .ok (.iload_n 2, 1) := by decide +kernel
theorem dX9_isLetter_24 : decode cX9_isLetter 24 = .ok (.if_icmp .ne 7, 3) := by decide +kernel
theorem dX9_isLetter_27 : decode cX9_isLetter 27 = .ok (.iconst 1, 1) := by decide +kernel
theorem dX9_isLetter_28 : decode cX9_isLetter 28 = .ok (.goto 16, 3) := by decide +kernel
theorem dX9_isLetter_31 : decode cX9_isLetter 31 = .ok (.iconst 0, 1) := by decide +kernel
theorem dX9_isLetter_32 : decode cX9_isLetter 32 = .ok (.goto 12, 3) := by decide +kernel
theorem dX9_isLetter_35 : decode cX9_isLetter 35 = .ok (.iload_n 2, 1) := by decide +kernel
theorem dX9_isLetter_36 : decode cX9_isLetter 36 = .ok (.ifCond .ne 7, 3) := by decide +kernel
theorem dX9_isLetter_39 : decode cX9_isLetter 39 = .ok (.iconst 1, 1) := by decide +kernel
theorem dX9_isLetter_40 : decode cX9_isLetter 40 = .ok (.goto 4, 3) := by decide +kernel
theorem dX9_isLetter_43 : decode cX9_isLetter 43 = .ok (.iconst 0, 1) := by decide +kernel
theorem dX9_isLetter_44 : decode cX9_isLetter 44 = .ok (.ireturn, 1) := by decide +kernel
theorem dX9_isWord__0 : decode cX9_isWord_ 0 = .ok (.aload_n 0, 1) := by decide +kernel
theorem dX9_isWord__1 : decode cX9_isWord_ 1 = .ok (.getfield 174, 3) := by decide +kernel
theorem dX9_isWord__4 : decode cX9_isWord_ 4 = .ok (.ifCond .ne 108, 3) := by decide +kernel
theorem dX9_isWord__7 : decode cX9_isWord_ 7 = .ok (.aload_n 0, 1) := by decide +kernel
theorem dX9_isWord__8 : decode cX9_isWord_ 8 = .ok (.getfield 159, 3) := by decide +kernel
theorem dX9_isWord__11 : decode cX9_isWord_ 11 = .ok (.iconst 1, 1) := by decide +kernel
theorem dX9_isWord__12 : decode cX9_isWord_ 12 = .ok (.if_icmp .ne 100, 3) := by decide +kernel
theorem dX9_isWord__15 : decode cX9_isWord_ 15 = .ok (.aload_n 0, 1) := by decide +kernel
theorem dX9_isWord__16 : decode cX9_isWord_ 16 = .ok (.getfield 150, 3) := by decide +kernel
theorem dX9_isWord__19 : decode cX9_isWord_ 19 = .ok (.aload_n 0, 1) := by decide +kernel
theorem dX9_isWord__20 : decode cX9_isWord_ 20 = .ok (.getfield 156, 3) := by decide +kernel
theorem dX9_isWord__23 : decode cX9_isWord_ 23 = .ok (.bipush 8, 2) := by decide +kernel
theorem dX9_isWord__25 : decode cX9_isWord_ 25 = .ok (.iadd, 1) := by decide +kernel
theorem dX9_isWord__26 : decode cX9_isWord_ 26 = .ok (.if_icmp .gt 86, 3) := by decide +kernel
theorem dX9_isWord__29 : decode cX9_isWord_ 29 = .ok (.aload_n 0, 1) := by decide +kernel
theorem dX9_isWord__30 : decode cX9_isWord_ 30 = .ok (.iconst 0, 1) := by decide +kernel
theorem dX9_isWord__31 : decode cX9_isWord_ 31 = .ok (.iload_n 1, 1) := by decide +kernel
theorem dX9_isWord__32 : decode cX9_isWord_ 32 = .ok (.invokevirtual 181, 3) := by decide +kernel
theorem dX9_isWord__35 : decode cX9_isWord_ 35 = .ok (.ifCond .eq 77, 3) := by decide +kernel
theorem dX9_isWord__38 : decode cX9_isWord_ 38 = .ok (.aload_n 0, 1) := by decide +kernel
theorem dX9_isWord__39 : decode cX9_isWord_ 39 = .ok (.iconst 1, 1) := by decide +kernel
theorem dX9_isWord__40 : decode cX9_isWord_ 40 = .ok (.iload_n 2, 1) := by decide +kernel
theorem dX9_isWord__41 : decode cX9_isWord_ 41 = .ok (.invokevirtual 181, 3) := by decide +kernel
theorem dX9_isWord__44 : decode cX9_isWord_ 44 = .ok (.ifCond .eq 68, 3) := by decide +kernel
theorem dX9_isWord__47 : decode cX9_isWord_ 47 = .ok (.aload_n 0, 1) := by decide +kernel
theorem dX9_isWord__48 : decode cX9_isWord_ 48 = .ok (.iconst 2, 1) := by decide +kernel
theorem dX9_isWord__49 : decode cX9_isWord_ 49 = .ok (.iload_n 3, 1) := by decide +kernel
theorem dX9_isWord__50 : decode cX9_isWord_ 50 = .ok (.invokevirtual 181, 3) := by decide +kernel
theorem dX9_isWord__53 : decode cX9_isWord_ 53 = .ok (.ifCond .eq 59, 3) := by decide +kernel
theorem dX9_isWord__56 : decode cX9_isWord_ 56 = .ok (.aload_n 0, 1) := by decide +kernel
theorem dX9_isWord__57 : decode cX9_isWord_ 57 = .ok (.iconst 3, 1) := by decide +kernel
theorem dX9_isWord__58 : decode cX9_isWord_ 58 = .ok (.iload 4, 2) := by decide +kernel
theorem dX9_isWord__60 : decode cX9_isWord_ 60 = .ok (.invokevirtual 181, 3) := by decide +kernel
theorem dX9_isWord__63 : decode cX9_isWord_ 63 = .ok (.ifCond .eq 49, 3) := by decide +kernel
theorem dX9_isWord__66 : decode cX9_isWord_ 66 = .ok (.aload_n 0, 1) := by decide +kernel
theorem dX9_isWord__67 : decode cX9_isWord_ 67 = .ok (.iconst 4, 1) := by decide +kernel
theorem dX9_isWord__68 : decode cX9_isWord_ 68 = .ok (.iload 5, 2) := by decide +kernel
theorem dX9_isWord__70 : decode cX9_isWord_ 70 = .ok (.invokevirtual 181, 3) := by decide +kernel
theorem dX9_isWord__73 : decode cX9_isWord_ 73 = .ok (.ifCond .eq 39, 3) := by decide +kernel
theorem dX9_isWord__76 : decode cX9_isWord_ 76 = .ok (.aload_n 0, 1) := by decide +kernel
theorem dX9_isWord__77 : decode cX9_isWord_ 77 = .ok (.iconst 5, 1) := by decide +kernel
theorem dX9_isWord__78 : decode cX9_isWord_ 78 = .ok (.iload 6, 2) := by decide +kernel
theorem dX9_isWord__80 : decode cX9_isWord_ 80 = .ok (.invokevirtual 181, 3) := by decide +kernel
theorem dX9_isWord__83 : decode cX9_isWord_ 83 = .ok (.ifCond .eq 29, 3) := by decide +kernel
theorem dX9_isWord__86 : decode cX9_isWord_ 86 = .ok (.aload_n 0, 1) := by decide +kernel
theorem dX9_isWord__87 : decode cX9_isWord_ 87 = .ok (.bipush 6, 2) := by decide +kernel
theorem dX9_isWord__89 : decode cX9_isWord_ 89 = .ok (.iload 7, 2) := by decide +kernel
theorem dX9_isWord__91 : decode cX9_isWord_ 91 = .ok (.invokevirtual 181, 3) := by decide +kernel
theorem dX9_isWord__94 : decode cX9_isWord_ 94 = .ok (.ifCond .eq 18, 3) := by decide +kernel
theorem dX9_isWord__97 : decode cX9_isWord_ 97 = .ok (.aload_n 0, 1) := by decide +kernel
theorem dX9_isWord__98 : decode cX9_isWord_ 98 = .ok (.bipush 7, 2) := by decide +kernel
theorem dX9_isWord__100 : decode cX9_isWord_ 100 = .ok (.iload 8, 2) := by decide +kernel
theorem dX9_isWord__102 : decode cX9_isWord_ 102 = .ok (.invokevirtual 181, 3) := by decide +kernel
theorem dX9_isWord__105 : decode cX9_isWord_ 105 = .ok (.ifCond .eq 7, 3) := by decide +kernel
theorem dX9_isWord__108 : decode cX9_isWord_ 108 = .ok (.iconst 1, 1) := by decide +kernel
theorem dX9_isWord__109 : decode cX9_isWord_ 109 = .ok (.goto 4, 3) := by decide +kernel
theorem dX9_isWord__112 : decode cX9_isWord_ 112 = .ok (.iconst 0, 1) := by decide +kernel
theorem dX9_isWord__113 : decode cX9_isWord_ 113 = .ok (.ireturn, 1) := by decide +kernel
theorem dX9_isSign_0 : decode cX9_isSign 0 = .ok (.aload_n 0, 1) := by decide +kernel
theorem dX9_isSign_1 : decode cX9_isSign 1 = .ok (.getfield 174, 3) := by decide +kernel
theorem dX9_isSign_4 : decode cX9_isSign 4 = .ok (.ifCond .ne 25, 3) := by decide +kernel
theorem dX9_isSign_7 : decode cX9_isSign 7 = .ok (.aload_n 0, 1) := by decide +kernel
theorem dX9_isSign_8 : decode cX9_isSign 8 = .ok (.getfield 159, 3) := by decide +kernel
theorem dX9_isSign_11 : decode cX9_isSign 11 = .ok (.iconst 3, 1) := by decide +kernel
theorem dX9_isSign_12 : decode cX9_isSign 12 = .ok (.if_icmp .ne 17, 3) := by decide +kernel
theorem dX9_isSign_15 : decode cX9_isSign 15 = .ok (.aload_n 0, 1) := by decide +kernel
theorem dX9_isSign_16 : decode cX9_isSign 16 = .ok (.getfield 170, 3) := by decide +kernel
theorem dX9_isSign_19 : decode cX9_isSign 19 = .ok (.iload_n 1, 1) := by decide +kernel
theorem dX9_isSign_20 : decode cX9_isSign 20 = .ok (.i2l, 1) := by decide +kernel
theorem dX9_isSign_21 : decode cX9_isSign 21 = .ok (.lcmp, 1) := by decide +kernel
theorem dX9_isSign_22 : decode cX9_isSign 22 = .ok (.ifCond .ne 7, 3) := by decide +kernel
theorem dX9_isSign_25 : decode cX9_isSign 25 = .ok (.iconst 1, 1) := by decide +kernel
theorem dX9_isSign_26 : decode cX9_isSign 26 = .ok (.goto 4, 3) := by decide +kernel
theorem dX9_isSign_29 : decode cX9_isSign 29 = .ok (.iconst 0, 1) := by decide +kernel
theorem dX9_isSign_30 : decode cX9_isSign 30 = .ok (.ireturn, 1) := by decide +kernel
theorem dX9_opens_0 : decode cX9_opens 0 = .ok (.aload_n 0, 1) := by decide +kernel
theorem dX9_opens_1 : decode cX9_opens 1 = .ok (.getfield 184, 3) := by decide +kernel
theorem dX9_opens_4 : decode cX9_opens 4 = .ok (.iconst 5, 1) := by decide +kernel
theorem dX9_opens_5 : decode cX9_opens 5 = .ok (.if_icmp .ne 9, 3) := by decide +kernel
theorem dX9_opens_8 : decode cX9_opens 8 = .ok (.aload_n 0, 1) := by decide +kernel
theorem dX9_opens_9 : decode cX9_opens 9 = .ok (.invokevirtual 187, 3) := by decide +kernel
theorem dX9_opens_12 : decode cX9_opens 12 = .ok (.iconst 0, 1) := by decide +kernel
theorem dX9_opens_13 : decode cX9_opens 13 = .ok (.ireturn, 1) := by decide +kernel
theorem dX9_opens_14 : decode cX9_opens 14 = .ok (.aload_n 0, 1) := by decide +kernel
theorem dX9_opens_15 : decode cX9_opens 15 = .ok (.dup, 1) := by decide +kernel
theorem dX9_opens_16 : decode cX9_opens 16 = .ok (.getfield 184, 3) := by decide +kernel
theorem dX9_opens_19 : decode cX9_opens 19 = .ok (.iconst 1, 1) := by decide +kernel
theorem dX9_opens_20 : decode cX9_opens 20 = .ok (.iadd, 1) := by decide +kernel
theorem dX9_opens_21 : decode cX9_opens 21 = .ok (.putfield 184, 3) := by decide +kernel
theorem dX9_opens_24 : decode cX9_opens 24 = .ok (.aload_n 0, 1) := by decide +kernel
theorem dX9_opens_25 : decode cX9_opens 25 = .ok (.invokevirtual 190, 3) := by decide +kernel
theorem dX9_opens_28 : decode cX9_opens 28 = .ok (.iconst 1, 1) := by decide +kernel
theorem dX9_opens_29 : decode cX9_opens 29 = .ok (.ireturn, 1) := by decide +kernel
theorem dX9_name_0 : decode cX9_name 0 = .ok (.aload_n 0, 1) := by decide +kernel
theorem dX9_name_1 : decode cX9_name 1 = .ok (.bipush 119, 2) := by decide +kernel
theorem dX9_name_3 : decode cX9_name 3 = .ok (.bipush 111, 2) := by decide +kernel
theorem dX9_name_5 : decode cX9_name 5 = .ok (.bipush 114, 2) := by decide +kernel
theorem dX9_name_7 : decode cX9_name 7 = .ok (.bipush 100, 2) := by decide +kernel
theorem dX9_name_9 : decode cX9_name 9 = .ok (.iconst 0, 1) := by decide +kernel
theorem dX9_name_10 : decode cX9_name 10 = .ok (.iconst 0, 1) := by decide +kernel
theorem dX9_name_11 : decode cX9_name 11 = .ok (.iconst 0, 1) := by decide +kernel
theorem dX9_name_12 : decode cX9_name 12 = .ok (.iconst 0, 1) := by decide +kernel
theorem dX9_name_13 : decode cX9_name 13 = .ok (.invokevirtual 193, 3) := by decide +kernel
theorem dX9_name_16 : decode cX9_name 16 = .ok (.ifCond .eq 8, 3) := by decide +kernel
theorem dX9_name_19 : decode cX9_name 19 = .ok (.aload_n 0, 1) := by decide +kernel
theorem dX9_name_20 : decode cX9_name 20 = .ok (.getfield 197, 3) := by decide +kernel
theorem dX9_name_23 : decode cX9_name 23 = .ok (.ireturn, 1) := by decide +kernel
theorem dX9_name_24 : decode cX9_name 24 = .ok (.aload_n 0, 1) := by decide +kernel
theorem dX9_name_25 : decode cX9_name 25 = .ok (.bipush 110, 2) := by decide +kernel
theorem dX9_name_27 : decode cX9_name 27 = .ok (.bipush 117, 2) := by decide +kernel
theorem dX9_name_29 : decode cX9_name 29 = .ok (.bipush 109, 2) := by decide +kernel
theorem dX9_name_31 : decode cX9_name 31 = .ok (.bipush 98, 2) := by decide +kernel
theorem dX9_name_33 : decode cX9_name 33 = .ok (.bipush 101, 2) := by decide +kernel
theorem dX9_name_35 : decode cX9_name 35 = .ok (.bipush 114, 2) := by decide +kernel
theorem dX9_name_37 : decode cX9_name 37 = .ok (.iconst 0, 1) := by decide +kernel
theorem dX9_name_38 : decode cX9_name 38 = .ok (.iconst 0, 1) := by decide +kernel
theorem dX9_name_39 : decode cX9_name 39 = .ok (.invokevirtual 193, 3) := by decide +kernel
theorem dX9_name_42 : decode cX9_name 42 = .ok (.ifCond .eq 8, 3) := by decide +kernel
theorem dX9_name_45 : decode cX9_name 45 = .ok (.aload_n 0, 1) := by decide +kernel
theorem dX9_name_46 : decode cX9_name 46 = .ok (.getfield 200, 3) := by decide +kernel
theorem dX9_name_49 : decode cX9_name 49 = .ok (.ireturn, 1) := by decide +kernel
theorem dX9_name_50 : decode cX9_name 50 = .ok (.aload_n 0, 1) := by decide +kernel
theorem dX9_name_51 : decode cX9_name 51 = .ok (.bipush 99, 2) := by decide +kernel
theorem dX9_name_53 : decode cX9_name 53 = .ok (.bipush 111, 2) := by decide +kernel
theorem dX9_name_55 : decode cX9_name 55 = .ok (.bipush 108, 2) := by decide +kernel
theorem dX9_name_57 : decode cX9_name 57 = .ok (.bipush 117, 2) := by decide +kernel
theorem dX9_name_59 : decode cX9_name 59 = .ok (.bipush 109, 2) := by decide +kernel
theorem dX9_name_61 : decode cX9_name 61 = .ok (.bipush 110, 2) := by decide +kernel
theorem dX9_name_63 : decode cX9_name 63 = .ok (.iconst 0, 1) := by decide +kernel
theorem dX9_name_64 : decode cX9_name 64 = .ok (.iconst 0, 1) := by decide +kernel
theorem dX9_name_65 : decode cX9_name 65 = .ok (.invokevirtual 193, 3) := by decide +kernel
theorem dX9_name_68 : decode cX9_name 68 = .ok (.ifCond .eq 8, 3) := by decide +kernel
theorem dX9_name_71 : decode cX9_name 71 = .ok (.aload_n 0, 1) := by decide +kernel
theorem dX9_name_72 : decode cX9_name 72 = .ok (.getfield 203, 3) := by decide +kernel
theorem dX9_name_75 : decode cX9_name 75 = .ok (.ireturn, 1) := by decide +kernel
theorem dX9_name_76 : decode cX9_name 76 = .ok (.aload_n 0, 1) := by decide +kernel
theorem dX9_name_77 : decode cX9_name 77 = .ok (.bipush 114, 2) := by decide +kernel
theorem dX9_name_79 : decode cX9_name 79 = .ok (.bipush 111, 2) := by decide +kernel
theorem dX9_name_81 : decode cX9_name 81 = .ok (.bipush 119, 2) := by decide +kernel
theorem dX9_name_83 : decode cX9_name 83 = .ok (.iconst 0, 1) := by decide +kernel
theorem dX9_name_84 : decode cX9_name 84 = .ok (.iconst 0, 1) := by decide +kernel
theorem dX9_name_85 : decode cX9_name 85 = .ok (.iconst 0, 1) := by decide +kernel
theorem dX9_name_86 : decode cX9_name 86 = .ok (.iconst 0, 1) := by decide +kernel
theorem dX9_name_87 : decode cX9_name 87 = .ok (.iconst 0, 1) := by decide +kernel
theorem dX9_name_88 : decode cX9_name 88 = .ok (.invokevirtual 193, 3) := by decide +kernel
theorem dX9_name_91 : decode cX9_name 91 = .ok (.ifCond .eq 8, 3) := by decide +kernel
theorem dX9_name_94 : decode cX9_name 94 = .ok (.aload_n 0, 1) := by decide +kernel
theorem dX9_name_95 : decode cX9_name 95 = .ok (.getfield 206, 3) := by decide +kernel
theorem dX9_name_98 : decode cX9_name 98 = .ok (.ireturn, 1) := by decide +kernel
theorem dX9_name_99 : decode cX9_name 99 = .ok (.aload_n 0, 1) := by decide +kernel
theorem dX9_name_100 : decode cX9_name 100 = .ok (.bipush 110, 2) := by decide +kernel
theorem dX9_name_102 : decode cX9_name 102 = .ok (.bipush 105, 2) := by decide +kernel
theorem dX9_name_104 : decode cX9_name 104 = .ok (.bipush 103, 2) := by decide +kernel
theorem dX9_name_106 : decode cX9_name 106 = .ok (.bipush 104, 2) := by decide +kernel
theorem dX9_name_108 : decode cX9_name 108 = .ok (.bipush 116, 2) := by decide +kernel
theorem dX9_name_110 : decode cX9_name 110 = .ok (.iconst 0, 1) := by decide +kernel
theorem dX9_name_111 : decode cX9_name 111 = .ok (.iconst 0, 1) := by decide +kernel
theorem dX9_name_112 : decode cX9_name 112 = .ok (.iconst 0, 1) := by decide +kernel
theorem dX9_name_113 : decode cX9_name 113 = .ok (.invokevirtual 193, 3) := by decide +kernel
theorem dX9_name_116 : decode cX9_name 116 = .ok (.ifCond .eq 8, 3) := by decide +kernel
theorem dX9_name_119 : decode cX9_name 119 = .ok (.aload_n 0, 1) := by decide +kernel
theorem dX9_name_120 : decode cX9_name 120 = .ok (.getfield 209, 3) := by decide +kernel
theorem dX9_name_123 : decode cX9_name 123 = .ok (.ireturn, 1) := by decide +kernel
theorem dX9_name_124 : decode cX9_name 124 = .ok (.aload_n 0, 1) := by decide +kernel
theorem dX9_name_125 : decode cX9_name 125 = .ok (.bipush 102, 2) := by decide +kernel
theorem dX9_name_127 : decode cX9_name 127 = .ok (.bipush 108, 2) := by decide +kernel
theorem dX9_name_129 : decode cX9_name 129 = .ok (.bipush 111, 2) := by decide +kernel
theorem dX9_name_131 : decode cX9_name 131 = .ok (.bipush 119, 2) := by decide +kernel
theorem dX9_name_133 : decode cX9_name 133 = .ok (.bipush 110, 2) := by decide +kernel
theorem dX9_name_135 : decode cX9_name 135 = .ok (.iconst 0, 1) := by decide +kernel
theorem dX9_name_136 : decode cX9_name 136 = .ok (.iconst 0, 1) := by decide +kernel
theorem dX9_name_137 : decode cX9_name 137 = .ok (.iconst 0, 1) := by decide +kernel
theorem dX9_name_138 : decode cX9_name 138 = .ok (.invokevirtual 193, 3) := by decide +kernel
theorem dX9_name_141 : decode cX9_name 141 = .ok (.ifCond .eq 8, 3) := by decide +kernel
theorem dX9_name_144 : decode cX9_name 144 = .ok (.aload_n 0, 1) := by decide +kernel
theorem dX9_name_145 : decode cX9_name 145 = .ok (.getfield 212, 3) := by decide +kernel
theorem dX9_name_148 : decode cX9_name 148 = .ok (.ireturn, 1) := by decide +kernel
theorem dX9_name_149 : decode cX9_name 149 = .ok (.aload_n 0, 1) := by decide +kernel
theorem dX9_name_150 : decode cX9_name 150 = .ok (.invokevirtual 187, 3) := by decide +kernel
theorem dX9_name_153 : decode cX9_name 153 = .ok (.iconst 0, 1) := by decide +kernel
theorem dX9_name_154 : decode cX9_name 154 = .ok (.ireturn, 1) := by decide +kernel
theorem dX9_atom5_0 : decode cX9_atom5 0 = .ok (.iconst 0, 1) := by decide +kernel
theorem dX9_atom5_1 : decode cX9_atom5 1 = .ok (.istore_n 1, 1) := by decide +kernel
theorem dX9_atom5_2 : decode cX9_atom5 2 = .ok (.aload_n 0, 1) := by decide +kernel
theorem dX9_atom5_3 : decode cX9_atom5 3 = .ok (.bipush 45, 2) := by decide +kernel
theorem dX9_atom5_5 : decode cX9_atom5 5 = .ok (.invokevirtual 215, 3) := by decide +kernel
theorem dX9_atom5_8 : decode cX9_atom5 8 = .ok (.ifCond .eq 11, 3) := by decide +kernel
theorem dX9_atom5_11 : decode cX9_atom5 11 = .ok (.aload_n 0, 1) := by decide +kernel
theorem dX9_atom5_12 : decode cX9_atom5 12 = .ok (.invokevirtual 218, 3) := by decide +kernel
theorem dX9_atom5_15 : decode cX9_atom5 15 = .ok (.pop, 1) := by decide +kernel
theorem dX9_atom5_16 : decode cX9_atom5 16 = .ok (.goto 86, 3) := by decide +kernel
theorem dX9_atom5_19 : decode cX9_atom5 19 = .ok (.aload_n 0, 1) := by decide +kernel
theorem dX9_atom5_20 : decode cX9_atom5 20 = .ok (.bipush 40, 2) := by decide +kernel
theorem dX9_atom5_22 : decode cX9_atom5 22 = .ok (.invokevirtual 215, 3) := by decide +kernel
theorem dX9_atom5_25 : decode cX9_atom5 25 = .ok (.ifCond .eq 11, 3) := by decide +kernel
theorem dX9_atom5_28 : decode cX9_atom5 28 = .ok (.aload_n 0, 1) := by decide +kernel
theorem dX9_atom5_29 : decode cX9_atom5 29 = .ok (.invokevirtual 218, 3) := by decide +kernel
theorem dX9_atom5_32 : decode cX9_atom5 32 = .ok (.pop, 1) := by decide +kernel
theorem dX9_atom5_33 : decode cX9_atom5 33 = .ok (.goto 69, 3) := by decide +kernel
theorem dX9_atom5_36 : decode cX9_atom5 36 = .ok (.aload_n 0, 1) := by decide +kernel
theorem dX9_atom5_37 : decode cX9_atom5 37 = .ok (.getfield 174, 3) := by decide +kernel
theorem dX9_atom5_40 : decode cX9_atom5 40 = .ok (.ifCond .ne 24, 3) := by decide +kernel
theorem dX9_atom5_43 : decode cX9_atom5 43 = .ok (.aload_n 0, 1) := by decide +kernel
theorem dX9_atom5_44 : decode cX9_atom5 44 = .ok (.getfield 159, 3) := by decide +kernel
theorem dX9_atom5_47 : decode cX9_atom5 47 = .ok (.iconst 2, 1) := by decide +kernel
theorem dX9_atom5_48 : decode cX9_atom5 48 = .ok (.if_icmp .ne 16, 3) := by decide +kernel
theorem dX9_atom5_51 : decode cX9_atom5 51 = .ok (.aload_n 0, 1) := by decide +kernel
theorem dX9_atom5_52 : decode cX9_atom5 52 = .ok (.getfield 170, 3) := by decide +kernel
theorem dX9_atom5_55 : decode cX9_atom5 55 = .ok (.l2i, 1) := by decide +kernel
theorem dX9_atom5_56 : decode cX9_atom5 56 = .ok (.istore_n 1, 1) := by decide +kernel
theorem dX9_atom5_57 : decode cX9_atom5 57 = .ok (.aload_n 0, 1) := by decide +kernel
theorem dX9_atom5_58 : decode cX9_atom5 58 = .ok (.invokevirtual 190, 3) := by decide +kernel
theorem dX9_atom5_61 : decode cX9_atom5 61 = .ok (.goto 41, 3) := by decide +kernel
theorem dX9_atom5_64 : decode cX9_atom5 64 = .ok (.aload_n 0, 1) := by decide +kernel
theorem dX9_atom5_65 : decode cX9_atom5 65 = .ok (.getfield 174, 3) := by decide +kernel
theorem dX9_atom5_68 : decode cX9_atom5 68 = .ok (.ifCond .ne 30, 3) := by decide +kernel
theorem dX9_atom5_71 : decode cX9_atom5 71 = .ok (.aload_n 0, 1) := by decide +kernel
theorem dX9_atom5_72 : decode cX9_atom5 72 = .ok (.getfield 159, 3) := by decide +kernel
theorem dX9_atom5_75 : decode cX9_atom5 75 = .ok (.iconst 1, 1) := by decide +kernel
theorem dX9_atom5_76 : decode cX9_atom5 76 = .ok (.if_icmp .ne 22, 3) := by decide +kernel
theorem dX9_atom5_79 : decode cX9_atom5 79 = .ok (.aload_n 0, 1) := by decide +kernel
theorem dX9_atom5_80 : decode cX9_atom5 80 = .ok (.invokevirtual 222, 3) := by decide +kernel
theorem dX9_atom5_83 : decode cX9_atom5 83 = .ok (.istore_n 1, 1) := by decide +kernel
theorem dX9_atom5_84 : decode cX9_atom5 84 = .ok (.aload_n 0, 1) := by decide +kernel
theorem dX9_atom5_85 : decode cX9_atom5 85 = .ok (.getfield 174, 3) := by decide +kernel
theorem dX9_atom5_88 : decode cX9_atom5 88 = .ok (.ifCond .ne 14, 3) := by decide +kernel
theorem dX9_atom5_91 : decode cX9_atom5 91 = .ok (.aload_n 0, 1) := by decide +kernel
theorem dX9_atom5_92 : decode cX9_atom5 92 = .ok (.invokevirtual 190, 3) := by decide +kernel
theorem dX9_atom5_95 : decode cX9_atom5 95 = .ok (.goto 7, 3) := by decide +kernel
theorem dX9_atom5_98 : decode cX9_atom5 98 = .ok (.aload_n 0, 1) := by decide +kernel
theorem dX9_atom5_99 : decode cX9_atom5 99 = .ok (.invokevirtual 187, 3) := by decide +kernel
theorem dX9_atom5_102 : decode cX9_atom5 102 = .ok (.iload_n 1, 1) := by decide +kernel
theorem dX9_atom5_103 : decode cX9_atom5 103 = .ok (.ireturn, 1) := by decide +kernel
theorem dX9_term5_0 : decode cX9_term5 0 = .ok (.aload_n 0, 1) := by decide +kernel
theorem dX9_term5_1 : decode cX9_term5 1 = .ok (.invokevirtual 226, 3) := by decide +kernel
theorem dX9_term5_4 : decode cX9_term5 4 = .ok (.istore_n 1, 1) := by decide +kernel
theorem dX9_term5_5 : decode cX9_term5 5 = .ok (.aload_n 0, 1) := by decide +kernel
theorem dX9_term5_6 : decode cX9_term5 6 = .ok (.bipush 42, 2) := by decide +kernel
theorem dX9_term5_8 : decode cX9_term5 8 = .ok (.invokevirtual 215, 3) := by decide +kernel
theorem dX9_term5_11 : decode cX9_term5 11 = .ok (.ifCond .eq 17, 3) := by decide +kernel
theorem dX9_term5_14 : decode cX9_term5 14 = .ok (.aload_n 0, 1) := by decide +kernel
theorem dX9_term5_15 : decode cX9_term5 15 = .ok (.invokevirtual 190, 3) := by decide +kernel
theorem dX9_term5_18 : decode cX9_term5 18 = .ok (.iload_n 1, 1) := by decide +kernel
theorem dX9_term5_19 : decode cX9_term5 19 = .ok (.aload_n 0, 1) := by decide +kernel
theorem dX9_term5_20 : decode cX9_term5 20 = .ok (.invokevirtual 226, 3) := by decide +kernel
theorem dX9_term5_23 : decode cX9_term5 23 = .ok (.imul, 1) := by decide +kernel
theorem dX9_term5_24 : decode cX9_term5 24 = .ok (.istore_n 1, 1) := by decide +kernel
theorem dX9_term5_25 : decode cX9_term5 25 = .ok (.goto (-20), 3) := by decide +kernel
theorem dX9_term5_28 : decode cX9_term5 28 = .ok (.iload_n 1, 1) := by decide +kernel
theorem dX9_term5_29 : decode cX9_term5 29 = .ok (.ireturn, 1) := by decide +kernel
theorem dX9_added5_0 : decode cX9_added5 0 = .ok (.aload_n 0, 1) := by decide +kernel
theorem dX9_added5_1 : decode cX9_added5 1 = .ok (.invokevirtual 229, 3) := by decide +kernel
theorem dX9_added5_4 : decode cX9_added5 4 = .ok (.istore_n 1, 1) := by decide +kernel
theorem dX9_added5_5 : decode cX9_added5 5 = .ok (.aload_n 0, 1) := by decide +kernel
theorem dX9_added5_6 : decode cX9_added5 6 = .ok (.bipush 43, 2) := by decide +kernel
theorem dX9_added5_8 : decode cX9_added5 8 = .ok (.invokevirtual 215, 3) := by decide +kernel
theorem dX9_added5_11 : decode cX9_added5 11 = .ok (.ifCond .ne 12, 3) := by decide +kernel
theorem dX9_added5_14 : decode cX9_added5 14 = .ok (.aload_n 0, 1) := by decide +kernel
theorem dX9_added5_15 : decode cX9_added5 15 = .ok (.bipush 45, 2) := by decide +kernel
theorem dX9_added5_17 : decode cX9_added5 17 = .ok (.invokevirtual 215, 3) := by decide +kernel
theorem dX9_added5_20 : decode cX9_added5 20 = .ok (.ifCond .eq 46, 3) := by decide +kernel
theorem dX9_added5_23 : decode cX9_added5 23 = .ok (.aload_n 0, 1) := by decide +kernel
theorem dX9_added5_24 : decode cX9_added5 24 = .ok (.getfield 170, 3) := by decide +kernel
theorem dX9_added5_27 : decode cX9_added5 27 = .ok (.ldc2_w 232, 3) := by decide +kernel
theorem dX9_added5_30 : decode cX9_added5 30 = .ok (.lcmp, 1) := by decide +kernel
theorem dX9_added5_31 : decode cX9_added5 31 = .ok (.ifCond .ne 7, 3) := by decide +kernel
theorem dX9_added5_34 : decode cX9_added5 34 = .ok (.iconst 1, 1) := by decide +kernel
theorem dX9_added5_35 : decode cX9_added5 35 = .ok (.goto 4, 3) := by decide +kernel
theorem dX9_added5_38 : decode cX9_added5 38 = .ok (.iconst 0, 1) := by decide +kernel
theorem dX9_added5_39 : decode cX9_added5 39 = .ok (.istore_n 2, 1) := by decide +kernel
theorem dX9_added5_40 : decode cX9_added5 40 = .ok (.aload_n 0, 1) := by decide +kernel
theorem dX9_added5_41 : decode cX9_added5 41 = .ok (.invokevirtual 190, 3) := by decide +kernel
theorem dX9_added5_44 : decode cX9_added5 44 = .ok (.aload_n 0, 1) := by decide +kernel
theorem dX9_added5_45 : decode cX9_added5 45 = .ok (.invokevirtual 229, 3) := by decide +kernel
theorem dX9_added5_48 : decode cX9_added5 48 = .ok (.istore_n 3, 1) := by decide +kernel
theorem dX9_added5_49 : decode cX9_added5 49 = .ok (.iload_n 2, 1) := by decide +kernel
theorem dX9_added5_50 : decode cX9_added5 50 = .ok (.ifCond .eq 9, 3) := by decide +kernel
theorem dX9_added5_53 : decode cX9_added5 53 = .ok (.iload_n 1, 1) := by decide +kernel
theorem dX9_added5_54 : decode cX9_added5 54 = .ok (.iload_n 3, 1) := by decide +kernel
theorem dX9_added5_55 : decode cX9_added5 55 = .ok (.iadd, 1) := by decide +kernel
theorem dX9_added5_56 : decode cX9_added5 56 = .ok (.goto 6, 3) := by decide +kernel
theorem dX9_added5_59 : decode cX9_added5 59 = .ok (.iload_n 1, 1) := by decide +kernel
theorem dX9_added5_60 : decode cX9_added5 60 = .ok (.iload_n 3, 1) := by decide +kernel
theorem dX9_added5_61 : decode cX9_added5 61 = .ok (.isub, 1) := by decide +kernel
theorem dX9_added5_62 : decode cX9_added5 62 = .ok (.istore_n 1, 1) := by decide +kernel
theorem dX9_added5_63 : decode cX9_added5 63 = .ok (.goto (-58), 3) := by decide +kernel
theorem dX9_added5_66 : decode cX9_added5 66 = .ok (.iload_n 1, 1) := by decide +kernel
theorem dX9_added5_67 : decode cX9_added5 67 = .ok (.ireturn, 1) := by decide +kernel
theorem dX9_not5_0 : decode cX9_not5 0 = .ok (.aload_n 0, 1) := by decide +kernel
theorem dX9_not5_1 : decode cX9_not5 1 = .ok (.bipush 110, 2) := by decide +kernel
theorem dX9_not5_3 : decode cX9_not5 3 = .ok (.bipush 111, 2) := by decide +kernel
theorem dX9_not5_5 : decode cX9_not5 5 = .ok (.bipush 116, 2) := by decide +kernel
theorem dX9_not5_7 : decode cX9_not5 7 = .ok (.iconst 0, 1) := by decide +kernel
theorem dX9_not5_8 : decode cX9_not5 8 = .ok (.iconst 0, 1) := by decide +kernel
theorem dX9_not5_9 : decode cX9_not5 9 = .ok (.iconst 0, 1) := by decide +kernel
theorem dX9_not5_10 : decode cX9_not5 10 = .ok (.iconst 0, 1) := by decide +kernel
theorem dX9_not5_11 : decode cX9_not5 11 = .ok (.iconst 0, 1) := by decide +kernel
theorem dX9_not5_12 : decode cX9_not5 12 = .ok (.invokevirtual 193, 3) := by decide +kernel
theorem dX9_not5_15 : decode cX9_not5 15 = .ok (.ifCond .eq 10, 3) := by decide +kernel
theorem dX9_not5_18 : decode cX9_not5 18 = .ok (.aload_n 0, 1) := by decide +kernel
theorem dX9_not5_19 : decode cX9_not5 19 = .ok (.invokevirtual 218, 3) := by decide +kernel
theorem dX9_not5_22 : decode cX9_not5 22 = .ok (.pop, 1) := by decide +kernel
theorem dX9_not5_23 : decode cX9_not5 23 = .ok (.iconst 0, 1) := by decide +kernel
theorem dX9_not5_24 : decode cX9_not5 24 = .ok (.ireturn, 1) := by decide +kernel
theorem dX9_not5_25 : decode cX9_not5 25 = .ok (.aload_n 0, 1) := by decide +kernel
theorem dX9_not5_26 : decode cX9_not5 26 = .ok (.invokevirtual 234, 3) := by decide +kernel
theorem dX9_not5_29 : decode cX9_not5 29 = .ok (.istore_n 1, 1) := by decide +kernel
theorem dX9_not5_30 : decode cX9_not5 30 = .ok (.aload_n 0, 1) := by decide +kernel
theorem dX9_not5_31 : decode cX9_not5 31 = .ok (.bipush 60, 2) := by decide +kernel
