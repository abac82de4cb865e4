theorem dX0_init_0 : decode cX0_init 0 = .ok (.aload_n 0, 1) := by decide +kernel
theorem dX0_init_1 : decode cX0_init 1 = .ok (.invokespecial 1, 3) := by decide +kernel
theorem dX0_init_4 : decode cX0_init 4 = .ok (.return_, 1) := by decide +kernel
theorem dX0_become_0 : decode cX0_become 0 = .ok (.aload_n 0, 1) := by decide +kernel
theorem dX0_become_1 : decode cX0_become 1 = .ok (.iload_n 1, 1) := by decide +kernel
theorem dX0_become_2 : decode cX0_become 2 = .ok (.putfield 7, 3) := by decide +kernel
theorem dX0_become_5 : decode cX0_become 5 = .ok (.aload_n 0, 1) := by decide +kernel
theorem dX0_become_6 : decode cX0_become 6 = .ok (.iload_n 2, 1) := by decide +kernel
theorem dX0_become_7 : decode cX0_become 7 = .ok (.putfield 13, 3) := by decide +kernel
theorem dX0_become_10 : decode cX0_become 10 = .ok (.aload_n 0, 1) := by decide +kernel
theorem dX0_become_11 : decode cX0_become 11 = .ok (.iload_n 3, 1) := by decide +kernel
theorem dX0_become_12 : decode cX0_become 12 = .ok (.putfield 16, 3) := by decide +kernel
theorem dX0_become_15 : decode cX0_become 15 = .ok (.aload_n 0, 1) := by decide +kernel
theorem dX0_become_16 : decode cX0_become 16 = .ok (.iload 4, 2) := by decide +kernel
theorem dX0_become_18 : decode cX0_become 18 = .ok (.putfield 19, 3) := by decide +kernel
theorem dX0_become_21 : decode cX0_become 21 = .ok (.return_, 1) := by decide +kernel
theorem dX0_tell_0 : decode cX0_tell 0 = .ok (.iload_n 1, 1) := by decide +kernel
theorem dX0_tell_1 : decode cX0_tell 1 = .ok (.tableswitch 42 2 4 #[27, 32, 37], 27) := by decide +kernel
theorem dX0_tell_28 : decode cX0_tell 28 = .ok (.aload_n 0, 1) := by decide +kernel
theorem dX0_tell_29 : decode cX0_tell 29 = .ok (.getfield 13, 3) := by decide +kernel
theorem dX0_tell_32 : decode cX0_tell 32 = .ok (.ireturn, 1) := by decide +kernel
theorem dX0_tell_33 : decode cX0_tell 33 = .ok (.aload_n 0, 1) := by decide +kernel
theorem dX0_tell_34 : decode cX0_tell 34 = .ok (.getfield 16, 3) := by decide +kernel
theorem dX0_tell_37 : decode cX0_tell 37 = .ok (.ireturn, 1) := by decide +kernel
theorem dX0_tell_38 : decode cX0_tell 38 = .ok (.aload_n 0, 1) := by decide +kernel
theorem dX0_tell_39 : decode cX0_tell 39 = .ok (.getfield 19, 3) := by decide +kernel
theorem dX0_tell_42 : decode cX0_tell 42 = .ok (.ireturn, 1) := by decide +kernel
theorem dX0_tell_43 : decode cX0_tell 43 = .ok (.aload_n 0, 1) := by decide +kernel
theorem dX0_tell_44 : decode cX0_tell 44 = .ok (.getfield 7, 3) := by decide +kernel
theorem dX0_tell_47 : decode cX0_tell 47 = .ok (.ireturn, 1) := by decide +kernel
theorem dX0_put_0 : decode cX0_put 0 = .ok (.iload_n 1, 1) := by decide +kernel
theorem dX0_put_1 : decode cX0_put 1 = .ok (.lookupswitch 43 #[(2, 27), (3, 35)], 27) := by decide +kernel
theorem dX0_put_28 : decode cX0_put 28 = .ok (.aload_n 0, 1) := by decide +kernel
theorem dX0_put_29 : decode cX0_put 29 = .ok (.iload_n 2, 1) := by decide +kernel
theorem dX0_put_30 : decode cX0_put 30 = .ok (.putfield 13, 3) := by decide +kernel
theorem dX0_put_33 : decode cX0_put 33 = .ok (.goto 16, 3) := by decide +kernel
theorem dX0_put_36 : decode cX0_put 36 = .ok (.aload_n 0, 1) := by decide +kernel
theorem dX0_put_37 : decode cX0_put 37 = .ok (.iload_n 2, 1) := by decide +kernel
theorem dX0_put_38 : decode cX0_put 38 = .ok (.putfield 16, 3) := by decide +kernel
theorem dX0_put_41 : decode cX0_put 41 = .ok (.goto 8, 3) := by decide +kernel
theorem dX0_put_44 : decode cX0_put 44 = .ok (.aload_n 0, 1) := by decide +kernel
theorem dX0_put_45 : decode cX0_put 45 = .ok (.iload_n 2, 1) := by decide +kernel
theorem dX0_put_46 : decode cX0_put 46 = .ok (.putfield 19, 3) := by decide +kernel
theorem dX0_put_49 : decode cX0_put 49 = .ok (.return_, 1) := by decide +kernel
theorem dX1_init_0 : decode cX1_init 0 = .ok (.aload_n 0, 1) := by decide +kernel
theorem dX1_init_1 : decode cX1_init 1 = .ok (.invokespecial 3, 3) := by decide +kernel
theorem dX1_init_4 : decode cX1_init 4 = .ok (.aload_n 0, 1) := by decide +kernel
theorem dX1_init_5 : decode cX1_init 5 = .ok (.iconst 4, 1) := by decide +kernel
theorem dX1_init_6 : decode cX1_init 6 = .ok (.anewarray 9, 3) := by decide +kernel
theorem dX1_init_9 : decode cX1_init 9 = .ok (.putfield 11, 3) := by decide +kernel
theorem dX1_init_12 : decode cX1_init 12 = .ok (.iconst 0, 1) := by decide +kernel
theorem dX1_init_13 : decode cX1_init 13 = .ok (.istore_n 1, 1) := by decide +kernel
theorem dX1_init_14 : decode cX1_init 14 = .ok (.iload_n 1, 1) := by decide +kernel
theorem dX1_init_15 : decode cX1_init 15 = .ok (.aload_n 0, 1) := by decide +kernel
theorem dX1_init_16 : decode cX1_init 16 = .ok (.getfield 11, 3) := by decide +kernel
theorem dX1_init_19 : decode cX1_init 19 = .ok (.arraylength, 1) := by decide +kernel
theorem dX1_init_20 : decode cX1_init 20 = .ok (.if_icmp .ge 22, 3) := by decide +kernel
theorem dX1_init_23 : decode cX1_init 23 = .ok (.aload_n 0, 1) := by decide +kernel
theorem dX1_init_24 : decode cX1_init 24 = .ok (.getfield 11, 3) := by decide +kernel
theorem dX1_init_27 : decode cX1_init 27 = .ok (.iload_n 1, 1) := by decide +kernel
theorem dX1_init_28 : decode cX1_init 28 = .ok (.new 9, 3) := by decide +kernel
theorem dX1_init_31 : decode cX1_init 31 = .ok (.dup, 1) := by decide +kernel
theorem dX1_init_32 : decode cX1_init 32 = .ok (.invokespecial 17, 3) := by decide +kernel
theorem dX1_init_35 : decode cX1_init 35 = .ok (.aastore, 1) := by decide +kernel
theorem dX1_init_36 : decode cX1_init 36 = .ok (.iinc 1 1, 3) := by decide +kernel
theorem dX1_init_39 : decode cX1_init 39 = .ok (.goto (-25), 3) := by decide +kernel
theorem dX1_init_42 : decode cX1_init 42 = .ok (.return_, 1) := by decide +kernel
theorem dX1_carpetAt_0 : decode cX1_carpetAt 0 = .ok (.iload_n 1, 1) := by decide +kernel
theorem dX1_carpetAt_1 : decode cX1_carpetAt 1 = .ok (.aload_n 0, 1) := by decide +kernel
theorem dX1_carpetAt_2 : decode cX1_carpetAt 2 = .ok (.getfield 18, 3) := by decide +kernel
theorem dX1_carpetAt_5 : decode cX1_carpetAt 5 = .ok (.if_icmp .ge 24, 3) := by decide +kernel
theorem dX1_carpetAt_8 : decode cX1_carpetAt 8 = .ok (.iload_n 1, 1) := by decide +kernel
theorem dX1_carpetAt_9 : decode cX1_carpetAt 9 = .ok (.aload_n 0, 1) := by decide +kernel
theorem dX1_carpetAt_10 : decode cX1_carpetAt 10 = .ok (.getfield 11, 3) := by decide +kernel
theorem dX1_carpetAt_13 : decode cX1_carpetAt 13 = .ok (.arraylength, 1) := by decide +kernel
theorem dX1_carpetAt_14 : decode cX1_carpetAt 14 = .ok (.invokestatic 22, 3) := by decide +kernel
theorem dX1_carpetAt_17 : decode cX1_carpetAt 17 = .ok (.ifCond .eq 12, 3) := by decide +kernel
theorem dX1_carpetAt_20 : decode cX1_carpetAt 20 = .ok (.aload_n 0, 1) := by decide +kernel
theorem dX1_carpetAt_21 : decode cX1_carpetAt 21 = .ok (.getfield 11, 3) := by decide +kernel
theorem dX1_carpetAt_24 : decode cX1_carpetAt 24 = .ok (.iload_n 1, 1) := by decide +kernel
theorem dX1_carpetAt_25 : decode cX1_carpetAt 25 = .ok (.aaload, 1) := by decide +kernel
theorem dX1_carpetAt_26 : decode cX1_carpetAt 26 = .ok (.goto 4, 3) := by decide +kernel
theorem dX1_carpetAt_29 : decode cX1_carpetAt 29 = .ok (.aconst_null, 1) := by decide +kernel
theorem dX1_carpetAt_30 : decode cX1_carpetAt 30 = .ok (.areturn, 1) := by decide +kernel
theorem dX1_add_0 : decode cX1_add 0 = .ok (.aload_n 0, 1) := by decide +kernel
theorem dX1_add_1 : decode cX1_add 1 = .ok (.getfield 18, 3) := by decide +kernel
theorem dX1_add_4 : decode cX1_add 4 = .ok (.aload_n 0, 1) := by decide +kernel
theorem dX1_add_5 : decode cX1_add 5 = .ok (.getfield 11, 3) := by decide +kernel
theorem dX1_add_8 : decode cX1_add 8 = .ok (.arraylength, 1) := by decide +kernel
theorem dX1_add_9 : decode cX1_add 9 = .ok (.invokestatic 22, 3) := by decide +kernel
theorem dX1_add_12 : decode cX1_add 12 = .ok (.ifCond .ne 6, 3) := by decide +kernel
theorem dX1_add_15 : decode cX1_add 15 = .ok (.bipush (-4), 2) := by decide +kernel
theorem dX1_add_17 : decode cX1_add 17 = .ok (.ireturn, 1) := by decide +kernel
theorem dX1_add_18 : decode cX1_add 18 = .ok (.aload_n 0, 1) := by decide +kernel
theorem dX1_add_19 : decode cX1_add 19 = .ok (.getfield 11, 3) := by decide +kernel
theorem dX1_add_22 : decode cX1_add 22 = .ok (.aload_n 0, 1) := by decide +kernel
theorem dX1_add_23 : decode cX1_add 23 = .ok (.getfield 18, 3) := by decide +kernel
theorem dX1_add_26 : decode cX1_add 26 = .ok (.aaload, 1) := by decide +kernel
theorem dX1_add_27 : decode cX1_add 27 = .ok (.iload_n 1, 1) := by decide +kernel
theorem dX1_add_28 : decode cX1_add 28 = .ok (.iload_n 2, 1) := by decide +kernel
theorem dX1_add_29 : decode cX1_add 29 = .ok (.iload_n 3, 1) := by decide +kernel
theorem dX1_add_30 : decode cX1_add 30 = .ok (.iconst 0, 1) := by decide +kernel
theorem dX1_add_31 : decode cX1_add 31 = .ok (.invokevirtual 26, 3) := by decide +kernel
theorem dX1_add_34 : decode cX1_add 34 = .ok (.aload_n 0, 1) := by decide +kernel
theorem dX1_add_35 : decode cX1_add 35 = .ok (.dup, 1) := by decide +kernel
theorem dX1_add_36 : decode cX1_add 36 = .ok (.getfield 18, 3) := by decide +kernel
theorem dX1_add_39 : decode cX1_add 39 = .ok (.iconst 1, 1) := by decide +kernel
theorem dX1_add_40 : decode cX1_add 40 = .ok (.iadd, 1) := by decide +kernel
theorem dX1_add_41 : decode cX1_add 41 = .ok (.putfield 18, 3) := by decide +kernel
theorem dX1_add_44 : decode cX1_add 44 = .ok (.aload_n 0, 1) := by decide +kernel
theorem dX1_add_45 : decode cX1_add 45 = .ok (.getfield 18, 3) := by decide +kernel
theorem dX1_add_48 : decode cX1_add 48 = .ok (.iconst 1, 1) := by decide +kernel
theorem dX1_add_49 : decode cX1_add 49 = .ok (.isub, 1) := by decide +kernel
theorem dX1_add_50 : decode cX1_add 50 = .ok (.ireturn, 1) := by decide +kernel
theorem dX1_wallOn_0 : decode cX1_wallOn 0 = .ok (.aload_n 0, 1) := by decide +kernel
theorem dX1_wallOn_1 : decode cX1_wallOn 1 = .ok (.getfield 30, 3) := by decide +kernel
theorem dX1_wallOn_4 : decode cX1_wallOn 4 = .ok (.iload_n 1, 1) := by decide +kernel
theorem dX1_wallOn_5 : decode cX1_wallOn 5 = .ok (.lushr, 1) := by decide +kernel
theorem dX1_wallOn_6 : decode cX1_wallOn 6 = .ok (.lconst 1, 1) := by decide +kernel
theorem dX1_wallOn_7 : decode cX1_wallOn 7 = .ok (.land, 1) := by decide +kernel
theorem dX1_wallOn_8 : decode cX1_wallOn 8 = .ok (.l2i, 1) := by decide +kernel
theorem dX1_wallOn_9 : decode cX1_wallOn 9 = .ok (.ireturn, 1) := by decide +kernel
theorem dX1_putWall_0 : decode cX1_putWall 0 = .ok (.aload_n 0, 1) := by decide +kernel
theorem dX1_putWall_1 : decode cX1_putWall 1 = .ok (.iload_n 2, 1) := by decide +kernel
theorem dX1_putWall_2 : decode cX1_putWall 2 = .ok (.iconst 1, 1) := by decide +kernel
theorem dX1_putWall_3 : decode cX1_putWall 3 = .ok (.if_icmp .ne 14, 3) := by decide +kernel
theorem dX1_putWall_6 : decode cX1_putWall 6 = .ok (.aload_n 0, 1) := by decide +kernel
theorem dX1_putWall_7 : decode cX1_putWall 7 = .ok (.getfield 30, 3) := by decide +kernel
theorem dX1_putWall_10 : decode cX1_putWall 10 = .ok (.lconst 1, 1) := by decide +kernel
theorem dX1_putWall_11 : decode cX1_putWall 11 = .ok (.iload_n 1, 1) := by decide +kernel
theorem dX1_putWall_12 : decode cX1_putWall 12 = .ok (.lshl, 1) := by decide +kernel
theorem dX1_putWall_13 : decode cX1_putWall 13 = .ok (.lor, 1) := by decide +kernel
theorem dX1_putWall_14 : decode cX1_putWall 14 = .ok (.goto 15, 3) := by decide +kernel
theorem dX1_putWall_17 : decode cX1_putWall 17 = .ok (.aload_n 0, 1) := by decide +kernel
theorem dX1_putWall_18 : decode cX1_putWall 18 = .ok (.getfield 30, 3) := by decide +kernel
theorem dX1_putWall_21 : decode cX1_putWall 21 = .ok (.lconst 1, 1) := by decide +kernel
theorem dX1_putWall_22 : decode cX1_putWall 22 = .ok (.iload_n 1, 1) := by decide +kernel
theorem dX1_putWall_23 : decode cX1_putWall 23 = .ok (.lshl, 1) := by decide +kernel
theorem dX1_putWall_24 : decode cX1_putWall 24 = .ok (.ldc2_w 34, 3) := by decide +kernel
theorem dX1_putWall_27 : decode cX1_putWall 27 = .ok (.lxor, 1) := by decide +kernel
theorem dX1_putWall_28 : decode cX1_putWall 28 = .ok (.land, 1) := by decide +kernel
theorem dX1_putWall_29 : decode cX1_putWall 29 = .ok (.putfield 30, 3) := by decide +kernel
theorem dX1_putWall_32 : decode cX1_putWall 32 = .ok (.return_, 1) := by decide +kernel
theorem dX1_flownCount_0 : decode cX1_flownCount 0 = .ok (.iconst 0, 1) := by decide +kernel
theorem dX1_flownCount_1 : decode cX1_flownCount 1 = .ok (.istore_n 1, 1) := by decide +kernel
theorem dX1_flownCount_2 : decode cX1_flownCount 2 = .ok (.iconst 0, 1) := by decide +kernel
theorem dX1_flownCount_3 : decode cX1_flownCount 3 = .ok (.istore_n 2, 1) := by decide +kernel
theorem dX1_flownCount_4 : decode cX1_flownCount 4 = .ok (.iload_n 2, 1) := by decide +kernel
theorem dX1_flownCount_5 : decode cX1_flownCount 5 = .ok (.aload_n 0, 1) := by decide +kernel
theorem dX1_flownCount_6 : decode cX1_flownCount 6 = .ok (.getfield 18, 3) := by decide +kernel
theorem dX1_flownCount_9 : decode cX1_flownCount 9 = .ok (.if_icmp .ge 30, 3) := by decide +kernel
theorem dX1_flownCount_12 : decode cX1_flownCount 12 = .ok (.iload_n 2, 1) := by decide +kernel
theorem dX1_flownCount_13 : decode cX1_flownCount 13 = .ok (.aload_n 0, 1) := by decide +kernel
theorem dX1_flownCount_14 : decode cX1_flownCount 14 = .ok (.getfield 11, 3) := by decide +kernel
theorem dX1_flownCount_17 : decode cX1_flownCount 17 = .ok (.arraylength, 1) := by decide +kernel
theorem dX1_flownCount_18 : decode cX1_flownCount 18 = .ok (.if_icmp .ge 21, 3) := by decide +kernel
theorem dX1_flownCount_21 : decode cX1_flownCount 21 = .ok (.iload_n 1, 1) := by decide +kernel
theorem dX1_flownCount_22 : decode cX1_flownCount 22 = .ok (.aload_n 0, 1) := by decide +kernel
theorem dX1_flownCount_23 : decode cX1_flownCount 23 = .ok (.getfield 11, 3) := by decide +kernel
theorem dX1_flownCount_26 : decode cX1_flownCount 26 = .ok (.iload_n 2, 1) := by decide +kernel
theorem dX1_flownCount_27 : decode cX1_flownCount 27 = .ok (.aaload, 1) := by decide +kernel
theorem dX1_flownCount_28 : decode cX1_flownCount 28 = .ok (.getfield 36, 3) := by decide +kernel
theorem dX1_flownCount_31 : decode cX1_flownCount 31 = .ok (.iadd, 1) := by decide +kernel
theorem dX1_flownCount_32 : decode cX1_flownCount 32 = .ok (.istore_n 1, 1) := by decide +kernel
theorem dX1_flownCount_33 : decode cX1_flownCount 33 = .ok (.iinc 2 1, 3) := by decide +kernel
theorem dX1_flownCount_36 : decode cX1_flownCount 36 = .ok (.goto (-32), 3) := by decide +kernel
theorem dX1_flownCount_39 : decode cX1_flownCount 39 = .ok (.iload_n 1, 1) := by decide +kernel
theorem dX1_flownCount_40 : decode cX1_flownCount 40 = .ok (.ireturn, 1) := by decide +kernel
theorem dX1_nearTo_0 : decode cX1_nearTo 0 = .ok (.aload_n 0, 1) := by decide +kernel
theorem dX1_nearTo_1 : decode cX1_nearTo 1 = .ok (.iload_n 1, 1) := by decide +kernel
theorem dX1_nearTo_2 : decode cX1_nearTo 2 = .ok (.invokevirtual 39, 3) := by decide +kernel
theorem dX1_nearTo_5 : decode cX1_nearTo 5 = .ok (.astore_n 2, 1) := by decide +kernel
theorem dX1_nearTo_6 : decode cX1_nearTo 6 = .ok (.iconst 0, 1) := by decide +kernel
theorem dX1_nearTo_7 : decode cX1_nearTo 7 = .ok (.istore_n 3, 1) := by decide +kernel
theorem dX1_nearTo_8 : decode cX1_nearTo 8 = .ok (.iconst 0, 1) := by decide +kernel
theorem dX1_nearTo_9 : decode cX1_nearTo 9 = .ok (.istore 4, 2) := by decide +kernel
theorem dX1_nearTo_11 : decode cX1_nearTo 11 = .ok (.iload 4, 2) := by decide +kernel
theorem dX1_nearTo_13 : decode cX1_nearTo 13 = .ok (.aload_n 0, 1) := by decide +kernel
theorem dX1_nearTo_14 : decode cX1_nearTo 14 = .ok (.getfield 11, 3) := by decide +kernel
theorem dX1_nearTo_17 : decode cX1_nearTo 17 = .ok (.arraylength, 1) := by decide +kernel
theorem dX1_nearTo_18 : decode cX1_nearTo 18 = .ok (.if_icmp .ge 56, 3) := by decide +kernel
theorem dX1_nearTo_21 : decode cX1_nearTo 21 = .ok (.aload_n 0, 1) := by decide +kernel
theorem dX1_nearTo_22 : decode cX1_nearTo 22 = .ok (.iload 4, 2) := by decide +kernel
theorem dX1_nearTo_24 : decode cX1_nearTo 24 = .ok (.invokevirtual 39, 3) := by decide +kernel
theorem dX1_nearTo_27 : decode cX1_nearTo 27 = .ok (.astore 5, 2) := by decide +kernel
theorem dX1_nearTo_29 : decode cX1_nearTo 29 = .ok (.iload 4, 2) := by decide +kernel
theorem dX1_nearTo_31 : decode cX1_nearTo 31 = .ok (.iload_n 1, 1) := by decide +kernel
theorem dX1_nearTo_32 : decode cX1_nearTo 32 = .ok (.if_icmp .eq 36, 3) := by decide +kernel
theorem dX1_nearTo_35 : decode cX1_nearTo 35 = .ok (.aload_n 2, 1) := by decide +kernel
theorem dX1_nearTo_36 : decode cX1_nearTo 36 = .ok (.ifnull 32, 3) := by decide +kernel
theorem dX1_nearTo_39 : decode cX1_nearTo 39 = .ok (.aload 5, 2) := by decide +kernel
theorem dX1_nearTo_41 : decode cX1_nearTo 41 = .ok (.ifnull 27, 3) := by decide +kernel
theorem dX1_nearTo_44 : decode cX1_nearTo 44 = .ok (.iload_n 3, 1) := by decide +kernel
theorem dX1_nearTo_45 : decode cX1_nearTo 45 = .ok (.aload_n 2, 1) := by decide +kernel
theorem dX1_nearTo_46 : decode cX1_nearTo 46 = .ok (.getfield 43, 3) := by decide +kernel
theorem dX1_nearTo_49 : decode cX1_nearTo 49 = .ok (.aload 5, 2) := by decide +kernel
theorem dX1_nearTo_51 : decode cX1_nearTo 51 = .ok (.getfield 43, 3) := by decide +kernel
theorem dX1_nearTo_54 : decode cX1_nearTo 54 = .ok (.invokestatic 46, 3) := by decide +kernel
theorem dX1_nearTo_57 : decode cX1_nearTo 57 = .ok (.iconst 1, 1) := by decide +kernel
theorem dX1_nearTo_58 : decode cX1_nearTo 58 = .ok (.if_icmp .gt 7, 3) := by decide +kernel
theorem dX1_nearTo_61 : decode cX1_nearTo 61 = .ok (.iconst 1, 1) := by decide +kernel
theorem dX1_nearTo_62 : decode cX1_nearTo 62 = .ok (.goto 4, 3) := by decide +kernel
theorem dX1_nearTo_65 : decode cX1_nearTo 65 = .ok (.iconst 0, 1) := by decide +kernel
theorem dX1_nearTo_66 : decode cX1_nearTo 66 = .ok (.iadd, 1) := by decide +kernel
theorem dX1_nearTo_67 : decode cX1_nearTo 67 = .ok (.istore_n 3, 1) := by decide +kernel
theorem dX1_nearTo_68 : decode cX1_nearTo 68 = .ok (.iinc 4 1, 3) := by decide +kernel
theorem dX1_nearTo_71 : decode cX1_nearTo 71 = .ok (.goto (-60), 3) := by decide +kernel
theorem dX1_nearTo_74 : decode cX1_nearTo 74 = .ok (.iload_n 3, 1) := by decide +kernel
theorem dX1_nearTo_75 : decode cX1_nearTo 75 = .ok (.ireturn, 1) := by decide +kernel
theorem dX1_distance_0 : decode cX1_distance 0 = .ok (.iload_n 0, 1) := by decide +kernel
theorem dX1_distance_1 : decode cX1_distance 1 = .ok (.bipush 6, 2) := by decide +kernel
theorem dX1_distance_3 : decode cX1_distance 3 = .ok (.irem, 1) := by decide +kernel
theorem dX1_distance_4 : decode cX1_distance 4 = .ok (.iload_n 1, 1) := by decide +kernel
theorem dX1_distance_5 : decode cX1_distance 5 = .ok (.bipush 6, 2) := by decide +kernel
theorem dX1_distance_7 : decode cX1_distance 7 = .ok (.irem, 1) := by decide +kernel
theorem dX1_distance_8 : decode cX1_distance 8 = .ok (.isub, 1) := by decide +kernel
theorem dX1_distance_9 : decode cX1_distance 9 = .ok (.invokestatic 50, 3) := by decide +kernel
theorem dX1_distance_12 : decode cX1_distance 12 = .ok (.iload_n 0, 1) := by decide +kernel
theorem dX1_distance_13 : decode cX1_distance 13 = .ok (.bipush 6, 2) := by decide +kernel
theorem dX1_distance_15 : decode cX1_distance 15 = .ok (.idiv, 1) := by decide +kernel
theorem dX1_distance_16 : decode cX1_distance 16 = .ok (.iload_n 1, 1) := by decide +kernel
theorem dX1_distance_17 : decode cX1_distance 17 = .ok (.bipush 6, 2) := by decide +kernel
theorem dX1_distance_19 : decode cX1_distance 19 = .ok (.idiv, 1) := by decide +kernel
theorem dX1_distance_20 : decode cX1_distance 20 = .ok (.isub, 1) := by decide +kernel
theorem dX1_distance_21 : decode cX1_distance 21 = .ok (.invokestatic 50, 3) := by decide +kernel
theorem dX1_distance_24 : decode cX1_distance 24 = .ok (.iadd, 1) := by decide +kernel
theorem dX1_distance_25 : decode cX1_distance 25 = .ok (.ireturn, 1) := by decide +kernel
theorem dX1_becomeLike_0 : decode cX1_becomeLike 0 = .ok (.aload_n 0, 1) := by decide +kernel
theorem dX1_becomeLike_1 : decode cX1_becomeLike 1 = .ok (.aload_n 1, 1) := by decide +kernel
theorem dX1_becomeLike_2 : decode cX1_becomeLike 2 = .ok (.getfield 18, 3) := by decide +kernel
theorem dX1_becomeLike_5 : decode cX1_becomeLike 5 = .ok (.putfield 18, 3) := by decide +kernel
theorem dX1_becomeLike_8 : decode cX1_becomeLike 8 = .ok (.aload_n 0, 1) := by decide +kernel
theorem dX1_becomeLike_9 : decode cX1_becomeLike 9 = .ok (.aload_n 1, 1) := by decide +kernel
theorem dX1_becomeLike_10 : decode cX1_becomeLike 10 = .ok (.getfield 56, 3) := by decide +kernel
theorem dX1_becomeLike_13 : decode cX1_becomeLike 13 = .ok (.putfield 56, 3) := by decide +kernel
theorem dX1_becomeLike_16 : decode cX1_becomeLike 16 = .ok (.aload_n 0, 1) := by decide +kernel
theorem dX1_becomeLike_17 : decode cX1_becomeLike 17 = .ok (.aload_n 1, 1) := by decide +kernel
theorem dX1_becomeLike_18 : decode cX1_becomeLike 18 = .ok (.getfield 59, 3) := by decide +kernel
theorem dX1_becomeLike_21 : decode cX1_becomeLike 21 = .ok (.putfield 59, 3) := by decide +kernel
theorem dX1_becomeLike_24 : decode cX1_becomeLike 24 = .ok (.aload_n 0, 1) := by decide +kernel
theorem dX1_becomeLike_25 : decode cX1_becomeLike 25 = .ok (.aload_n 1, 1) := by decide +kernel
theorem dX1_becomeLike_26 : decode cX1_becomeLike 26 = .ok (.getfield 30, 3) := by decide +kernel
theorem dX1_becomeLike_29 : decode cX1_becomeLike 29 = .ok (.putfield 30, 3) := by decide +kernel
theorem dX1_becomeLike_32 : decode cX1_becomeLike 32 = .ok (.iconst 0, 1) := by decide +kernel
theorem dX1_becomeLike_33 : decode cX1_becomeLike 33 = .ok (.istore_n 2, 1) := by decide +kernel
theorem dX1_becomeLike_34 : decode cX1_becomeLike 34 = .ok (.iload_n 2, 1) := by decide +kernel
theorem dX1_becomeLike_35 : decode cX1_becomeLike 35 = .ok (.aload_n 0, 1) := by decide +kernel
theorem dX1_becomeLike_36 : decode cX1_becomeLike 36 = .ok (.getfield 11, 3) := by decide +kernel
theorem dX1_becomeLike_39 : decode cX1_becomeLike 39 = .ok (.arraylength, 1) := by decide +kernel
theorem dX1_becomeLike_40 : decode cX1_becomeLike 40 = .ok (.if_icmp .ge 50, 3) := by decide +kernel
theorem dX1_becomeLike_43 : decode cX1_becomeLike 43 = .ok (.iload_n 2, 1) := by decide +kernel
theorem dX1_becomeLike_44 : decode cX1_becomeLike 44 = .ok (.aload_n 1, 1) := by decide +kernel
theorem dX1_becomeLike_45 : decode cX1_becomeLike 45 = .ok (.getfield 11, 3) := by decide +kernel
theorem dX1_becomeLike_48 : decode cX1_becomeLike 48 = .ok (.arraylength, 1) := by decide +kernel
theorem dX1_becomeLike_49 : decode cX1_becomeLike 49 = .ok (.if_icmp .ge 41, 3) := by decide +kernel
theorem dX1_becomeLike_52 : decode cX1_becomeLike 52 = .ok (.aload_n 1, 1) := by decide +kernel
theorem dX1_becomeLike_53 : decode cX1_becomeLike 53 = .ok (.getfield 11, 3) := by decide +kernel
theorem dX1_becomeLike_56 : decode cX1_becomeLike 56 = .ok (.iload_n 2, 1) := by decide +kernel
theorem dX1_becomeLike_57 : decode cX1_becomeLike 57 = .ok (.aaload, 1) := by decide +kernel
theorem dX1_becomeLike_58 : decode cX1_becomeLike 58 = .ok (.astore_n 3, 1) := by decide +kernel
theorem dX1_becomeLike_59 : decode cX1_becomeLike 59 = .ok (.aload_n 0, 1) := by decide +kernel
theorem dX1_becomeLike_60 : decode cX1_becomeLike 60 = .ok (.getfield 11, 3) := by decide +kernel
theorem dX1_becomeLike_63 : decode cX1_becomeLike 63 = .ok (.iload_n 2, 1) := by decide +kernel
theorem dX1_becomeLike_64 : decode cX1_becomeLike 64 = .ok (.aaload, 1) := by decide +kernel
theorem dX1_becomeLike_65 : decode cX1_becomeLike 65 = .ok (.aload_n 3, 1) := by decide +kernel
theorem dX1_becomeLike_66 : decode cX1_becomeLike 66 = .ok (.getfield 62, 3) := by decide +kernel
theorem dX1_becomeLike_69 : decode cX1_becomeLike 69 = .ok (.aload_n 3, 1) := by decide +kernel
theorem dX1_becomeLike_70 : decode cX1_becomeLike 70 = .ok (.getfield 65, 3) := by decide +kernel
theorem dX1_becomeLike_73 : decode cX1_becomeLike 73 = .ok (.aload_n 3, 1) := by decide +kernel
theorem dX1_becomeLike_74 : decode cX1_becomeLike 74 = .ok (.getfield 43, 3) := by decide +kernel
theorem dX1_becomeLike_77 : decode cX1_becomeLike 77 = .ok (.aload_n 3, 1) := by decide +kernel
theorem dX1_becomeLike_78 : decode cX1_becomeLike 78 = .ok (.getfield 36, 3) := by decide +kernel
theorem dX1_becomeLike_81 : decode cX1_becomeLike 81 = .ok (.invokevirtual 26, 3) := by decide +kernel
theorem dX1_becomeLike_84 : decode cX1_becomeLike 84 = .ok (.iinc 2 1, 3) := by decide +kernel
theorem dX1_becomeLike_87 : decode cX1_becomeLike 87 = .ok (.goto (-53), 3) := by decide +kernel
theorem dX1_becomeLike_90 : decode cX1_becomeLike 90 = .ok (.return_, 1) := by decide +kernel
theorem dX2_init_0 : decode cX2_init 0 = .ok (.aload_n 0, 1) := by decide +kernel
theorem dX2_init_1 : decode cX2_init 1 = .ok (.invokespecial 3, 3) := by decide +kernel
theorem dX2_init_4 : decode cX2_init 4 = .ok (.aload_n 0, 1) := by decide +kernel
theorem dX2_init_5 : decode cX2_init 5 = .ok (.sipush 1296, 3) := by decide +kernel
theorem dX2_init_8 : decode cX2_init 8 = .ok (.newarray .int, 2) := by decide +kernel
theorem dX2_init_10 : decode cX2_init 10 = .ok (.putfield 9, 3) := by decide +kernel
theorem dX2_init_13 : decode cX2_init 13 = .ok (.aload_n 0, 1) := by decide +kernel
theorem dX2_init_14 : decode cX2_init 14 = .ok (.bipush 36, 2) := by decide +kernel
theorem dX2_init_16 : decode cX2_init 16 = .ok (.newarray .long, 2) := by decide +kernel
theorem dX2_init_18 : decode cX2_init 18 = .ok (.putfield 15, 3) := by decide +kernel
theorem dX2_init_21 : decode cX2_init 21 = .ok (.aload_n 0, 1) := by decide +kernel
theorem dX2_init_22 : decode cX2_init 22 = .ok (.iconst 0, 1) := by decide +kernel
theorem dX2_init_23 : decode cX2_init 23 = .ok (.putfield 19, 3) := by decide +kernel
theorem dX2_init_26 : decode cX2_init 26 = .ok (.aload_n 0, 1) := by decide +kernel
theorem dX2_init_27 : decode cX2_init 27 = .ok (.iconst (-1), 1) := by decide +kernel
theorem dX2_init_28 : decode cX2_init 28 = .ok (.putfield 23, 3) := by decide +kernel
theorem dX2_init_31 : decode cX2_init 31 = .ok (.aload_n 0, 1) := by decide +kernel
theorem dX2_init_32 : decode cX2_init 32 = .ok (.iconst (-1), 1) := by decide +kernel
theorem dX2_init_33 : decode cX2_init 33 = .ok (.putfield 26, 3) := by decide +kernel
theorem dX2_init_36 : decode cX2_init 36 = .ok (.return_, 1) := by decide +kernel
theorem dX2_seek_0 : decode cX2_seek 0 = .ok (.aload_n 0, 1) := by decide +kernel
theorem dX2_seek_1 : decode cX2_seek 1 = .ok (.getfield 15, 3) := by decide +kernel
theorem dX2_seek_4 : decode cX2_seek 4 = .ok (.lconst 0, 1) := by decide +kernel
theorem dX2_seek_5 : decode cX2_seek 5 = .ok (.invokestatic 29, 3) := by decide +kernel
theorem dX2_seek_8 : decode cX2_seek 8 = .ok (.aload_n 0, 1) := by decide +kernel
theorem dX2_seek_9 : decode cX2_seek 9 = .ok (.iconst 0, 1) := by decide +kernel
theorem dX2_seek_10 : decode cX2_seek 10 = .ok (.putfield 19, 3) := by decide +kernel
theorem dX2_seek_13 : decode cX2_seek 13 = .ok (.aload_n 0, 1) := by decide +kernel
theorem dX2_seek_14 : decode cX2_seek 14 = .ok (.iconst (-1), 1) := by decide +kernel
theorem dX2_seek_15 : decode cX2_seek 15 = .ok (.putfield 23, 3) := by decide +kernel
theorem dX2_seek_18 : decode cX2_seek 18 = .ok (.aload_n 0, 1) := by decide +kernel
theorem dX2_seek_19 : decode cX2_seek 19 = .ok (.iconst (-1), 1) := by decide +kernel
theorem dX2_seek_20 : decode cX2_seek 20 = .ok (.putfield 26, 3) := by decide +kernel
theorem dX2_seek_23 : decode cX2_seek 23 = .ok (.aload_n 0, 1) := by decide +kernel
theorem dX2_seek_24 : decode cX2_seek 24 = .ok (.aload_n 1, 1) := by decide +kernel
theorem dX2_seek_25 : decode cX2_seek 25 = .ok (.invokevirtual 35, 3) := by decide +kernel
theorem dX2_seek_28 : decode cX2_seek 28 = .ok (.aload_n 2, 1) := by decide +kernel
theorem dX2_seek_29 : decode cX2_seek 29 = .ok (.invokevirtual 35, 3) := by decide +kernel
theorem dX2_seek_32 : decode cX2_seek 32 = .ok (.iconst 0, 1) := by decide +kernel
theorem dX2_seek_33 : decode cX2_seek 33 = .ok (.invokevirtual 41, 3) := by decide +kernel
theorem dX2_seek_36 : decode cX2_seek 36 = .ok (.iconst 0, 1) := by decide +kernel
theorem dX2_seek_37 : decode cX2_seek 37 = .ok (.istore_n 3, 1) := by decide +kernel
theorem dX2_seek_38 : decode cX2_seek 38 = .ok (.iconst 1, 1) := by decide +kernel
theorem dX2_seek_39 : decode cX2_seek 39 = .ok (.istore 4, 2) := by decide +kernel
theorem dX2_seek_41 : decode cX2_seek 41 = .ok (.iload 4, 2) := by decide +kernel
theorem dX2_seek_43 : decode cX2_seek 43 = .ok (.aload_n 0, 1) := by decide +kernel
theorem dX2_seek_44 : decode cX2_seek 44 = .ok (.getfield 9, 3) := by decide +kernel
theorem dX2_seek_47 : decode cX2_seek 47 = .ok (.arraylength, 1) := by decide +kernel
theorem dX2_seek_48 : decode cX2_seek 48 = .ok (.if_icmp .ge 83, 3) := by decide +kernel
theorem dX2_seek_51 : decode cX2_seek 51 = .ok (.iload_n 3, 1) := by decide +kernel
theorem dX2_seek_52 : decode cX2_seek 52 = .ok (.aload_n 0, 1) := by decide +kernel
theorem dX2_seek_53 : decode cX2_seek 53 = .ok (.getfield 19, 3) := by decide +kernel
theorem dX2_seek_56 : decode cX2_seek 56 = .ok (.if_icmp .ge 75, 3) := by decide +kernel
theorem dX2_seek_59 : decode cX2_seek 59 = .ok (.aload_n 0, 1) := by decide +kernel
theorem dX2_seek_60 : decode cX2_seek 60 = .ok (.getfield 26, 3) := by decide +kernel
theorem dX2_seek_63 : decode cX2_seek 63 = .ok (.iconst (-1), 1) := by decide +kernel
theorem dX2_seek_64 : decode cX2_seek 64 = .ok (.if_icmp .ne 67, 3) := by decide +kernel
theorem dX2_seek_67 : decode cX2_seek 67 = .ok (.aload_n 0, 1) := by decide +kernel
theorem dX2_seek_68 : decode cX2_seek 68 = .ok (.getfield 19, 3) := by decide +kernel
theorem dX2_seek_71 : decode cX2_seek 71 = .ok (.istore 5, 2) := by decide +kernel
theorem dX2_seek_73 : decode cX2_seek 73 = .ok (.iload_n 3, 1) := by decide +kernel
theorem dX2_seek_74 : decode cX2_seek 74 = .ok (.istore 6, 2) := by decide +kernel
theorem dX2_seek_76 : decode cX2_seek 76 = .ok (.iload 6, 2) := by decide +kernel
theorem dX2_seek_78 : decode cX2_seek 78 = .ok (.iload 5, 2) := by decide +kernel
theorem dX2_seek_80 : decode cX2_seek 80 = .ok (.if_icmp .ge 42, 3) := by decide +kernel
theorem dX2_seek_83 : decode cX2_seek 83 = .ok (.iload 6, 2) := by decide +kernel
theorem dX2_seek_85 : decode cX2_seek 85 = .ok (.aload_n 0, 1) := by decide +kernel
theorem dX2_seek_86 : decode cX2_seek 86 = .ok (.getfield 9, 3) := by decide +kernel
theorem dX2_seek_89 : decode cX2_seek 89 = .ok (.arraylength, 1) := by decide +kernel
theorem dX2_seek_90 : decode cX2_seek 90 = .ok (.if_icmp .ge 32, 3) := by decide +kernel
theorem dX2_seek_93 : decode cX2_seek 93 = .ok (.aload_n 0, 1) := by decide +kernel
theorem dX2_seek_94 : decode cX2_seek 94 = .ok (.getfield 26, 3) := by decide +kernel
theorem dX2_seek_97 : decode cX2_seek 97 = .ok (.iconst (-1), 1) := by decide +kernel
theorem dX2_seek_98 : decode cX2_seek 98 = .ok (.if_icmp .ne 24, 3) := by decide +kernel
theorem dX2_seek_101 : decode cX2_seek 101 = .ok (.aload_n 0, 1) := by decide +kernel
theorem dX2_seek_102 : decode cX2_seek 102 = .ok (.aload_n 1, 1) := by decide +kernel
theorem dX2_seek_103 : decode cX2_seek 103 = .ok (.aload_n 2, 1) := by decide +kernel
theorem dX2_seek_104 : decode cX2_seek 104 = .ok (.aload_n 0, 1) := by decide +kernel
theorem dX2_seek_105 : decode cX2_seek 105 = .ok (.getfield 9, 3) := by decide +kernel
theorem dX2_seek_108 : decode cX2_seek 108 = .ok (.iload 6, 2) := by decide +kernel
theorem dX2_seek_110 : decode cX2_seek 110 = .ok (.iaload, 1) := by decide +kernel
theorem dX2_seek_111 : decode cX2_seek 111 = .ok (.iload 4, 2) := by decide +kernel
theorem dX2_seek_113 : decode cX2_seek 113 = .ok (.invokevirtual 45, 3) := by decide +kernel
theorem dX2_seek_116 : decode cX2_seek 116 = .ok (.iinc 6 1, 3) := by decide +kernel
theorem dX2_seek_119 : decode cX2_seek 119 = .ok (.goto (-43), 3) := by decide +kernel
theorem dX2_seek_122 : decode cX2_seek 122 = .ok (.iload 5, 2) := by decide +kernel
theorem dX2_seek_124 : decode cX2_seek 124 = .ok (.istore_n 3, 1) := by decide +kernel
theorem dX2_seek_125 : decode cX2_seek 125 = .ok (.iinc 4 1, 3) := by decide +kernel
theorem dX2_seek_128 : decode cX2_seek 128 = .ok (.goto (-87), 3) := by decide +kernel
theorem dX2_seek_131 : decode cX2_seek 131 = .ok (.return_, 1) := by decide +kernel
theorem dX2_leave_0 : decode cX2_leave 0 = .ok (.iconst 0, 1) := by decide +kernel
theorem dX2_leave_1 : decode cX2_leave 1 = .ok (.istore 5, 2) := by decide +kernel
theorem dX2_leave_3 : decode cX2_leave 3 = .ok (.iload 5, 2) := by decide +kernel
theorem dX2_leave_5 : decode cX2_leave 5 = .ok (.bipush 8, 2) := by decide +kernel
theorem dX2_leave_7 : decode cX2_leave 7 = .ok (.if_icmp .ge 43, 3) := by decide +kernel
theorem dX2_leave_10 : decode cX2_leave 10 = .ok (.aload_n 0, 1) := by decide +kernel
theorem dX2_leave_11 : decode cX2_leave 11 = .ok (.getfield 26, 3) := by decide +kernel
theorem dX2_leave_14 : decode cX2_leave 14 = .ok (.iconst (-1), 1) := by decide +kernel
theorem dX2_leave_15 : decode cX2_leave 15 = .ok (.if_icmp .ne 35, 3) := by decide +kernel
theorem dX2_leave_18 : decode cX2_leave 18 = .ok (.aload_n 0, 1) := by decide +kernel
theorem dX2_leave_19 : decode cX2_leave 19 = .ok (.aload_n 1, 1) := by decide +kernel
theorem dX2_leave_20 : decode cX2_leave 20 = .ok (.iload_n 3, 1) := by decide +kernel
theorem dX2_leave_21 : decode cX2_leave 21 = .ok (.bipush 36, 2) := by decide +kernel
theorem dX2_leave_23 : decode cX2_leave 23 = .ok (.idiv, 1) := by decide +kernel
theorem dX2_leave_24 : decode cX2_leave 24 = .ok (.iload 5, 2) := by decide +kernel
theorem dX2_leave_26 : decode cX2_leave 26 = .ok (.invokevirtual 49, 3) := by decide +kernel
theorem dX2_leave_29 : decode cX2_leave 29 = .ok (.aload_n 2, 1) := by decide +kernel
theorem dX2_leave_30 : decode cX2_leave 30 = .ok (.iload_n 3, 1) := by decide +kernel
theorem dX2_leave_31 : decode cX2_leave 31 = .ok (.bipush 36, 2) := by decide +kernel
theorem dX2_leave_33 : decode cX2_leave 33 = .ok (.irem, 1) := by decide +kernel
theorem dX2_leave_34 : decode cX2_leave 34 = .ok (.iload 5, 2) := by decide +kernel
theorem dX2_leave_36 : decode cX2_leave 36 = .ok (.invokevirtual 49, 3) := by decide +kernel
theorem dX2_leave_39 : decode cX2_leave 39 = .ok (.iload 4, 2) := by decide +kernel
theorem dX2_leave_41 : decode cX2_leave 41 = .ok (.invokevirtual 41, 3) := by decide +kernel
theorem dX2_leave_44 : decode cX2_leave 44 = .ok (.iinc 5 1, 3) := by decide +kernel
theorem dX2_leave_47 : decode cX2_leave 47 = .ok (.goto (-44), 3) := by decide +kernel
theorem dX2_leave_50 : decode cX2_leave 50 = .ok (.return_, 1) := by decide +kernel
theorem dX2_discover_0 : decode cX2_discover 0 = .ok (.iload_n 1, 1) := by decide +kernel
theorem dX2_discover_1 : decode cX2_discover 1 = .ok (.bipush 36, 2) := by decide +kernel
theorem dX2_discover_3 : decode cX2_discover 3 = .ok (.invokestatic 53, 3) := by decide +kernel
theorem dX2_discover_6 : decode cX2_discover 6 = .ok (.ifCond .eq 33, 3) := by decide +kernel
theorem dX2_discover_9 : decode cX2_discover 9 = .ok (.aload_n 0, 1) := by decide +kernel
theorem dX2_discover_10 : decode cX2_discover 10 = .ok (.getfield 15, 3) := by decide +kernel
theorem dX2_discover_13 : decode cX2_discover 13 = .ok (.iload_n 1, 1) := by decide +kernel
theorem dX2_discover_14 : decode cX2_discover 14 = .ok (.laload, 1) := by decide +kernel
theorem dX2_discover_15 : decode cX2_discover 15 = .ok (.iload_n 2, 1) := by decide +kernel
theorem dX2_discover_16 : decode cX2_discover 16 = .ok (.lushr, 1) := by decide +kernel
theorem dX2_discover_17 : decode cX2_discover 17 = .ok (.lconst 1, 1) := by decide +kernel
theorem dX2_discover_18 : decode cX2_discover 18 = .ok (.land, 1) := by decide +kernel
theorem dX2_discover_19 : decode cX2_discover 19 = .ok (.lconst 1, 1) := by decide +kernel
theorem dX2_discover_20 : decode cX2_discover 20 = .ok (.lcmp, 1) := by decide +kernel
theorem dX2_discover_21 : decode cX2_discover 21 = .ok (.ifCond .eq 18, 3) := by decide +kernel
theorem dX2_discover_24 : decode cX2_discover 24 = .ok (.aload_n 0, 1) := by decide +kernel
theorem dX2_discover_25 : decode cX2_discover 25 = .ok (.getfield 19, 3) := by decide +kernel
theorem dX2_discover_28 : decode cX2_discover 28 = .ok (.aload_n 0, 1) := by decide +kernel
theorem dX2_discover_29 : decode cX2_discover 29 = .ok (.getfield 9, 3) := by decide +kernel
theorem dX2_discover_32 : decode cX2_discover 32 = .ok (.arraylength, 1) := by decide +kernel
theorem dX2_discover_33 : decode cX2_discover 33 = .ok (.invokestatic 53, 3) := by decide +kernel
theorem dX2_discover_36 : decode cX2_discover 36 = .ok (.ifCond .ne 4, 3) := by decide +kernel
theorem dX2_discover_39 : decode cX2_discover 39 = .ok (.return_, 1) := by decide +kernel
theorem dX2_discover_40 : decode cX2_discover 40 = .ok (.aload_n 0, 1) := by decide +kernel
theorem dX2_discover_41 : decode cX2_discover 41 = .ok (.getfield 15, 3) := by decide +kernel
theorem dX2_discover_44 : decode cX2_discover 44 = .ok (.iload_n 1, 1) := by decide +kernel
theorem dX2_discover_45 : decode cX2_discover 45 = .ok (.dup2, 1) := by decide +kernel
theorem dX2_discover_46 : decode cX2_discover 46 = .ok (.laload, 1) := by decide +kernel
theorem dX2_discover_47 : decode cX2_discover 47 = .ok (.lconst 1, 1) := by decide +kernel
theorem dX2_discover_48 : decode cX2_discover 48 = .ok (.iload_n 2, 1) := by decide +kernel
theorem dX2_discover_49 : decode cX2_discover 49 = .ok (.lshl, 1) := by decide +kernel
theorem dX2_discover_50 : decode cX2_discover 50 = .ok (.lor, 1) := by decide +kernel
theorem dX2_discover_51 : decode cX2_discover 51 = .ok (.lastore, 1) := by decide +kernel
theorem dX2_discover_52 : decode cX2_discover 52 = .ok (.aload_n 0, 1) := by decide +kernel
theorem dX2_discover_53 : decode cX2_discover 53 = .ok (.getfield 9, 3) := by decide +kernel
theorem dX2_discover_56 : decode cX2_discover 56 = .ok (.aload_n 0, 1) := by decide +kernel
theorem dX2_discover_57 : decode cX2_discover 57 = .ok (.getfield 19, 3) := by decide +kernel
theorem dX2_discover_60 : decode cX2_discover 60 = .ok (.iload_n 1, 1) := by decide +kernel
theorem dX2_discover_61 : decode cX2_discover 61 = .ok (.bipush 36, 2) := by decide +kernel
theorem dX2_discover_63 : decode cX2_discover 63 = .ok (.imul, 1) := by decide +kernel
theorem dX2_discover_64 : decode cX2_discover 64 = .ok (.iload_n 2, 1) := by decide +kernel
theorem dX2_discover_65 : decode cX2_discover 65 = .ok (.iadd, 1) := by decide +kernel
theorem dX2_discover_66 : decode cX2_discover 66 = .ok (.iastore, 1) := by decide +kernel
theorem dX2_discover_67 : decode cX2_discover 67 = .ok (.aload_n 0, 1) := by decide +kernel
theorem dX2_discover_68 : decode cX2_discover 68 = .ok (.dup, 1) := by decide +kernel
theorem dX2_discover_69 : decode cX2_discover 69 = .ok (.getfield 19, 3) := by decide +kernel
theorem dX2_discover_72 : decode cX2_discover 72 = .ok (.iconst 1, 1) := by decide +kernel
theorem dX2_discover_73 : decode cX2_discover 73 = .ok (.iadd, 1) := by decide +kernel
theorem dX2_discover_74 : decode cX2_discover 74 = .ok (.putfield 19, 3) := by decide +kernel
theorem dX2_discover_77 : decode cX2_discover 77 = .ok (.iload_n 1, 1) := by decide +kernel
theorem dX2_discover_78 : decode cX2_discover 78 = .ok (.iload_n 2, 1) := by decide +kernel
theorem dX2_discover_79 : decode cX2_discover 79 = .ok (.if_icmp .ne 13, 3) := by decide +kernel
theorem dX2_discover_82 : decode cX2_discover 82 = .ok (.aload_n 0, 1) := by decide +kernel
theorem dX2_discover_83 : decode cX2_discover 83 = .ok (.iload_n 3, 1) := by decide +kernel
theorem dX2_discover_84 : decode cX2_discover 84 = .ok (.putfield 23, 3) := by decide +kernel
theorem dX2_discover_87 : decode cX2_discover 87 = .ok (.aload_n 0, 1) := by decide +kernel
theorem dX2_discover_88 : decode cX2_discover 88 = .ok (.iload_n 1, 1) := by decide +kernel
theorem dX2_discover_89 : decode cX2_discover 89 = .ok (.putfield 26, 3) := by decide +kernel
theorem dX2_discover_92 : decode cX2_discover 92 = .ok (.return_, 1) := by decide +kernel
theorem dX3_init_0 : decode cX3_init 0 = .ok (.aload_n 0, 1) := by decide +kernel
theorem dX3_init_1 : decode cX3_init 1 = .ok (.invokespecial 3, 3) := by decide +kernel
theorem dX3_init_4 : decode cX3_init 4 = .ok (.aload_n 0, 1) := by decide +kernel
theorem dX3_init_5 : decode cX3_init 5 = .ok (.sipush 160, 3) := by decide +kernel
theorem dX3_init_8 : decode cX3_init 8 = .ok (.newarray .int, 2) := by decide +kernel
theorem dX3_init_10 : decode cX3_init 10 = .ok (.putfield 9, 3) := by decide +kernel
theorem dX3_init_13 : decode cX3_init 13 = .ok (.aload_n 0, 1) := by decide +kernel
theorem dX3_init_14 : decode cX3_init 14 = .ok (.iconst 0, 1) := by decide +kernel
theorem dX3_init_15 : decode cX3_init 15 = .ok (.putfield 15, 3) := by decide +kernel
theorem dX3_init_18 : decode cX3_init 18 = .ok (.aload_n 0, 1) := by decide +kernel
theorem dX3_init_19 : decode cX3_init 19 = .ok (.sipush 160, 3) := by decide +kernel
theorem dX3_init_22 : decode cX3_init 22 = .ok (.newarray .int, 2) := by decide +kernel
theorem dX3_init_24 : decode cX3_init 24 = .ok (.putfield 19, 3) := by decide +kernel
theorem dX3_init_27 : decode cX3_init 27 = .ok (.aload_n 0, 1) := by decide +kernel
theorem dX3_init_28 : decode cX3_init 28 = .ok (.sipush 160, 3) := by decide +kernel
theorem dX3_init_31 : decode cX3_init 31 = .ok (.newarray .int, 2) := by decide +kernel
theorem dX3_init_33 : decode cX3_init 33 = .ok (.putfield 22, 3) := by decide +kernel
theorem dX3_init_36 : decode cX3_init 36 = .ok (.aload_n 0, 1) := by decide +kernel
theorem dX3_init_37 : decode cX3_init 37 = .ok (.sipush 160, 3) := by decide +kernel
theorem dX3_init_40 : decode cX3_init 40 = .ok (.newarray .int, 2) := by decide +kernel
theorem dX3_init_42 : decode cX3_init 42 = .ok (.putfield 25, 3) := by decide +kernel
theorem dX3_init_45 : decode cX3_init 45 = .ok (.aload_n 0, 1) := by decide +kernel
theorem dX3_init_46 : decode cX3_init 46 = .ok (.iconst 0, 1) := by decide +kernel
theorem dX3_init_47 : decode cX3_init 47 = .ok (.putfield 28, 3) := by decide +kernel
theorem dX3_init_50 : decode cX3_init 50 = .ok (.aload_n 0, 1) := by decide +kernel
theorem dX3_init_51 : decode cX3_init 51 = .ok (.iconst 0, 1) := by decide +kernel
theorem dX3_init_52 : decode cX3_init 52 = .ok (.putfield 31, 3) := by decide +kernel
theorem dX3_init_55 : decode cX3_init 55 = .ok (.aload_n 0, 1) := by decide +kernel
theorem dX3_init_56 : decode cX3_init 56 = .ok (.sipush 160, 3) := by decide +kernel
theorem dX3_init_59 : decode cX3_init 59 = .ok (.newarray .int, 2) := by decide +kernel
theorem dX3_init_61 : decode cX3_init 61 = .ok (.putfield 34, 3) := by decide +kernel
theorem dX3_init_64 : decode cX3_init 64 = .ok (.aload_n 0, 1) := by decide +kernel
theorem dX3_init_65 : decode cX3_init 65 = .ok (.iconst 0, 1) := by decide +kernel
theorem dX3_init_66 : decode cX3_init 66 = .ok (.putfield 37, 3) := by decide +kernel
theorem dX3_init_69 : decode cX3_init 69 = .ok (.aload_n 0, 1) := by decide +kernel
theorem dX3_init_70 : decode cX3_init 70 = .ok (.iconst 0, 1) := by decide +kernel
theorem dX3_init_71 : decode cX3_init 71 = .ok (.putfield 40, 3) := by decide +kernel
theorem dX3_init_74 : decode cX3_init 74 = .ok (.aload_n 0, 1) := by decide +kernel
theorem dX3_init_75 : decode cX3_init 75 = .ok (.iconst 0, 1) := by decide +kernel
theorem dX3_init_76 : decode cX3_init 76 = .ok (.putfield 43, 3) := by decide +kernel
theorem dX3_init_79 : decode cX3_init 79 = .ok (.return_, 1) := by decide +kernel
theorem dX3_put_0 : decode cX3_put 0 = .ok (.aload_n 0, 1) := by decide +kernel
theorem dX3_put_1 : decode cX3_put 1 = .ok (.getfield 15, 3) := by decide +kernel
theorem dX3_put_4 : decode cX3_put 4 = .ok (.aload_n 0, 1) := by decide +kernel
theorem dX3_put_5 : decode cX3_put 5 = .ok (.getfield 9, 3) := by decide +kernel
theorem dX3_put_8 : decode cX3_put 8 = .ok (.arraylength, 1) := by decide +kernel
theorem dX3_put_9 : decode cX3_put 9 = .ok (.invokestatic 46, 3) := by decide +kernel
theorem dX3_put_12 : decode cX3_put 12 = .ok (.ifCond .ne 6, 3) := by decide +kernel
theorem dX3_put_15 : decode cX3_put 15 = .ok (.bipush (-4), 2) := by decide +kernel
theorem dX3_put_17 : decode cX3_put 17 = .ok (.ireturn, 1) := by decide +kernel
theorem dX3_put_18 : decode cX3_put 18 = .ok (.aload_n 0, 1) := by decide +kernel
theorem dX3_put_19 : decode cX3_put 19 = .ok (.getfield 9, 3) := by decide +kernel
theorem dX3_put_22 : decode cX3_put 22 = .ok (.aload_n 0, 1) := by decide +kernel
theorem dX3_put_23 : decode cX3_put 23 = .ok (.getfield 15, 3) := by decide +kernel
theorem dX3_put_26 : decode cX3_put 26 = .ok (.iload_n 1, 1) := by decide +kernel
theorem dX3_put_27 : decode cX3_put 27 = .ok (.iastore, 1) := by decide +kernel
theorem dX3_put_28 : decode cX3_put 28 = .ok (.aload_n 0, 1) := by decide +kernel
theorem dX3_put_29 : decode cX3_put 29 = .ok (.dup, 1) := by decide +kernel
theorem dX3_put_30 : decode cX3_put 30 = .ok (.getfield 15, 3) := by decide +kernel
theorem dX3_put_33 : decode cX3_put 33 = .ok (.iconst 1, 1) := by decide +kernel
theorem dX3_put_34 : decode cX3_put 34 = .ok (.iadd, 1) := by decide +kernel
theorem dX3_put_35 : decode cX3_put 35 = .ok (.putfield 15, 3) := by decide +kernel
theorem dX3_put_38 : decode cX3_put 38 = .ok (.aload_n 0, 1) := by decide +kernel
theorem dX3_put_39 : decode cX3_put 39 = .ok (.getfield 15, 3) := by decide +kernel
theorem dX3_put_42 : decode cX3_put 42 = .ok (.ireturn, 1) := by decide +kernel
theorem dX3_clear_0 : decode cX3_clear 0 = .ok (.aload_n 0, 1) := by decide +kernel
theorem dX3_clear_1 : decode cX3_clear 1 = .ok (.iconst 0, 1) := by decide +kernel
theorem dX3_clear_2 : decode cX3_clear 2 = .ok (.putfield 15, 3) := by decide +kernel
theorem dX3_clear_5 : decode cX3_clear 5 = .ok (.return_, 1) := by decide +kernel
theorem dX3_reads_0 : decode cX3_reads 0 = .ok (.aload_n 0, 1) := by decide +kernel
theorem dX3_reads_1 : decode cX3_reads 1 = .ok (.invokevirtual 50, 3) := by decide +kernel
theorem dX3_reads_4 : decode cX3_reads 4 = .ok (.aload_n 0, 1) := by decide +kernel
theorem dX3_reads_5 : decode cX3_reads 5 = .ok (.iconst 0, 1) := by decide +kernel
theorem dX3_reads_6 : decode cX3_reads 6 = .ok (.putfield 31, 3) := by decide +kernel
theorem dX3_reads_9 : decode cX3_reads 9 = .ok (.aload_n 0, 1) := by decide +kernel
theorem dX3_reads_10 : decode cX3_reads 10 = .ok (.iconst 0, 1) := by decide +kernel
theorem dX3_reads_11 : decode cX3_reads 11 = .ok (.putfield 37, 3) := by decide +kernel
theorem dX3_reads_14 : decode cX3_reads 14 = .ok (.aload_n 0, 1) := by decide +kernel
theorem dX3_reads_15 : decode cX3_reads 15 = .ok (.iconst 4, 1) := by decide +kernel
theorem dX3_reads_16 : decode cX3_reads 16 = .ok (.invokevirtual 53, 3) := by decide +kernel
theorem dX3_reads_19 : decode cX3_reads 19 = .ok (.ifCond .ne 5, 3) := by decide +kernel
theorem dX3_reads_22 : decode cX3_reads 22 = .ok (.iconst 0, 1) := by decide +kernel
theorem dX3_reads_23 : decode cX3_reads 23 = .ok (.ireturn, 1) := by decide +kernel
theorem dX3_reads_24 : decode cX3_reads 24 = .ok (.aload_n 0, 1) := by decide +kernel
theorem dX3_reads_25 : decode cX3_reads 25 = .ok (.aload_n 0, 1) := by decide +kernel
theorem dX3_reads_26 : decode cX3_reads 26 = .ok (.getfield 37, 3) := by decide +kernel
theorem dX3_reads_29 : decode cX3_reads 29 = .ok (.putfield 40, 3) := by decide +kernel
theorem dX3_reads_32 : decode cX3_reads 32 = .ok (.aload_n 0, 1) := by decide +kernel
theorem dX3_reads_33 : decode cX3_reads 33 = .ok (.iconst 5, 1) := by decide +kernel
theorem dX3_reads_34 : decode cX3_reads 34 = .ok (.invokevirtual 53, 3) := by decide +kernel
theorem dX3_reads_37 : decode cX3_reads 37 = .ok (.ifCond .ne 5, 3) := by decide +kernel
theorem dX3_reads_40 : decode cX3_reads 40 = .ok (.iconst 0, 1) := by decide +kernel
theorem dX3_reads_41 : decode cX3_reads 41 = .ok (.ireturn, 1) := by decide +kernel
theorem dX3_reads_42 : decode cX3_reads 42 = .ok (.aload_n 0, 1) := by decide +kernel
theorem dX3_reads_43 : decode cX3_reads 43 = .ok (.aload_n 0, 1) := by decide +kernel
theorem dX3_reads_44 : decode cX3_reads 44 = .ok (.getfield 37, 3) := by decide +kernel
theorem dX3_reads_47 : decode cX3_reads 47 = .ok (.putfield 43, 3) := by decide +kernel
theorem dX3_reads_50 : decode cX3_reads 50 = .ok (.aload_n 0, 1) := by decide +kernel
theorem dX3_reads_51 : decode cX3_reads 51 = .ok (.bipush 6, 2) := by decide +kernel
theorem dX3_reads_53 : decode cX3_reads 53 = .ok (.invokevirtual 53, 3) := by decide +kernel
theorem dX3_reads_56 : decode cX3_reads 56 = .ok (.ifCond .eq 14, 3) := by decide +kernel
theorem dX3_reads_59 : decode cX3_reads 59 = .ok (.aload_n 0, 1) := by decide +kernel
theorem dX3_reads_60 : decode cX3_reads 60 = .ok (.invokevirtual 57, 3) := by decide +kernel
theorem dX3_reads_63 : decode cX3_reads 63 = .ok (.ifCond .ne 7, 3) := by decide +kernel
theorem dX3_reads_66 : decode cX3_reads 66 = .ok (.iconst 1, 1) := by decide +kernel
theorem dX3_reads_67 : decode cX3_reads 67 = .ok (.goto 4, 3) := by decide +kernel
theorem dX3_reads_70 : decode cX3_reads 70 = .ok (.iconst 0, 1) := by decide +kernel
theorem dX3_reads_71 : decode cX3_reads 71 = .ok (.ireturn, 1) := by decide +kernel
theorem dX3_made_0 : decode cX3_made 0 = .ok (.new 61, 3) := by decide +kernel
theorem dX3_made_3 : decode cX3_made 3 = .ok (.dup, 1) := by decide +kernel
theorem dX3_made_4 : decode cX3_made 4 = .ok (.aload_n 0, 1) := by decide +kernel
theorem dX3_made_5 : decode cX3_made 5 = .ok (.iconst 0, 1) := by decide +kernel
theorem dX3_made_6 : decode cX3_made 6 = .ok (.aload_n 0, 1) := by decide +kernel
theorem dX3_made_7 : decode cX3_made 7 = .ok (.getfield 40, 3) := by decide +kernel
theorem dX3_made_10 : decode cX3_made 10 = .ok (.invokevirtual 63, 3) := by decide +kernel
theorem dX3_made_13 : decode cX3_made 13 = .ok (.aload_n 0, 1) := by decide +kernel
theorem dX3_made_14 : decode cX3_made 14 = .ok (.aload_n 0, 1) := by decide +kernel
theorem dX3_made_15 : decode cX3_made 15 = .ok (.getfield 40, 3) := by decide +kernel
theorem dX3_made_18 : decode cX3_made 18 = .ok (.aload_n 0, 1) := by decide +kernel
theorem dX3_made_19 : decode cX3_made 19 = .ok (.getfield 43, 3) := by decide +kernel
theorem dX3_made_22 : decode cX3_made 22 = .ok (.invokevirtual 63, 3) := by decide +kernel
theorem dX3_made_25 : decode cX3_made 25 = .ok (.aload_n 0, 1) := by decide +kernel
theorem dX3_made_26 : decode cX3_made 26 = .ok (.aload_n 0, 1) := by decide +kernel
theorem dX3_made_27 : decode cX3_made 27 = .ok (.getfield 43, 3) := by decide +kernel
theorem dX3_made_30 : decode cX3_made 30 = .ok (.aload_n 0, 1) := by decide +kernel
theorem dX3_made_31 : decode cX3_made 31 = .ok (.getfield 37, 3) := by decide +kernel
theorem dX3_made_34 : decode cX3_made 34 = .ok (.invokevirtual 63, 3) := by decide +kernel
theorem dX3_made_37 : decode cX3_made 37 = .ok (.invokespecial 67, 3) := by decide +kernel
theorem dX3_made_40 : decode cX3_made 40 = .ok (.areturn, 1) := by decide +kernel
theorem dX3_place_0 : decode cX3_place 0 = .ok (.aload_n 0, 1) := by decide +kernel
theorem dX3_place_1 : decode cX3_place 1 = .ok (.getfield 31, 3) := by decide +kernel
theorem dX3_place_4 : decode cX3_place 4 = .ok (.aload_n 0, 1) := by decide +kernel
theorem dX3_place_5 : decode cX3_place 5 = .ok (.getfield 28, 3) := by decide +kernel
theorem dX3_place_8 : decode cX3_place 8 = .ok (.invokestatic 46, 3) := by decide +kernel
theorem dX3_place_11 : decode cX3_place 11 = .ok (.ifCond .eq 15, 3) := by decide +kernel
theorem dX3_place_14 : decode cX3_place 14 = .ok (.aload_n 0, 1) := by decide +kernel
theorem dX3_place_15 : decode cX3_place 15 = .ok (.getfield 22, 3) := by decide +kernel
theorem dX3_place_18 : decode cX3_place 18 = .ok (.aload_n 0, 1) := by decide +kernel
theorem dX3_place_19 : decode cX3_place 19 = .ok (.getfield 31, 3) := by decide +kernel
theorem dX3_place_22 : decode cX3_place 22 = .ok (.iaload, 1) := by decide +kernel
theorem dX3_place_23 : decode cX3_place 23 = .ok (.goto 7, 3) := by decide +kernel
theorem dX3_place_26 : decode cX3_place 26 = .ok (.aload_n 0, 1) := by decide +kernel
theorem dX3_place_27 : decode cX3_place 27 = .ok (.getfield 15, 3) := by decide +kernel
theorem dX3_place_30 : decode cX3_place 30 = .ok (.ireturn, 1) := by decide +kernel
theorem dX3_stepsOf_0 : decode cX3_stepsOf 0 = .ok (.iconst 0, 1) := by decide +kernel
theorem dX3_stepsOf_1 : decode cX3_stepsOf 1 = .ok (.iload_n 2, 1) := by decide +kernel
theorem dX3_stepsOf_2 : decode cX3_stepsOf 2 = .ok (.iload_n 1, 1) := by decide +kernel
theorem dX3_stepsOf_3 : decode cX3_stepsOf 3 = .ok (.isub, 1) := by decide +kernel
theorem dX3_stepsOf_4 : decode cX3_stepsOf 4 = .ok (.invokestatic 70, 3) := by decide +kernel
theorem dX3_stepsOf_7 : decode cX3_stepsOf 7 = .ok (.newarray .int, 2) := by decide +kernel
theorem dX3_stepsOf_9 : decode cX3_stepsOf 9 = .ok (.astore_n 3, 1) := by decide +kernel
theorem dX3_stepsOf_10 : decode cX3_stepsOf 10 = .ok (.iconst 0, 1) := by decide +kernel
theorem dX3_stepsOf_11 : decode cX3_stepsOf 11 = .ok (.istore 4, 2) := by decide +kernel
theorem dX3_stepsOf_13 : decode cX3_stepsOf 13 = .ok (.iload 4, 2) := by decide +kernel
theorem dX3_stepsOf_15 : decode cX3_stepsOf 15 = .ok (.aload_n 3, 1) := by decide +kernel
theorem dX3_stepsOf_16 : decode cX3_stepsOf 16 = .ok (.arraylength, 1) := by decide +kernel
theorem dX3_stepsOf_17 : decode cX3_stepsOf 17 = .ok (.if_icmp .ge 34, 3) := by decide +kernel
theorem dX3_stepsOf_20 : decode cX3_stepsOf 20 = .ok (.iload_n 1, 1) := by decide +kernel
theorem dX3_stepsOf_21 : decode cX3_stepsOf 21 = .ok (.iload 4, 2) := by decide +kernel
theorem dX3_stepsOf_23 : decode cX3_stepsOf 23 = .ok (.iadd, 1) := by decide +kernel
theorem dX3_stepsOf_24 : decode cX3_stepsOf 24 = .ok (.aload_n 0, 1) := by decide +kernel
theorem dX3_stepsOf_25 : decode cX3_stepsOf 25 = .ok (.getfield 34, 3) := by decide +kernel
theorem dX3_stepsOf_28 : decode cX3_stepsOf 28 = .ok (.arraylength, 1) := by decide +kernel
theorem dX3_stepsOf_29 : decode cX3_stepsOf 29 = .ok (.if_icmp .ge 22, 3) := by decide +kernel
theorem dX3_stepsOf_32 : decode cX3_stepsOf 32 = .ok (.aload_n 3, 1) := by decide +kernel
theorem dX3_stepsOf_33 : decode cX3_stepsOf 33 = .ok (.iload 4, 2) := by decide +kernel
theorem dX3_stepsOf_35 : decode cX3_stepsOf 35 = .ok (.aload_n 0, 1) := by decide +kernel
theorem dX3_stepsOf_36 : decode cX3_stepsOf 36 = .ok (.getfield 34, 3) := by decide +kernel
theorem dX3_stepsOf_39 : decode cX3_stepsOf 39 = .ok (.iload_n 1, 1) := by decide +kernel
theorem dX3_stepsOf_40 : decode cX3_stepsOf 40 = .ok (.iload 4, 2) := by decide +kernel
theorem dX3_stepsOf_42 : decode cX3_stepsOf 42 = .ok (.iadd, 1) := by decide +kernel
theorem dX3_stepsOf_43 : decode cX3_stepsOf 43 = .ok (.iaload, 1) := by decide +kernel
theorem dX3_stepsOf_44 : decode cX3_stepsOf 44 = .ok (.iastore, 1) := by decide +kernel
theorem dX3_stepsOf_45 : decode cX3_stepsOf 45 = .ok (.iinc 4 1, 3) := by decide +kernel
theorem dX3_stepsOf_48 : decode cX3_stepsOf 48 = .ok (.goto (-35), 3) := by decide +kernel
theorem dX3_stepsOf_51 : decode cX3_stepsOf 51 = .ok (.aload_n 3, 1) := by decide +kernel
theorem dX3_stepsOf_52 : decode cX3_stepsOf 52 = .ok (.areturn, 1) := by decide +kernel
theorem dX3_findTokens_0 : decode cX3_findTokens 0 = .ok (.aload_n 0, 1) := by decide +kernel
theorem dX3_findTokens_1 : decode cX3_findTokens 1 = .ok (.iconst 0, 1) := by decide +kernel
theorem dX3_findTokens_2 : decode cX3_findTokens 2 = .ok (.putfield 28, 3) := by decide +kernel
theorem dX3_findTokens_5 : decode cX3_findTokens 5 = .ok (.iconst 0, 1) := by decide +kernel
theorem dX3_findTokens_6 : decode cX3_findTokens 6 = .ok (.istore_n 1, 1) := by decide +kernel
theorem dX3_findTokens_7 : decode cX3_findTokens 7 = .ok (.iconst 0, 1) := by decide +kernel
theorem dX3_findTokens_8 : decode cX3_findTokens 8 = .ok (.istore_n 2, 1) := by decide +kernel
theorem dX3_findTokens_9 : decode cX3_findTokens 9 = .ok (.iload_n 2, 1) := by decide +kernel
theorem dX3_findTokens_10 : decode cX3_findTokens 10 = .ok (.sipush 160, 3) := by decide +kernel
theorem dX3_findTokens_13 : decode cX3_findTokens 13 = .ok (.if_icmp .ge 133, 3) := by decide +kernel
theorem dX3_findTokens_16 : decode cX3_findTokens 16 = .ok (.iload_n 1, 1) := by decide +kernel
theorem dX3_findTokens_17 : decode cX3_findTokens 17 = .ok (.aload_n 0, 1) := by decide +kernel
theorem dX3_findTokens_18 : decode cX3_findTokens 18 = .ok (.getfield 15, 3) := by decide +kernel
theorem dX3_findTokens_21 : decode cX3_findTokens 21 = .ok (.if_icmp .ge 125, 3) := by decide +kernel
theorem dX3_findTokens_24 : decode cX3_findTokens 24 = .ok (.aload_n 0, 1) := by decide +kernel
theorem dX3_findTokens_25 : decode cX3_findTokens 25 = .ok (.iload_n 1, 1) := by decide +kernel
theorem dX3_findTokens_26 : decode cX3_findTokens 26 = .ok (.invokevirtual 76, 3) := by decide +kernel
theorem dX3_findTokens_29 : decode cX3_findTokens 29 = .ok (.istore_n 3, 1) := by decide +kernel
theorem dX3_findTokens_30 : decode cX3_findTokens 30 = .ok (.iload_n 1, 1) := by decide +kernel
theorem dX3_findTokens_31 : decode cX3_findTokens 31 = .ok (.iconst 1, 1) := by decide +kernel
theorem dX3_findTokens_32 : decode cX3_findTokens 32 = .ok (.iadd, 1) := by decide +kernel
theorem dX3_findTokens_33 : decode cX3_findTokens 33 = .ok (.istore 4, 2) := by decide +kernel
theorem dX3_findTokens_35 : decode cX3_findTokens 35 = .ok (.iload_n 3, 1) := by decide +kernel
theorem dX3_findTokens_36 : decode cX3_findTokens 36 = .ok (.invokestatic 80, 3) := by decide +kernel
theorem dX3_findTokens_39 : decode cX3_findTokens 39 = .ok (.ifCond .eq 26, 3) := by decide +kernel
theorem dX3_findTokens_42 : decode cX3_findTokens 42 = .ok (.aload_n 0, 1) := by decide +kernel
theorem dX3_findTokens_43 : decode cX3_findTokens 43 = .ok (.iload_n 1, 1) := by decide +kernel
theorem dX3_findTokens_44 : decode cX3_findTokens 44 = .ok (.invokevirtual 83, 3) := by decide +kernel
theorem dX3_findTokens_47 : decode cX3_findTokens 47 = .ok (.istore 4, 2) := by decide +kernel
theorem dX3_findTokens_49 : decode cX3_findTokens 49 = .ok (.aload_n 0, 1) := by decide +kernel
theorem dX3_findTokens_50 : decode cX3_findTokens 50 = .ok (.aload_n 0, 1) := by decide +kernel
theorem dX3_findTokens_51 : decode cX3_findTokens 51 = .ok (.iload_n 1, 1) := by decide +kernel
theorem dX3_findTokens_52 : decode cX3_findTokens 52 = .ok (.iload 4, 2) := by decide +kernel
theorem dX3_findTokens_54 : decode cX3_findTokens 54 = .ok (.invokevirtual 86, 3) := by decide +kernel
theorem dX3_findTokens_57 : decode cX3_findTokens 57 = .ok (.iload_n 1, 1) := by decide +kernel
theorem dX3_findTokens_58 : decode cX3_findTokens 58 = .ok (.iconst 0, 1) := by decide +kernel
theorem dX3_findTokens_59 : decode cX3_findTokens 59 = .ok (.invokevirtual 89, 3) := by decide +kernel
theorem dX3_findTokens_62 : decode cX3_findTokens 62 = .ok (.goto 75, 3) := by decide +kernel
theorem dX3_findTokens_65 : decode cX3_findTokens 65 = .ok (.iload_n 3, 1) := by decide +kernel
theorem dX3_findTokens_66 : decode cX3_findTokens 66 = .ok (.invokestatic 93, 3) := by decide +kernel
theorem dX3_findTokens_69 : decode cX3_findTokens 69 = .ok (.ifCond .eq 38, 3) := by decide +kernel
theorem dX3_findTokens_72 : decode cX3_findTokens 72 = .ok (.aload_n 0, 1) := by decide +kernel
theorem dX3_findTokens_73 : decode cX3_findTokens 73 = .ok (.iload_n 1, 1) := by decide +kernel
theorem dX3_findTokens_74 : decode cX3_findTokens 74 = .ok (.invokevirtual 96, 3) := by decide +kernel
theorem dX3_findTokens_77 : decode cX3_findTokens 77 = .ok (.istore 4, 2) := by decide +kernel
theorem dX3_findTokens_79 : decode cX3_findTokens 79 = .ok (.aload_n 0, 1) := by decide +kernel
theorem dX3_findTokens_80 : decode cX3_findTokens 80 = .ok (.iload 4, 2) := by decide +kernel
theorem dX3_findTokens_82 : decode cX3_findTokens 82 = .ok (.iload_n 1, 1) := by decide +kernel
theorem dX3_findTokens_83 : decode cX3_findTokens 83 = .ok (.isub, 1) := by decide +kernel
theorem dX3_findTokens_84 : decode cX3_findTokens 84 = .ok (.iconst 4, 1) := by decide +kernel
theorem dX3_findTokens_85 : decode cX3_findTokens 85 = .ok (.if_icmp .le 7, 3) := by decide +kernel
theorem dX3_findTokens_88 : decode cX3_findTokens 88 = .ok (.iconst 1, 1) := by decide +kernel
theorem dX3_findTokens_89 : decode cX3_findTokens 89 = .ok (.goto 4, 3) := by decide +kernel
theorem dX3_findTokens_92 : decode cX3_findTokens 92 = .ok (.iconst 2, 1) := by decide +kernel
theorem dX3_findTokens_93 : decode cX3_findTokens 93 = .ok (.iload_n 1, 1) := by decide +kernel
theorem dX3_findTokens_94 : decode cX3_findTokens 94 = .ok (.aload_n 0, 1) := by decide +kernel
theorem dX3_findTokens_95 : decode cX3_findTokens 95 = .ok (.iload_n 1, 1) := by decide +kernel
theorem dX3_findTokens_96 : decode cX3_findTokens 96 = .ok (.iload 4, 2) := by decide +kernel
theorem dX3_findTokens_98 : decode cX3_findTokens 98 = .ok (.invokevirtual 99, 3) := by decide +kernel
theorem dX3_findTokens_101 : decode cX3_findTokens 101 = .ok (.invokevirtual 89, 3) := by decide +kernel
theorem dX3_findTokens_104 : decode cX3_findTokens 104 = .ok (.goto 33, 3) := by decide +kernel
theorem dX3_findTokens_107 : decode cX3_findTokens 107 = .ok (.iload_n 3, 1) := by decide +kernel
theorem dX3_findTokens_108 : decode cX3_findTokens 108 = .ok (.bipush 32, 2) := by decide +kernel
theorem dX3_findTokens_110 : decode cX3_findTokens 110 = .ok (.if_icmp .eq 27, 3) := by decide +kernel
theorem dX3_findTokens_113 : decode cX3_findTokens 113 = .ok (.iload_n 3, 1) := by decide +kernel
theorem dX3_findTokens_114 : decode cX3_findTokens 114 = .ok (.bipush 10, 2) := by decide +kernel
theorem dX3_findTokens_116 : decode cX3_findTokens 116 = .ok (.if_icmp .eq 21, 3) := by decide +kernel
theorem dX3_findTokens_119 : decode cX3_findTokens 119 = .ok (.aload_n 0, 1) := by decide +kernel
theorem dX3_findTokens_120 : decode cX3_findTokens 120 = .ok (.iload_n 3, 1) := by decide +kernel
theorem dX3_findTokens_121 : decode cX3_findTokens 121 = .ok (.invokestatic 102, 3) := by decide +kernel
theorem dX3_findTokens_124 : decode cX3_findTokens 124 = .ok (.ifCond .eq 7, 3) := by decide +kernel
theorem dX3_findTokens_127 : decode cX3_findTokens 127 = .ok (.iload_n 3, 1) := by decide +kernel
theorem dX3_findTokens_128 : decode cX3_findTokens 128 = .ok (.goto 4, 3) := by decide +kernel
theorem dX3_findTokens_131 : decode cX3_findTokens 131 = .ok (.iconst 1, 1) := by decide +kernel
theorem dX3_findTokens_132 : decode cX3_findTokens 132 = .ok (.iload_n 1, 1) := by decide +kernel
theorem dX3_findTokens_133 : decode cX3_findTokens 133 = .ok (.iconst 0, 1) := by decide +kernel
theorem dX3_findTokens_134 : decode cX3_findTokens 134 = .ok (.invokevirtual 89, 3) := by decide +kernel
theorem dX3_findTokens_137 : decode cX3_findTokens 137 = .ok (.iload 4, 2) := by decide +kernel
theorem dX3_findTokens_139 : decode cX3_findTokens 139 = .ok (.istore_n 1, 1) := by decide +kernel
theorem dX3_findTokens_140 : decode cX3_findTokens 140 = .ok (.iinc 2 1, 3) := by decide +kernel
theorem dX3_findTokens_143 : decode cX3_findTokens 143 = .ok (.goto (-134), 3) := by decide +kernel
theorem dX3_findTokens_146 : decode cX3_findTokens 146 = .ok (.return_, 1) := by decide +kernel
theorem dX3_addToken_0 : decode cX3_addToken 0 = .ok (.aload_n 0, 1) := by decide +kernel
theorem dX3_addToken_1 : decode cX3_addToken 1 = .ok (.getfield 28, 3) := by decide +kernel
theorem dX3_addToken_4 : decode cX3_addToken 4 = .ok (.aload_n 0, 1) := by decide +kernel
theorem dX3_addToken_5 : decode cX3_addToken 5 = .ok (.getfield 19, 3) := by decide +kernel
theorem dX3_addToken_8 : decode cX3_addToken 8 = .ok (.arraylength, 1) := by decide +kernel
theorem dX3_addToken_9 : decode cX3_addToken 9 = .ok (.invokestatic 46, 3) := by decide +kernel
theorem dX3_addToken_12 : decode cX3_addToken 12 = .ok (.ifCond .eq 43, 3) := by decide +kernel
theorem dX3_addToken_15 : decode cX3_addToken 15 = .ok (.aload_n 0, 1) := by decide +kernel
theorem dX3_addToken_16 : decode cX3_addToken 16 = .ok (.getfield 19, 3) := by decide +kernel
theorem dX3_addToken_19 : decode cX3_addToken 19 = .ok (.aload_n 0, 1) := by decide +kernel
theorem dX3_addToken_20 : decode cX3_addToken 20 = .ok (.getfield 28, 3) := by decide +kernel
theorem dX3_addToken_23 : decode cX3_addToken 23 = .ok (.iload_n 1, 1) := by decide +kernel
theorem dX3_addToken_24 : decode cX3_addToken 24 = .ok (.iastore, 1) := by decide +kernel
theorem dX3_addToken_25 : decode cX3_addToken 25 = .ok (.aload_n 0, 1) := by decide +kernel
theorem dX3_addToken_26 : decode cX3_addToken 26 = .ok (.getfield 22, 3) := by decide +kernel
theorem dX3_addToken_29 : decode cX3_addToken 29 = .ok (.aload_n 0, 1) := by decide +kernel
theorem dX3_addToken_30 : decode cX3_addToken 30 = .ok (.getfield 28, 3) := by decide +kernel
theorem dX3_addToken_33 : decode cX3_addToken 33 = .ok (.iload_n 2, 1) := by decide +kernel
theorem dX3_addToken_34 : decode cX3_addToken 34 = .ok (.iastore, 1) := by decide +kernel
theorem dX3_addToken_35 : decode cX3_addToken 35 = .ok (.aload_n 0, 1) := by decide +kernel
theorem dX3_addToken_36 : decode cX3_addToken 36 = .ok (.getfield 25, 3) := by decide +kernel
theorem dX3_addToken_39 : decode cX3_addToken 39 = .ok (.aload_n 0, 1) := by decide +kernel
theorem dX3_addToken_40 : decode cX3_addToken 40 = .ok (.getfield 28, 3) := by decide +kernel
theorem dX3_addToken_43 : decode cX3_addToken 43 = .ok (.iload_n 3, 1) := by decide +kernel
theorem dX3_addToken_44 : decode cX3_addToken 44 = .ok (.iastore, 1) := by decide +kernel
theorem dX3_addToken_45 : decode cX3_addToken 45 = .ok (.aload_n 0, 1) := by decide +kernel
theorem dX3_addToken_46 : decode cX3_addToken 46 = .ok (.dup, 1) := by decide +kernel
theorem dX3_addToken_47 : decode cX3_addToken 47 = .ok (.getfield 28, 3) := by decide +kernel
theorem dX3_addToken_50 : decode cX3_addToken 50 = .ok (.iconst 1, 1) := by decide +kernel
theorem dX3_addToken_51 : decode cX3_addToken 51 = .ok (.iadd, 1) := by decide +kernel
theorem dX3_addToken_52 : decode cX3_addToken 52 = .ok (.putfield 28, 3) := by decide +kernel
theorem dX3_addToken_55 : decode cX3_addToken 55 = .ok (.return_, 1) := by decide +kernel
theorem dX3_wordEnd_0 : decode cX3_wordEnd 0 = .ok (.iload_n 1, 1) := by decide +kernel
theorem dX3_wordEnd_1 : decode cX3_wordEnd 1 = .ok (.istore_n 2, 1) := by decide +kernel
theorem dX3_wordEnd_2 : decode cX3_wordEnd 2 = .ok (.iload_n 1, 1) := by decide +kernel
theorem dX3_wordEnd_3 : decode cX3_wordEnd 3 = .ok (.istore_n 3, 1) := by decide +kernel
theorem dX3_wordEnd_4 : decode cX3_wordEnd 4 = .ok (.iload_n 3, 1) := by decide +kernel
theorem dX3_wordEnd_5 : decode cX3_wordEnd 5 = .ok (.aload_n 0, 1) := by decide +kernel
theorem dX3_wordEnd_6 : decode cX3_wordEnd 6 = .ok (.getfield 15, 3) := by decide +kernel
theorem dX3_wordEnd_9 : decode cX3_wordEnd 9 = .ok (.if_icmp .ge 24, 3) := by decide +kernel
theorem dX3_wordEnd_12 : decode cX3_wordEnd 12 = .ok (.aload_n 0, 1) := by decide +kernel
theorem dX3_wordEnd_13 : decode cX3_wordEnd 13 = .ok (.iload_n 3, 1) := by decide +kernel
theorem dX3_wordEnd_14 : decode cX3_wordEnd 14 = .ok (.invokevirtual 76, 3) := by decide +kernel
theorem dX3_wordEnd_17 : decode cX3_wordEnd 17 = .ok (.invokestatic 80, 3) := by decide +kernel
theorem dX3_wordEnd_20 : decode cX3_wordEnd 20 = .ok (.ifCond .eq 13, 3) := by decide +kernel
theorem dX3_wordEnd_23 : decode cX3_wordEnd 23 = .ok (.iload_n 3, 1) := by decide +kernel
theorem dX3_wordEnd_24 : decode cX3_wordEnd 24 = .ok (.iconst 1, 1) := by decide +kernel
theorem dX3_wordEnd_25 : decode cX3_wordEnd 25 = .ok (.iadd, 1) := by decide +kernel
theorem dX3_wordEnd_26 : decode cX3_wordEnd 26 = .ok (.istore_n 2, 1) := by decide +kernel
theorem dX3_wordEnd_27 : decode cX3_wordEnd 27 = .ok (.iinc 3 1, 3) := by decide +kernel
theorem dX3_wordEnd_30 : decode cX3_wordEnd 30 = .ok (.goto (-26), 3) := by decide +kernel
theorem dX3_wordEnd_33 : decode cX3_wordEnd 33 = .ok (.iload_n 2, 1) := by decide +kernel
theorem dX3_wordEnd_34 : decode cX3_wordEnd 34 = .ok (.ireturn, 1) := by decide +kernel
theorem dX3_numberEnd_0 : decode cX3_numberEnd 0 = .ok (.iload_n 1, 1) := by decide +kernel
theorem dX3_numberEnd_1 : decode cX3_numberEnd 1 = .ok (.istore_n 2, 1) := by decide +kernel
theorem dX3_numberEnd_2 : decode cX3_numberEnd 2 = .ok (.iload_n 1, 1) := by decide +kernel
theorem dX3_numberEnd_3 : decode cX3_numberEnd 3 = .ok (.istore_n 3, 1) := by decide +kernel
theorem dX3_numberEnd_4 : decode cX3_numberEnd 4 = .ok (.iload_n 3, 1) := by decide +kernel
theorem dX3_numberEnd_5 : decode cX3_numberEnd 5 = .ok (.aload_n 0, 1) := by decide +kernel
theorem dX3_numberEnd_6 : decode cX3_numberEnd 6 = .ok (.getfield 15, 3) := by decide +kernel
theorem dX3_numberEnd_9 : decode cX3_numberEnd 9 = .ok (.if_icmp .ge 24, 3) := by decide +kernel
theorem dX3_numberEnd_12 : decode cX3_numberEnd 12 = .ok (.aload_n 0, 1) := by decide +kernel
theorem dX3_numberEnd_13 : decode cX3_numberEnd 13 = .ok (.iload_n 3, 1) := by decide +kernel
theorem dX3_numberEnd_14 : decode cX3_numberEnd 14 = .ok (.invokevirtual 76, 3) := by decide +kernel
theorem dX3_numberEnd_17 : decode cX3_numberEnd 17 = .ok (.invokestatic 93, 3) := by decide +kernel
theorem dX3_numberEnd_20 : decode cX3_numberEnd 20 = .ok (.ifCond .eq 13, 3) := by decide +kernel
theorem dX3_numberEnd_23 : decode cX3_numberEnd 23 = .ok (.iload_n 3, 1) := by decide +kernel
theorem dX3_numberEnd_24 : decode cX3_numberEnd 24 = .ok (.iconst 1, 1) := by decide +kernel
theorem dX3_numberEnd_25 : decode cX3_numberEnd 25 = .ok (.iadd, 1) := by decide +kernel
theorem dX3_numberEnd_26 : decode cX3_numberEnd 26 = .ok (.istore_n 2, 1) := by decide +kernel
theorem dX3_numberEnd_27 : decode cX3_numberEnd 27 = .ok (.iinc 3 1, 3) := by decide +kernel
theorem dX3_numberEnd_30 : decode cX3_numberEnd 30 = .ok (.goto (-26), 3) := by decide +kernel
theorem dX3_numberEnd_33 : decode cX3_numberEnd 33 = .ok (.iload_n 2, 1) := by decide +kernel
theorem dX3_numberEnd_34 : decode cX3_numberEnd 34 = .ok (.ireturn, 1) := by decide +kernel
theorem dX3_numberValue_0 : decode cX3_numberValue 0 = .ok (.iconst 0, 1) := by decide +kernel
theorem dX3_numberValue_1 : decode cX3_numberValue 1 = .ok (.istore_n 3, 1) := by decide +kernel
theorem dX3_numberValue_2 : decode cX3_numberValue 2 = .ok (.iload_n 1, 1) := by decide +kernel
theorem dX3_numberValue_3 : decode cX3_numberValue 3 = .ok (.istore 4, 2) := by decide +kernel
theorem dX3_numberValue_5 : decode cX3_numberValue 5 = .ok (.iload 4, 2) := by decide +kernel
theorem dX3_numberValue_7 : decode cX3_numberValue 7 = .ok (.iload_n 2, 1) := by decide +kernel
theorem dX3_numberValue_8 : decode cX3_numberValue 8 = .ok (.if_icmp .ge 24, 3) := by decide +kernel
theorem dX3_numberValue_11 : decode cX3_numberValue 11 = .ok (.iload_n 3, 1) := by decide +kernel
theorem dX3_numberValue_12 : decode cX3_numberValue 12 = .ok (.bipush 10, 2) := by decide +kernel
theorem dX3_numberValue_14 : decode cX3_numberValue 14 = .ok (.imul, 1) := by decide +kernel
theorem dX3_numberValue_15 : decode cX3_numberValue 15 = .ok (.aload_n 0, 1) := by decide +kernel
theorem dX3_numberValue_16 : decode cX3_numberValue 16 = .ok (.iload 4, 2) := by decide +kernel
theorem dX3_numberValue_18 : decode cX3_numberValue 18 = .ok (.invokevirtual 76, 3) := by decide +kernel
theorem dX3_numberValue_21 : decode cX3_numberValue 21 = .ok (.iadd, 1) := by decide +kernel
theorem dX3_numberValue_22 : decode cX3_numberValue 22 = .ok (.bipush 48, 2) := by decide +kernel
theorem dX3_numberValue_24 : decode cX3_numberValue 24 = .ok (.isub, 1) := by decide +kernel
theorem dX3_numberValue_25 : decode cX3_numberValue 25 = .ok (.istore_n 3, 1) := by decide +kernel
theorem dX3_numberValue_26 : decode cX3_numberValue 26 = .ok (.iinc 4 1, 3) := by decide +kernel
theorem dX3_numberValue_29 : decode cX3_numberValue 29 = .ok (.goto (-24), 3) := by decide +kernel
theorem dX3_numberValue_32 : decode cX3_numberValue 32 = .ok (.iload_n 3, 1) := by decide +kernel
theorem dX3_numberValue_33 : decode cX3_numberValue 33 = .ok (.ireturn, 1) := by decide +kernel
theorem dX3_wordToken_0 : decode cX3_wordToken 0 = .ok (.aload_n 0, 1) := by decide +kernel
theorem dX3_wordToken_1 : decode cX3_wordToken 1 = .ok (.iload_n 1, 1) := by decide +kernel
theorem dX3_wordToken_2 : decode cX3_wordToken 2 = .ok (.iload_n 2, 1) := by decide +kernel
theorem dX3_wordToken_3 : decode cX3_wordToken 3 = .ok (.ldc 105, 2) := by decide +kernel
theorem dX3_wordToken_5 : decode cX3_wordToken 5 = .ok (.invokevirtual 107, 3) := by decide +kernel
theorem dX3_wordToken_8 : decode cX3_wordToken 8 = .ok (.ifCond .eq 8, 3) := by decide +kernel
theorem dX3_wordToken_11 : decode cX3_wordToken 11 = .ok (.bipush 16, 2) := by decide +kernel
theorem dX3_wordToken_13 : decode cX3_wordToken 13 = .ok (.goto 178, 3) := by decide +kernel
theorem dX3_wordToken_16 : decode cX3_wordToken 16 = .ok (.aload_n 0, 1) := by decide +kernel
theorem dX3_wordToken_17 : decode cX3_wordToken 17 = .ok (.iload_n 1, 1) := by decide +kernel
theorem dX3_wordToken_18 : decode cX3_wordToken 18 = .ok (.iload_n 2, 1) := by decide +kernel
theorem dX3_wordToken_19 : decode cX3_wordToken 19 = .ok (.ldc 111, 2) := by decide +kernel
theorem dX3_wordToken_21 : decode cX3_wordToken 21 = .ok (.invokevirtual 107, 3) := by decide +kernel
theorem dX3_wordToken_24 : decode cX3_wordToken 24 = .ok (.ifCond .eq 8, 3) := by decide +kernel
theorem dX3_wordToken_27 : decode cX3_wordToken 27 = .ok (.bipush 17, 2) := by decide +kernel
theorem dX3_wordToken_29 : decode cX3_wordToken 29 = .ok (.goto 162, 3) := by decide +kernel
theorem dX3_wordToken_32 : decode cX3_wordToken 32 = .ok (.aload_n 0, 1) := by decide +kernel
theorem dX3_wordToken_33 : decode cX3_wordToken 33 = .ok (.iload_n 1, 1) := by decide +kernel
theorem dX3_wordToken_34 : decode cX3_wordToken 34 = .ok (.iload_n 2, 1) := by decide +kernel
theorem dX3_wordToken_35 : decode cX3_wordToken 35 = .ok (.ldc 113, 2) := by decide +kernel
theorem dX3_wordToken_37 : decode cX3_wordToken 37 = .ok (.invokevirtual 107, 3) := by decide +kernel
theorem dX3_wordToken_40 : decode cX3_wordToken 40 = .ok (.ifCond .eq 8, 3) := by decide +kernel
theorem dX3_wordToken_43 : decode cX3_wordToken 43 = .ok (.bipush 18, 2) := by decide +kernel
theorem dX3_wordToken_45 : decode cX3_wordToken 45 = .ok (.goto 146, 3) := by decide +kernel
theorem dX3_wordToken_48 : decode cX3_wordToken 48 = .ok (.aload_n 0, 1) := by decide +kernel
theorem dX3_wordToken_49 : decode cX3_wordToken 49 = .ok (.iload_n 1, 1) := by decide +kernel
theorem dX3_wordToken_50 : decode cX3_wordToken 50 = .ok (.iload_n 2, 1) := by decide +kernel
theorem dX3_wordToken_51 : decode cX3_wordToken 51 = .ok (.ldc 115, 2) := by decide +kernel
theorem dX3_wordToken_53 : decode cX3_wordToken 53 = .ok (.invokevirtual 107, 3) := by decide +kernel
theorem dX3_wordToken_56 : decode cX3_wordToken 56 = .ok (.ifCond .eq 8, 3) := by decide +kernel
theorem dX3_wordToken_59 : decode cX3_wordToken 59 = .ok (.bipush 19, 2) := by decide +kernel
theorem dX3_wordToken_61 : decode cX3_wordToken 61 = .ok (.goto 130, 3) := by decide +kernel
theorem dX3_wordToken_64 : decode cX3_wordToken 64 = .ok (.aload_n 0, 1) := by decide +kernel
theorem dX3_wordToken_65 : decode cX3_wordToken 65 = .ok (.iload_n 1, 1) := by decide +kernel
theorem dX3_wordToken_66 : decode cX3_wordToken 66 = .ok (.iload_n 2, 1) := by decide +kernel
theorem dX3_wordToken_67 : decode cX3_wordToken 67 = .ok (.ldc 117, 2) := by decide +kernel
theorem dX3_wordToken_69 : decode cX3_wordToken 69 = .ok (.invokevirtual 107, 3) := by decide +kernel
theorem dX3_wordToken_72 : decode cX3_wordToken 72 = .ok (.ifCond .eq 8, 3) := by decide +kernel
theorem dX3_wordToken_75 : decode cX3_wordToken 75 = .ok (.bipush 20, 2) := by decide +kernel
theorem dX3_wordToken_77 : decode cX3_wordToken 77 = .ok (.goto 114, 3) := by decide +kernel
theorem dX3_wordToken_80 : decode cX3_wordToken 80 = .ok (.aload_n 0, 1) := by decide +kernel
theorem dX3_wordToken_81 : decode cX3_wordToken 81 = .ok (.iload_n 1, 1) := by decide +kernel
theorem dX3_wordToken_82 : decode cX3_wordToken 82 = .ok (.iload_n 2, 1) := by decide +kernel
theorem dX3_wordToken_83 : decode cX3_wordToken 83 = .ok (.ldc 119, 2) := by decide +kernel
theorem dX3_wordToken_85 : decode cX3_wordToken 85 = .ok (.invokevirtual 107, 3) := by decide +kernel
theorem dX3_wordToken_88 : decode cX3_wordToken 88 = .ok (.ifCond .eq 8, 3) := by decide +kernel
theorem dX3_wordToken_91 : decode cX3_wordToken 91 = .ok (.bipush 21, 2) := by decide +kernel
theorem dX3_wordToken_93 : decode cX3_wordToken 93 = .ok (.goto 98, 3) := by decide +kernel
theorem dX3_wordToken_96 : decode cX3_wordToken 96 = .ok (.aload_n 0, 1) := by decide +kernel
theorem dX3_wordToken_97 : decode cX3_wordToken 97 = .ok (.iload_n 1, 1) := by decide +kernel
theorem dX3_wordToken_98 : decode cX3_wordToken 98 = .ok (.iload_n 2, 1) := by decide +kernel
theorem dX3_wordToken_99 : decode cX3_wordToken 99 = .ok (.ldc 121, 2) := by decide +kernel
theorem dX3_wordToken_101 : decode cX3_wordToken 101 = .ok (.invokevirtual 107, 3) := by decide +kernel
theorem dX3_wordToken_104 : decode cX3_wordToken 104 = .ok (.ifCond .eq 7, 3) := by decide +kernel
theorem dX3_wordToken_107 : decode cX3_wordToken 107 = .ok (.iconst 4, 1) := by decide +kernel
theorem dX3_wordToken_108 : decode cX3_wordToken 108 = .ok (.goto 83, 3) := by decide +kernel
theorem dX3_wordToken_111 : decode cX3_wordToken 111 = .ok (.aload_n 0, 1) := by decide +kernel
theorem dX3_wordToken_112 : decode cX3_wordToken 112 = .ok (.iload_n 1, 1) := by decide +kernel
theorem dX3_wordToken_113 : decode cX3_wordToken 113 = .ok (.iload_n 2, 1) := by decide +kernel
theorem dX3_wordToken_114 : decode cX3_wordToken 114 = .ok (.ldc 123, 2) := by decide +kernel
theorem dX3_wordToken_116 : decode cX3_wordToken 116 = .ok (.invokevirtual 107, 3) := by decide +kernel
theorem dX3_wordToken_119 : decode cX3_wordToken 119 = .ok (.ifCond .eq 7, 3) := by decide +kernel
theorem dX3_wordToken_122 : decode cX3_wordToken 122 = .ok (.iconst 5, 1) := by decide +kernel
theorem dX3_wordToken_123 : decode cX3_wordToken 123 = .ok (.goto 68, 3) := by decide +kernel
theorem dX3_wordToken_126 : decode cX3_wordToken 126 = .ok (.aload_n 0, 1) := by decide +kernel
theorem dX3_wordToken_127 : decode cX3_wordToken 127 = .ok (.iload_n 1, 1) := by decide +kernel
theorem dX3_wordToken_128 : decode cX3_wordToken 128 = .ok (.iload_n 2, 1) := by decide +kernel
theorem dX3_wordToken_129 : decode cX3_wordToken 129 = .ok (.ldc 125, 2) := by decide +kernel
theorem dX3_wordToken_131 : decode cX3_wordToken 131 = .ok (.invokevirtual 107, 3) := by decide +kernel
theorem dX3_wordToken_134 : decode cX3_wordToken 134 = .ok (.ifCond .eq 8, 3) := by decide +kernel
theorem dX3_wordToken_137 : decode cX3_wordToken 137 = .ok (.bipush 6, 2) := by decide +kernel
theorem dX3_wordToken_139 : decode cX3_wordToken 139 = .ok (.goto 52, 3) := by decide +kernel
theorem dX3_wordToken_142 : decode cX3_wordToken 142 = .ok (.aload_n 0, 1) := by decide +kernel
theorem dX3_wordToken_143 : decode cX3_wordToken 143 = .ok (.iload_n 1, 1) := by decide +kernel
theorem dX3_wordToken_144 : decode cX3_wordToken 144 = .ok (.iload_n 2, 1) := by decide +kernel
theorem dX3_wordToken_145 : decode cX3_wordToken 145 = .ok (.ldc 127, 2) := by decide +kernel
theorem dX3_wordToken_147 : decode cX3_wordToken 147 = .ok (.invokevirtual 107, 3) := by decide +kernel
theorem dX3_wordToken_150 : decode cX3_wordToken 150 = .ok (.ifCond .eq 8, 3) := by decide +kernel
theorem dX3_wordToken_153 : decode cX3_wordToken 153 = .ok (.bipush 7, 2) := by decide +kernel
theorem dX3_wordToken_155 : decode cX3_wordToken 155 = .ok (.goto 36, 3) := by decide +kernel
theorem dX3_wordToken_158 : decode cX3_wordToken 158 = .ok (.aload_n 0, 1) := by decide +kernel
theorem dX3_wordToken_159 : decode cX3_wordToken 159 = .ok (.iload_n 1, 1) := by decide +kernel
theorem dX3_wordToken_160 : decode cX3_wordToken 160 = .ok (.iload_n 2, 1) := by decide +kernel
theorem dX3_wordToken_161 : decode cX3_wordToken 161 = .ok (.ldc 129, 2) := by decide +kernel
theorem dX3_wordToken_163 : decode cX3_wordToken 163 = .ok (.invokevirtual 107, 3) := by decide +kernel
theorem dX3_wordToken_166 : decode cX3_wordToken 166 = .ok (.ifCond .eq 8, 3) := by decide +kernel
theorem dX3_wordToken_169 : decode cX3_wordToken 169 = .ok (.bipush 8, 2) := by decide +kernel
theorem dX3_wordToken_171 : decode cX3_wordToken 171 = .ok (.goto 20, 3) := by decide +kernel
theorem dX3_wordToken_174 : decode cX3_wordToken 174 = .ok (.aload_n 0, 1) := by decide +kernel
theorem dX3_wordToken_175 : decode cX3_wordToken 175 = .ok (.iload_n 1, 1) := by decide +kernel
theorem dX3_wordToken_176 : decode cX3_wordToken 176 = .ok (.iload_n 2, 1) := by decide +kernel
theorem dX3_wordToken_177 : decode cX3_wordToken 177 = .ok (.ldc 131, 2) := by decide +kernel
theorem dX3_wordToken_179 : decode cX3_wordToken 179 = .ok (.invokevirtual 107, 3) := by decide +kernel
theorem dX3_wordToken_182 : decode cX3_wordToken 182 = .ok (.ifCond .eq 8, 3) := by decide +kernel
theorem dX3_wordToken_185 : decode cX3_wordToken 185 = .ok (.bipush 9, 2) := by decide +kernel
theorem dX3_wordToken_187 : decode cX3_wordToken 187 = .ok (.goto 4, 3) := by decide +kernel
theorem dX3_wordToken_190 : decode cX3_wordToken 190 = .ok (.iconst 1, 1) := by decide +kernel
theorem dX3_wordToken_191 : decode cX3_wordToken 191 = .ok (.ireturn, 1) := by decide +kernel
theorem dX3_spells_0 : decode cX3_spells 0 = .ok (.iload_n 2, 1) := by decide +kernel
theorem dX3_spells_1 : decode cX3_spells 1 = .ok (.iload_n 1, 1) := by decide +kernel
theorem dX3_spells_2 : decode cX3_spells 2 = .ok (.isub, 1) := by decide +kernel
theorem dX3_spells_3 : decode cX3_spells 3 = .ok (.aload_n 3, 1) := by decide +kernel
theorem dX3_spells_4 : decode cX3_spells 4 = .ok (.invokevirtual 133, 3) := by decide +kernel
theorem dX3_spells_7 : decode cX3_spells 7 = .ok (.if_icmp .eq 5, 3) := by decide +kernel
theorem dX3_spells_10 : decode cX3_spells 10 = .ok (.iconst 0, 1) := by decide +kernel
theorem dX3_spells_11 : decode cX3_spells 11 = .ok (.ireturn, 1) := by decide +kernel
theorem dX3_spells_12 : decode cX3_spells 12 = .ok (.iconst 0, 1) := by decide +kernel
theorem dX3_spells_13 : decode cX3_spells 13 = .ok (.istore 4, 2) := by decide +kernel
theorem dX3_spells_15 : decode cX3_spells 15 = .ok (.iload 4, 2) := by decide +kernel
theorem dX3_spells_17 : decode cX3_spells 17 = .ok (.aload_n 3, 1) := by decide +kernel
theorem dX3_spells_18 : decode cX3_spells 18 = .ok (.invokevirtual 133, 3) := by decide +kernel
theorem dX3_spells_21 : decode cX3_spells 21 = .ok (.if_icmp .ge 28, 3) := by decide +kernel
theorem dX3_spells_24 : decode cX3_spells 24 = .ok (.aload_n 0, 1) := by decide +kernel
theorem dX3_spells_25 : decode cX3_spells 25 = .ok (.iload_n 1, 1) := by decide +kernel
theorem dX3_spells_26 : decode cX3_spells 26 = .ok (.iload 4, 2) := by decide +kernel
theorem dX3_spells_28 : decode cX3_spells 28 = .ok (.iadd, 1) := by decide +kernel
theorem dX3_spells_29 : decode cX3_spells 29 = .ok (.invokevirtual 76, 3) := by decide +kernel
theorem dX3_spells_32 : decode cX3_spells 32 = .ok (.aload_n 3, 1) := by decide +kernel
theorem dX3_spells_33 : decode cX3_spells 33 = .ok (.iload 4, 2) := by decide +kernel
theorem dX3_spells_35 : decode cX3_spells 35 = .ok (.invokevirtual 138, 3) := by decide +kernel
theorem dX3_spells_38 : decode cX3_spells 38 = .ok (.if_icmp .eq 5, 3) := by decide +kernel
theorem dX3_spells_41 : decode cX3_spells 41 = .ok (.iconst 0, 1) := by decide +kernel
theorem dX3_spells_42 : decode cX3_spells 42 = .ok (.ireturn, 1) := by decide +kernel
theorem dX3_spells_43 : decode cX3_spells 43 = .ok (.iinc 4 1, 3) := by decide +kernel
theorem dX3_spells_46 : decode cX3_spells 46 = .ok (.goto (-31), 3) := by decide +kernel
theorem dX3_spells_49 : decode cX3_spells 49 = .ok (.iconst 1, 1) := by decide +kernel
theorem dX3_spells_50 : decode cX3_spells 50 = .ok (.ireturn, 1) := by decide +kernel
theorem dX3_letterAt_0 : decode cX3_letterAt 0 = .ok (.iload_n 1, 1) := by decide +kernel
theorem dX3_letterAt_1 : decode cX3_letterAt 1 = .ok (.ifCond .lt 29, 3) := by decide +kernel
theorem dX3_letterAt_4 : decode cX3_letterAt 4 = .ok (.iload_n 1, 1) := by decide +kernel
theorem dX3_letterAt_5 : decode cX3_letterAt 5 = .ok (.aload_n 0, 1) := by decide +kernel
theorem dX3_letterAt_6 : decode cX3_letterAt 6 = .ok (.getfield 15, 3) := by decide +kernel
theorem dX3_letterAt_9 : decode cX3_letterAt 9 = .ok (.if_icmp .ge 21, 3) := by decide +kernel
theorem dX3_letterAt_12 : decode cX3_letterAt 12 = .ok (.iload_n 1, 1) := by decide +kernel
theorem dX3_letterAt_13 : decode cX3_letterAt 13 = .ok (.aload_n 0, 1) := by decide +kernel
theorem dX3_letterAt_14 : decode cX3_letterAt 14 = .ok (.getfield 9, 3) := by decide +kernel
theorem dX3_letterAt_17 : decode cX3_letterAt 17 = .ok (.arraylength, 1) := by decide +kernel
theorem dX3_letterAt_18 : decode cX3_letterAt 18 = .ok (.if_icmp .ge 12, 3) := by decide +kernel
theorem dX3_letterAt_21 : decode cX3_letterAt 21 = .ok (.aload_n 0, 1) := by decide +kernel
theorem dX3_letterAt_22 : decode cX3_letterAt 22 = .ok (.getfield 9, 3) := by decide +kernel
theorem dX3_letterAt_25 : decode cX3_letterAt 25 = .ok (.iload_n 1, 1) := by decide +kernel
theorem dX3_letterAt_26 : decode cX3_letterAt 26 = .ok (.iaload, 1) := by decide +kernel
theorem dX3_letterAt_27 : decode cX3_letterAt 27 = .ok (.goto 4, 3) := by decide +kernel
theorem dX3_letterAt_30 : decode cX3_letterAt 30 = .ok (.iconst (-1), 1) := by decide +kernel
theorem dX3_letterAt_31 : decode cX3_letterAt 31 = .ok (.ireturn, 1) := by decide +kernel
theorem dX3_isLetter_0 : decode cX3_isLetter 0 = .ok (.iload_n 0, 1) := by decide +kernel
theorem dX3_isLetter_1 : decode cX3_isLetter 1 = .ok (.bipush 97, 2) := by decide +kernel
theorem dX3_isLetter_3 : decode cX3_isLetter 3 = .ok (.if_icmp .lt 13, 3) := by decide +kernel
theorem dX3_isLetter_6 : decode cX3_isLetter 6 = .ok (.iload_n 0, 1) := by decide +kernel
theorem dX3_isLetter_7 : decode cX3_isLetter 7 = .ok (.bipush 122, 2) := by decide +kernel
theorem dX3_isLetter_9 : decode cX3_isLetter 9 = .ok (.if_icmp .gt 7, 3) := by decide +kernel
theorem dX3_isLetter_12 : decode cX3_isLetter 12 = .ok (.iconst 1, 1) := by decide +kernel
theorem dX3_isLetter_13 : decode cX3_isLetter 13 = .ok (.goto 4, 3) := by decide +kernel
theorem dX3_isLetter_16 : decode cX3_isLetter 16 = .ok (.iconst 0, 1) := by decide +kernel
theorem dX3_isLetter_17 : decode cX3_isLetter 17 = .ok (.ireturn, 1) := by decide +kernel
theorem dX3_isDigit_0 : decode cX3_isDigit 0 = .ok (.iload_n 0, 1) := by decide +kernel
theorem dX3_isDigit_1 : decode cX3_isDigit 1 = .ok (.bipush 48, 2) := by decide +kernel
theorem dX3_isDigit_3 : decode cX3_isDigit 3 = .ok (.if_icmp .lt 13, 3) := by decide +kernel
theorem dX3_isDigit_6 : decode cX3_isDigit 6 = .ok (.iload_n 0, 1) := by decide +kernel
theorem dX3_isDigit_7 : decode cX3_isDigit 7 = .ok (.bipush 57, 2) := by decide +kernel
theorem dX3_isDigit_9 : decode cX3_isDigit 9 = .ok (.if_icmp .gt 7, 3) := by decide +kernel
theorem dX3_isDigit_12 : decode cX3_isDigit 12 = .ok (.iconst 1, 1) := by decide +kernel
theorem dX3_isDigit_13 : decode cX3_isDigit 13 = .ok (.goto 4, 3) := by decide +kernel
theorem dX3_isDigit_16 : decode cX3_isDigit 16 = .ok (.iconst 0, 1) := by decide +kernel
theorem dX3_isDigit_17 : decode cX3_isDigit 17 = .ok (.ireturn, 1) := by decide +kernel
theorem dX3_isSign_0 : decode cX3_isSign 0 = .ok (.iload_n 0, 1) := by decide +kernel
theorem dX3_isSign_1 : decode cX3_isSign 1 = .ok (.bipush 40, 2) := by decide +kernel
theorem dX3_isSign_3 : decode cX3_isSign 3 = .ok (.if_icmp .eq 45, 3) := by decide +kernel
theorem dX3_isSign_6 : decode cX3_isSign 6 = .ok (.iload_n 0, 1) := by decide +kernel
theorem dX3_isSign_7 : decode cX3_isSign 7 = .ok (.bipush 41, 2) := by decide +kernel
theorem dX3_isSign_9 : decode cX3_isSign 9 = .ok (.if_icmp .eq 39, 3) := by decide +kernel
theorem dX3_isSign_12 : decode cX3_isSign 12 = .ok (.iload_n 0, 1) := by decide +kernel
theorem dX3_isSign_13 : decode cX3_isSign 13 = .ok (.bipush 59, 2) := by decide +kernel
theorem dX3_isSign_15 : decode cX3_isSign 15 = .ok (.if_icmp .eq 33, 3) := by decide +kernel
theorem dX3_isSign_18 : decode cX3_isSign 18 = .ok (.iload_n 0, 1) := by decide +kernel
theorem dX3_isSign_19 : decode cX3_isSign 19 = .ok (.bipush 43, 2) := by decide +kernel
theorem dX3_isSign_21 : decode cX3_isSign 21 = .ok (.if_icmp .eq 27, 3) := by decide +kernel
theorem dX3_isSign_24 : decode cX3_isSign 24 = .ok (.iload_n 0, 1) := by decide +kernel
theorem dX3_isSign_25 : decode cX3_isSign 25 = .ok (.bipush 45, 2) := by decide +kernel
theorem dX3_isSign_27 : decode cX3_isSign 27 = .ok (.if_icmp .eq 21, 3) := by decide +kernel
theorem dX3_isSign_30 : decode cX3_isSign 30 = .ok (.iload_n 0, 1) := by decide +kernel
theorem dX3_isSign_31 : decode cX3_isSign 31 = .ok (.bipush 42, 2) := by decide +kernel
theorem dX3_isSign_33 : decode cX3_isSign 33 = .ok (.if_icmp .eq 15, 3) := by decide +kernel
theorem dX3_isSign_36 : decode cX3_isSign 36 = .ok (.iload_n 0, 1) := by decide +kernel
theorem dX3_isSign_37 : decode cX3_isSign 37 = .ok (.bipush 60, 2) := by decide +kernel
theorem dX3_isSign_39 : decode cX3_isSign 39 = .ok (.if_icmp .eq 9, 3) := by decide +kernel
theorem dX3_isSign_42 : decode cX3_isSign 42 = .ok (.iload_n 0, 1) := by decide +kernel
theorem dX3_isSign_43 : decode cX3_isSign 43 = .ok (.bipush 61, 2) := by decide +kernel
theorem dX3_isSign_45 : decode cX3_isSign 45 = .ok (.if_icmp .ne 7, 3) := by decide +kernel
theorem dX3_isSign_48 : decode cX3_isSign 48 = .ok (.iconst 1, 1) := by decide +kernel
theorem dX3_isSign_49 : decode cX3_isSign 49 = .ok (.goto 4, 3) := by decide +kernel
theorem dX3_isSign_52 : decode cX3_isSign 52 = .ok (.iconst 0, 1) := by decide +kernel
theorem dX3_isSign_53 : decode cX3_isSign 53 = .ok (.ireturn, 1) := by decide +kernel
theorem dX3_token_0 : decode cX3_token 0 = .ok (.aload_n 0, 1) := by decide +kernel
theorem dX3_token_1 : decode cX3_token 1 = .ok (.getfield 31, 3) := by decide +kernel
theorem dX3_token_4 : decode cX3_token 4 = .ok (.ifCond .lt 38, 3) := by decide +kernel
theorem dX3_token_7 : decode cX3_token 7 = .ok (.aload_n 0, 1) := by decide +kernel
theorem dX3_token_8 : decode cX3_token 8 = .ok (.getfield 31, 3) := by decide +kernel
theorem dX3_token_11 : decode cX3_token 11 = .ok (.aload_n 0, 1) := by decide +kernel
theorem dX3_token_12 : decode cX3_token 12 = .ok (.getfield 28, 3) := by decide +kernel
theorem dX3_token_15 : decode cX3_token 15 = .ok (.if_icmp .ge 27, 3) := by decide +kernel
theorem dX3_token_18 : decode cX3_token 18 = .ok (.aload_n 0, 1) := by decide +kernel
theorem dX3_token_19 : decode cX3_token 19 = .ok (.getfield 31, 3) := by decide +kernel
theorem dX3_token_22 : decode cX3_token 22 = .ok (.aload_n 0, 1) := by decide +kernel
theorem dX3_token_23 : decode cX3_token 23 = .ok (.getfield 19, 3) := by decide +kernel
theorem dX3_token_26 : decode cX3_token 26 = .ok (.arraylength, 1) := by decide +kernel
theorem dX3_token_27 : decode cX3_token 27 = .ok (.if_icmp .ge 15, 3) := by decide +kernel
theorem dX3_token_30 : decode cX3_token 30 = .ok (.aload_n 0, 1) := by decide +kernel
theorem dX3_token_31 : decode cX3_token 31 = .ok (.getfield 19, 3) := by decide +kernel
theorem dX3_token_34 : decode cX3_token 34 = .ok (.aload_n 0, 1) := by decide +kernel
theorem dX3_token_35 : decode cX3_token 35 = .ok (.getfield 31, 3) := by decide +kernel
theorem dX3_token_38 : decode cX3_token 38 = .ok (.iaload, 1) := by decide +kernel
theorem dX3_token_39 : decode cX3_token 39 = .ok (.goto 4, 3) := by decide +kernel
theorem dX3_token_42 : decode cX3_token 42 = .ok (.iconst 0, 1) := by decide +kernel
theorem dX3_token_43 : decode cX3_token 43 = .ok (.ireturn, 1) := by decide +kernel
theorem dX3_goOn_0 : decode cX3_goOn 0 = .ok (.aload_n 0, 1) := by decide +kernel
theorem dX3_goOn_1 : decode cX3_goOn 1 = .ok (.dup, 1) := by decide +kernel
theorem dX3_goOn_2 : decode cX3_goOn 2 = .ok (.getfield 31, 3) := by decide +kernel
theorem dX3_goOn_5 : decode cX3_goOn 5 = .ok (.iconst 1, 1) := by decide +kernel
theorem dX3_goOn_6 : decode cX3_goOn 6 = .ok (.iadd, 1) := by decide +kernel
theorem dX3_goOn_7 : decode cX3_goOn 7 = .ok (.putfield 31, 3) := by decide +kernel
theorem dX3_goOn_10 : decode cX3_goOn 10 = .ok (.return_, 1) := by decide +kernel
theorem dX3_pass_0 : decode cX3_pass 0 = .ok (.aload_n 0, 1) := by decide +kernel
theorem dX3_pass_1 : decode cX3_pass 1 = .ok (.invokevirtual 57, 3) := by decide +kernel
theorem dX3_pass_4 : decode cX3_pass 4 = .ok (.iload_n 1, 1) := by decide +kernel
theorem dX3_pass_5 : decode cX3_pass 5 = .ok (.if_icmp .eq 5, 3) := by decide +kernel
theorem dX3_pass_8 : decode cX3_pass 8 = .ok (.iconst 0, 1) := by decide +kernel
theorem dX3_pass_9 : decode cX3_pass 9 = .ok (.ireturn, 1) := by decide +kernel
theorem dX3_pass_10 : decode cX3_pass 10 = .ok (.aload_n 0, 1) := by decide +kernel
theorem dX3_pass_11 : decode cX3_pass 11 = .ok (.invokevirtual 142, 3) := by decide +kernel
theorem dX3_pass_14 : decode cX3_pass 14 = .ok (.iconst 1, 1) := by decide +kernel
theorem dX3_pass_15 : decode cX3_pass 15 = .ok (.ireturn, 1) := by decide +kernel
theorem dX3_emit_0 : decode cX3_emit 0 = .ok (.aload_n 0, 1) := by decide +kernel
theorem dX3_emit_1 : decode cX3_emit 1 = .ok (.getfield 37, 3) := by decide +kernel
theorem dX3_emit_4 : decode cX3_emit 4 = .ok (.aload_n 0, 1) := by decide +kernel
theorem dX3_emit_5 : decode cX3_emit 5 = .ok (.getfield 34, 3) := by decide +kernel
theorem dX3_emit_8 : decode cX3_emit 8 = .ok (.arraylength, 1) := by decide +kernel
theorem dX3_emit_9 : decode cX3_emit 9 = .ok (.invokestatic 46, 3) := by decide +kernel
theorem dX3_emit_12 : decode cX3_emit 12 = .ok (.ifCond .eq 23, 3) := by decide +kernel
theorem dX3_emit_15 : decode cX3_emit 15 = .ok (.aload_n 0, 1) := by decide +kernel
theorem dX3_emit_16 : decode cX3_emit 16 = .ok (.getfield 34, 3) := by decide +kernel
theorem dX3_emit_19 : decode cX3_emit 19 = .ok (.aload_n 0, 1) := by decide +kernel
theorem dX3_emit_20 : decode cX3_emit 20 = .ok (.getfield 37, 3) := by decide +kernel
theorem dX3_emit_23 : decode cX3_emit 23 = .ok (.iload_n 1, 1) := by decide +kernel
theorem dX3_emit_24 : decode cX3_emit 24 = .ok (.iastore, 1) := by decide +kernel
theorem dX3_emit_25 : decode cX3_emit 25 = .ok (.aload_n 0, 1) := by decide +kernel
theorem dX3_emit_26 : decode cX3_emit 26 = .ok (.dup, 1) := by decide +kernel
theorem dX3_emit_27 : decode cX3_emit 27 = .ok (.getfield 37, 3) := by decide +kernel
theorem dX3_emit_30 : decode cX3_emit 30 = .ok (.iconst 1, 1) := by decide +kernel
theorem dX3_emit_31 : decode cX3_emit 31 = .ok (.iadd, 1) := by decide +kernel
theorem dX3_emit_32 : decode cX3_emit 32 = .ok (.putfield 37, 3) := by decide +kernel
theorem dX3_emit_35 : decode cX3_emit 35 = .ok (.return_, 1) := by decide +kernel
theorem dX3_readPart_0 : decode cX3_readPart 0 = .ok (.aload_n 0, 1) := by decide +kernel
theorem dX3_readPart_1 : decode cX3_readPart 1 = .ok (.iload_n 1, 1) := by decide +kernel
theorem dX3_readPart_2 : decode cX3_readPart 2 = .ok (.invokevirtual 145, 3) := by decide +kernel
theorem dX3_readPart_5 : decode cX3_readPart 5 = .ok (.ifCond .eq 24, 3) := by decide +kernel
theorem dX3_readPart_8 : decode cX3_readPart 8 = .ok (.aload_n 0, 1) := by decide +kernel
theorem dX3_readPart_9 : decode cX3_readPart 9 = .ok (.iconst 0, 1) := by decide +kernel
theorem dX3_readPart_10 : decode cX3_readPart 10 = .ok (.invokevirtual 148, 3) := by decide +kernel
theorem dX3_readPart_13 : decode cX3_readPart 13 = .ok (.ifCond .eq 16, 3) := by decide +kernel
theorem dX3_readPart_16 : decode cX3_readPart 16 = .ok (.aload_n 0, 1) := by decide +kernel
theorem dX3_readPart_17 : decode cX3_readPart 17 = .ok (.bipush 59, 2) := by decide +kernel
theorem dX3_readPart_19 : decode cX3_readPart 19 = .ok (.invokevirtual 145, 3) := by decide +kernel
theorem dX3_readPart_22 : decode cX3_readPart 22 = .ok (.ifCond .eq 7, 3) := by decide +kernel
theorem dX3_readPart_25 : decode cX3_readPart 25 = .ok (.iconst 1, 1) := by decide +kernel
theorem dX3_readPart_26 : decode cX3_readPart 26 = .ok (.goto 4, 3) := by decide +kernel
theorem dX3_readPart_29 : decode cX3_readPart 29 = .ok (.iconst 0, 1) := by decide +kernel
theorem dX3_readPart_30 : decode cX3_readPart 30 = .ok (.ireturn, 1) := by decide +kernel
theorem dX3_readOr_0 : decode cX3_readOr 0 = .ok (.aload_n 0, 1) := by decide +kernel
theorem dX3_readOr_1 : decode cX3_readOr 1 = .ok (.iload_n 1, 1) := by decide +kernel
theorem dX3_readOr_2 : decode cX3_readOr 2 = .ok (.invokevirtual 151, 3) := by decide +kernel
theorem dX3_readOr_5 : decode cX3_readOr 5 = .ok (.ifCond .ne 5, 3) := by decide +kernel
theorem dX3_readOr_8 : decode cX3_readOr 8 = .ok (.iconst 0, 1) := by decide +kernel
theorem dX3_readOr_9 : decode cX3_readOr 9 = .ok (.ireturn, 1) := by decide +kernel
theorem dX3_readOr_10 : decode cX3_readOr 10 = .ok (.iconst 0, 1) := by decide +kernel
theorem dX3_readOr_11 : decode cX3_readOr 11 = .ok (.istore_n 2, 1) := by decide +kernel
theorem dX3_readOr_12 : decode cX3_readOr 12 = .ok (.iload_n 2, 1) := by decide +kernel
theorem dX3_readOr_13 : decode cX3_readOr 13 = .ok (.sipush 160, 3) := by decide +kernel
theorem dX3_readOr_16 : decode cX3_readOr 16 = .ok (.if_icmp .ge 37, 3) := by decide +kernel
theorem dX3_readOr_19 : decode cX3_readOr 19 = .ok (.aload_n 0, 1) := by decide +kernel
theorem dX3_readOr_20 : decode cX3_readOr 20 = .ok (.invokevirtual 57, 3) := by decide +kernel
theorem dX3_readOr_23 : decode cX3_readOr 23 = .ok (.bipush 7, 2) := by decide +kernel
theorem dX3_readOr_25 : decode cX3_readOr 25 = .ok (.if_icmp .ne 28, 3) := by decide +kernel
theorem dX3_readOr_28 : decode cX3_readOr 28 = .ok (.aload_n 0, 1) := by decide +kernel
theorem dX3_readOr_29 : decode cX3_readOr 29 = .ok (.invokevirtual 142, 3) := by decide +kernel
theorem dX3_readOr_32 : decode cX3_readOr 32 = .ok (.aload_n 0, 1) := by decide +kernel
theorem dX3_readOr_33 : decode cX3_readOr 33 = .ok (.iload_n 1, 1) := by decide +kernel
theorem dX3_readOr_34 : decode cX3_readOr 34 = .ok (.invokevirtual 151, 3) := by decide +kernel
theorem dX3_readOr_37 : decode cX3_readOr 37 = .ok (.ifCond .ne 5, 3) := by decide +kernel
theorem dX3_readOr_40 : decode cX3_readOr 40 = .ok (.iconst 0, 1) := by decide +kernel
theorem dX3_readOr_41 : decode cX3_readOr 41 = .ok (.ireturn, 1) := by decide +kernel
theorem dX3_readOr_42 : decode cX3_readOr 42 = .ok (.aload_n 0, 1) := by decide +kernel
theorem dX3_readOr_43 : decode cX3_readOr 43 = .ok (.iconst 4, 1) := by decide +kernel
theorem dX3_readOr_44 : decode cX3_readOr 44 = .ok (.invokevirtual 154, 3) := by decide +kernel
theorem dX3_readOr_47 : decode cX3_readOr 47 = .ok (.iinc 2 1, 3) := by decide +kernel
theorem dX3_readOr_50 : decode cX3_readOr 50 = .ok (.goto (-38), 3) := by decide +kernel
theorem dX3_readOr_53 : decode cX3_readOr 53 = .ok (.iconst 1, 1) := by decide +kernel
theorem dX3_readOr_54 : decode cX3_readOr 54 = .ok (.ireturn, 1) := by decide +kernel
theorem dX3_readAnd_0 : decode cX3_readAnd 0 = .ok (.aload_n 0, 1) := by decide +kernel
theorem dX3_readAnd_1 : decode cX3_readAnd 1 = .ok (.iload_n 1, 1) := by decide +kernel
theorem dX3_readAnd_2 : decode cX3_readAnd 2 = .ok (.invokevirtual 158, 3) := by decide +kernel
theorem dX3_readAnd_5 : decode cX3_readAnd 5 = .ok (.ifCond .ne 5, 3) := by decide +kernel
theorem dX3_readAnd_8 : decode cX3_readAnd 8 = .ok (.iconst 0, 1) := by decide +kernel
theorem dX3_readAnd_9 : decode cX3_readAnd 9 = .ok (.ireturn, 1) := by decide +kernel
theorem dX3_readAnd_10 : decode cX3_readAnd 10 = .ok (.iconst 0, 1) := by decide +kernel
theorem dX3_readAnd_11 : decode cX3_readAnd 11 = .ok (.istore_n 2, 1) := by decide +kernel
theorem dX3_readAnd_12 : decode cX3_readAnd 12 = .ok (.iload_n 2, 1) := by decide +kernel
theorem dX3_readAnd_13 : decode cX3_readAnd 13 = .ok (.sipush 160, 3) := by decide +kernel
theorem dX3_readAnd_16 : decode cX3_readAnd 16 = .ok (.if_icmp .ge 37, 3) := by decide +kernel
theorem dX3_readAnd_19 : decode cX3_readAnd 19 = .ok (.aload_n 0, 1) := by decide +kernel
theorem dX3_readAnd_20 : decode cX3_readAnd 20 = .ok (.invokevirtual 57, 3) := by decide +kernel
theorem dX3_readAnd_23 : decode cX3_readAnd 23 = .ok (.bipush 8, 2) := by decide +kernel
theorem dX3_readAnd_25 : decode cX3_readAnd 25 = .ok (.if_icmp .ne 28, 3) := by decide +kernel
theorem dX3_readAnd_28 : decode cX3_readAnd 28 = .ok (.aload_n 0, 1) := by decide +kernel
theorem dX3_readAnd_29 : decode cX3_readAnd 29 = .ok (.invokevirtual 142, 3) := by decide +kernel
theorem dX3_readAnd_32 : decode cX3_readAnd 32 = .ok (.aload_n 0, 1) := by decide +kernel
theorem dX3_readAnd_33 : decode cX3_readAnd 33 = .ok (.iload_n 1, 1) := by decide +kernel
theorem dX3_readAnd_34 : decode cX3_readAnd 34 = .ok (.invokevirtual 158, 3) := by decide +kernel
theorem dX3_readAnd_37 : decode cX3_readAnd 37 = .ok (.ifCond .ne 5, 3) := by decide +kernel
theorem dX3_readAnd_40 : decode cX3_readAnd 40 = .ok (.iconst 0, 1) := by decide +kernel
theorem dX3_readAnd_41 : decode cX3_readAnd 41 = .ok (.ireturn, 1) := by decide +kernel
theorem dX3_readAnd_42 : decode cX3_readAnd 42 = .ok (.aload_n 0, 1) := by decide +kernel
theorem dX3_readAnd_43 : decode cX3_readAnd 43 = .ok (.iconst 5, 1) := by decide +kernel
theorem dX3_readAnd_44 : decode cX3_readAnd 44 = .ok (.invokevirtual 154, 3) := by decide +kernel
theorem dX3_readAnd_47 : decode cX3_readAnd 47 = .ok (.iinc 2 1, 3) := by decide +kernel
theorem dX3_readAnd_50 : decode cX3_readAnd 50 = .ok (.goto (-38), 3) := by decide +kernel
theorem dX3_readAnd_53 : decode cX3_readAnd 53 = .ok (.iconst 1, 1) := by decide +kernel
theorem dX3_readAnd_54 : decode cX3_readAnd 54 = .ok (.ireturn, 1) := by decide +kernel
theorem dX3_readNot_0 : decode cX3_readNot 0 = .ok (.aload_n 0, 1) := by decide +kernel
theorem dX3_readNot_1 : decode cX3_readNot 1 = .ok (.invokevirtual 57, 3) := by decide +kernel
theorem dX3_readNot_4 : decode cX3_readNot 4 = .ok (.bipush 9, 2) := by decide +kernel
theorem dX3_readNot_6 : decode cX3_readNot 6 = .ok (.if_icmp .eq 9, 3) := by decide +kernel
theorem dX3_readNot_9 : decode cX3_readNot 9 = .ok (.aload_n 0, 1) := by decide +kernel
theorem dX3_readNot_10 : decode cX3_readNot 10 = .ok (.iload_n 1, 1) := by decide +kernel
theorem dX3_readNot_11 : decode cX3_readNot 11 = .ok (.invokevirtual 161, 3) := by decide +kernel
theorem dX3_readNot_14 : decode cX3_readNot 14 = .ok (.ireturn, 1) := by decide +kernel
theorem dX3_readNot_15 : decode cX3_readNot 15 = .ok (.iload_n 1, 1) := by decide +kernel
theorem dX3_readNot_16 : decode cX3_readNot 16 = .ok (.iconst 5, 1) := by decide +kernel
theorem dX3_readNot_17 : decode cX3_readNot 17 = .ok (.if_icmp .lt 5, 3) := by decide +kernel
theorem dX3_readNot_20 : decode cX3_readNot 20 = .ok (.iconst 0, 1) := by decide +kernel
theorem dX3_readNot_21 : decode cX3_readNot 21 = .ok (.ireturn, 1) := by decide +kernel
theorem dX3_readNot_22 : decode cX3_readNot 22 = .ok (.aload_n 0, 1) := by decide +kernel
theorem dX3_readNot_23 : decode cX3_readNot 23 = .ok (.invokevirtual 142, 3) := by decide +kernel
theorem dX3_readNot_26 : decode cX3_readNot 26 = .ok (.aload_n 0, 1) := by decide +kernel
theorem dX3_readNot_27 : decode cX3_readNot 27 = .ok (.iload_n 1, 1) := by decide +kernel
theorem dX3_readNot_28 : decode cX3_readNot 28 = .ok (.iconst 1, 1) := by decide +kernel
theorem dX3_readNot_29 : decode cX3_readNot 29 = .ok (.iadd, 1) := by decide +kernel
theorem dX3_readNot_30 : decode cX3_readNot 30 = .ok (.invokevirtual 158, 3) := by decide +kernel
theorem dX3_readNot_33 : decode cX3_readNot 33 = .ok (.ifCond .ne 5, 3) := by decide +kernel
theorem dX3_readNot_36 : decode cX3_readNot 36 = .ok (.iconst 0, 1) := by decide +kernel
theorem dX3_readNot_37 : decode cX3_readNot 37 = .ok (.ireturn, 1) := by decide +kernel
theorem dX3_readNot_38 : decode cX3_readNot 38 = .ok (.aload_n 0, 1) := by decide +kernel
theorem dX3_readNot_39 : decode cX3_readNot 39 = .ok (.iconst 2, 1) := by decide +kernel
theorem dX3_readNot_40 : decode cX3_readNot 40 = .ok (.invokevirtual 154, 3) := by decide +kernel
theorem dX3_readNot_43 : decode cX3_readNot 43 = .ok (.iconst 1, 1) := by decide +kernel
theorem dX3_readNot_44 : decode cX3_readNot 44 = .ok (.ireturn, 1) := by decide +kernel
theorem dX3_readComparison_0 : decode cX3_readComparison 0 = .ok (.aload_n 0, 1) := by decide +kernel
theorem dX3_readComparison_1 : decode cX3_readComparison 1 = .ok (.iload_n 1, 1) := by decide +kernel
theorem dX3_readComparison_2 : decode cX3_readComparison 2 = .ok (.invokevirtual 164, 3) := by decide +kernel
theorem dX3_readComparison_5 : decode cX3_readComparison 5 = .ok (.ifCond .ne 5, 3) := by decide +kernel
theorem dX3_readComparison_8 : decode cX3_readComparison 8 = .ok (.iconst 0, 1) := by decide +kernel
theorem dX3_readComparison_9 : decode cX3_readComparison 9 = .ok (.ireturn, 1) := by decide +kernel
theorem dX3_readComparison_10 : decode cX3_readComparison 10 = .ok (.aload_n 0, 1) := by decide +kernel
theorem dX3_readComparison_11 : decode cX3_readComparison 11 = .ok (.invokevirtual 57, 3) := by decide +kernel
theorem dX3_readComparison_14 : decode cX3_readComparison 14 = .ok (.istore_n 2, 1) := by decide +kernel
theorem dX3_readComparison_15 : decode cX3_readComparison 15 = .ok (.iload_n 2, 1) := by decide +kernel
theorem dX3_readComparison_16 : decode cX3_readComparison 16 = .ok (.bipush 60, 2) := by decide +kernel
theorem dX3_readComparison_18 : decode cX3_readComparison 18 = .ok (.if_icmp .eq 11, 3) := by decide +kernel
theorem dX3_readComparison_21 : decode cX3_readComparison 21 = .ok (.iload_n 2, 1) := by decide +kernel
theorem dX3_readComparison_22 : decode cX3_readComparison 22 = .ok (.bipush 61, 2) := by decide +kernel
theorem dX3_readComparison_24 : decode cX3_readComparison 24 = .ok (.if_icmp .eq 5, 3) := by decide +kernel
theorem dX3_readComparison_27 : decode cX3_readComparison 27 = .ok (.iconst 1, 1) := by decide +kernel
theorem dX3_readComparison_28 : decode cX3_readComparison 28 = .ok (.ireturn, 1) := by decide +kernel
theorem dX3_readComparison_29 : decode cX3_readComparison 29 = .ok (.aload_n 0, 1) := by decide +kernel
theorem dX3_readComparison_30 : decode cX3_readComparison 30 = .ok (.invokevirtual 142, 3) := by decide +kernel
theorem dX3_readComparison_33 : decode cX3_readComparison 33 = .ok (.aload_n 0, 1) := by decide +kernel
theorem dX3_readComparison_34 : decode cX3_readComparison 34 = .ok (.iload_n 1, 1) := by decide +kernel
theorem dX3_readComparison_35 : decode cX3_readComparison 35 = .ok (.invokevirtual 164, 3) := by decide +kernel
theorem dX3_readComparison_38 : decode cX3_readComparison 38 = .ok (.ifCond .ne 5, 3) := by decide +kernel
theorem dX3_readComparison_41 : decode cX3_readComparison 41 = .ok (.iconst 0, 1) := by decide +kernel
theorem dX3_readComparison_42 : decode cX3_readComparison 42 = .ok (.ireturn, 1) := by decide +kernel
theorem dX3_readComparison_43 : decode cX3_readComparison 43 = .ok (.aload_n 0, 1) := by decide +kernel
theorem dX3_readComparison_44 : decode cX3_readComparison 44 = .ok (.iload_n 2, 1) := by decide +kernel
theorem dX3_readComparison_45 : decode cX3_readComparison 45 = .ok (.bipush 60, 2) := by decide +kernel
theorem dX3_readComparison_47 : decode cX3_readComparison 47 = .ok (.if_icmp .ne 8, 3) := by decide +kernel
theorem dX3_readComparison_50 : decode cX3_readComparison 50 = .ok (.bipush 6, 2) := by decide +kernel
theorem dX3_readComparison_52 : decode cX3_readComparison 52 = .ok (.goto 5, 3) := by decide +kernel
theorem dX3_readComparison_55 : decode cX3_readComparison 55 = .ok (.bipush 7, 2) := by decide +kernel
theorem dX3_readComparison_57 : decode cX3_readComparison 57 = .ok (.invokevirtual 154, 3) := by decide +kernel
theorem dX3_readComparison_60 : decode cX3_readComparison 60 = .ok (.iconst 1, 1) := by decide +kernel
theorem dX3_readComparison_61 : decode cX3_readComparison 61 = .ok (.ireturn, 1) := by decide +kernel
theorem dX3_readSum_0 : decode cX3_readSum 0 = .ok (.aload_n 0, 1) := by decide +kernel
theorem dX3_readSum_1 : decode cX3_readSum 1 = .ok (.iload_n 1, 1) := by decide +kernel
theorem dX3_readSum_2 : decode cX3_readSum 2 = .ok (.invokevirtual 167, 3) := by decide +kernel
theorem dX3_readSum_5 : decode cX3_readSum 5 = .ok (.ifCond .ne 5, 3) := by decide +kernel
theorem dX3_readSum_8 : decode cX3_readSum 8 = .ok (.iconst 0, 1) := by decide +kernel
theorem dX3_readSum_9 : decode cX3_readSum 9 = .ok (.ireturn, 1) := by decide +kernel
theorem dX3_readSum_10 : decode cX3_readSum 10 = .ok (.iconst 0, 1) := by decide +kernel
theorem dX3_readSum_11 : decode cX3_readSum 11 = .ok (.istore_n 2, 1) := by decide +kernel
theorem dX3_readSum_12 : decode cX3_readSum 12 = .ok (.iload_n 2, 1) := by decide +kernel
theorem dX3_readSum_13 : decode cX3_readSum 13 = .ok (.sipush 160, 3) := by decide +kernel
theorem dX3_readSum_16 : decode cX3_readSum 16 = .ok (.if_icmp .ge 63, 3) := by decide +kernel
theorem dX3_readSum_19 : decode cX3_readSum 19 = .ok (.aload_n 0, 1) := by decide +kernel
theorem dX3_readSum_20 : decode cX3_readSum 20 = .ok (.invokevirtual 57, 3) := by decide +kernel
theorem dX3_readSum_23 : decode cX3_readSum 23 = .ok (.bipush 43, 2) := by decide +kernel
theorem dX3_readSum_25 : decode cX3_readSum 25 = .ok (.if_icmp .eq 12, 3) := by decide +kernel
theorem dX3_readSum_28 : decode cX3_readSum 28 = .ok (.aload_n 0, 1) := by decide +kernel
theorem dX3_readSum_29 : decode cX3_readSum 29 = .ok (.invokevirtual 57, 3) := by decide +kernel
theorem dX3_readSum_32 : decode cX3_readSum 32 = .ok (.bipush 45, 2) := by decide +kernel
theorem dX3_readSum_34 : decode cX3_readSum 34 = .ok (.if_icmp .ne 45, 3) := by decide +kernel
theorem dX3_readSum_37 : decode cX3_readSum 37 = .ok (.aload_n 0, 1) := by decide +kernel
theorem dX3_readSum_38 : decode cX3_readSum 38 = .ok (.invokevirtual 57, 3) := by decide +kernel
theorem dX3_readSum_41 : decode cX3_readSum 41 = .ok (.istore_n 3, 1) := by decide +kernel
theorem dX3_readSum_42 : decode cX3_readSum 42 = .ok (.aload_n 0, 1) := by decide +kernel
theorem dX3_readSum_43 : decode cX3_readSum 43 = .ok (.invokevirtual 142, 3) := by decide +kernel
theorem dX3_readSum_46 : decode cX3_readSum 46 = .ok (.aload_n 0, 1) := by decide +kernel
theorem dX3_readSum_47 : decode cX3_readSum 47 = .ok (.iload_n 1, 1) := by decide +kernel
theorem dX3_readSum_48 : decode cX3_readSum 48 = .ok (.invokevirtual 167, 3) := by decide +kernel
theorem dX3_readSum_51 : decode cX3_readSum 51 = .ok (.ifCond .ne 5, 3) := by decide +kernel
theorem dX3_readSum_54 : decode cX3_readSum 54 = .ok (.iconst 0, 1) := by decide +kernel
theorem dX3_readSum_55 : decode cX3_readSum 55 = .ok (.ireturn, 1) := by decide +kernel
theorem dX3_readSum_56 : decode cX3_readSum 56 = .ok (.aload_n 0, 1) := by decide +kernel
theorem dX3_readSum_57 : decode cX3_readSum 57 = .ok (.iload_n 3, 1) := by decide +kernel
theorem dX3_readSum_58 : decode cX3_readSum 58 = .ok (.bipush 43, 2) := by decide +kernel
theorem dX3_readSum_60 : decode cX3_readSum 60 = .ok (.if_icmp .ne 8, 3) := by decide +kernel
theorem dX3_readSum_63 : decode cX3_readSum 63 = .ok (.bipush 8, 2) := by decide +kernel
theorem dX3_readSum_65 : decode cX3_readSum 65 = .ok (.goto 5, 3) := by decide +kernel
theorem dX3_readSum_68 : decode cX3_readSum 68 = .ok (.bipush 9, 2) := by decide +kernel
theorem dX3_readSum_70 : decode cX3_readSum 70 = .ok (.invokevirtual 154, 3) := by decide +kernel
theorem dX3_readSum_73 : decode cX3_readSum 73 = .ok (.iinc 2 1, 3) := by decide +kernel
theorem dX3_readSum_76 : decode cX3_readSum 76 = .ok (.goto (-64), 3) := by decide +kernel
theorem dX3_readSum_79 : decode cX3_readSum 79 = .ok (.iconst 1, 1) := by decide +kernel
theorem dX3_readSum_80 : decode cX3_readSum 80 = .ok (.ireturn, 1) := by decide +kernel
theorem dX3_readTerm_0 : decode cX3_readTerm 0 = .ok (.aload_n 0, 1) := by decide +kernel
theorem dX3_readTerm_1 : decode cX3_readTerm 1 = .ok (.iload_n 1, 1) := by decide +kernel
theorem dX3_readTerm_2 : decode cX3_readTerm 2 = .ok (.invokevirtual 170, 3) := by decide +kernel
theorem dX3_readTerm_5 : decode cX3_readTerm 5 = .ok (.ifCond .ne 5, 3) := by decide +kernel
theorem dX3_readTerm_8 : decode cX3_readTerm 8 = .ok (.iconst 0, 1) := by decide +kernel
theorem dX3_readTerm_9 : decode cX3_readTerm 9 = .ok (.ireturn, 1) := by decide +kernel
theorem dX3_readTerm_10 : decode cX3_readTerm 10 = .ok (.iconst 0, 1) := by decide +kernel
theorem dX3_readTerm_11 : decode cX3_readTerm 11 = .ok (.istore_n 2, 1) := by decide +kernel
theorem dX3_readTerm_12 : decode cX3_readTerm 12 = .ok (.iload_n 2, 1) := by decide +kernel
theorem dX3_readTerm_13 : decode cX3_readTerm 13 = .ok (.sipush 160, 3) := by decide +kernel
theorem dX3_readTerm_16 : decode cX3_readTerm 16 = .ok (.if_icmp .ge 38, 3) := by decide +kernel
theorem dX3_readTerm_19 : decode cX3_readTerm 19 = .ok (.aload_n 0, 1) := by decide +kernel
theorem dX3_readTerm_20 : decode cX3_readTerm 20 = .ok (.invokevirtual 57, 3) := by decide +kernel
theorem dX3_readTerm_23 : decode cX3_readTerm 23 = .ok (.bipush 42, 2) := by decide +kernel
theorem dX3_readTerm_25 : decode cX3_readTerm 25 = .ok (.if_icmp .ne 29, 3) := by decide +kernel
theorem dX3_readTerm_28 : decode cX3_readTerm 28 = .ok (.aload_n 0, 1) := by decide +kernel
theorem dX3_readTerm_29 : decode cX3_readTerm 29 = .ok (.invokevirtual 142, 3) := by decide +kernel
theorem dX3_readTerm_32 : decode cX3_readTerm 32 = .ok (.aload_n 0, 1) := by decide +kernel
theorem dX3_readTerm_33 : decode cX3_readTerm 33 = .ok (.iload_n 1, 1) := by decide +kernel
theorem dX3_readTerm_34 : decode cX3_readTerm 34 = .ok (.invokevirtual 170, 3) := by decide +kernel
theorem dX3_readTerm_37 : decode cX3_readTerm 37 = .ok (.ifCond .ne 5, 3) := by decide +kernel
theorem dX3_readTerm_40 : decode cX3_readTerm 40 = .ok (.iconst 0, 1) := by decide +kernel
theorem dX3_readTerm_41 : decode cX3_readTerm 41 = .ok (.ireturn, 1) := by decide +kernel
theorem dX3_readTerm_42 : decode cX3_readTerm 42 = .ok (.aload_n 0, 1) := by decide +kernel
theorem dX3_readTerm_43 : decode cX3_readTerm 43 = .ok (.bipush 10, 2) := by decide +kernel
theorem dX3_readTerm_45 : decode cX3_readTerm 45 = .ok (.invokevirtual 154, 3) := by decide +kernel
theorem dX3_readTerm_48 : decode cX3_readTerm 48 = .ok (.iinc 2 1, 3) := by decide +kernel
theorem dX3_readTerm_51 : decode cX3_readTerm 51 = .ok (.goto (-39), 3) := by decide +kernel
theorem dX3_readTerm_54 : decode cX3_readTerm 54 = .ok (.iconst 1, 1) := by decide +kernel
theorem dX3_readTerm_55 : decode cX3_readTerm 55 = .ok (.ireturn, 1) := by decide +kernel
theorem dX3_readOne_0 : decode cX3_readOne 0 = .ok (.aload_n 0, 1) := by decide +kernel
theorem dX3_readOne_1 : decode cX3_readOne 1 = .ok (.invokevirtual 57, 3) := by decide +kernel
theorem dX3_readOne_4 : decode cX3_readOne 4 = .ok (.istore_n 2, 1) := by decide +kernel
theorem dX3_readOne_5 : decode cX3_readOne 5 = .ok (.iload_n 2, 1) := by decide +kernel
theorem dX3_readOne_6 : decode cX3_readOne 6 = .ok (.iconst 2, 1) := by decide +kernel
theorem dX3_readOne_7 : decode cX3_readOne 7 = .ok (.if_icmp .ne 8, 3) := by decide +kernel
theorem dX3_readOne_10 : decode cX3_readOne 10 = .ok (.aload_n 0, 1) := by decide +kernel
theorem dX3_readOne_11 : decode cX3_readOne 11 = .ok (.invokevirtual 173, 3) := by decide +kernel
theorem dX3_readOne_14 : decode cX3_readOne 14 = .ok (.ireturn, 1) := by decide +kernel
theorem dX3_readOne_15 : decode cX3_readOne 15 = .ok (.iload_n 2, 1) := by decide +kernel
theorem dX3_readOne_16 : decode cX3_readOne 16 = .ok (.bipush 16, 2) := by decide +kernel
theorem dX3_readOne_18 : decode cX3_readOne 18 = .ok (.isub, 1) := by decide +kernel
theorem dX3_readOne_19 : decode cX3_readOne 19 = .ok (.bipush 6, 2) := by decide +kernel
theorem dX3_readOne_21 : decode cX3_readOne 21 = .ok (.invokestatic 46, 3) := by decide +kernel
theorem dX3_readOne_24 : decode cX3_readOne 24 = .ok (.ifCond .eq 21, 3) := by decide +kernel
theorem dX3_readOne_27 : decode cX3_readOne 27 = .ok (.aload_n 0, 1) := by decide +kernel
theorem dX3_readOne_28 : decode cX3_readOne 28 = .ok (.invokevirtual 142, 3) := by decide +kernel
theorem dX3_readOne_31 : decode cX3_readOne 31 = .ok (.aload_n 0, 1) := by decide +kernel
theorem dX3_readOne_32 : decode cX3_readOne 32 = .ok (.iload_n 2, 1) := by decide +kernel
theorem dX3_readOne_33 : decode cX3_readOne 33 = .ok (.bipush 16, 2) := by decide +kernel
theorem dX3_readOne_35 : decode cX3_readOne 35 = .ok (.isub, 1) := by decide +kernel
theorem dX3_readOne_36 : decode cX3_readOne 36 = .ok (.iconst 4, 1) := by decide +kernel
theorem dX3_readOne_37 : decode cX3_readOne 37 = .ok (.ishl, 1) := by decide +kernel
theorem dX3_readOne_38 : decode cX3_readOne 38 = .ok (.iconst 1, 1) := by decide +kernel
theorem dX3_readOne_39 : decode cX3_readOne 39 = .ok (.ior, 1) := by decide +kernel
theorem dX3_readOne_40 : decode cX3_readOne 40 = .ok (.invokevirtual 154, 3) := by decide +kernel
theorem dX3_readOne_43 : decode cX3_readOne 43 = .ok (.iconst 1, 1) := by decide +kernel
theorem dX3_readOne_44 : decode cX3_readOne 44 = .ok (.ireturn, 1) := by decide +kernel
theorem dX3_readOne_45 : decode cX3_readOne 45 = .ok (.iload_n 2, 1) := by decide +kernel
theorem dX3_readOne_46 : decode cX3_readOne 46 = .ok (.bipush 45, 2) := by decide +kernel
theorem dX3_readOne_48 : decode cX3_readOne 48 = .ok (.if_icmp .eq 9, 3) := by decide +kernel
theorem dX3_readOne_51 : decode cX3_readOne 51 = .ok (.iload_n 2, 1) := by decide +kernel
theorem dX3_readOne_52 : decode cX3_readOne 52 = .ok (.bipush 40, 2) := by decide +kernel
theorem dX3_readOne_54 : decode cX3_readOne 54 = .ok (.if_icmp .ne 8, 3) := by decide +kernel
theorem dX3_readOne_57 : decode cX3_readOne 57 = .ok (.iload_n 1, 1) := by decide +kernel
theorem dX3_readOne_58 : decode cX3_readOne 58 = .ok (.iconst 5, 1) := by decide +kernel
theorem dX3_readOne_59 : decode cX3_readOne 59 = .ok (.if_icmp .lt 5, 3) := by decide +kernel
theorem dX3_readOne_62 : decode cX3_readOne 62 = .ok (.iconst 0, 1) := by decide +kernel
theorem dX3_readOne_63 : decode cX3_readOne 63 = .ok (.ireturn, 1) := by decide +kernel
theorem dX3_readOne_64 : decode cX3_readOne 64 = .ok (.aload_n 0, 1) := by decide +kernel
theorem dX3_readOne_65 : decode cX3_readOne 65 = .ok (.invokevirtual 142, 3) := by decide +kernel
theorem dX3_readOne_68 : decode cX3_readOne 68 = .ok (.iload_n 2, 1) := by decide +kernel
theorem dX3_readOne_69 : decode cX3_readOne 69 = .ok (.bipush 40, 2) := by decide +kernel
theorem dX3_readOne_71 : decode cX3_readOne 71 = .ok (.if_icmp .ne 28, 3) := by decide +kernel
theorem dX3_readOne_74 : decode cX3_readOne 74 = .ok (.aload_n 0, 1) := by decide +kernel
theorem dX3_readOne_75 : decode cX3_readOne 75 = .ok (.iload_n 1, 1) := by decide +kernel
theorem dX3_readOne_76 : decode cX3_readOne 76 = .ok (.iconst 1, 1) := by decide +kernel
theorem dX3_readOne_77 : decode cX3_readOne 77 = .ok (.iadd, 1) := by decide +kernel
theorem dX3_readOne_78 : decode cX3_readOne 78 = .ok (.invokevirtual 148, 3) := by decide +kernel
theorem dX3_readOne_81 : decode cX3_readOne 81 = .ok (.ifCond .eq 16, 3) := by decide +kernel
theorem dX3_readOne_84 : decode cX3_readOne 84 = .ok (.aload_n 0, 1) := by decide +kernel
theorem dX3_readOne_85 : decode cX3_readOne 85 = .ok (.bipush 41, 2) := by decide +kernel
theorem dX3_readOne_87 : decode cX3_readOne 87 = .ok (.invokevirtual 145, 3) := by decide +kernel
theorem dX3_readOne_90 : decode cX3_readOne 90 = .ok (.ifCond .eq 7, 3) := by decide +kernel
theorem dX3_readOne_93 : decode cX3_readOne 93 = .ok (.iconst 1, 1) := by decide +kernel
theorem dX3_readOne_94 : decode cX3_readOne 94 = .ok (.goto 4, 3) := by decide +kernel
theorem dX3_readOne_97 : decode cX3_readOne 97 = .ok (.iconst 0, 1) := by decide +kernel
theorem dX3_readOne_98 : decode cX3_readOne 98 = .ok (.ireturn, 1) := by decide +kernel
theorem dX3_readOne_99 : decode cX3_readOne 99 = .ok (.aload_n 0, 1) := by decide +kernel
theorem dX3_readOne_100 : decode cX3_readOne 100 = .ok (.iload_n 1, 1) := by decide +kernel
theorem dX3_readOne_101 : decode cX3_readOne 101 = .ok (.iconst 1, 1) := by decide +kernel
theorem dX3_readOne_102 : decode cX3_readOne 102 = .ok (.iadd, 1) := by decide +kernel
theorem dX3_readOne_103 : decode cX3_readOne 103 = .ok (.invokevirtual 170, 3) := by decide +kernel
theorem dX3_readOne_106 : decode cX3_readOne 106 = .ok (.ifCond .ne 5, 3) := by decide +kernel
theorem dX3_readOne_109 : decode cX3_readOne 109 = .ok (.iconst 0, 1) := by decide +kernel
theorem dX3_readOne_110 : decode cX3_readOne 110 = .ok (.ireturn, 1) := by decide +kernel
theorem dX3_readOne_111 : decode cX3_readOne 111 = .ok (.aload_n 0, 1) := by decide +kernel
theorem dX3_readOne_112 : decode cX3_readOne 112 = .ok (.iconst 3, 1) := by decide +kernel
theorem dX3_readOne_113 : decode cX3_readOne 113 = .ok (.invokevirtual 154, 3) := by decide +kernel
theorem dX3_readOne_116 : decode cX3_readOne 116 = .ok (.iconst 1, 1) := by decide +kernel
theorem dX3_readOne_117 : decode cX3_readOne 117 = .ok (.ireturn, 1) := by decide +kernel
theorem dX3_readNumber_0 : decode cX3_readNumber 0 = .ok (.aload_n 0, 1) := by decide +kernel
theorem dX3_readNumber_1 : decode cX3_readNumber 1 = .ok (.getfield 31, 3) := by decide +kernel
theorem dX3_readNumber_4 : decode cX3_readNumber 4 = .ok (.aload_n 0, 1) := by decide +kernel
theorem dX3_readNumber_5 : decode cX3_readNumber 5 = .ok (.getfield 25, 3) := by decide +kernel
theorem dX3_readNumber_8 : decode cX3_readNumber 8 = .ok (.arraylength, 1) := by decide +kernel
theorem dX3_readNumber_9 : decode cX3_readNumber 9 = .ok (.invokestatic 46, 3) := by decide +kernel
theorem dX3_readNumber_12 : decode cX3_readNumber 12 = .ok (.ifCond .ne 5, 3) := by decide +kernel
theorem dX3_readNumber_15 : decode cX3_readNumber 15 = .ok (.iconst 0, 1) := by decide +kernel
theorem dX3_readNumber_16 : decode cX3_readNumber 16 = .ok (.ireturn, 1) := by decide +kernel
theorem dX3_readNumber_17 : decode cX3_readNumber 17 = .ok (.aload_n 0, 1) := by decide +kernel
theorem dX3_readNumber_18 : decode cX3_readNumber 18 = .ok (.aload_n 0, 1) := by decide +kernel
theorem dX3_readNumber_19 : decode cX3_readNumber 19 = .ok (.getfield 25, 3) := by decide +kernel
theorem dX3_readNumber_22 : decode cX3_readNumber 22 = .ok (.aload_n 0, 1) := by decide +kernel
theorem dX3_readNumber_23 : decode cX3_readNumber 23 = .ok (.getfield 31, 3) := by decide +kernel
theorem dX3_readNumber_26 : decode cX3_readNumber 26 = .ok (.iaload, 1) := by decide +kernel
theorem dX3_readNumber_27 : decode cX3_readNumber 27 = .ok (.iconst 4, 1) := by decide +kernel
theorem dX3_readNumber_28 : decode cX3_readNumber 28 = .ok (.ishl, 1) := by decide +kernel
theorem dX3_readNumber_29 : decode cX3_readNumber 29 = .ok (.iconst 0, 1) := by decide +kernel
theorem dX3_readNumber_30 : decode cX3_readNumber 30 = .ok (.ior, 1) := by decide +kernel
theorem dX3_readNumber_31 : decode cX3_readNumber 31 = .ok (.invokevirtual 154, 3) := by decide +kernel
theorem dX3_readNumber_34 : decode cX3_readNumber 34 = .ok (.aload_n 0, 1) := by decide +kernel
theorem dX3_readNumber_35 : decode cX3_readNumber 35 = .ok (.invokevirtual 142, 3) := by decide +kernel
theorem dX3_readNumber_38 : decode cX3_readNumber 38 = .ok (.iconst 1, 1) := by decide +kernel
theorem dX3_readNumber_39 : decode cX3_readNumber 39 = .ok (.ireturn, 1) := by decide +kernel
theorem dX4_init_0 : decode cX4_init 0 = .ok (.aload_n 0, 1) := by decide +kernel
theorem dX4_init_1 : decode cX4_init 1 = .ok (.invokespecial 3, 3) := by decide +kernel
theorem dX4_init_4 : decode cX4_init 4 = .ok (.aload_n 0, 1) := by decide +kernel
theorem dX4_init_5 : decode cX4_init 5 = .ok (.bipush 40, 2) := by decide +kernel
theorem dX4_init_7 : decode cX4_init 7 = .ok (.newarray .int, 2) := by decide +kernel
theorem dX4_init_9 : decode cX4_init 9 = .ok (.putfield 9, 3) := by decide +kernel
theorem dX4_init_12 : decode cX4_init 12 = .ok (.aload_n 0, 1) := by decide +kernel
theorem dX4_init_13 : decode cX4_init 13 = .ok (.iconst (-1), 1) := by decide +kernel
theorem dX4_init_14 : decode cX4_init 14 = .ok (.putfield 15, 3) := by decide +kernel
theorem dX4_init_17 : decode cX4_init 17 = .ok (.aload_n 0, 1) := by decide +kernel
theorem dX4_init_18 : decode cX4_init 18 = .ok (.iconst 0, 1) := by decide +kernel
theorem dX4_init_19 : decode cX4_init 19 = .ok (.putfield 19, 3) := by decide +kernel
theorem dX4_init_22 : decode cX4_init 22 = .ok (.return_, 1) := by decide +kernel
theorem dX4_isMissing_0 : decode cX4_isMissing 0 = .ok (.aload_n 0, 1) := by decide +kernel
theorem dX4_isMissing_1 : decode cX4_isMissing 1 = .ok (.getfield 15, 3) := by decide +kernel
theorem dX4_isMissing_4 : decode cX4_isMissing 4 = .ok (.iconst (-1), 1) := by decide +kernel
theorem dX4_isMissing_5 : decode cX4_isMissing 5 = .ok (.if_icmp .ne 7, 3) := by decide +kernel
theorem dX4_isMissing_8 : decode cX4_isMissing 8 = .ok (.iconst 1, 1) := by decide +kernel
theorem dX4_isMissing_9 : decode cX4_isMissing 9 = .ok (.goto 4, 3) := by decide +kernel
theorem dX4_isMissing_12 : decode cX4_isMissing 12 = .ok (.iconst 0, 1) := by decide +kernel
theorem dX4_isMissing_13 : decode cX4_isMissing 13 = .ok (.ireturn, 1) := by decide +kernel
theorem dX4_makeMissing_0 : decode cX4_makeMissing 0 = .ok (.aload_n 0, 1) := by decide +kernel
theorem dX4_makeMissing_1 : decode cX4_makeMissing 1 = .ok (.iconst (-1), 1) := by decide +kernel
theorem dX4_makeMissing_2 : decode cX4_makeMissing 2 = .ok (.putfield 15, 3) := by decide +kernel
theorem dX4_makeMissing_5 : decode cX4_makeMissing 5 = .ok (.aload_n 0, 1) := by decide +kernel
theorem dX4_makeMissing_6 : decode cX4_makeMissing 6 = .ok (.iconst 0, 1) := by decide +kernel
theorem dX4_makeMissing_7 : decode cX4_makeMissing 7 = .ok (.putfield 19, 3) := by decide +kernel
theorem dX4_makeMissing_10 : decode cX4_makeMissing 10 = .ok (.return_, 1) := by decide +kernel
theorem dX4_makeRow_0 : decode cX4_makeRow 0 = .ok (.aload_n 0, 1) := by decide +kernel
theorem dX4_makeRow_1 : decode cX4_makeRow 1 = .ok (.iload_n 1, 1) := by decide +kernel
theorem dX4_makeRow_2 : decode cX4_makeRow 2 = .ok (.putfield 15, 3) := by decide +kernel
theorem dX4_makeRow_5 : decode cX4_makeRow 5 = .ok (.aload_n 0, 1) := by decide +kernel
theorem dX4_makeRow_6 : decode cX4_makeRow 6 = .ok (.iload_n 2, 1) := by decide +kernel
theorem dX4_makeRow_7 : decode cX4_makeRow 7 = .ok (.putfield 19, 3) := by decide +kernel
theorem dX4_makeRow_10 : decode cX4_makeRow 10 = .ok (.aload_n 0, 1) := by decide +kernel
theorem dX4_makeRow_11 : decode cX4_makeRow 11 = .ok (.getfield 9, 3) := by decide +kernel
theorem dX4_makeRow_14 : decode cX4_makeRow 14 = .ok (.iconst 0, 1) := by decide +kernel
theorem dX4_makeRow_15 : decode cX4_makeRow 15 = .ok (.invokestatic 22, 3) := by decide +kernel
theorem dX4_makeRow_18 : decode cX4_makeRow 18 = .ok (.return_, 1) := by decide +kernel
theorem dX4_item_0 : decode cX4_item 0 = .ok (.iload_n 1, 1) := by decide +kernel
theorem dX4_item_1 : decode cX4_item 1 = .ok (.aload_n 0, 1) := by decide +kernel
theorem dX4_item_2 : decode cX4_item 2 = .ok (.getfield 19, 3) := by decide +kernel
theorem dX4_item_5 : decode cX4_item 5 = .ok (.invokestatic 28, 3) := by decide +kernel
theorem dX4_item_8 : decode cX4_item 8 = .ok (.ifCond .eq 21, 3) := by decide +kernel
theorem dX4_item_11 : decode cX4_item 11 = .ok (.iload_n 1, 1) := by decide +kernel
theorem dX4_item_12 : decode cX4_item 12 = .ok (.aload_n 0, 1) := by decide +kernel
theorem dX4_item_13 : decode cX4_item 13 = .ok (.getfield 9, 3) := by decide +kernel
theorem dX4_item_16 : decode cX4_item 16 = .ok (.arraylength, 1) := by decide +kernel
theorem dX4_item_17 : decode cX4_item 17 = .ok (.if_icmp .ge 12, 3) := by decide +kernel
theorem dX4_item_20 : decode cX4_item 20 = .ok (.aload_n 0, 1) := by decide +kernel
theorem dX4_item_21 : decode cX4_item 21 = .ok (.getfield 9, 3) := by decide +kernel
theorem dX4_item_24 : decode cX4_item 24 = .ok (.iload_n 1, 1) := by decide +kernel
theorem dX4_item_25 : decode cX4_item 25 = .ok (.iaload, 1) := by decide +kernel
theorem dX4_item_26 : decode cX4_item 26 = .ok (.goto 4, 3) := by decide +kernel
theorem dX4_item_29 : decode cX4_item 29 = .ok (.iconst 0, 1) := by decide +kernel
theorem dX4_item_30 : decode cX4_item 30 = .ok (.ireturn, 1) := by decide +kernel
theorem dX4_put_0 : decode cX4_put 0 = .ok (.iload_n 1, 1) := by decide +kernel
theorem dX4_put_1 : decode cX4_put 1 = .ok (.aload_n 0, 1) := by decide +kernel
theorem dX4_put_2 : decode cX4_put 2 = .ok (.getfield 19, 3) := by decide +kernel
theorem dX4_put_5 : decode cX4_put 5 = .ok (.invokestatic 28, 3) := by decide +kernel
theorem dX4_put_8 : decode cX4_put 8 = .ok (.ifCond .eq 44, 3) := by decide +kernel
theorem dX4_put_11 : decode cX4_put 11 = .ok (.iload_n 1, 1) := by decide +kernel
theorem dX4_put_12 : decode cX4_put 12 = .ok (.aload_n 0, 1) := by decide +kernel
theorem dX4_put_13 : decode cX4_put 13 = .ok (.getfield 9, 3) := by decide +kernel
theorem dX4_put_16 : decode cX4_put 16 = .ok (.arraylength, 1) := by decide +kernel
theorem dX4_put_17 : decode cX4_put 17 = .ok (.if_icmp .ge 35, 3) := by decide +kernel
theorem dX4_put_20 : decode cX4_put 20 = .ok (.aload_n 0, 1) := by decide +kernel
theorem dX4_put_21 : decode cX4_put 21 = .ok (.getfield 9, 3) := by decide +kernel
theorem dX4_put_24 : decode cX4_put 24 = .ok (.iload_n 1, 1) := by decide +kernel
theorem dX4_put_25 : decode cX4_put 25 = .ok (.aload_n 0, 1) := by decide +kernel
theorem dX4_put_26 : decode cX4_put 26 = .ok (.getfield 15, 3) := by decide +kernel
theorem dX4_put_29 : decode cX4_put 29 = .ok (.ifCond .ne 8, 3) := by decide +kernel
theorem dX4_put_32 : decode cX4_put 32 = .ok (.iload_n 2, 1) := by decide +kernel
theorem dX4_put_33 : decode cX4_put 33 = .ok (.i2b, 1) := by decide +kernel
theorem dX4_put_34 : decode cX4_put 34 = .ok (.goto 17, 3) := by decide +kernel
theorem dX4_put_37 : decode cX4_put 37 = .ok (.aload_n 0, 1) := by decide +kernel
theorem dX4_put_38 : decode cX4_put 38 = .ok (.getfield 15, 3) := by decide +kernel
theorem dX4_put_41 : decode cX4_put 41 = .ok (.iconst 1, 1) := by decide +kernel
theorem dX4_put_42 : decode cX4_put 42 = .ok (.if_icmp .ne 8, 3) := by decide +kernel
theorem dX4_put_45 : decode cX4_put 45 = .ok (.iload_n 2, 1) := by decide +kernel
theorem dX4_put_46 : decode cX4_put 46 = .ok (.i2s, 1) := by decide +kernel
theorem dX4_put_47 : decode cX4_put 47 = .ok (.goto 4, 3) := by decide +kernel
theorem dX4_put_50 : decode cX4_put 50 = .ok (.iload_n 2, 1) := by decide +kernel
theorem dX4_put_51 : decode cX4_put 51 = .ok (.iastore, 1) := by decide +kernel
theorem dX4_put_52 : decode cX4_put 52 = .ok (.return_, 1) := by decide +kernel
theorem dX4_holds_0 : decode cX4_holds 0 = .ok (.iload_n 1, 1) := by decide +kernel
theorem dX4_holds_1 : decode cX4_holds 1 = .ok (.ifCond .lt 29, 3) := by decide +kernel
theorem dX4_holds_4 : decode cX4_holds 4 = .ok (.iload_n 2, 1) := by decide +kernel
theorem dX4_holds_5 : decode cX4_holds 5 = .ok (.ifCond .lt 25, 3) := by decide +kernel
theorem dX4_holds_8 : decode cX4_holds 8 = .ok (.iload_n 1, 1) := by decide +kernel
theorem dX4_holds_9 : decode cX4_holds 9 = .ok (.aload_n 0, 1) := by decide +kernel
theorem dX4_holds_10 : decode cX4_holds 10 = .ok (.getfield 19, 3) := by decide +kernel
theorem dX4_holds_13 : decode cX4_holds 13 = .ok (.if_icmp .gt 17, 3) := by decide +kernel
theorem dX4_holds_16 : decode cX4_holds 16 = .ok (.iload_n 2, 1) := by decide +kernel
theorem dX4_holds_17 : decode cX4_holds 17 = .ok (.aload_n 0, 1) := by decide +kernel
theorem dX4_holds_18 : decode cX4_holds 18 = .ok (.getfield 19, 3) := by decide +kernel
theorem dX4_holds_21 : decode cX4_holds 21 = .ok (.iload_n 1, 1) := by decide +kernel
theorem dX4_holds_22 : decode cX4_holds 22 = .ok (.isub, 1) := by decide +kernel
theorem dX4_holds_23 : decode cX4_holds 23 = .ok (.if_icmp .gt 7, 3) := by decide +kernel
theorem dX4_holds_26 : decode cX4_holds 26 = .ok (.iconst 1, 1) := by decide +kernel
theorem dX4_holds_27 : decode cX4_holds 27 = .ok (.goto 4, 3) := by decide +kernel
theorem dX4_holds_30 : decode cX4_holds 30 = .ok (.iconst 0, 1) := by decide +kernel
theorem dX4_holds_31 : decode cX4_holds 31 = .ok (.ireturn, 1) := by decide +kernel
theorem dX4_isAllBelow_0 : decode cX4_isAllBelow 0 = .ok (.iconst 0, 1) := by decide +kernel
theorem dX4_isAllBelow_1 : decode cX4_isAllBelow 1 = .ok (.istore_n 2, 1) := by decide +kernel
theorem dX4_isAllBelow_2 : decode cX4_isAllBelow 2 = .ok (.iload_n 2, 1) := by decide +kernel
theorem dX4_isAllBelow_3 : decode cX4_isAllBelow 3 = .ok (.aload_n 0, 1) := by decide +kernel
theorem dX4_isAllBelow_4 : decode cX4_isAllBelow 4 = .ok (.getfield 19, 3) := by decide +kernel
theorem dX4_isAllBelow_7 : decode cX4_isAllBelow 7 = .ok (.if_icmp .ge 23, 3) := by decide +kernel
theorem dX4_isAllBelow_10 : decode cX4_isAllBelow 10 = .ok (.aload_n 0, 1) := by decide +kernel
theorem dX4_isAllBelow_11 : decode cX4_isAllBelow 11 = .ok (.iload_n 2, 1) := by decide +kernel
theorem dX4_isAllBelow_12 : decode cX4_isAllBelow 12 = .ok (.invokevirtual 32, 3) := by decide +kernel
theorem dX4_isAllBelow_15 : decode cX4_isAllBelow 15 = .ok (.iload_n 1, 1) := by decide +kernel
theorem dX4_isAllBelow_16 : decode cX4_isAllBelow 16 = .ok (.invokestatic 28, 3) := by decide +kernel
theorem dX4_isAllBelow_19 : decode cX4_isAllBelow 19 = .ok (.ifCond .ne 5, 3) := by decide +kernel
theorem dX4_isAllBelow_22 : decode cX4_isAllBelow 22 = .ok (.iconst 0, 1) := by decide +kernel
theorem dX4_isAllBelow_23 : decode cX4_isAllBelow 23 = .ok (.ireturn, 1) := by decide +kernel
theorem dX4_isAllBelow_24 : decode cX4_isAllBelow 24 = .ok (.iinc 2 1, 3) := by decide +kernel
theorem dX4_isAllBelow_27 : decode cX4_isAllBelow 27 = .ok (.goto (-25), 3) := by decide +kernel
theorem dX4_isAllBelow_30 : decode cX4_isAllBelow 30 = .ok (.iconst 1, 1) := by decide +kernel
theorem dX4_isAllBelow_31 : decode cX4_isAllBelow 31 = .ok (.ireturn, 1) := by decide +kernel
theorem dX5_init_0 : decode cX5_init 0 = .ok (.aload_n 0, 1) := by decide +kernel
theorem dX5_init_1 : decode cX5_init 1 = .ok (.invokespecial 1, 3) := by decide +kernel
theorem dX5_init_4 : decode cX5_init 4 = .ok (.aload_n 0, 1) := by decide +kernel
theorem dX5_init_5 : decode cX5_init 5 = .ok (.aload_n 1, 1) := by decide +kernel
theorem dX5_init_6 : decode cX5_init 6 = .ok (.putfield 7, 3) := by decide +kernel
theorem dX5_init_9 : decode cX5_init 9 = .ok (.aload_n 0, 1) := by decide +kernel
theorem dX5_init_10 : decode cX5_init 10 = .ok (.aload_n 2, 1) := by decide +kernel
theorem dX5_init_11 : decode cX5_init 11 = .ok (.putfield 13, 3) := by decide +kernel
theorem dX5_init_14 : decode cX5_init 14 = .ok (.aload_n 0, 1) := by decide +kernel
theorem dX5_init_15 : decode cX5_init 15 = .ok (.aload_n 3, 1) := by decide +kernel
theorem dX5_init_16 : decode cX5_init 16 = .ok (.putfield 16, 3) := by decide +kernel
theorem dX5_init_19 : decode cX5_init 19 = .ok (.return_, 1) := by decide +kernel
theorem dX6_init_0 : decode cX6_init 0 = .ok (.aload_n 0, 1) := by decide +kernel
theorem dX6_init_1 : decode cX6_init 1 = .ok (.invokespecial 3, 3) := by decide +kernel
theorem dX6_init_4 : decode cX6_init 4 = .ok (.aload_n 0, 1) := by decide +kernel
theorem dX6_init_5 : decode cX6_init 5 = .ok (.bipush 6, 2) := by decide +kernel
theorem dX6_init_7 : decode cX6_init 7 = .ok (.newarray .int, 2) := by decide +kernel
theorem dX6_init_9 : decode cX6_init 9 = .ok (.putfield 11, 3) := by decide +kernel
theorem dX6_init_12 : decode cX6_init 12 = .ok (.aload_n 0, 1) := by decide +kernel
theorem dX6_init_13 : decode cX6_init 13 = .ok (.bipush 80, 2) := by decide +kernel
theorem dX6_init_15 : decode cX6_init 15 = .ok (.newarray .int, 2) := by decide +kernel
theorem dX6_init_17 : decode cX6_init 17 = .ok (.putfield 17, 3) := by decide +kernel
theorem dX6_init_20 : decode cX6_init 20 = .ok (.aload_n 0, 1) := by decide +kernel
theorem dX6_init_21 : decode cX6_init 21 = .ok (.iconst 0, 1) := by decide +kernel
theorem dX6_init_22 : decode cX6_init 22 = .ok (.putfield 20, 3) := by decide +kernel
theorem dX6_init_25 : decode cX6_init 25 = .ok (.aload_n 0, 1) := by decide +kernel
theorem dX6_init_26 : decode cX6_init 26 = .ok (.lconst 0, 1) := by decide +kernel
theorem dX6_init_27 : decode cX6_init 27 = .ok (.putfield 24, 3) := by decide +kernel
theorem dX6_init_30 : decode cX6_init 30 = .ok (.aload_n 0, 1) := by decide +kernel
theorem dX6_init_31 : decode cX6_init 31 = .ok (.aconst_null, 1) := by decide +kernel
theorem dX6_init_32 : decode cX6_init 32 = .ok (.putfield 28, 3) := by decide +kernel
theorem dX6_init_35 : decode cX6_init 35 = .ok (.return_, 1) := by decide +kernel
theorem dX6_takeUp_0 : decode cX6_takeUp 0 = .ok (.aload_n 0, 1) := by decide +kernel
theorem dX6_takeUp_1 : decode cX6_takeUp 1 = .ok (.aload_n 1, 1) := by decide +kernel
theorem dX6_takeUp_2 : decode cX6_takeUp 2 = .ok (.getfield 32, 3) := by decide +kernel
theorem dX6_takeUp_5 : decode cX6_takeUp 5 = .ok (.putfield 20, 3) := by decide +kernel
theorem dX6_takeUp_8 : decode cX6_takeUp 8 = .ok (.aload_n 0, 1) := by decide +kernel
theorem dX6_takeUp_9 : decode cX6_takeUp 9 = .ok (.lload_n 2, 1) := by decide +kernel
theorem dX6_takeUp_10 : decode cX6_takeUp 10 = .ok (.putfield 24, 3) := by decide +kernel
theorem dX6_takeUp_13 : decode cX6_takeUp 13 = .ok (.aload_n 0, 1) := by decide +kernel
theorem dX6_takeUp_14 : decode cX6_takeUp 14 = .ok (.getfield 11, 3) := by decide +kernel
theorem dX6_takeUp_17 : decode cX6_takeUp 17 = .ok (.iconst 1, 1) := by decide +kernel
theorem dX6_takeUp_18 : decode cX6_takeUp 18 = .ok (.aload_n 1, 1) := by decide +kernel
theorem dX6_takeUp_19 : decode cX6_takeUp 19 = .ok (.getfield 35, 3) := by decide +kernel
theorem dX6_takeUp_22 : decode cX6_takeUp 22 = .ok (.iastore, 1) := by decide +kernel
theorem dX6_takeUp_23 : decode cX6_takeUp 23 = .ok (.aload_n 0, 1) := by decide +kernel
theorem dX6_takeUp_24 : decode cX6_takeUp 24 = .ok (.getfield 11, 3) := by decide +kernel
theorem dX6_takeUp_27 : decode cX6_takeUp 27 = .ok (.iconst 5, 1) := by decide +kernel
theorem dX6_takeUp_28 : decode cX6_takeUp 28 = .ok (.aload_n 1, 1) := by decide +kernel
theorem dX6_takeUp_29 : decode cX6_takeUp 29 = .ok (.getfield 38, 3) := by decide +kernel
theorem dX6_takeUp_32 : decode cX6_takeUp 32 = .ok (.iastore, 1) := by decide +kernel
theorem dX6_takeUp_33 : decode cX6_takeUp 33 = .ok (.aload_n 0, 1) := by decide +kernel
theorem dX6_takeUp_34 : decode cX6_takeUp 34 = .ok (.getfield 11, 3) := by decide +kernel
theorem dX6_takeUp_37 : decode cX6_takeUp 37 = .ok (.iconst 4, 1) := by decide +kernel
theorem dX6_takeUp_38 : decode cX6_takeUp 38 = .ok (.iload 4, 2) := by decide +kernel
theorem dX6_takeUp_40 : decode cX6_takeUp 40 = .ok (.iastore, 1) := by decide +kernel
theorem dX6_takeUp_41 : decode cX6_takeUp 41 = .ok (.return_, 1) := by decide +kernel
theorem dX6_beOfKind_0 : decode cX6_beOfKind 0 = .ok (.aload_n 0, 1) := by decide +kernel
theorem dX6_beOfKind_1 : decode cX6_beOfKind 1 = .ok (.iload_n 1, 1) := by decide +kernel
theorem dX6_beOfKind_2 : decode cX6_beOfKind 2 = .ok (.putfield 20, 3) := by decide +kernel
theorem dX6_beOfKind_5 : decode cX6_beOfKind 5 = .ok (.return_, 1) := by decide +kernel
theorem dX6_beNumbered_0 : decode cX6_beNumbered 0 = .ok (.aload_n 0, 1) := by decide +kernel
theorem dX6_beNumbered_1 : decode cX6_beNumbered 1 = .ok (.getfield 11, 3) := by decide +kernel
theorem dX6_beNumbered_4 : decode cX6_beNumbered 4 = .ok (.iconst 1, 1) := by decide +kernel
theorem dX6_beNumbered_5 : decode cX6_beNumbered 5 = .ok (.iload_n 1, 1) := by decide +kernel
theorem dX6_beNumbered_6 : decode cX6_beNumbered 6 = .ok (.iastore, 1) := by decide +kernel
theorem dX6_beNumbered_7 : decode cX6_beNumbered 7 = .ok (.return_, 1) := by decide +kernel
theorem dX6_goBy_0 : decode cX6_goBy 0 = .ok (.aload_n 0, 1) := by decide +kernel
theorem dX6_goBy_1 : decode cX6_goBy 1 = .ok (.aload_n 1, 1) := by decide +kernel
theorem dX6_goBy_2 : decode cX6_goBy 2 = .ok (.putfield 28, 3) := by decide +kernel
theorem dX6_goBy_5 : decode cX6_goBy 5 = .ok (.return_, 1) := by decide +kernel
theorem dX6_goal_0 : decode cX6_goal 0 = .ok (.iload_n 1, 1) := by decide +kernel
theorem dX6_goal_1 : decode cX6_goal 1 = .ok (.bipush 6, 2) := by decide +kernel
theorem dX6_goal_3 : decode cX6_goal 3 = .ok (.irem, 1) := by decide +kernel
theorem dX6_goal_4 : decode cX6_goal 4 = .ok (.aload_n 0, 1) := by decide +kernel
theorem dX6_goal_5 : decode cX6_goal 5 = .ok (.iload_n 1, 1) := by decide +kernel
theorem dX6_goal_6 : decode cX6_goal 6 = .ok (.iload_n 2, 1) := by decide +kernel
theorem dX6_goal_7 : decode cX6_goal 7 = .ok (.invokevirtual 41, 3) := by decide +kernel
theorem dX6_goal_10 : decode cX6_goal 10 = .ok (.iadd, 1) := by decide +kernel
theorem dX6_goal_11 : decode cX6_goal 11 = .ok (.istore_n 3, 1) := by decide +kernel
theorem dX6_goal_12 : decode cX6_goal 12 = .ok (.iload_n 3, 1) := by decide +kernel
theorem dX6_goal_13 : decode cX6_goal 13 = .ok (.bipush 6, 2) := by decide +kernel
theorem dX6_goal_15 : decode cX6_goal 15 = .ok (.invokestatic 45, 3) := by decide +kernel
theorem dX6_goal_18 : decode cX6_goal 18 = .ok (.ifCond .ne 5, 3) := by decide +kernel
theorem dX6_goal_21 : decode cX6_goal 21 = .ok (.iload_n 1, 1) := by decide +kernel
theorem dX6_goal_22 : decode cX6_goal 22 = .ok (.ireturn, 1) := by decide +kernel
theorem dX6_goal_23 : decode cX6_goal 23 = .ok (.iload_n 1, 1) := by decide +kernel
theorem dX6_goal_24 : decode cX6_goal 24 = .ok (.bipush 6, 2) := by decide +kernel
theorem dX6_goal_26 : decode cX6_goal 26 = .ok (.idiv, 1) := by decide +kernel
theorem dX6_goal_27 : decode cX6_goal 27 = .ok (.aload_n 0, 1) := by decide +kernel
theorem dX6_goal_28 : decode cX6_goal 28 = .ok (.iload_n 1, 1) := by decide +kernel
theorem dX6_goal_29 : decode cX6_goal 29 = .ok (.iload_n 2, 1) := by decide +kernel
theorem dX6_goal_30 : decode cX6_goal 30 = .ok (.invokevirtual 49, 3) := by decide +kernel
theorem dX6_goal_33 : decode cX6_goal 33 = .ok (.iadd, 1) := by decide +kernel
theorem dX6_goal_34 : decode cX6_goal 34 = .ok (.istore 4, 2) := by decide +kernel
theorem dX6_goal_36 : decode cX6_goal 36 = .ok (.iload 4, 2) := by decide +kernel
theorem dX6_goal_38 : decode cX6_goal 38 = .ok (.bipush 6, 2) := by decide +kernel
theorem dX6_goal_40 : decode cX6_goal 40 = .ok (.invokestatic 45, 3) := by decide +kernel
theorem dX6_goal_43 : decode cX6_goal 43 = .ok (.ifCond .ne 5, 3) := by decide +kernel
theorem dX6_goal_46 : decode cX6_goal 46 = .ok (.iload_n 1, 1) := by decide +kernel
theorem dX6_goal_47 : decode cX6_goal 47 = .ok (.ireturn, 1) := by decide +kernel
theorem dX6_goal_48 : decode cX6_goal 48 = .ok (.iload 4, 2) := by decide +kernel
theorem dX6_goal_50 : decode cX6_goal 50 = .ok (.bipush 6, 2) := by decide +kernel
theorem dX6_goal_52 : decode cX6_goal 52 = .ok (.imul, 1) := by decide +kernel
theorem dX6_goal_53 : decode cX6_goal 53 = .ok (.iload_n 3, 1) := by decide +kernel
theorem dX6_goal_54 : decode cX6_goal 54 = .ok (.iadd, 1) := by decide +kernel
theorem dX6_goal_55 : decode cX6_goal 55 = .ok (.istore 5, 2) := by decide +kernel
theorem dX6_goal_57 : decode cX6_goal 57 = .ok (.aload_n 0, 1) := by decide +kernel
theorem dX6_goal_58 : decode cX6_goal 58 = .ok (.getfield 24, 3) := by decide +kernel
theorem dX6_goal_61 : decode cX6_goal 61 = .ok (.iload 5, 2) := by decide +kernel
theorem dX6_goal_63 : decode cX6_goal 63 = .ok (.lushr, 1) := by decide +kernel
theorem dX6_goal_64 : decode cX6_goal 64 = .ok (.lconst 1, 1) := by decide +kernel
theorem dX6_goal_65 : decode cX6_goal 65 = .ok (.land, 1) := by decide +kernel
theorem dX6_goal_66 : decode cX6_goal 66 = .ok (.lconst 1, 1) := by decide +kernel
theorem dX6_goal_67 : decode cX6_goal 67 = .ok (.lcmp, 1) := by decide +kernel
theorem dX6_goal_68 : decode cX6_goal 68 = .ok (.ifCond .ne 7, 3) := by decide +kernel
theorem dX6_goal_71 : decode cX6_goal 71 = .ok (.iload_n 1, 1) := by decide +kernel
theorem dX6_goal_72 : decode cX6_goal 72 = .ok (.goto 5, 3) := by decide +kernel
theorem dX6_goal_75 : decode cX6_goal 75 = .ok (.iload 5, 2) := by decide +kernel
theorem dX6_goal_77 : decode cX6_goal 77 = .ok (.ireturn, 1) := by decide +kernel
theorem dX6_firstWord_0 : decode cX6_firstWord 0 = .ok (.iconst 0, 1) := by decide +kernel
theorem dX6_firstWord_1 : decode cX6_firstWord 1 = .ok (.istore_n 3, 1) := by decide +kernel
theorem dX6_firstWord_2 : decode cX6_firstWord 2 = .ok (.iload_n 3, 1) := by decide +kernel
theorem dX6_firstWord_3 : decode cX6_firstWord 3 = .ok (.bipush 8, 2) := by decide +kernel
theorem dX6_firstWord_5 : decode cX6_firstWord 5 = .ok (.if_icmp .ge 21, 3) := by decide +kernel
theorem dX6_firstWord_8 : decode cX6_firstWord 8 = .ok (.aload_n 0, 1) := by decide +kernel
theorem dX6_firstWord_9 : decode cX6_firstWord 9 = .ok (.iload_n 1, 1) := by decide +kernel
theorem dX6_firstWord_10 : decode cX6_firstWord 10 = .ok (.iload_n 3, 1) := by decide +kernel
theorem dX6_firstWord_11 : decode cX6_firstWord 11 = .ok (.invokevirtual 52, 3) := by decide +kernel
theorem dX6_firstWord_14 : decode cX6_firstWord 14 = .ok (.iload_n 2, 1) := by decide +kernel
theorem dX6_firstWord_15 : decode cX6_firstWord 15 = .ok (.if_icmp .ne 5, 3) := by decide +kernel
theorem dX6_firstWord_18 : decode cX6_firstWord 18 = .ok (.iload_n 3, 1) := by decide +kernel
theorem dX6_firstWord_19 : decode cX6_firstWord 19 = .ok (.ireturn, 1) := by decide +kernel
theorem dX6_firstWord_20 : decode cX6_firstWord 20 = .ok (.iinc 3 1, 3) := by decide +kernel
theorem dX6_firstWord_23 : decode cX6_firstWord 23 = .ok (.goto (-21), 3) := by decide +kernel
theorem dX6_firstWord_26 : decode cX6_firstWord 26 = .ok (.iconst (-1), 1) := by decide +kernel
theorem dX6_firstWord_27 : decode cX6_firstWord 27 = .ok (.ireturn, 1) := by decide +kernel
theorem dX6_wordCount_0 : decode cX6_wordCount 0 = .ok (.iconst 0, 1) := by decide +kernel
theorem dX6_wordCount_1 : decode cX6_wordCount 1 = .ok (.istore_n 3, 1) := by decide +kernel
theorem dX6_wordCount_2 : decode cX6_wordCount 2 = .ok (.iconst 0, 1) := by decide +kernel
theorem dX6_wordCount_3 : decode cX6_wordCount 3 = .ok (.istore 4, 2) := by decide +kernel
theorem dX6_wordCount_5 : decode cX6_wordCount 5 = .ok (.iload 4, 2) := by decide +kernel
theorem dX6_wordCount_7 : decode cX6_wordCount 7 = .ok (.bipush 8, 2) := by decide +kernel
theorem dX6_wordCount_9 : decode cX6_wordCount 9 = .ok (.if_icmp .ge 28, 3) := by decide +kernel
theorem dX6_wordCount_12 : decode cX6_wordCount 12 = .ok (.iload_n 3, 1) := by decide +kernel
theorem dX6_wordCount_13 : decode cX6_wordCount 13 = .ok (.aload_n 0, 1) := by decide +kernel
theorem dX6_wordCount_14 : decode cX6_wordCount 14 = .ok (.iload_n 1, 1) := by decide +kernel
theorem dX6_wordCount_15 : decode cX6_wordCount 15 = .ok (.iload 4, 2) := by decide +kernel
theorem dX6_wordCount_17 : decode cX6_wordCount 17 = .ok (.invokevirtual 52, 3) := by decide +kernel
theorem dX6_wordCount_20 : decode cX6_wordCount 20 = .ok (.iload_n 2, 1) := by decide +kernel
theorem dX6_wordCount_21 : decode cX6_wordCount 21 = .ok (.if_icmp .ne 7, 3) := by decide +kernel
theorem dX6_wordCount_24 : decode cX6_wordCount 24 = .ok (.iconst 1, 1) := by decide +kernel
theorem dX6_wordCount_25 : decode cX6_wordCount 25 = .ok (.goto 4, 3) := by decide +kernel
theorem dX6_wordCount_28 : decode cX6_wordCount 28 = .ok (.iconst 0, 1) := by decide +kernel
theorem dX6_wordCount_29 : decode cX6_wordCount 29 = .ok (.iadd, 1) := by decide +kernel
theorem dX6_wordCount_30 : decode cX6_wordCount 30 = .ok (.istore_n 3, 1) := by decide +kernel
theorem dX6_wordCount_31 : decode cX6_wordCount 31 = .ok (.iinc 4 1, 3) := by decide +kernel
theorem dX6_wordCount_34 : decode cX6_wordCount 34 = .ok (.goto (-29), 3) := by decide +kernel
theorem dX6_wordCount_37 : decode cX6_wordCount 37 = .ok (.iload_n 3, 1) := by decide +kernel
theorem dX6_wordCount_38 : decode cX6_wordCount 38 = .ok (.ireturn, 1) := by decide +kernel
theorem dX6_east_0 : decode cX6_east 0 = .ok (.aload_n 0, 1) := by decide +kernel
theorem dX6_east_1 : decode cX6_east 1 = .ok (.getfield 28, 3) := by decide +kernel
theorem dX6_east_4 : decode cX6_east 4 = .ok (.ifnonnull 5, 3) := by decide +kernel
theorem dX6_east_7 : decode cX6_east 7 = .ok (.iconst 0, 1) := by decide +kernel
theorem dX6_east_8 : decode cX6_east 8 = .ok (.ireturn, 1) := by decide +kernel
theorem dX6_east_9 : decode cX6_east 9 = .ok (.aload_n 0, 1) := by decide +kernel
theorem dX6_east_10 : decode cX6_east 10 = .ok (.aload_n 0, 1) := by decide +kernel
theorem dX6_east_11 : decode cX6_east 11 = .ok (.getfield 28, 3) := by decide +kernel
theorem dX6_east_14 : decode cX6_east 14 = .ok (.getfield 55, 3) := by decide +kernel
theorem dX6_east_17 : decode cX6_east 17 = .ok (.iload_n 1, 1) := by decide +kernel
theorem dX6_east_18 : decode cX6_east 18 = .ok (.iload_n 2, 1) := by decide +kernel
theorem dX6_east_19 : decode cX6_east 19 = .ok (.invokevirtual 58, 3) := by decide +kernel
theorem dX6_east_22 : decode cX6_east 22 = .ok (.bipush (-5), 2) := by decide +kernel
theorem dX6_east_24 : decode cX6_east 24 = .ok (.iconst 5, 1) := by decide +kernel
theorem dX6_east_25 : decode cX6_east 25 = .ok (.invokestatic 62, 3) := by decide +kernel
theorem dX6_east_28 : decode cX6_east 28 = .ok (.istore_n 3, 1) := by decide +kernel
theorem dX6_east_29 : decode cX6_east 29 = .ok (.aload_n 0, 1) := by decide +kernel
theorem dX6_east_30 : decode cX6_east 30 = .ok (.iload_n 3, 1) := by decide +kernel
theorem dX6_east_31 : decode cX6_east 31 = .ok (.iload_n 2, 1) := by decide +kernel
theorem dX6_east_32 : decode cX6_east 32 = .ok (.invokevirtual 66, 3) := by decide +kernel
theorem dX6_east_35 : decode cX6_east 35 = .ok (.bipush (-5), 2) := by decide +kernel
theorem dX6_east_37 : decode cX6_east 37 = .ok (.iconst 5, 1) := by decide +kernel
theorem dX6_east_38 : decode cX6_east 38 = .ok (.invokestatic 62, 3) := by decide +kernel
theorem dX6_east_41 : decode cX6_east 41 = .ok (.ireturn, 1) := by decide +kernel
theorem dX6_eastOfKind_0 : decode cX6_eastOfKind 0 = .ok (.iload_n 2, 1) := by decide +kernel
theorem dX6_eastOfKind_1 : decode cX6_eastOfKind 1 = .ok (.iconst 2, 1) := by decide +kernel
theorem dX6_eastOfKind_2 : decode cX6_eastOfKind 2 = .ok (.irem, 1) := by decide +kernel
theorem dX6_eastOfKind_3 : decode cX6_eastOfKind 3 = .ok (.ifCond .eq 7, 3) := by decide +kernel
theorem dX6_eastOfKind_6 : decode cX6_eastOfKind 6 = .ok (.iconst 1, 1) := by decide +kernel
theorem dX6_eastOfKind_7 : decode cX6_eastOfKind 7 = .ok (.goto 4, 3) := by decide +kernel
theorem dX6_eastOfKind_10 : decode cX6_eastOfKind 10 = .ok (.iconst 0, 1) := by decide +kernel
theorem dX6_eastOfKind_11 : decode cX6_eastOfKind 11 = .ok (.istore_n 3, 1) := by decide +kernel
theorem dX6_eastOfKind_12 : decode cX6_eastOfKind 12 = .ok (.aload_n 0, 1) := by decide +kernel
theorem dX6_eastOfKind_13 : decode cX6_eastOfKind 13 = .ok (.getfield 20, 3) := by decide +kernel
theorem dX6_eastOfKind_16 : decode cX6_eastOfKind 16 = .ok (.tableswitch 87 1 5 #[36, 40, 50, 63, 84], 36) := by decide +kernel
theorem dX6_eastOfKind_52 : decode cX6_eastOfKind 52 = .ok (.iconst 2, 1) := by decide +kernel
theorem dX6_eastOfKind_53 : decode cX6_eastOfKind 53 = .ok (.iload_n 1, 1) := by decide +kernel
theorem dX6_eastOfKind_54 : decode cX6_eastOfKind 54 = .ok (.imul, 1) := by decide +kernel
theorem dX6_eastOfKind_55 : decode cX6_eastOfKind 55 = .ok (.ireturn, 1) := by decide +kernel
theorem dX6_eastOfKind_56 : decode cX6_eastOfKind 56 = .ok (.iload_n 3, 1) := by decide +kernel
theorem dX6_eastOfKind_57 : decode cX6_eastOfKind 57 = .ok (.ifCond .eq 7, 3) := by decide +kernel
theorem dX6_eastOfKind_60 : decode cX6_eastOfKind 60 = .ok (.iconst 0, 1) := by decide +kernel
theorem dX6_eastOfKind_61 : decode cX6_eastOfKind 61 = .ok (.goto 4, 3) := by decide +kernel
theorem dX6_eastOfKind_64 : decode cX6_eastOfKind 64 = .ok (.iload_n 1, 1) := by decide +kernel
theorem dX6_eastOfKind_65 : decode cX6_eastOfKind 65 = .ok (.ireturn, 1) := by decide +kernel
theorem dX6_eastOfKind_66 : decode cX6_eastOfKind 66 = .ok (.iconst 2, 1) := by decide +kernel
theorem dX6_eastOfKind_67 : decode cX6_eastOfKind 67 = .ok (.iload_n 1, 1) := by decide +kernel
theorem dX6_eastOfKind_68 : decode cX6_eastOfKind 68 = .ok (.imul, 1) := by decide +kernel
theorem dX6_eastOfKind_69 : decode cX6_eastOfKind 69 = .ok (.aload_n 0, 1) := by decide +kernel
theorem dX6_eastOfKind_70 : decode cX6_eastOfKind 70 = .ok (.getfield 11, 3) := by decide +kernel
theorem dX6_eastOfKind_73 : decode cX6_eastOfKind 73 = .ok (.iconst 1, 1) := by decide +kernel
theorem dX6_eastOfKind_74 : decode cX6_eastOfKind 74 = .ok (.iaload, 1) := by decide +kernel
theorem dX6_eastOfKind_75 : decode cX6_eastOfKind 75 = .ok (.iconst 3, 1) := by decide +kernel
theorem dX6_eastOfKind_76 : decode cX6_eastOfKind 76 = .ok (.irem, 1) := by decide +kernel
theorem dX6_eastOfKind_77 : decode cX6_eastOfKind 77 = .ok (.iadd, 1) := by decide +kernel
theorem dX6_eastOfKind_78 : decode cX6_eastOfKind 78 = .ok (.ireturn, 1) := by decide +kernel
theorem dX6_eastOfKind_79 : decode cX6_eastOfKind 79 = .ok (.iload_n 3, 1) := by decide +kernel
theorem dX6_eastOfKind_80 : decode cX6_eastOfKind 80 = .ok (.ifCond .ne 14, 3) := by decide +kernel
theorem dX6_eastOfKind_83 : decode cX6_eastOfKind 83 = .ok (.aload_n 0, 1) := by decide +kernel
theorem dX6_eastOfKind_84 : decode cX6_eastOfKind 84 = .ok (.getfield 11, 3) := by decide +kernel
theorem dX6_eastOfKind_87 : decode cX6_eastOfKind 87 = .ok (.iconst 4, 1) := by decide +kernel
theorem dX6_eastOfKind_88 : decode cX6_eastOfKind 88 = .ok (.iaload, 1) := by decide +kernel
theorem dX6_eastOfKind_89 : decode cX6_eastOfKind 89 = .ok (.iconst 2, 1) := by decide +kernel
theorem dX6_eastOfKind_90 : decode cX6_eastOfKind 90 = .ok (.irem, 1) := by decide +kernel
theorem dX6_eastOfKind_91 : decode cX6_eastOfKind 91 = .ok (.ifCond .eq 7, 3) := by decide +kernel
theorem dX6_eastOfKind_94 : decode cX6_eastOfKind 94 = .ok (.iconst 0, 1) := by decide +kernel
theorem dX6_eastOfKind_95 : decode cX6_eastOfKind 95 = .ok (.goto 4, 3) := by decide +kernel
theorem dX6_eastOfKind_98 : decode cX6_eastOfKind 98 = .ok (.iload_n 1, 1) := by decide +kernel
theorem dX6_eastOfKind_99 : decode cX6_eastOfKind 99 = .ok (.ireturn, 1) := by decide +kernel
theorem dX6_eastOfKind_100 : decode cX6_eastOfKind 100 = .ok (.iload_n 1, 1) := by decide +kernel
theorem dX6_eastOfKind_101 : decode cX6_eastOfKind 101 = .ok (.ineg, 1) := by decide +kernel
theorem dX6_eastOfKind_102 : decode cX6_eastOfKind 102 = .ok (.ireturn, 1) := by decide +kernel
theorem dX6_eastOfKind_103 : decode cX6_eastOfKind 103 = .ok (.iload_n 1, 1) := by decide +kernel
theorem dX6_eastOfKind_104 : decode cX6_eastOfKind 104 = .ok (.ireturn, 1) := by decide +kernel
theorem dX6_south_0 : decode cX6_south 0 = .ok (.aload_n 0, 1) := by decide +kernel
theorem dX6_south_1 : decode cX6_south 1 = .ok (.getfield 28, 3) := by decide +kernel
theorem dX6_south_4 : decode cX6_south 4 = .ok (.ifnonnull 5, 3) := by decide +kernel
theorem dX6_south_7 : decode cX6_south 7 = .ok (.iconst 0, 1) := by decide +kernel
theorem dX6_south_8 : decode cX6_south 8 = .ok (.ireturn, 1) := by decide +kernel
theorem dX6_south_9 : decode cX6_south 9 = .ok (.aload_n 0, 1) := by decide +kernel
theorem dX6_south_10 : decode cX6_south 10 = .ok (.aload_n 0, 1) := by decide +kernel
theorem dX6_south_11 : decode cX6_south 11 = .ok (.getfield 28, 3) := by decide +kernel
theorem dX6_south_14 : decode cX6_south 14 = .ok (.getfield 69, 3) := by decide +kernel
theorem dX6_south_17 : decode cX6_south 17 = .ok (.iload_n 1, 1) := by decide +kernel
theorem dX6_south_18 : decode cX6_south 18 = .ok (.iload_n 2, 1) := by decide +kernel
theorem dX6_south_19 : decode cX6_south 19 = .ok (.invokevirtual 58, 3) := by decide +kernel
theorem dX6_south_22 : decode cX6_south 22 = .ok (.bipush (-5), 2) := by decide +kernel
theorem dX6_south_24 : decode cX6_south 24 = .ok (.iconst 5, 1) := by decide +kernel
theorem dX6_south_25 : decode cX6_south 25 = .ok (.invokestatic 62, 3) := by decide +kernel
theorem dX6_south_28 : decode cX6_south 28 = .ok (.istore_n 3, 1) := by decide +kernel
theorem dX6_south_29 : decode cX6_south 29 = .ok (.aload_n 0, 1) := by decide +kernel
theorem dX6_south_30 : decode cX6_south 30 = .ok (.iload_n 3, 1) := by decide +kernel
theorem dX6_south_31 : decode cX6_south 31 = .ok (.iload_n 2, 1) := by decide +kernel
theorem dX6_south_32 : decode cX6_south 32 = .ok (.invokevirtual 72, 3) := by decide +kernel
theorem dX6_south_35 : decode cX6_south 35 = .ok (.bipush (-5), 2) := by decide +kernel
theorem dX6_south_37 : decode cX6_south 37 = .ok (.iconst 5, 1) := by decide +kernel
theorem dX6_south_38 : decode cX6_south 38 = .ok (.invokestatic 62, 3) := by decide +kernel
theorem dX6_south_41 : decode cX6_south 41 = .ok (.ireturn, 1) := by decide +kernel
theorem dX6_southOfKind_0 : decode cX6_southOfKind 0 = .ok (.aload_n 0, 1) := by decide +kernel
theorem dX6_southOfKind_1 : decode cX6_southOfKind 1 = .ok (.getfield 20, 3) := by decide +kernel
theorem dX6_southOfKind_4 : decode cX6_southOfKind 4 = .ok (.tableswitch 52 2 5 #[32, 36, 32, 48], 32) := by decide +kernel
theorem dX6_southOfKind_36 : decode cX6_southOfKind 36 = .ok (.iload_n 1, 1) := by decide +kernel
theorem dX6_southOfKind_37 : decode cX6_southOfKind 37 = .ok (.iconst 1, 1) := by decide +kernel
theorem dX6_southOfKind_38 : decode cX6_southOfKind 38 = .ok (.iadd, 1) := by decide +kernel
theorem dX6_southOfKind_39 : decode cX6_southOfKind 39 = .ok (.ireturn, 1) := by decide +kernel
theorem dX6_southOfKind_40 : decode cX6_southOfKind 40 = .ok (.iload_n 2, 1) := by decide +kernel
theorem dX6_southOfKind_41 : decode cX6_southOfKind 41 = .ok (.iconst 5, 1) := by decide +kernel
theorem dX6_southOfKind_42 : decode cX6_southOfKind 42 = .ok (.if_icmp .le 8, 3) := by decide +kernel
theorem dX6_southOfKind_45 : decode cX6_southOfKind 45 = .ok (.iload_n 1, 1) := by decide +kernel
theorem dX6_southOfKind_46 : decode cX6_southOfKind 46 = .ok (.ineg, 1) := by decide +kernel
theorem dX6_southOfKind_47 : decode cX6_southOfKind 47 = .ok (.goto 4, 3) := by decide +kernel
theorem dX6_southOfKind_50 : decode cX6_southOfKind 50 = .ok (.iload_n 1, 1) := by decide +kernel
theorem dX6_southOfKind_51 : decode cX6_southOfKind 51 = .ok (.ireturn, 1) := by decide +kernel
theorem dX6_southOfKind_52 : decode cX6_southOfKind 52 = .ok (.iload_n 1, 1) := by decide +kernel
theorem dX6_southOfKind_53 : decode cX6_southOfKind 53 = .ok (.iconst 2, 1) := by decide +kernel
theorem dX6_southOfKind_54 : decode cX6_southOfKind 54 = .ok (.idiv, 1) := by decide +kernel
theorem dX6_southOfKind_55 : decode cX6_southOfKind 55 = .ok (.ireturn, 1) := by decide +kernel
theorem dX6_southOfKind_56 : decode cX6_southOfKind 56 = .ok (.iload_n 1, 1) := by decide +kernel
theorem dX6_southOfKind_57 : decode cX6_southOfKind 57 = .ok (.ireturn, 1) := by decide +kernel
theorem dX6_height_0 : decode cX6_height 0 = .ok (.aload_n 0, 1) := by decide +kernel
theorem dX6_height_1 : decode cX6_height 1 = .ok (.getfield 28, 3) := by decide +kernel
theorem dX6_height_4 : decode cX6_height 4 = .ok (.ifnonnull 5, 3) := by decide +kernel
theorem dX6_height_7 : decode cX6_height 7 = .ok (.iconst 0, 1) := by decide +kernel
theorem dX6_height_8 : decode cX6_height 8 = .ok (.ireturn, 1) := by decide +kernel
theorem dX6_height_9 : decode cX6_height 9 = .ok (.aload_n 0, 1) := by decide +kernel
theorem dX6_height_10 : decode cX6_height 10 = .ok (.aload_n 0, 1) := by decide +kernel
theorem dX6_height_11 : decode cX6_height 11 = .ok (.getfield 28, 3) := by decide +kernel
theorem dX6_height_14 : decode cX6_height 14 = .ok (.getfield 75, 3) := by decide +kernel
theorem dX6_height_17 : decode cX6_height 17 = .ok (.iload_n 1, 1) := by decide +kernel
theorem dX6_height_18 : decode cX6_height 18 = .ok (.iconst 0, 1) := by decide +kernel
theorem dX6_height_19 : decode cX6_height 19 = .ok (.invokevirtual 58, 3) := by decide +kernel
theorem dX6_height_22 : decode cX6_height 22 = .ok (.iconst 0, 1) := by decide +kernel
theorem dX6_height_23 : decode cX6_height 23 = .ok (.bipush 99, 2) := by decide +kernel
theorem dX6_height_25 : decode cX6_height 25 = .ok (.invokestatic 62, 3) := by decide +kernel
theorem dX6_height_28 : decode cX6_height 28 = .ok (.istore_n 3, 1) := by decide +kernel
theorem dX6_height_29 : decode cX6_height 29 = .ok (.aload_n 0, 1) := by decide +kernel
theorem dX6_height_30 : decode cX6_height 30 = .ok (.iload_n 3, 1) := by decide +kernel
theorem dX6_height_31 : decode cX6_height 31 = .ok (.iload_n 2, 1) := by decide +kernel
theorem dX6_height_32 : decode cX6_height 32 = .ok (.invokevirtual 78, 3) := by decide +kernel
theorem dX6_height_35 : decode cX6_height 35 = .ok (.iconst 0, 1) := by decide +kernel
theorem dX6_height_36 : decode cX6_height 36 = .ok (.bipush 99, 2) := by decide +kernel
theorem dX6_height_38 : decode cX6_height 38 = .ok (.invokestatic 62, 3) := by decide +kernel
theorem dX6_height_41 : decode cX6_height 41 = .ok (.ireturn, 1) := by decide +kernel
theorem dX6_heightOfKind_0 : decode cX6_heightOfKind 0 = .ok (.aload_n 0, 1) := by decide +kernel
theorem dX6_heightOfKind_1 : decode cX6_heightOfKind 1 = .ok (.getfield 20, 3) := by decide +kernel
theorem dX6_heightOfKind_4 : decode cX6_heightOfKind 4 = .ok (.tableswitch 50 1 4 #[32, 38, 40, 48], 32) := by decide +kernel
theorem dX6_heightOfKind_36 : decode cX6_heightOfKind 36 = .ok (.iload_n 1, 1) := by decide +kernel
theorem dX6_heightOfKind_37 : decode cX6_heightOfKind 37 = .ok (.iload_n 2, 1) := by decide +kernel
theorem dX6_heightOfKind_38 : decode cX6_heightOfKind 38 = .ok (.iadd, 1) := by decide +kernel
theorem dX6_heightOfKind_39 : decode cX6_heightOfKind 39 = .ok (.iconst 2, 1) := by decide +kernel
theorem dX6_heightOfKind_40 : decode cX6_heightOfKind 40 = .ok (.iadd, 1) := by decide +kernel
theorem dX6_heightOfKind_41 : decode cX6_heightOfKind 41 = .ok (.ireturn, 1) := by decide +kernel
theorem dX6_heightOfKind_42 : decode cX6_heightOfKind 42 = .ok (.iload_n 1, 1) := by decide +kernel
theorem dX6_heightOfKind_43 : decode cX6_heightOfKind 43 = .ok (.ireturn, 1) := by decide +kernel
theorem dX6_heightOfKind_44 : decode cX6_heightOfKind 44 = .ok (.iconst 2, 1) := by decide +kernel
theorem dX6_heightOfKind_45 : decode cX6_heightOfKind 45 = .ok (.iload_n 1, 1) := by decide +kernel
theorem dX6_heightOfKind_46 : decode cX6_heightOfKind 46 = .ok (.iload_n 2, 1) := by decide +kernel
theorem dX6_heightOfKind_47 : decode cX6_heightOfKind 47 = .ok (.iadd, 1) := by decide +kernel
theorem dX6_heightOfKind_48 : decode cX6_heightOfKind 48 = .ok (.iconst 2, 1) := by decide +kernel
theorem dX6_heightOfKind_49 : decode cX6_heightOfKind 49 = .ok (.iadd, 1) := by decide +kernel
theorem dX6_heightOfKind_50 : decode cX6_heightOfKind 50 = .ok (.imul, 1) := by decide +kernel
theorem dX6_heightOfKind_51 : decode cX6_heightOfKind 51 = .ok (.ireturn, 1) := by decide +kernel
theorem dX6_heightOfKind_52 : decode cX6_heightOfKind 52 = .ok (.iconst 0, 1) := by decide +kernel
theorem dX6_heightOfKind_53 : decode cX6_heightOfKind 53 = .ok (.ireturn, 1) := by decide +kernel
theorem dX6_heightOfKind_54 : decode cX6_heightOfKind 54 = .ok (.iload_n 1, 1) := by decide +kernel
theorem dX6_heightOfKind_55 : decode cX6_heightOfKind 55 = .ok (.iload_n 2, 1) := by decide +kernel
theorem dX6_heightOfKind_56 : decode cX6_heightOfKind 56 = .ok (.iadd, 1) := by decide +kernel
theorem dX6_heightOfKind_57 : decode cX6_heightOfKind 57 = .ok (.ireturn, 1) := by decide +kernel
theorem dX6_valueOf_0 : decode cX6_valueOf 0 = .ok (.aload_n 0, 1) := by decide +kernel
theorem dX6_valueOf_1 : decode cX6_valueOf 1 = .ok (.getfield 11, 3) := by decide +kernel
theorem dX6_valueOf_4 : decode cX6_valueOf 4 = .ok (.iconst 0, 1) := by decide +kernel
theorem dX6_valueOf_5 : decode cX6_valueOf 5 = .ok (.iload_n 3, 1) := by decide +kernel
theorem dX6_valueOf_6 : decode cX6_valueOf 6 = .ok (.iastore, 1) := by decide +kernel
theorem dX6_valueOf_7 : decode cX6_valueOf 7 = .ok (.aload_n 0, 1) := by decide +kernel
theorem dX6_valueOf_8 : decode cX6_valueOf 8 = .ok (.getfield 11, 3) := by decide +kernel
theorem dX6_valueOf_11 : decode cX6_valueOf 11 = .ok (.iconst 2, 1) := by decide +kernel
theorem dX6_valueOf_12 : decode cX6_valueOf 12 = .ok (.iload_n 2, 1) := by decide +kernel
theorem dX6_valueOf_13 : decode cX6_valueOf 13 = .ok (.bipush 6, 2) := by decide +kernel
theorem dX6_valueOf_15 : decode cX6_valueOf 15 = .ok (.irem, 1) := by decide +kernel
theorem dX6_valueOf_16 : decode cX6_valueOf 16 = .ok (.iastore, 1) := by decide +kernel
theorem dX6_valueOf_17 : decode cX6_valueOf 17 = .ok (.aload_n 0, 1) := by decide +kernel
theorem dX6_valueOf_18 : decode cX6_valueOf 18 = .ok (.getfield 11, 3) := by decide +kernel
theorem dX6_valueOf_21 : decode cX6_valueOf 21 = .ok (.iconst 3, 1) := by decide +kernel
theorem dX6_valueOf_22 : decode cX6_valueOf 22 = .ok (.iload_n 2, 1) := by decide +kernel
theorem dX6_valueOf_23 : decode cX6_valueOf 23 = .ok (.bipush 6, 2) := by decide +kernel
theorem dX6_valueOf_25 : decode cX6_valueOf 25 = .ok (.idiv, 1) := by decide +kernel
theorem dX6_valueOf_26 : decode cX6_valueOf 26 = .ok (.iastore, 1) := by decide +kernel
theorem dX6_valueOf_27 : decode cX6_valueOf 27 = .ok (.iconst 0, 1) := by decide +kernel
theorem dX6_valueOf_28 : decode cX6_valueOf 28 = .ok (.istore 4, 2) := by decide +kernel
theorem dX6_valueOf_30 : decode cX6_valueOf 30 = .ok (.iconst 0, 1) := by decide +kernel
theorem dX6_valueOf_31 : decode cX6_valueOf 31 = .ok (.istore 5, 2) := by decide +kernel
theorem dX6_valueOf_33 : decode cX6_valueOf 33 = .ok (.iload 5, 2) := by decide +kernel
theorem dX6_valueOf_35 : decode cX6_valueOf 35 = .ok (.aload_n 1, 1) := by decide +kernel
theorem dX6_valueOf_36 : decode cX6_valueOf 36 = .ok (.arraylength, 1) := by decide +kernel
theorem dX6_valueOf_37 : decode cX6_valueOf 37 = .ok (.if_icmp .ge 368, 3) := by decide +kernel
theorem dX6_valueOf_40 : decode cX6_valueOf 40 = .ok (.aload_n 1, 1) := by decide +kernel
theorem dX6_valueOf_41 : decode cX6_valueOf 41 = .ok (.iload 5, 2) := by decide +kernel
theorem dX6_valueOf_43 : decode cX6_valueOf 43 = .ok (.iaload, 1) := by decide +kernel
theorem dX6_valueOf_44 : decode cX6_valueOf 44 = .ok (.bipush 15, 2) := by decide +kernel
theorem dX6_valueOf_46 : decode cX6_valueOf 46 = .ok (.iand, 1) := by decide +kernel
theorem dX6_valueOf_47 : decode cX6_valueOf 47 = .ok (.istore 6, 2) := by decide +kernel
theorem dX6_valueOf_49 : decode cX6_valueOf 49 = .ok (.aload_n 1, 1) := by decide +kernel
theorem dX6_valueOf_50 : decode cX6_valueOf 50 = .ok (.iload 5, 2) := by decide +kernel
theorem dX6_valueOf_52 : decode cX6_valueOf 52 = .ok (.iaload, 1) := by decide +kernel
theorem dX6_valueOf_53 : decode cX6_valueOf 53 = .ok (.iconst 4, 1) := by decide +kernel
theorem dX6_valueOf_54 : decode cX6_valueOf 54 = .ok (.ishr, 1) := by decide +kernel
theorem dX6_valueOf_55 : decode cX6_valueOf 55 = .ok (.istore 7, 2) := by decide +kernel
theorem dX6_valueOf_57 : decode cX6_valueOf 57 = .ok (.iload 4, 2) := by decide +kernel
theorem dX6_valueOf_59 : decode cX6_valueOf 59 = .ok (.iload 6, 2) := by decide +kernel
theorem dX6_valueOf_61 : decode cX6_valueOf 61 = .ok (.iconst 4, 1) := by decide +kernel
theorem dX6_valueOf_62 : decode cX6_valueOf 62 = .ok (.if_icmp .lt 7, 3) := by decide +kernel
theorem dX6_valueOf_65 : decode cX6_valueOf 65 = .ok (.iconst 2, 1) := by decide +kernel
theorem dX6_valueOf_66 : decode cX6_valueOf 66 = .ok (.goto 14, 3) := by decide +kernel
theorem dX6_valueOf_69 : decode cX6_valueOf 69 = .ok (.iload 6, 2) := by decide +kernel
theorem dX6_valueOf_71 : decode cX6_valueOf 71 = .ok (.iconst 2, 1) := by decide +kernel
theorem dX6_valueOf_72 : decode cX6_valueOf 72 = .ok (.if_icmp .lt 7, 3) := by decide +kernel
theorem dX6_valueOf_75 : decode cX6_valueOf 75 = .ok (.iconst 1, 1) := by decide +kernel
theorem dX6_valueOf_76 : decode cX6_valueOf 76 = .ok (.goto 4, 3) := by decide +kernel
theorem dX6_valueOf_79 : decode cX6_valueOf 79 = .ok (.iconst 0, 1) := by decide +kernel
theorem dX6_valueOf_80 : decode cX6_valueOf 80 = .ok (.isub, 1) := by decide +kernel
theorem dX6_valueOf_81 : decode cX6_valueOf 81 = .ok (.istore 4, 2) := by decide +kernel
theorem dX6_valueOf_83 : decode cX6_valueOf 83 = .ok (.iload 4, 2) := by decide +kernel
theorem dX6_valueOf_85 : decode cX6_valueOf 85 = .ok (.ifCond .lt 20, 3) := by decide +kernel
theorem dX6_valueOf_88 : decode cX6_valueOf 88 = .ok (.iload 4, 2) := by decide +kernel
theorem dX6_valueOf_90 : decode cX6_valueOf 90 = .ok (.iconst 1, 1) := by decide +kernel
theorem dX6_valueOf_91 : decode cX6_valueOf 91 = .ok (.iadd, 1) := by decide +kernel
theorem dX6_valueOf_92 : decode cX6_valueOf 92 = .ok (.aload_n 0, 1) := by decide +kernel
theorem dX6_valueOf_93 : decode cX6_valueOf 93 = .ok (.getfield 17, 3) := by decide +kernel
theorem dX6_valueOf_96 : decode cX6_valueOf 96 = .ok (.arraylength, 1) := by decide +kernel
theorem dX6_valueOf_97 : decode cX6_valueOf 97 = .ok (.if_icmp .ge 8, 3) := by decide +kernel
theorem dX6_valueOf_100 : decode cX6_valueOf 100 = .ok (.iload 7, 2) := by decide +kernel
theorem dX6_valueOf_102 : decode cX6_valueOf 102 = .ok (.ifCond .ge 5, 3) := by decide +kernel
theorem dX6_valueOf_105 : decode cX6_valueOf 105 = .ok (.iconst 0, 1) := by decide +kernel
theorem dX6_valueOf_106 : decode cX6_valueOf 106 = .ok (.ireturn, 1) := by decide +kernel
theorem dX6_valueOf_107 : decode cX6_valueOf 107 = .ok (.aload_n 0, 1) := by decide +kernel
theorem dX6_valueOf_108 : decode cX6_valueOf 108 = .ok (.getfield 17, 3) := by decide +kernel
theorem dX6_valueOf_111 : decode cX6_valueOf 111 = .ok (.iload 4, 2) := by decide +kernel
theorem dX6_valueOf_113 : decode cX6_valueOf 113 = .ok (.iaload, 1) := by decide +kernel
theorem dX6_valueOf_114 : decode cX6_valueOf 114 = .ok (.istore 8, 2) := by decide +kernel
theorem dX6_valueOf_116 : decode cX6_valueOf 116 = .ok (.aload_n 0, 1) := by decide +kernel
theorem dX6_valueOf_117 : decode cX6_valueOf 117 = .ok (.getfield 17, 3) := by decide +kernel
theorem dX6_valueOf_120 : decode cX6_valueOf 120 = .ok (.iload 4, 2) := by decide +kernel
theorem dX6_valueOf_122 : decode cX6_valueOf 122 = .ok (.iconst 1, 1) := by decide +kernel
theorem dX6_valueOf_123 : decode cX6_valueOf 123 = .ok (.iadd, 1) := by decide +kernel
theorem dX6_valueOf_124 : decode cX6_valueOf 124 = .ok (.iaload, 1) := by decide +kernel
theorem dX6_valueOf_125 : decode cX6_valueOf 125 = .ok (.istore 9, 2) := by decide +kernel
theorem dX6_valueOf_127 : decode cX6_valueOf 127 = .ok (.iload 6, 2) := by decide +kernel
theorem dX6_valueOf_129 : decode cX6_valueOf 129 = .ok (.tableswitch 255 0 9 #[55, 67, 98, 118, 131, 156, 181, 203, 225, 240], 55) := by decide +kernel
theorem dX6_valueOf_184 : decode cX6_valueOf 184 = .ok (.aload_n 0, 1) := by decide +kernel
theorem dX6_valueOf_185 : decode cX6_valueOf 185 = .ok (.getfield 17, 3) := by decide +kernel
theorem dX6_valueOf_188 : decode cX6_valueOf 188 = .ok (.iload 4, 2) := by decide +kernel
theorem dX6_valueOf_190 : decode cX6_valueOf 190 = .ok (.iload 7, 2) := by decide +kernel
theorem dX6_valueOf_192 : decode cX6_valueOf 192 = .ok (.iastore, 1) := by decide +kernel
theorem dX6_valueOf_193 : decode cX6_valueOf 193 = .ok (.goto 203, 3) := by decide +kernel
theorem dX6_valueOf_196 : decode cX6_valueOf 196 = .ok (.aload_n 0, 1) := by decide +kernel
theorem dX6_valueOf_197 : decode cX6_valueOf 197 = .ok (.getfield 17, 3) := by decide +kernel
theorem dX6_valueOf_200 : decode cX6_valueOf 200 = .ok (.iload 4, 2) := by decide +kernel
theorem dX6_valueOf_202 : decode cX6_valueOf 202 = .ok (.iload 7, 2) := by decide +kernel
theorem dX6_valueOf_204 : decode cX6_valueOf 204 = .ok (.aload_n 0, 1) := by decide +kernel
theorem dX6_valueOf_205 : decode cX6_valueOf 205 = .ok (.getfield 11, 3) := by decide +kernel
theorem dX6_valueOf_208 : decode cX6_valueOf 208 = .ok (.arraylength, 1) := by decide +kernel
theorem dX6_valueOf_209 : decode cX6_valueOf 209 = .ok (.if_icmp .ge 13, 3) := by decide +kernel
theorem dX6_valueOf_212 : decode cX6_valueOf 212 = .ok (.aload_n 0, 1) := by decide +kernel
theorem dX6_valueOf_213 : decode cX6_valueOf 213 = .ok (.getfield 11, 3) := by decide +kernel
theorem dX6_valueOf_216 : decode cX6_valueOf 216 = .ok (.iload 7, 2) := by decide +kernel
theorem dX6_valueOf_218 : decode cX6_valueOf 218 = .ok (.iaload, 1) := by decide +kernel
theorem dX6_valueOf_219 : decode cX6_valueOf 219 = .ok (.goto 4, 3) := by decide +kernel
theorem dX6_valueOf_222 : decode cX6_valueOf 222 = .ok (.iconst 0, 1) := by decide +kernel
theorem dX6_valueOf_223 : decode cX6_valueOf 223 = .ok (.iastore, 1) := by decide +kernel
theorem dX6_valueOf_224 : decode cX6_valueOf 224 = .ok (.goto 172, 3) := by decide +kernel
theorem dX6_valueOf_227 : decode cX6_valueOf 227 = .ok (.aload_n 0, 1) := by decide +kernel
theorem dX6_valueOf_228 : decode cX6_valueOf 228 = .ok (.getfield 17, 3) := by decide +kernel
theorem dX6_valueOf_231 : decode cX6_valueOf 231 = .ok (.iload 4, 2) := by decide +kernel
theorem dX6_valueOf_233 : decode cX6_valueOf 233 = .ok (.iload 8, 2) := by decide +kernel
theorem dX6_valueOf_235 : decode cX6_valueOf 235 = .ok (.ifCond .ne 7, 3) := by decide +kernel
theorem dX6_valueOf_238 : decode cX6_valueOf 238 = .ok (.iconst 1, 1) := by decide +kernel
theorem dX6_valueOf_239 : decode cX6_valueOf 239 = .ok (.goto 4, 3) := by decide +kernel
theorem dX6_valueOf_242 : decode cX6_valueOf 242 = .ok (.iconst 0, 1) := by decide +kernel
theorem dX6_valueOf_243 : decode cX6_valueOf 243 = .ok (.iastore, 1) := by decide +kernel
theorem dX6_valueOf_244 : decode cX6_valueOf 244 = .ok (.goto 152, 3) := by decide +kernel
theorem dX6_valueOf_247 : decode cX6_valueOf 247 = .ok (.aload_n 0, 1) := by decide +kernel
theorem dX6_valueOf_248 : decode cX6_valueOf 248 = .ok (.getfield 17, 3) := by decide +kernel
theorem dX6_valueOf_251 : decode cX6_valueOf 251 = .ok (.iload 4, 2) := by decide +kernel
theorem dX6_valueOf_253 : decode cX6_valueOf 253 = .ok (.iload 8, 2) := by decide +kernel
theorem dX6_valueOf_255 : decode cX6_valueOf 255 = .ok (.ineg, 1) := by decide +kernel
theorem dX6_valueOf_256 : decode cX6_valueOf 256 = .ok (.iastore, 1) := by decide +kernel
theorem dX6_valueOf_257 : decode cX6_valueOf 257 = .ok (.goto 139, 3) := by decide +kernel
theorem dX6_valueOf_260 : decode cX6_valueOf 260 = .ok (.aload_n 0, 1) := by decide +kernel
theorem dX6_valueOf_261 : decode cX6_valueOf 261 = .ok (.getfield 17, 3) := by decide +kernel
theorem dX6_valueOf_264 : decode cX6_valueOf 264 = .ok (.iload 4, 2) := by decide +kernel
theorem dX6_valueOf_266 : decode cX6_valueOf 266 = .ok (.iload 8, 2) := by decide +kernel
theorem dX6_valueOf_268 : decode cX6_valueOf 268 = .ok (.ifCond .ne 8, 3) := by decide +kernel
theorem dX6_valueOf_271 : decode cX6_valueOf 271 = .ok (.iload 9, 2) := by decide +kernel
theorem dX6_valueOf_273 : decode cX6_valueOf 273 = .ok (.ifCond .eq 7, 3) := by decide +kernel
theorem dX6_valueOf_276 : decode cX6_valueOf 276 = .ok (.iconst 1, 1) := by decide +kernel
theorem dX6_valueOf_277 : decode cX6_valueOf 277 = .ok (.goto 4, 3) := by decide +kernel
theorem dX6_valueOf_280 : decode cX6_valueOf 280 = .ok (.iconst 0, 1) := by decide +kernel
theorem dX6_valueOf_281 : decode cX6_valueOf 281 = .ok (.iastore, 1) := by decide +kernel
theorem dX6_valueOf_282 : decode cX6_valueOf 282 = .ok (.goto 114, 3) := by decide +kernel
theorem dX6_valueOf_285 : decode cX6_valueOf 285 = .ok (.aload_n 0, 1) := by decide +kernel
theorem dX6_valueOf_286 : decode cX6_valueOf 286 = .ok (.getfield 17, 3) := by decide +kernel
theorem dX6_valueOf_289 : decode cX6_valueOf 289 = .ok (.iload 4, 2) := by decide +kernel
theorem dX6_valueOf_291 : decode cX6_valueOf 291 = .ok (.iload 8, 2) := by decide +kernel
theorem dX6_valueOf_293 : decode cX6_valueOf 293 = .ok (.ifCond .eq 12, 3) := by decide +kernel
theorem dX6_valueOf_296 : decode cX6_valueOf 296 = .ok (.iload 9, 2) := by decide +kernel
theorem dX6_valueOf_298 : decode cX6_valueOf 298 = .ok (.ifCond .eq 7, 3) := by decide +kernel
theorem dX6_valueOf_301 : decode cX6_valueOf 301 = .ok (.iconst 1, 1) := by decide +kernel
theorem dX6_valueOf_302 : decode cX6_valueOf 302 = .ok (.goto 4, 3) := by decide +kernel
theorem dX6_valueOf_305 : decode cX6_valueOf 305 = .ok (.iconst 0, 1) := by decide +kernel
theorem dX6_valueOf_306 : decode cX6_valueOf 306 = .ok (.iastore, 1) := by decide +kernel
theorem dX6_valueOf_307 : decode cX6_valueOf 307 = .ok (.goto 89, 3) := by decide +kernel
theorem dX6_valueOf_310 : decode cX6_valueOf 310 = .ok (.aload_n 0, 1) := by decide +kernel
theorem dX6_valueOf_311 : decode cX6_valueOf 311 = .ok (.getfield 17, 3) := by decide +kernel
theorem dX6_valueOf_314 : decode cX6_valueOf 314 = .ok (.iload 4, 2) := by decide +kernel
theorem dX6_valueOf_316 : decode cX6_valueOf 316 = .ok (.iload 8, 2) := by decide +kernel
theorem dX6_valueOf_318 : decode cX6_valueOf 318 = .ok (.iload 9, 2) := by decide +kernel
theorem dX6_valueOf_320 : decode cX6_valueOf 320 = .ok (.if_icmp .ge 7, 3) := by decide +kernel
theorem dX6_valueOf_323 : decode cX6_valueOf 323 = .ok (.iconst 1, 1) := by decide +kernel
theorem dX6_valueOf_324 : decode cX6_valueOf 324 = .ok (.goto 4, 3) := by decide +kernel
theorem dX6_valueOf_327 : decode cX6_valueOf 327 = .ok (.iconst 0, 1) := by decide +kernel
theorem dX6_valueOf_328 : decode cX6_valueOf 328 = .ok (.iastore, 1) := by decide +kernel
theorem dX6_valueOf_329 : decode cX6_valueOf 329 = .ok (.goto 67, 3) := by decide +kernel
theorem dX6_valueOf_332 : decode cX6_valueOf 332 = .ok (.aload_n 0, 1) := by decide +kernel
theorem dX6_valueOf_333 : decode cX6_valueOf 333 = .ok (.getfield 17, 3) := by decide +kernel
theorem dX6_valueOf_336 : decode cX6_valueOf 336 = .ok (.iload 4, 2) := by decide +kernel
theorem dX6_valueOf_338 : decode cX6_valueOf 338 = .ok (.iload 8, 2) := by decide +kernel
theorem dX6_valueOf_340 : decode cX6_valueOf 340 = .ok (.iload 9, 2) := by decide +kernel
theorem dX6_valueOf_342 : decode cX6_valueOf 342 = .ok (.if_icmp .ne 7, 3) := by decide +kernel
theorem dX6_valueOf_345 : decode cX6_valueOf 345 = .ok (.iconst 1, 1) := by decide +kernel
theorem dX6_valueOf_346 : decode cX6_valueOf 346 = .ok (.goto 4, 3) := by decide +kernel
theorem dX6_valueOf_349 : decode cX6_valueOf 349 = .ok (.iconst 0, 1) := by decide +kernel
theorem dX6_valueOf_350 : decode cX6_valueOf 350 = .ok (.iastore, 1) := by decide +kernel
theorem dX6_valueOf_351 : decode cX6_valueOf 351 = .ok (.goto 45, 3) := by decide +kernel
theorem dX6_valueOf_354 : decode cX6_valueOf 354 = .ok (.aload_n 0, 1) := by decide +kernel
theorem dX6_valueOf_355 : decode cX6_valueOf 355 = .ok (.getfield 17, 3) := by decide +kernel
theorem dX6_valueOf_358 : decode cX6_valueOf 358 = .ok (.iload 4, 2) := by decide +kernel
theorem dX6_valueOf_360 : decode cX6_valueOf 360 = .ok (.iload 8, 2) := by decide +kernel
theorem dX6_valueOf_362 : decode cX6_valueOf 362 = .ok (.iload 9, 2) := by decide +kernel
theorem dX6_valueOf_364 : decode cX6_valueOf 364 = .ok (.iadd, 1) := by decide +kernel
theorem dX6_valueOf_365 : decode cX6_valueOf 365 = .ok (.iastore, 1) := by decide +kernel
theorem dX6_valueOf_366 : decode cX6_valueOf 366 = .ok (.goto 30, 3) := by decide +kernel
theorem dX6_valueOf_369 : decode cX6_valueOf 369 = .ok (.aload_n 0, 1) := by decide +kernel
theorem dX6_valueOf_370 : decode cX6_valueOf 370 = .ok (.getfield 17, 3) := by decide +kernel
theorem dX6_valueOf_373 : decode cX6_valueOf 373 = .ok (.iload 4, 2) := by decide +kernel
theorem dX6_valueOf_375 : decode cX6_valueOf 375 = .ok (.iload 8, 2) := by decide +kernel
theorem dX6_valueOf_377 : decode cX6_valueOf 377 = .ok (.iload 9, 2) := by decide +kernel
theorem dX6_valueOf_379 : decode cX6_valueOf 379 = .ok (.isub, 1) := by decide +kernel
theorem dX6_valueOf_380 : decode cX6_valueOf 380 = .ok (.iastore, 1) := by decide +kernel
theorem dX6_valueOf_381 : decode cX6_valueOf 381 = .ok (.goto 15, 3) := by decide +kernel
theorem dX6_valueOf_384 : decode cX6_valueOf 384 = .ok (.aload_n 0, 1) := by decide +kernel
theorem dX6_valueOf_385 : decode cX6_valueOf 385 = .ok (.getfield 17, 3) := by decide +kernel
theorem dX6_valueOf_388 : decode cX6_valueOf 388 = .ok (.iload 4, 2) := by decide +kernel
theorem dX6_valueOf_390 : decode cX6_valueOf 390 = .ok (.iload 8, 2) := by decide +kernel
theorem dX6_valueOf_392 : decode cX6_valueOf 392 = .ok (.iload 9, 2) := by decide +kernel
theorem dX6_valueOf_394 : decode cX6_valueOf 394 = .ok (.imul, 1) := by decide +kernel
theorem dX6_valueOf_395 : decode cX6_valueOf 395 = .ok (.iastore, 1) := by decide +kernel
theorem dX6_valueOf_396 : decode cX6_valueOf 396 = .ok (.iinc 4 1, 3) := by decide +kernel
theorem dX6_valueOf_399 : decode cX6_valueOf 399 = .ok (.iinc 5 1, 3) := by decide +kernel
theorem dX6_valueOf_402 : decode cX6_valueOf 402 = .ok (.goto (-369), 3) := by decide +kernel
theorem dX6_valueOf_405 : decode cX6_valueOf 405 = .ok (.aload_n 0, 1) := by decide +kernel
theorem dX6_valueOf_406 : decode cX6_valueOf 406 = .ok (.getfield 17, 3) := by decide +kernel
theorem dX6_valueOf_409 : decode cX6_valueOf 409 = .ok (.iconst 0, 1) := by decide +kernel
theorem dX6_valueOf_410 : decode cX6_valueOf 410 = .ok (.iaload, 1) := by decide +kernel
theorem dX6_valueOf_411 : decode cX6_valueOf 411 = .ok (.ireturn, 1) := by decide +kernel
theorem dX7_init_0 : decode cX7_init 0 = .ok (.aload_n 0, 1) := by decide +kernel
theorem dX7_init_1 : decode cX7_init 1 = .ok (.invokespecial 3, 3) := by decide +kernel
theorem dX7_init_4 : decode cX7_init 4 = .ok (.aload_n 0, 1) := by decide +kernel
theorem dX7_init_5 : decode cX7_init 5 = .ok (.bipush 36, 2) := by decide +kernel
theorem dX7_init_7 : decode cX7_init 7 = .ok (.newarray .int, 2) := by decide +kernel
theorem dX7_init_9 : decode cX7_init 9 = .ok (.putfield 9, 3) := by decide +kernel
theorem dX7_init_12 : decode cX7_init 12 = .ok (.aload_n 0, 1) := by decide +kernel
theorem dX7_init_13 : decode cX7_init 13 = .ok (.bipush 36, 2) := by decide +kernel
theorem dX7_init_15 : decode cX7_init 15 = .ok (.newarray .int, 2) := by decide +kernel
theorem dX7_init_17 : decode cX7_init 17 = .ok (.putfield 15, 3) := by decide +kernel
theorem dX7_init_20 : decode cX7_init 20 = .ok (.aload_n 0, 1) := by decide +kernel
theorem dX7_init_21 : decode cX7_init 21 = .ok (.bipush 36, 2) := by decide +kernel
theorem dX7_init_23 : decode cX7_init 23 = .ok (.newarray .int, 2) := by decide +kernel
theorem dX7_init_25 : decode cX7_init 25 = .ok (.putfield 18, 3) := by decide +kernel
theorem dX7_init_28 : decode cX7_init 28 = .ok (.aload_n 0, 1) := by decide +kernel
theorem dX7_init_29 : decode cX7_init 29 = .ok (.bipush 36, 2) := by decide +kernel
theorem dX7_init_31 : decode cX7_init 31 = .ok (.newarray .int, 2) := by decide +kernel
theorem dX7_init_33 : decode cX7_init 33 = .ok (.putfield 21, 3) := by decide +kernel
theorem dX7_init_36 : decode cX7_init 36 = .ok (.aload_n 0, 1) := by decide +kernel
theorem dX7_init_37 : decode cX7_init 37 = .ok (.sipush 288, 3) := by decide +kernel
theorem dX7_init_40 : decode cX7_init 40 = .ok (.newarray .int, 2) := by decide +kernel
theorem dX7_init_42 : decode cX7_init 42 = .ok (.putfield 24, 3) := by decide +kernel
theorem dX7_init_45 : decode cX7_init 45 = .ok (.aload_n 0, 1) := by decide +kernel
theorem dX7_init_46 : decode cX7_init 46 = .ok (.iconst 0, 1) := by decide +kernel
theorem dX7_init_47 : decode cX7_init 47 = .ok (.putfield 27, 3) := by decide +kernel
theorem dX7_init_50 : decode cX7_init 50 = .ok (.aload_n 0, 1) := by decide +kernel
theorem dX7_init_51 : decode cX7_init 51 = .ok (.iconst 0, 1) := by decide +kernel
theorem dX7_init_52 : decode cX7_init 52 = .ok (.putfield 31, 3) := by decide +kernel
theorem dX7_init_55 : decode cX7_init 55 = .ok (.aload_n 0, 1) := by decide +kernel
theorem dX7_init_56 : decode cX7_init 56 = .ok (.lconst 0, 1) := by decide +kernel
theorem dX7_init_57 : decode cX7_init 57 = .ok (.putfield 34, 3) := by decide +kernel
theorem dX7_init_60 : decode cX7_init 60 = .ok (.return_, 1) := by decide +kernel
theorem dX7_explore_0 : decode cX7_explore 0 = .ok (.aload_n 0, 1) := by decide +kernel
theorem dX7_explore_1 : decode cX7_explore 1 = .ok (.getfield 9, 3) := by decide +kernel
theorem dX7_explore_4 : decode cX7_explore 4 = .ok (.iconst (-1), 1) := by decide +kernel
theorem dX7_explore_5 : decode cX7_explore 5 = .ok (.invokestatic 38, 3) := by decide +kernel
theorem dX7_explore_8 : decode cX7_explore 8 = .ok (.aload_n 0, 1) := by decide +kernel
theorem dX7_explore_9 : decode cX7_explore 9 = .ok (.iconst 0, 1) := by decide +kernel
theorem dX7_explore_10 : decode cX7_explore 10 = .ok (.putfield 27, 3) := by decide +kernel
theorem dX7_explore_13 : decode cX7_explore 13 = .ok (.aload_n 0, 1) := by decide +kernel
theorem dX7_explore_14 : decode cX7_explore 14 = .ok (.iconst 0, 1) := by decide +kernel
theorem dX7_explore_15 : decode cX7_explore 15 = .ok (.putfield 31, 3) := by decide +kernel
theorem dX7_explore_18 : decode cX7_explore 18 = .ok (.aload_n 0, 1) := by decide +kernel
theorem dX7_explore_19 : decode cX7_explore 19 = .ok (.lconst 0, 1) := by decide +kernel
theorem dX7_explore_20 : decode cX7_explore 20 = .ok (.putfield 34, 3) := by decide +kernel
theorem dX7_explore_23 : decode cX7_explore 23 = .ok (.aload_n 0, 1) := by decide +kernel
theorem dX7_explore_24 : decode cX7_explore 24 = .ok (.iload_n 2, 1) := by decide +kernel
theorem dX7_explore_25 : decode cX7_explore 25 = .ok (.iload_n 2, 1) := by decide +kernel
theorem dX7_explore_26 : decode cX7_explore 26 = .ok (.iconst 0, 1) := by decide +kernel
theorem dX7_explore_27 : decode cX7_explore 27 = .ok (.iconst 0, 1) := by decide +kernel
theorem dX7_explore_28 : decode cX7_explore 28 = .ok (.invokevirtual 44, 3) := by decide +kernel
theorem dX7_explore_31 : decode cX7_explore 31 = .ok (.iconst 0, 1) := by decide +kernel
theorem dX7_explore_32 : decode cX7_explore 32 = .ok (.istore_n 3, 1) := by decide +kernel
theorem dX7_explore_33 : decode cX7_explore 33 = .ok (.iload_n 3, 1) := by decide +kernel
theorem dX7_explore_34 : decode cX7_explore 34 = .ok (.aload_n 0, 1) := by decide +kernel
theorem dX7_explore_35 : decode cX7_explore 35 = .ok (.getfield 27, 3) := by decide +kernel
theorem dX7_explore_38 : decode cX7_explore 38 = .ok (.if_icmp .ge 26, 3) := by decide +kernel
theorem dX7_explore_41 : decode cX7_explore 41 = .ok (.iload_n 3, 1) := by decide +kernel
theorem dX7_explore_42 : decode cX7_explore 42 = .ok (.bipush 36, 2) := by decide +kernel
theorem dX7_explore_44 : decode cX7_explore 44 = .ok (.if_icmp .ge 20, 3) := by decide +kernel
theorem dX7_explore_47 : decode cX7_explore 47 = .ok (.aload_n 0, 1) := by decide +kernel
theorem dX7_explore_48 : decode cX7_explore 48 = .ok (.aload_n 1, 1) := by decide +kernel
theorem dX7_explore_49 : decode cX7_explore 49 = .ok (.aload_n 0, 1) := by decide +kernel
theorem dX7_explore_50 : decode cX7_explore 50 = .ok (.getfield 21, 3) := by decide +kernel
theorem dX7_explore_53 : decode cX7_explore 53 = .ok (.iload_n 3, 1) := by decide +kernel
theorem dX7_explore_54 : decode cX7_explore 54 = .ok (.iaload, 1) := by decide +kernel
theorem dX7_explore_55 : decode cX7_explore 55 = .ok (.invokevirtual 48, 3) := by decide +kernel
theorem dX7_explore_58 : decode cX7_explore 58 = .ok (.iinc 3 1, 3) := by decide +kernel
theorem dX7_explore_61 : decode cX7_explore 61 = .ok (.goto (-28), 3) := by decide +kernel
theorem dX7_explore_64 : decode cX7_explore 64 = .ok (.return_, 1) := by decide +kernel
theorem dX7_leave_0 : decode cX7_leave 0 = .ok (.iload_n 2, 1) := by decide +kernel
theorem dX7_leave_1 : decode cX7_leave 1 = .ok (.bipush 36, 2) := by decide +kernel
theorem dX7_leave_3 : decode cX7_leave 3 = .ok (.invokestatic 52, 3) := by decide +kernel
theorem dX7_leave_6 : decode cX7_leave 6 = .ok (.ifCond .ne 4, 3) := by decide +kernel
theorem dX7_leave_9 : decode cX7_leave 9 = .ok (.return_, 1) := by decide +kernel
theorem dX7_leave_10 : decode cX7_leave 10 = .ok (.iconst 0, 1) := by decide +kernel
theorem dX7_leave_11 : decode cX7_leave 11 = .ok (.istore_n 3, 1) := by decide +kernel
theorem dX7_leave_12 : decode cX7_leave 12 = .ok (.iconst 0, 1) := by decide +kernel
theorem dX7_leave_13 : decode cX7_leave 13 = .ok (.istore 4, 2) := by decide +kernel
theorem dX7_leave_15 : decode cX7_leave 15 = .ok (.iload 4, 2) := by decide +kernel
theorem dX7_leave_17 : decode cX7_leave 17 = .ok (.bipush 8, 2) := by decide +kernel
theorem dX7_leave_19 : decode cX7_leave 19 = .ok (.if_icmp .ge 70, 3) := by decide +kernel
theorem dX7_leave_22 : decode cX7_leave 22 = .ok (.aload_n 1, 1) := by decide +kernel
theorem dX7_leave_23 : decode cX7_leave 23 = .ok (.iload_n 2, 1) := by decide +kernel
theorem dX7_leave_24 : decode cX7_leave 24 = .ok (.iload 4, 2) := by decide +kernel
theorem dX7_leave_26 : decode cX7_leave 26 = .ok (.invokevirtual 56, 3) := by decide +kernel
theorem dX7_leave_29 : decode cX7_leave 29 = .ok (.istore 5, 2) := by decide +kernel
theorem dX7_leave_31 : decode cX7_leave 31 = .ok (.aload_n 0, 1) := by decide +kernel
theorem dX7_leave_32 : decode cX7_leave 32 = .ok (.getfield 24, 3) := by decide +kernel
theorem dX7_leave_35 : decode cX7_leave 35 = .ok (.iload_n 2, 1) := by decide +kernel
theorem dX7_leave_36 : decode cX7_leave 36 = .ok (.bipush 8, 2) := by decide +kernel
theorem dX7_leave_38 : decode cX7_leave 38 = .ok (.imul, 1) := by decide +kernel
theorem dX7_leave_39 : decode cX7_leave 39 = .ok (.iload 4, 2) := by decide +kernel
theorem dX7_leave_41 : decode cX7_leave 41 = .ok (.iadd, 1) := by decide +kernel
theorem dX7_leave_42 : decode cX7_leave 42 = .ok (.iload 5, 2) := by decide +kernel
theorem dX7_leave_44 : decode cX7_leave 44 = .ok (.iastore, 1) := by decide +kernel
theorem dX7_leave_45 : decode cX7_leave 45 = .ok (.iload 5, 2) := by decide +kernel
theorem dX7_leave_47 : decode cX7_leave 47 = .ok (.iload_n 2, 1) := by decide +kernel
theorem dX7_leave_48 : decode cX7_leave 48 = .ok (.if_icmp .eq 35, 3) := by decide +kernel
theorem dX7_leave_51 : decode cX7_leave 51 = .ok (.iconst 1, 1) := by decide +kernel
theorem dX7_leave_52 : decode cX7_leave 52 = .ok (.istore_n 3, 1) := by decide +kernel
theorem dX7_leave_53 : decode cX7_leave 53 = .ok (.aload_n 0, 1) := by decide +kernel
theorem dX7_leave_54 : decode cX7_leave 54 = .ok (.dup, 1) := by decide +kernel
theorem dX7_leave_55 : decode cX7_leave 55 = .ok (.getfield 31, 3) := by decide +kernel
theorem dX7_leave_58 : decode cX7_leave 58 = .ok (.iconst 1, 1) := by decide +kernel
theorem dX7_leave_59 : decode cX7_leave 59 = .ok (.iload 4, 2) := by decide +kernel
theorem dX7_leave_61 : decode cX7_leave 61 = .ok (.ishl, 1) := by decide +kernel
theorem dX7_leave_62 : decode cX7_leave 62 = .ok (.ior, 1) := by decide +kernel
theorem dX7_leave_63 : decode cX7_leave 63 = .ok (.putfield 31, 3) := by decide +kernel
theorem dX7_leave_66 : decode cX7_leave 66 = .ok (.aload_n 0, 1) := by decide +kernel
theorem dX7_leave_67 : decode cX7_leave 67 = .ok (.iload 5, 2) := by decide +kernel
theorem dX7_leave_69 : decode cX7_leave 69 = .ok (.iload_n 2, 1) := by decide +kernel
theorem dX7_leave_70 : decode cX7_leave 70 = .ok (.iload 4, 2) := by decide +kernel
theorem dX7_leave_72 : decode cX7_leave 72 = .ok (.aload_n 0, 1) := by decide +kernel
theorem dX7_leave_73 : decode cX7_leave 73 = .ok (.getfield 9, 3) := by decide +kernel
theorem dX7_leave_76 : decode cX7_leave 76 = .ok (.iload_n 2, 1) := by decide +kernel
theorem dX7_leave_77 : decode cX7_leave 77 = .ok (.iaload, 1) := by decide +kernel
theorem dX7_leave_78 : decode cX7_leave 78 = .ok (.iconst 1, 1) := by decide +kernel
theorem dX7_leave_79 : decode cX7_leave 79 = .ok (.iadd, 1) := by decide +kernel
theorem dX7_leave_80 : decode cX7_leave 80 = .ok (.invokevirtual 44, 3) := by decide +kernel
theorem dX7_leave_83 : decode cX7_leave 83 = .ok (.iinc 4 1, 3) := by decide +kernel
theorem dX7_leave_86 : decode cX7_leave 86 = .ok (.goto (-71), 3) := by decide +kernel
theorem dX7_leave_89 : decode cX7_leave 89 = .ok (.aload_n 0, 1) := by decide +kernel
theorem dX7_leave_90 : decode cX7_leave 90 = .ok (.dup, 1) := by decide +kernel
theorem dX7_leave_91 : decode cX7_leave 91 = .ok (.getfield 34, 3) := by decide +kernel
theorem dX7_leave_94 : decode cX7_leave 94 = .ok (.iload_n 3, 1) := by decide +kernel
theorem dX7_leave_95 : decode cX7_leave 95 = .ok (.ifCond .eq 7, 3) := by decide +kernel
theorem dX7_leave_98 : decode cX7_leave 98 = .ok (.lconst 0, 1) := by decide +kernel
theorem dX7_leave_99 : decode cX7_leave 99 = .ok (.goto 6, 3) := by decide +kernel
theorem dX7_leave_102 : decode cX7_leave 102 = .ok (.lconst 1, 1) := by decide +kernel
theorem dX7_leave_103 : decode cX7_leave 103 = .ok (.iload_n 2, 1) := by decide +kernel
theorem dX7_leave_104 : decode cX7_leave 104 = .ok (.lshl, 1) := by decide +kernel
theorem dX7_leave_105 : decode cX7_leave 105 = .ok (.lor, 1) := by decide +kernel
theorem dX7_leave_106 : decode cX7_leave 106 = .ok (.putfield 34, 3) := by decide +kernel
theorem dX7_leave_109 : decode cX7_leave 109 = .ok (.return_, 1) := by decide +kernel
theorem dX7_discover_0 : decode cX7_discover 0 = .ok (.iload_n 1, 1) := by decide +kernel
theorem dX7_discover_1 : decode cX7_discover 1 = .ok (.bipush 36, 2) := by decide +kernel
theorem dX7_discover_3 : decode cX7_discover 3 = .ok (.invokestatic 52, 3) := by decide +kernel
theorem dX7_discover_6 : decode cX7_discover 6 = .ok (.ifCond .eq 67, 3) := by decide +kernel
theorem dX7_discover_9 : decode cX7_discover 9 = .ok (.aload_n 0, 1) := by decide +kernel
theorem dX7_discover_10 : decode cX7_discover 10 = .ok (.getfield 9, 3) := by decide +kernel
theorem dX7_discover_13 : decode cX7_discover 13 = .ok (.iload_n 1, 1) := by decide +kernel
theorem dX7_discover_14 : decode cX7_discover 14 = .ok (.iaload, 1) := by decide +kernel
theorem dX7_discover_15 : decode cX7_discover 15 = .ok (.iconst (-1), 1) := by decide +kernel
theorem dX7_discover_16 : decode cX7_discover 16 = .ok (.if_icmp .ne 57, 3) := by decide +kernel
theorem dX7_discover_19 : decode cX7_discover 19 = .ok (.aload_n 0, 1) := by decide +kernel
theorem dX7_discover_20 : decode cX7_discover 20 = .ok (.getfield 27, 3) := by decide +kernel
theorem dX7_discover_23 : decode cX7_discover 23 = .ok (.bipush 36, 2) := by decide +kernel
theorem dX7_discover_25 : decode cX7_discover 25 = .ok (.invokestatic 52, 3) := by decide +kernel
theorem dX7_discover_28 : decode cX7_discover 28 = .ok (.ifCond .eq 45, 3) := by decide +kernel
theorem dX7_discover_31 : decode cX7_discover 31 = .ok (.aload_n 0, 1) := by decide +kernel
theorem dX7_discover_32 : decode cX7_discover 32 = .ok (.getfield 9, 3) := by decide +kernel
theorem dX7_discover_35 : decode cX7_discover 35 = .ok (.iload_n 1, 1) := by decide +kernel
theorem dX7_discover_36 : decode cX7_discover 36 = .ok (.iload 4, 2) := by decide +kernel
theorem dX7_discover_38 : decode cX7_discover 38 = .ok (.iastore, 1) := by decide +kernel
theorem dX7_discover_39 : decode cX7_discover 39 = .ok (.aload_n 0, 1) := by decide +kernel
theorem dX7_discover_40 : decode cX7_discover 40 = .ok (.getfield 15, 3) := by decide +kernel
theorem dX7_discover_43 : decode cX7_discover 43 = .ok (.iload_n 1, 1) := by decide +kernel
theorem dX7_discover_44 : decode cX7_discover 44 = .ok (.iload_n 2, 1) := by decide +kernel
theorem dX7_discover_45 : decode cX7_discover 45 = .ok (.iastore, 1) := by decide +kernel
theorem dX7_discover_46 : decode cX7_discover 46 = .ok (.aload_n 0, 1) := by decide +kernel
theorem dX7_discover_47 : decode cX7_discover 47 = .ok (.getfield 18, 3) := by decide +kernel
theorem dX7_discover_50 : decode cX7_discover 50 = .ok (.iload_n 1, 1) := by decide +kernel
theorem dX7_discover_51 : decode cX7_discover 51 = .ok (.iload_n 3, 1) := by decide +kernel
theorem dX7_discover_52 : decode cX7_discover 52 = .ok (.iastore, 1) := by decide +kernel
theorem dX7_discover_53 : decode cX7_discover 53 = .ok (.aload_n 0, 1) := by decide +kernel
theorem dX7_discover_54 : decode cX7_discover 54 = .ok (.getfield 21, 3) := by decide +kernel
theorem dX7_discover_57 : decode cX7_discover 57 = .ok (.aload_n 0, 1) := by decide +kernel
theorem dX7_discover_58 : decode cX7_discover 58 = .ok (.getfield 27, 3) := by decide +kernel
theorem dX7_discover_61 : decode cX7_discover 61 = .ok (.iload_n 1, 1) := by decide +kernel
theorem dX7_discover_62 : decode cX7_discover 62 = .ok (.iastore, 1) := by decide +kernel
theorem dX7_discover_63 : decode cX7_discover 63 = .ok (.aload_n 0, 1) := by decide +kernel
theorem dX7_discover_64 : decode cX7_discover 64 = .ok (.dup, 1) := by decide +kernel
theorem dX7_discover_65 : decode cX7_discover 65 = .ok (.getfield 27, 3) := by decide +kernel
theorem dX7_discover_68 : decode cX7_discover 68 = .ok (.iconst 1, 1) := by decide +kernel
theorem dX7_discover_69 : decode cX7_discover 69 = .ok (.iadd, 1) := by decide +kernel
theorem dX7_discover_70 : decode cX7_discover 70 = .ok (.putfield 27, 3) := by decide +kernel
theorem dX7_discover_73 : decode cX7_discover 73 = .ok (.return_, 1) := by decide +kernel
theorem dX7_start_0 : decode cX7_start 0 = .ok (.aload_n 0, 1) := by decide +kernel
theorem dX7_start_1 : decode cX7_start 1 = .ok (.getfield 21, 3) := by decide +kernel
theorem dX7_start_4 : decode cX7_start 4 = .ok (.iconst 0, 1) := by decide +kernel
theorem dX7_start_5 : decode cX7_start 5 = .ok (.iaload, 1) := by decide +kernel
theorem dX7_start_6 : decode cX7_start 6 = .ok (.ireturn, 1) := by decide +kernel
theorem dX7_goalOf_0 : decode cX7_goalOf 0 = .ok (.iload_n 1, 1) := by decide +kernel
theorem dX7_goalOf_1 : decode cX7_goalOf 1 = .ok (.bipush 8, 2) := by decide +kernel
theorem dX7_goalOf_3 : decode cX7_goalOf 3 = .ok (.imul, 1) := by decide +kernel
theorem dX7_goalOf_4 : decode cX7_goalOf 4 = .ok (.iload_n 2, 1) := by decide +kernel
theorem dX7_goalOf_5 : decode cX7_goalOf 5 = .ok (.iadd, 1) := by decide +kernel
theorem dX7_goalOf_6 : decode cX7_goalOf 6 = .ok (.istore_n 3, 1) := by decide +kernel
theorem dX7_goalOf_7 : decode cX7_goalOf 7 = .ok (.iload_n 3, 1) := by decide +kernel
theorem dX7_goalOf_8 : decode cX7_goalOf 8 = .ok (.aload_n 0, 1) := by decide +kernel
theorem dX7_goalOf_9 : decode cX7_goalOf 9 = .ok (.getfield 24, 3) := by decide +kernel
theorem dX7_goalOf_12 : decode cX7_goalOf 12 = .ok (.arraylength, 1) := by decide +kernel
theorem dX7_goalOf_13 : decode cX7_goalOf 13 = .ok (.invokestatic 52, 3) := by decide +kernel
theorem dX7_goalOf_16 : decode cX7_goalOf 16 = .ok (.ifCond .eq 12, 3) := by decide +kernel
theorem dX7_goalOf_19 : decode cX7_goalOf 19 = .ok (.aload_n 0, 1) := by decide +kernel
theorem dX7_goalOf_20 : decode cX7_goalOf 20 = .ok (.getfield 24, 3) := by decide +kernel
theorem dX7_goalOf_23 : decode cX7_goalOf 23 = .ok (.iload_n 3, 1) := by decide +kernel
theorem dX7_goalOf_24 : decode cX7_goalOf 24 = .ok (.iaload, 1) := by decide +kernel
theorem dX7_goalOf_25 : decode cX7_goalOf 25 = .ok (.goto 4, 3) := by decide +kernel
theorem dX7_goalOf_28 : decode cX7_goalOf 28 = .ok (.iload_n 1, 1) := by decide +kernel
theorem dX7_goalOf_29 : decode cX7_goalOf 29 = .ok (.ireturn, 1) := by decide +kernel
theorem dX7_stepsTo_0 : decode cX7_stepsTo 0 = .ok (.iload_n 1, 1) := by decide +kernel
theorem dX7_stepsTo_1 : decode cX7_stepsTo 1 = .ok (.bipush 36, 2) := by decide +kernel
theorem dX7_stepsTo_3 : decode cX7_stepsTo 3 = .ok (.invokestatic 52, 3) := by decide +kernel
theorem dX7_stepsTo_6 : decode cX7_stepsTo 6 = .ok (.ifCond .eq 12, 3) := by decide +kernel
theorem dX7_stepsTo_9 : decode cX7_stepsTo 9 = .ok (.aload_n 0, 1) := by decide +kernel
theorem dX7_stepsTo_10 : decode cX7_stepsTo 10 = .ok (.getfield 9, 3) := by decide +kernel
theorem dX7_stepsTo_13 : decode cX7_stepsTo 13 = .ok (.iload_n 1, 1) := by decide +kernel
theorem dX7_stepsTo_14 : decode cX7_stepsTo 14 = .ok (.iaload, 1) := by decide +kernel
theorem dX7_stepsTo_15 : decode cX7_stepsTo 15 = .ok (.goto 4, 3) := by decide +kernel
theorem dX7_stepsTo_18 : decode cX7_stepsTo 18 = .ok (.iconst (-1), 1) := by decide +kernel
theorem dX7_stepsTo_19 : decode cX7_stepsTo 19 = .ok (.ireturn, 1) := by decide +kernel
theorem dX7_digitsTo_0 : decode cX7_digitsTo 0 = .ok (.aload_n 0, 1) := by decide +kernel
theorem dX7_digitsTo_1 : decode cX7_digitsTo 1 = .ok (.iload_n 1, 1) := by decide +kernel
theorem dX7_digitsTo_2 : decode cX7_digitsTo 2 = .ok (.invokevirtual 62, 3) := by decide +kernel
theorem dX7_digitsTo_5 : decode cX7_digitsTo 5 = .ok (.istore_n 2, 1) := by decide +kernel
theorem dX7_digitsTo_6 : decode cX7_digitsTo 6 = .ok (.iload_n 2, 1) := by decide +kernel
theorem dX7_digitsTo_7 : decode cX7_digitsTo 7 = .ok (.iconst (-1), 1) := by decide +kernel
theorem dX7_digitsTo_8 : decode cX7_digitsTo 8 = .ok (.if_icmp .eq 9, 3) := by decide +kernel
theorem dX7_digitsTo_11 : decode cX7_digitsTo 11 = .ok (.iload_n 2, 1) := by decide +kernel
theorem dX7_digitsTo_12 : decode cX7_digitsTo 12 = .ok (.bipush 9, 2) := by decide +kernel
theorem dX7_digitsTo_14 : decode cX7_digitsTo 14 = .ok (.if_icmp .le 5, 3) := by decide +kernel
theorem dX7_digitsTo_17 : decode cX7_digitsTo 17 = .ok (.iconst (-1), 1) := by decide +kernel
theorem dX7_digitsTo_18 : decode cX7_digitsTo 18 = .ok (.ireturn, 1) := by decide +kernel
theorem dX7_digitsTo_19 : decode cX7_digitsTo 19 = .ok (.iconst 0, 1) := by decide +kernel
theorem dX7_digitsTo_20 : decode cX7_digitsTo 20 = .ok (.istore_n 3, 1) := by decide +kernel
theorem dX7_digitsTo_21 : decode cX7_digitsTo 21 = .ok (.iconst 1, 1) := by decide +kernel
theorem dX7_digitsTo_22 : decode cX7_digitsTo 22 = .ok (.istore 4, 2) := by decide +kernel
theorem dX7_digitsTo_24 : decode cX7_digitsTo 24 = .ok (.iload_n 1, 1) := by decide +kernel
theorem dX7_digitsTo_25 : decode cX7_digitsTo 25 = .ok (.istore 5, 2) := by decide +kernel
theorem dX7_digitsTo_27 : decode cX7_digitsTo 27 = .ok (.iconst 0, 1) := by decide +kernel
theorem dX7_digitsTo_28 : decode cX7_digitsTo 28 = .ok (.istore 6, 2) := by decide +kernel
theorem dX7_digitsTo_30 : decode cX7_digitsTo 30 = .ok (.iload 6, 2) := by decide +kernel
theorem dX7_digitsTo_32 : decode cX7_digitsTo 32 = .ok (.iload_n 2, 1) := by decide +kernel
theorem dX7_digitsTo_33 : decode cX7_digitsTo 33 = .ok (.if_icmp .ge 50, 3) := by decide +kernel
theorem dX7_digitsTo_36 : decode cX7_digitsTo 36 = .ok (.iload 5, 2) := by decide +kernel
theorem dX7_digitsTo_38 : decode cX7_digitsTo 38 = .ok (.bipush 36, 2) := by decide +kernel
theorem dX7_digitsTo_40 : decode cX7_digitsTo 40 = .ok (.invokestatic 52, 3) := by decide +kernel
theorem dX7_digitsTo_43 : decode cX7_digitsTo 43 = .ok (.ifCond .eq 40, 3) := by decide +kernel
theorem dX7_digitsTo_46 : decode cX7_digitsTo 46 = .ok (.iload_n 3, 1) := by decide +kernel
theorem dX7_digitsTo_47 : decode cX7_digitsTo 47 = .ok (.aload_n 0, 1) := by decide +kernel
theorem dX7_digitsTo_48 : decode cX7_digitsTo 48 = .ok (.getfield 18, 3) := by decide +kernel
theorem dX7_digitsTo_51 : decode cX7_digitsTo 51 = .ok (.iload 5, 2) := by decide +kernel
theorem dX7_digitsTo_53 : decode cX7_digitsTo 53 = .ok (.iaload, 1) := by decide +kernel
theorem dX7_digitsTo_54 : decode cX7_digitsTo 54 = .ok (.iconst 1, 1) := by decide +kernel
theorem dX7_digitsTo_55 : decode cX7_digitsTo 55 = .ok (.iadd, 1) := by decide +kernel
theorem dX7_digitsTo_56 : decode cX7_digitsTo 56 = .ok (.iload 4, 2) := by decide +kernel
theorem dX7_digitsTo_58 : decode cX7_digitsTo 58 = .ok (.imul, 1) := by decide +kernel
theorem dX7_digitsTo_59 : decode cX7_digitsTo 59 = .ok (.iadd, 1) := by decide +kernel
theorem dX7_digitsTo_60 : decode cX7_digitsTo 60 = .ok (.istore_n 3, 1) := by decide +kernel
theorem dX7_digitsTo_61 : decode cX7_digitsTo 61 = .ok (.iload 4, 2) := by decide +kernel
theorem dX7_digitsTo_63 : decode cX7_digitsTo 63 = .ok (.bipush 10, 2) := by decide +kernel
theorem dX7_digitsTo_65 : decode cX7_digitsTo 65 = .ok (.imul, 1) := by decide +kernel
theorem dX7_digitsTo_66 : decode cX7_digitsTo 66 = .ok (.istore 4, 2) := by decide +kernel
theorem dX7_digitsTo_68 : decode cX7_digitsTo 68 = .ok (.aload_n 0, 1) := by decide +kernel
theorem dX7_digitsTo_69 : decode cX7_digitsTo 69 = .ok (.getfield 15, 3) := by decide +kernel
theorem dX7_digitsTo_72 : decode cX7_digitsTo 72 = .ok (.iload 5, 2) := by decide +kernel
theorem dX7_digitsTo_74 : decode cX7_digitsTo 74 = .ok (.iaload, 1) := by decide +kernel
theorem dX7_digitsTo_75 : decode cX7_digitsTo 75 = .ok (.istore 5, 2) := by decide +kernel
theorem dX7_digitsTo_77 : decode cX7_digitsTo 77 = .ok (.iinc 6 1, 3) := by decide +kernel
theorem dX7_digitsTo_80 : decode cX7_digitsTo 80 = .ok (.goto (-50), 3) := by decide +kernel
theorem dX7_digitsTo_83 : decode cX7_digitsTo 83 = .ok (.iload_n 3, 1) := by decide +kernel
theorem dX7_digitsTo_84 : decode cX7_digitsTo 84 = .ok (.ireturn, 1) := by decide +kernel
theorem dX7_reached_0 : decode cX7_reached 0 = .ok (.lconst 0, 1) := by decide +kernel
theorem dX7_reached_1 : decode cX7_reached 1 = .ok (.lstore_n 1, 1) := by decide +kernel
theorem dX7_reached_2 : decode cX7_reached 2 = .ok (.iconst 0, 1) := by decide +kernel
theorem dX7_reached_3 : decode cX7_reached 3 = .ok (.istore_n 3, 1) := by decide +kernel
theorem dX7_reached_4 : decode cX7_reached 4 = .ok (.iload_n 3, 1) := by decide +kernel
theorem dX7_reached_5 : decode cX7_reached 5 = .ok (.aload_n 0, 1) := by decide +kernel
theorem dX7_reached_6 : decode cX7_reached 6 = .ok (.getfield 27, 3) := by decide +kernel
theorem dX7_reached_9 : decode cX7_reached 9 = .ok (.if_icmp .ge 26, 3) := by decide +kernel
theorem dX7_reached_12 : decode cX7_reached 12 = .ok (.iload_n 3, 1) := by decide +kernel
theorem dX7_reached_13 : decode cX7_reached 13 = .ok (.bipush 36, 2) := by decide +kernel
theorem dX7_reached_15 : decode cX7_reached 15 = .ok (.if_icmp .ge 20, 3) := by decide +kernel
theorem dX7_reached_18 : decode cX7_reached 18 = .ok (.lload_n 1, 1) := by decide +kernel
theorem dX7_reached_19 : decode cX7_reached 19 = .ok (.lconst 1, 1) := by decide +kernel
theorem dX7_reached_20 : decode cX7_reached 20 = .ok (.aload_n 0, 1) := by decide +kernel
theorem dX7_reached_21 : decode cX7_reached 21 = .ok (.getfield 21, 3) := by decide +kernel
theorem dX7_reached_24 : decode cX7_reached 24 = .ok (.iload_n 3, 1) := by decide +kernel
theorem dX7_reached_25 : decode cX7_reached 25 = .ok (.iaload, 1) := by decide +kernel
theorem dX7_reached_26 : decode cX7_reached 26 = .ok (.lshl, 1) := by decide +kernel
theorem dX7_reached_27 : decode cX7_reached 27 = .ok (.lor, 1) := by decide +kernel
theorem dX7_reached_28 : decode cX7_reached 28 = .ok (.lstore_n 1, 1) := by decide +kernel
theorem dX7_reached_29 : decode cX7_reached 29 = .ok (.iinc 3 1, 3) := by decide +kernel
theorem dX7_reached_32 : decode cX7_reached 32 = .ok (.goto (-28), 3) := by decide +kernel
theorem dX7_reached_35 : decode cX7_reached 35 = .ok (.lload_n 1, 1) := by decide +kernel
theorem dX7_reached_36 : decode cX7_reached 36 = .ok (.lreturn, 1) := by decide +kernel
theorem dX7_sinks_0 : decode cX7_sinks 0 = .ok (.aload_n 0, 1) := by decide +kernel
theorem dX7_sinks_1 : decode cX7_sinks 1 = .ok (.getfield 34, 3) := by decide +kernel
theorem dX7_sinks_4 : decode cX7_sinks 4 = .ok (.lreturn, 1) := by decide +kernel
theorem dX7_idleWords_0 : decode cX7_idleWords 0 = .ok (.sipush 255, 3) := by decide +kernel
theorem dX7_idleWords_3 : decode cX7_idleWords 3 = .ok (.aload_n 0, 1) := by decide +kernel
theorem dX7_idleWords_4 : decode cX7_idleWords 4 = .ok (.getfield 31, 3) := by decide +kernel
theorem dX7_idleWords_7 : decode cX7_idleWords 7 = .ok (.iconst (-1), 1) := by decide +kernel
theorem dX7_idleWords_8 : decode cX7_idleWords 8 = .ok (.ixor, 1) := by decide +kernel
theorem dX7_idleWords_9 : decode cX7_idleWords 9 = .ok (.iand, 1) := by decide +kernel
theorem dX7_idleWords_10 : decode cX7_idleWords 10 = .ok (.ireturn, 1) := by decide +kernel
theorem dX7_furthestCell_0 : decode cX7_furthestCell 0 = .ok (.iconst 0, 1) := by decide +kernel
theorem dX7_furthestCell_1 : decode cX7_furthestCell 1 = .ok (.istore_n 1, 1) := by decide +kernel
theorem dX7_furthestCell_2 : decode cX7_furthestCell 2 = .ok (.iconst 1, 1) := by decide +kernel
theorem dX7_furthestCell_3 : decode cX7_furthestCell 3 = .ok (.istore_n 2, 1) := by decide +kernel
theorem dX7_furthestCell_4 : decode cX7_furthestCell 4 = .ok (.iload_n 2, 1) := by decide +kernel
theorem dX7_furthestCell_5 : decode cX7_furthestCell 5 = .ok (.bipush 36, 2) := by decide +kernel
theorem dX7_furthestCell_7 : decode cX7_furthestCell 7 = .ok (.if_icmp .ge 30, 3) := by decide +kernel
theorem dX7_furthestCell_10 : decode cX7_furthestCell 10 = .ok (.aload_n 0, 1) := by decide +kernel
theorem dX7_furthestCell_11 : decode cX7_furthestCell 11 = .ok (.getfield 9, 3) := by decide +kernel
theorem dX7_furthestCell_14 : decode cX7_furthestCell 14 = .ok (.iload_n 2, 1) := by decide +kernel
theorem dX7_furthestCell_15 : decode cX7_furthestCell 15 = .ok (.iaload, 1) := by decide +kernel
theorem dX7_furthestCell_16 : decode cX7_furthestCell 16 = .ok (.aload_n 0, 1) := by decide +kernel
theorem dX7_furthestCell_17 : decode cX7_furthestCell 17 = .ok (.getfield 9, 3) := by decide +kernel
theorem dX7_furthestCell_20 : decode cX7_furthestCell 20 = .ok (.iload_n 1, 1) := by decide +kernel
theorem dX7_furthestCell_21 : decode cX7_furthestCell 21 = .ok (.iaload, 1) := by decide +kernel
theorem dX7_furthestCell_22 : decode cX7_furthestCell 22 = .ok (.if_icmp .le 7, 3) := by decide +kernel
theorem dX7_furthestCell_25 : decode cX7_furthestCell 25 = .ok (.iload_n 2, 1) := by decide +kernel
theorem dX7_furthestCell_26 : decode cX7_furthestCell 26 = .ok (.goto 4, 3) := by decide +kernel
theorem dX7_furthestCell_29 : decode cX7_furthestCell 29 = .ok (.iload_n 1, 1) := by decide +kernel
theorem dX7_furthestCell_30 : decode cX7_furthestCell 30 = .ok (.istore_n 1, 1) := by decide +kernel
theorem dX7_furthestCell_31 : decode cX7_furthestCell 31 = .ok (.iinc 2 1, 3) := by decide +kernel
theorem dX7_furthestCell_34 : decode cX7_furthestCell 34 = .ok (.goto (-30), 3) := by decide +kernel
theorem dX7_furthestCell_37 : decode cX7_furthestCell 37 = .ok (.iload_n 1, 1) := by decide +kernel
theorem dX7_furthestCell_38 : decode cX7_furthestCell 38 = .ok (.ireturn, 1) := by decide +kernel
theorem dX7_spread_0 : decode cX7_spread 0 = .ok (.iconst 0, 1) := by decide +kernel
theorem dX7_spread_1 : decode cX7_spread 1 = .ok (.istore_n 3, 1) := by decide +kernel
theorem dX7_spread_2 : decode cX7_spread 2 = .ok (.iload_n 3, 1) := by decide +kernel
theorem dX7_spread_3 : decode cX7_spread 3 = .ok (.aload_n 0, 1) := by decide +kernel
theorem dX7_spread_4 : decode cX7_spread 4 = .ok (.getfield 27, 3) := by decide +kernel
theorem dX7_spread_7 : decode cX7_spread 7 = .ok (.if_icmp .ge 80, 3) := by decide +kernel
theorem dX7_spread_10 : decode cX7_spread 10 = .ok (.iload_n 3, 1) := by decide +kernel
theorem dX7_spread_11 : decode cX7_spread 11 = .ok (.bipush 36, 2) := by decide +kernel
theorem dX7_spread_13 : decode cX7_spread 13 = .ok (.if_icmp .ge 74, 3) := by decide +kernel
theorem dX7_spread_16 : decode cX7_spread 16 = .ok (.aload_n 0, 1) := by decide +kernel
theorem dX7_spread_17 : decode cX7_spread 17 = .ok (.getfield 21, 3) := by decide +kernel
theorem dX7_spread_20 : decode cX7_spread 20 = .ok (.iload_n 3, 1) := by decide +kernel
theorem dX7_spread_21 : decode cX7_spread 21 = .ok (.iaload, 1) := by decide +kernel
theorem dX7_spread_22 : decode cX7_spread 22 = .ok (.istore 4, 2) := by decide +kernel
theorem dX7_spread_24 : decode cX7_spread 24 = .ok (.iconst 0, 1) := by decide +kernel
theorem dX7_spread_25 : decode cX7_spread 25 = .ok (.istore 5, 2) := by decide +kernel
theorem dX7_spread_27 : decode cX7_spread 27 = .ok (.iload 5, 2) := by decide +kernel
theorem dX7_spread_29 : decode cX7_spread 29 = .ok (.bipush 8, 2) := by decide +kernel
theorem dX7_spread_31 : decode cX7_spread 31 = .ok (.if_icmp .ge 50, 3) := by decide +kernel
theorem dX7_spread_34 : decode cX7_spread 34 = .ok (.aload_n 0, 1) := by decide +kernel
theorem dX7_spread_35 : decode cX7_spread 35 = .ok (.iload 4, 2) := by decide +kernel
theorem dX7_spread_37 : decode cX7_spread 37 = .ok (.iload 5, 2) := by decide +kernel
theorem dX7_spread_39 : decode cX7_spread 39 = .ok (.invokevirtual 66, 3) := by decide +kernel
theorem dX7_spread_42 : decode cX7_spread 42 = .ok (.istore 6, 2) := by decide +kernel
theorem dX7_spread_44 : decode cX7_spread 44 = .ok (.iload 6, 2) := by decide +kernel
theorem dX7_spread_46 : decode cX7_spread 46 = .ok (.aload_n 2, 1) := by decide +kernel
theorem dX7_spread_47 : decode cX7_spread 47 = .ok (.arraylength, 1) := by decide +kernel
theorem dX7_spread_48 : decode cX7_spread 48 = .ok (.invokestatic 52, 3) := by decide +kernel
theorem dX7_spread_51 : decode cX7_spread 51 = .ok (.ifCond .eq 24, 3) := by decide +kernel
theorem dX7_spread_54 : decode cX7_spread 54 = .ok (.iload 4, 2) := by decide +kernel
theorem dX7_spread_56 : decode cX7_spread 56 = .ok (.aload_n 1, 1) := by decide +kernel
theorem dX7_spread_57 : decode cX7_spread 57 = .ok (.arraylength, 1) := by decide +kernel
theorem dX7_spread_58 : decode cX7_spread 58 = .ok (.invokestatic 52, 3) := by decide +kernel
theorem dX7_spread_61 : decode cX7_spread 61 = .ok (.ifCond .eq 14, 3) := by decide +kernel
theorem dX7_spread_64 : decode cX7_spread 64 = .ok (.aload_n 2, 1) := by decide +kernel
theorem dX7_spread_65 : decode cX7_spread 65 = .ok (.iload 6, 2) := by decide +kernel
theorem dX7_spread_67 : decode cX7_spread 67 = .ok (.dup2, 1) := by decide +kernel
theorem dX7_spread_68 : decode cX7_spread 68 = .ok (.laload, 1) := by decide +kernel
theorem dX7_spread_69 : decode cX7_spread 69 = .ok (.aload_n 1, 1) := by decide +kernel
theorem dX7_spread_70 : decode cX7_spread 70 = .ok (.iload 4, 2) := by decide +kernel
theorem dX7_spread_72 : decode cX7_spread 72 = .ok (.laload, 1) := by decide +kernel
theorem dX7_spread_73 : decode cX7_spread 73 = .ok (.ladd, 1) := by decide +kernel
theorem dX7_spread_74 : decode cX7_spread 74 = .ok (.lastore, 1) := by decide +kernel
theorem dX7_spread_75 : decode cX7_spread 75 = .ok (.iinc 5 1, 3) := by decide +kernel
theorem dX7_spread_78 : decode cX7_spread 78 = .ok (.goto (-51), 3) := by decide +kernel
theorem dX7_spread_81 : decode cX7_spread 81 = .ok (.iinc 3 1, 3) := by decide +kernel
theorem dX7_spread_84 : decode cX7_spread 84 = .ok (.goto (-82), 3) := by decide +kernel
theorem dX7_spread_87 : decode cX7_spread 87 = .ok (.return_, 1) := by decide +kernel
theorem dX8_init_0 : decode cX8_init 0 = .ok (.aload_n 0, 1) := by decide +kernel
theorem dX8_init_1 : decode cX8_init 1 = .ok (.invokespecial 3, 3) := by decide +kernel
theorem dX8_init_4 : decode cX8_init 4 = .ok (.aload_n 0, 1) := by decide +kernel
theorem dX8_init_5 : decode cX8_init 5 = .ok (.new 9, 3) := by decide +kernel
theorem dX8_init_8 : decode cX8_init 8 = .ok (.dup, 1) := by decide +kernel
theorem dX8_init_9 : decode cX8_init 9 = .ok (.invokespecial 11, 3) := by decide +kernel
theorem dX8_init_12 : decode cX8_init 12 = .ok (.putfield 12, 3) := by decide +kernel
theorem dX8_init_15 : decode cX8_init 15 = .ok (.aload_n 0, 1) := by decide +kernel
theorem dX8_init_16 : decode cX8_init 16 = .ok (.new 9, 3) := by decide +kernel
theorem dX8_init_19 : decode cX8_init 19 = .ok (.dup, 1) := by decide +kernel
theorem dX8_init_20 : decode cX8_init 20 = .ok (.invokespecial 11, 3) := by decide +kernel
theorem dX8_init_23 : decode cX8_init 23 = .ok (.putfield 16, 3) := by decide +kernel
theorem dX8_init_26 : decode cX8_init 26 = .ok (.aload_n 0, 1) := by decide +kernel
theorem dX8_init_27 : decode cX8_init 27 = .ok (.iconst 0, 1) := by decide +kernel
theorem dX8_init_28 : decode cX8_init 28 = .ok (.putfield 19, 3) := by decide +kernel
theorem dX8_init_31 : decode cX8_init 31 = .ok (.aload_n 0, 1) := by decide +kernel
theorem dX8_init_32 : decode cX8_init 32 = .ok (.new 23, 3) := by decide +kernel
theorem dX8_init_35 : decode cX8_init 35 = .ok (.dup, 1) := by decide +kernel
theorem dX8_init_36 : decode cX8_init 36 = .ok (.invokespecial 25, 3) := by decide +kernel
theorem dX8_init_39 : decode cX8_init 39 = .ok (.putfield 26, 3) := by decide +kernel
theorem dX8_init_42 : decode cX8_init 42 = .ok (.aload_n 0, 1) := by decide +kernel
theorem dX8_init_43 : decode cX8_init 43 = .ok (.bipush 6, 2) := by decide +kernel
theorem dX8_init_45 : decode cX8_init 45 = .ok (.anewarray 30, 3) := by decide +kernel
theorem dX8_init_48 : decode cX8_init 48 = .ok (.putfield 32, 3) := by decide +kernel
theorem dX8_init_51 : decode cX8_init 51 = .ok (.aload_n 0, 1) := by decide +kernel
theorem dX8_init_52 : decode cX8_init 52 = .ok (.iconst 0, 1) := by decide +kernel
theorem dX8_init_53 : decode cX8_init 53 = .ok (.putfield 36, 3) := by decide +kernel
theorem dX8_init_56 : decode cX8_init 56 = .ok (.aload_n 0, 1) := by decide +kernel
theorem dX8_init_57 : decode cX8_init 57 = .ok (.iconst 4, 1) := by decide +kernel
theorem dX8_init_58 : decode cX8_init 58 = .ok (.anewarray 40, 3) := by decide +kernel
theorem dX8_init_61 : decode cX8_init 61 = .ok (.putfield 42, 3) := by decide +kernel
theorem dX8_init_64 : decode cX8_init 64 = .ok (.aload_n 0, 1) := by decide +kernel
theorem dX8_init_65 : decode cX8_init 65 = .ok (.new 46, 3) := by decide +kernel
theorem dX8_init_68 : decode cX8_init 68 = .ok (.dup, 1) := by decide +kernel
theorem dX8_init_69 : decode cX8_init 69 = .ok (.invokespecial 48, 3) := by decide +kernel
theorem dX8_init_72 : decode cX8_init 72 = .ok (.putfield 49, 3) := by decide +kernel
theorem dX8_init_75 : decode cX8_init 75 = .ok (.aload_n 0, 1) := by decide +kernel
theorem dX8_init_76 : decode cX8_init 76 = .ok (.new 53, 3) := by decide +kernel
theorem dX8_init_79 : decode cX8_init 79 = .ok (.dup, 1) := by decide +kernel
theorem dX8_init_80 : decode cX8_init 80 = .ok (.invokespecial 55, 3) := by decide +kernel
theorem dX8_init_83 : decode cX8_init 83 = .ok (.putfield 56, 3) := by decide +kernel
theorem dX8_init_86 : decode cX8_init 86 = .ok (.aload_n 0, 1) := by decide +kernel
theorem dX8_init_87 : decode cX8_init 87 = .ok (.new 53, 3) := by decide +kernel
theorem dX8_init_90 : decode cX8_init 90 = .ok (.dup, 1) := by decide +kernel
theorem dX8_init_91 : decode cX8_init 91 = .ok (.invokespecial 55, 3) := by decide +kernel
theorem dX8_init_94 : decode cX8_init 94 = .ok (.putfield 60, 3) := by decide +kernel
theorem dX8_init_97 : decode cX8_init 97 = .ok (.aload_n 0, 1) := by decide +kernel
theorem dX8_init_98 : decode cX8_init 98 = .ok (.new 63, 3) := by decide +kernel
theorem dX8_init_101 : decode cX8_init 101 = .ok (.dup, 1) := by decide +kernel
theorem dX8_init_102 : decode cX8_init 102 = .ok (.invokespecial 65, 3) := by decide +kernel
theorem dX8_init_105 : decode cX8_init 105 = .ok (.putfield 66, 3) := by decide +kernel
theorem dX8_init_108 : decode cX8_init 108 = .ok (.aload_n 0, 1) := by decide +kernel
theorem dX8_init_109 : decode cX8_init 109 = .ok (.bipush 36, 2) := by decide +kernel
theorem dX8_init_111 : decode cX8_init 111 = .ok (.newarray .long, 2) := by decide +kernel
theorem dX8_init_113 : decode cX8_init 113 = .ok (.putfield 70, 3) := by decide +kernel
theorem dX8_init_116 : decode cX8_init 116 = .ok (.aload_n 0, 1) := by decide +kernel
theorem dX8_init_117 : decode cX8_init 117 = .ok (.bipush 36, 2) := by decide +kernel
theorem dX8_init_119 : decode cX8_init 119 = .ok (.newarray .long, 2) := by decide +kernel
theorem dX8_init_121 : decode cX8_init 121 = .ok (.putfield 74, 3) := by decide +kernel
theorem dX8_init_124 : decode cX8_init 124 = .ok (.iconst 0, 1) := by decide +kernel
theorem dX8_init_125 : decode cX8_init 125 = .ok (.istore_n 1, 1) := by decide +kernel
theorem dX8_init_126 : decode cX8_init 126 = .ok (.iload_n 1, 1) := by decide +kernel
theorem dX8_init_127 : decode cX8_init 127 = .ok (.aload_n 0, 1) := by decide +kernel
theorem dX8_init_128 : decode cX8_init 128 = .ok (.getfield 42, 3) := by decide +kernel
theorem dX8_init_131 : decode cX8_init 131 = .ok (.arraylength, 1) := by decide +kernel
theorem dX8_init_132 : decode cX8_init 132 = .ok (.if_icmp .ge 22, 3) := by decide +kernel
theorem dX8_init_135 : decode cX8_init 135 = .ok (.aload_n 0, 1) := by decide +kernel
theorem dX8_init_136 : decode cX8_init 136 = .ok (.getfield 42, 3) := by decide +kernel
theorem dX8_init_139 : decode cX8_init 139 = .ok (.iload_n 1, 1) := by decide +kernel
theorem dX8_init_140 : decode cX8_init 140 = .ok (.new 40, 3) := by decide +kernel
theorem dX8_init_143 : decode cX8_init 143 = .ok (.dup, 1) := by decide +kernel
theorem dX8_init_144 : decode cX8_init 144 = .ok (.invokespecial 77, 3) := by decide +kernel
theorem dX8_init_147 : decode cX8_init 147 = .ok (.aastore, 1) := by decide +kernel
theorem dX8_init_148 : decode cX8_init 148 = .ok (.iinc 1 1, 3) := by decide +kernel
theorem dX8_init_151 : decode cX8_init 151 = .ok (.goto (-25), 3) := by decide +kernel
theorem dX8_init_154 : decode cX8_init 154 = .ok (.iconst 0, 1) := by decide +kernel
theorem dX8_init_155 : decode cX8_init 155 = .ok (.istore_n 1, 1) := by decide +kernel
theorem dX8_init_156 : decode cX8_init 156 = .ok (.iload_n 1, 1) := by decide +kernel
theorem dX8_init_157 : decode cX8_init 157 = .ok (.ldc 78, 2) := by decide +kernel
theorem dX8_init_159 : decode cX8_init 159 = .ok (.invokevirtual 80, 3) := by decide +kernel
theorem dX8_init_162 : decode cX8_init 162 = .ok (.if_icmp .ge 23, 3) := by decide +kernel
theorem dX8_init_165 : decode cX8_init 165 = .ok (.aload_n 0, 1) := by decide +kernel
theorem dX8_init_166 : decode cX8_init 166 = .ok (.getfield 26, 3) := by decide +kernel
theorem dX8_init_169 : decode cX8_init 169 = .ok (.ldc 78, 2) := by decide +kernel
theorem dX8_init_171 : decode cX8_init 171 = .ok (.iload_n 1, 1) := by decide +kernel
theorem dX8_init_172 : decode cX8_init 172 = .ok (.invokevirtual 86, 3) := by decide +kernel
theorem dX8_init_175 : decode cX8_init 175 = .ok (.invokevirtual 90, 3) := by decide +kernel
theorem dX8_init_178 : decode cX8_init 178 = .ok (.pop, 1) := by decide +kernel
theorem dX8_init_179 : decode cX8_init 179 = .ok (.iinc 1 1, 3) := by decide +kernel
theorem dX8_init_182 : decode cX8_init 182 = .ok (.goto (-26), 3) := by decide +kernel
theorem dX8_init_185 : decode cX8_init 185 = .ok (.aload_n 0, 1) := by decide +kernel
theorem dX8_init_186 : decode cX8_init 186 = .ok (.getfield 26, 3) := by decide +kernel
theorem dX8_init_189 : decode cX8_init 189 = .ok (.invokevirtual 94, 3) := by decide +kernel
theorem dX8_init_192 : decode cX8_init 192 = .ok (.ifCond .eq 16, 3) := by decide +kernel
theorem dX8_init_195 : decode cX8_init 195 = .ok (.aload_n 0, 1) := by decide +kernel
theorem dX8_init_196 : decode cX8_init 196 = .ok (.getfield 32, 3) := by decide +kernel
theorem dX8_init_199 : decode cX8_init 199 = .ok (.iconst 0, 1) := by decide +kernel
theorem dX8_init_200 : decode cX8_init 200 = .ok (.aload_n 0, 1) := by decide +kernel
theorem dX8_init_201 : decode cX8_init 201 = .ok (.getfield 26, 3) := by decide +kernel
theorem dX8_init_204 : decode cX8_init 204 = .ok (.invokevirtual 98, 3) := by decide +kernel
theorem dX8_init_207 : decode cX8_init 207 = .ok (.aastore, 1) := by decide +kernel
theorem dX8_init_208 : decode cX8_init 208 = .ok (.aload_n 0, 1) := by decide +kernel
theorem dX8_init_209 : decode cX8_init 209 = .ok (.iconst 1, 1) := by decide +kernel
theorem dX8_init_210 : decode cX8_init 210 = .ok (.putfield 36, 3) := by decide +kernel
theorem dX8_init_213 : decode cX8_init 213 = .ok (.aload_n 0, 1) := by decide +kernel
theorem dX8_init_214 : decode cX8_init 214 = .ok (.getfield 26, 3) := by decide +kernel
theorem dX8_init_217 : decode cX8_init 217 = .ok (.invokevirtual 102, 3) := by decide +kernel
theorem dX8_init_220 : decode cX8_init 220 = .ok (.return_, 1) := by decide +kernel
theorem dX8_set_0 : decode cX8_set 0 = .ok (.iload_n 1, 1) := by decide +kernel
theorem dX8_set_1 : decode cX8_set 1 = .ok (.tableswitch 56 0 4 #[35, 41, 48, 48, 48], 35) := by decide +kernel
theorem dX8_set_36 : decode cX8_set 36 = .ok (.aload_n 0, 1) := by decide +kernel
theorem dX8_set_37 : decode cX8_set 37 = .ok (.iload_n 3, 1) := by decide +kernel
theorem dX8_set_38 : decode cX8_set 38 = .ok (.invokevirtual 105, 3) := by decide +kernel
theorem dX8_set_41 : decode cX8_set 41 = .ok (.ireturn, 1) := by decide +kernel
theorem dX8_set_42 : decode cX8_set 42 = .ok (.aload_n 0, 1) := by decide +kernel
theorem dX8_set_43 : decode cX8_set 43 = .ok (.iload_n 2, 1) := by decide +kernel
theorem dX8_set_44 : decode cX8_set 44 = .ok (.iload_n 3, 1) := by decide +kernel
theorem dX8_set_45 : decode cX8_set 45 = .ok (.invokevirtual 108, 3) := by decide +kernel
theorem dX8_set_48 : decode cX8_set 48 = .ok (.ireturn, 1) := by decide +kernel
theorem dX8_set_49 : decode cX8_set 49 = .ok (.aload_n 0, 1) := by decide +kernel
theorem dX8_set_50 : decode cX8_set 50 = .ok (.iload_n 1, 1) := by decide +kernel
theorem dX8_set_51 : decode cX8_set 51 = .ok (.iload_n 2, 1) := by decide +kernel
theorem dX8_set_52 : decode cX8_set 52 = .ok (.iload_n 3, 1) := by decide +kernel
theorem dX8_set_53 : decode cX8_set 53 = .ok (.invokevirtual 112, 3) := by decide +kernel
theorem dX8_set_56 : decode cX8_set 56 = .ok (.ireturn, 1) := by decide +kernel
theorem dX8_set_57 : decode cX8_set 57 = .ok (.bipush (-2), 2) := by decide +kernel
theorem dX8_set_59 : decode cX8_set 59 = .ok (.ireturn, 1) := by decide +kernel
theorem dX8_setNight_0 : decode cX8_setNight 0 = .ok (.iload_n 1, 1) := by decide +kernel
theorem dX8_setNight_1 : decode cX8_setNight 1 = .ok (.sipush 1000, 3) := by decide +kernel
theorem dX8_setNight_4 : decode cX8_setNight 4 = .ok (.invokestatic 116, 3) := by decide +kernel
theorem dX8_setNight_7 : decode cX8_setNight 7 = .ok (.ifCond .ne 6, 3) := by decide +kernel
theorem dX8_setNight_10 : decode cX8_setNight 10 = .ok (.bipush (-2), 2) := by decide +kernel
theorem dX8_setNight_12 : decode cX8_setNight 12 = .ok (.ireturn, 1) := by decide +kernel
theorem dX8_setNight_13 : decode cX8_setNight 13 = .ok (.aload_n 0, 1) := by decide +kernel
theorem dX8_setNight_14 : decode cX8_setNight 14 = .ok (.getfield 12, 3) := by decide +kernel
theorem dX8_setNight_17 : decode cX8_setNight 17 = .ok (.getfield 120, 3) := by decide +kernel
theorem dX8_setNight_20 : decode cX8_setNight 20 = .ok (.istore_n 2, 1) := by decide +kernel
theorem dX8_setNight_21 : decode cX8_setNight 21 = .ok (.aload_n 0, 1) := by decide +kernel
theorem dX8_setNight_22 : decode cX8_setNight 22 = .ok (.getfield 12, 3) := by decide +kernel
theorem dX8_setNight_25 : decode cX8_setNight 25 = .ok (.iload_n 1, 1) := by decide +kernel
theorem dX8_setNight_26 : decode cX8_setNight 26 = .ok (.putfield 120, 3) := by decide +kernel
theorem dX8_setNight_29 : decode cX8_setNight 29 = .ok (.iload_n 2, 1) := by decide +kernel
theorem dX8_setNight_30 : decode cX8_setNight 30 = .ok (.ireturn, 1) := by decide +kernel
theorem dX8_setWall_0 : decode cX8_setWall 0 = .ok (.iload_n 1, 1) := by decide +kernel
theorem dX8_setWall_1 : decode cX8_setWall 1 = .ok (.bipush 36, 2) := by decide +kernel
theorem dX8_setWall_3 : decode cX8_setWall 3 = .ok (.invokestatic 116, 3) := by decide +kernel
theorem dX8_setWall_6 : decode cX8_setWall 6 = .ok (.ifCond .eq 11, 3) := by decide +kernel
theorem dX8_setWall_9 : decode cX8_setWall 9 = .ok (.iload_n 2, 1) := by decide +kernel
theorem dX8_setWall_10 : decode cX8_setWall 10 = .ok (.iconst 2, 1) := by decide +kernel
theorem dX8_setWall_11 : decode cX8_setWall 11 = .ok (.invokestatic 116, 3) := by decide +kernel
theorem dX8_setWall_14 : decode cX8_setWall 14 = .ok (.ifCond .ne 6, 3) := by decide +kernel
theorem dX8_setWall_17 : decode cX8_setWall 17 = .ok (.bipush (-2), 2) := by decide +kernel
theorem dX8_setWall_19 : decode cX8_setWall 19 = .ok (.ireturn, 1) := by decide +kernel
theorem dX8_setWall_20 : decode cX8_setWall 20 = .ok (.aload_n 0, 1) := by decide +kernel
theorem dX8_setWall_21 : decode cX8_setWall 21 = .ok (.getfield 12, 3) := by decide +kernel
theorem dX8_setWall_24 : decode cX8_setWall 24 = .ok (.iload_n 1, 1) := by decide +kernel
theorem dX8_setWall_25 : decode cX8_setWall 25 = .ok (.invokevirtual 123, 3) := by decide +kernel
theorem dX8_setWall_28 : decode cX8_setWall 28 = .ok (.istore_n 3, 1) := by decide +kernel
theorem dX8_setWall_29 : decode cX8_setWall 29 = .ok (.aload_n 0, 1) := by decide +kernel
theorem dX8_setWall_30 : decode cX8_setWall 30 = .ok (.getfield 12, 3) := by decide +kernel
theorem dX8_setWall_33 : decode cX8_setWall 33 = .ok (.iload_n 1, 1) := by decide +kernel
theorem dX8_setWall_34 : decode cX8_setWall 34 = .ok (.iload_n 2, 1) := by decide +kernel
theorem dX8_setWall_35 : decode cX8_setWall 35 = .ok (.invokevirtual 126, 3) := by decide +kernel
theorem dX8_setWall_38 : decode cX8_setWall 38 = .ok (.iload_n 3, 1) := by decide +kernel
theorem dX8_setWall_39 : decode cX8_setWall 39 = .ok (.ireturn, 1) := by decide +kernel
theorem dX8_setOfCarpet_0 : decode cX8_setOfCarpet 0 = .ok (.aload_n 0, 1) := by decide +kernel
theorem dX8_setOfCarpet_1 : decode cX8_setOfCarpet 1 = .ok (.getfield 12, 3) := by decide +kernel
theorem dX8_setOfCarpet_4 : decode cX8_setOfCarpet 4 = .ok (.iload_n 2, 1) := by decide +kernel
theorem dX8_setOfCarpet_5 : decode cX8_setOfCarpet 5 = .ok (.invokevirtual 130, 3) := by decide +kernel
theorem dX8_setOfCarpet_8 : decode cX8_setOfCarpet 8 = .ok (.astore 4, 2) := by decide +kernel
theorem dX8_setOfCarpet_10 : decode cX8_setOfCarpet 10 = .ok (.aload 4, 2) := by decide +kernel
theorem dX8_setOfCarpet_12 : decode cX8_setOfCarpet 12 = .ok (.ifnull 14, 3) := by decide +kernel
theorem dX8_setOfCarpet_15 : decode cX8_setOfCarpet 15 = .ok (.iload_n 3, 1) := by decide +kernel
theorem dX8_setOfCarpet_16 : decode cX8_setOfCarpet 16 = .ok (.iload_n 1, 1) := by decide +kernel
theorem dX8_setOfCarpet_17 : decode cX8_setOfCarpet 17 = .ok (.invokestatic 134, 3) := by decide +kernel
theorem dX8_setOfCarpet_20 : decode cX8_setOfCarpet 20 = .ok (.invokestatic 116, 3) := by decide +kernel
theorem dX8_setOfCarpet_23 : decode cX8_setOfCarpet 23 = .ok (.ifCond .ne 6, 3) := by decide +kernel
theorem dX8_setOfCarpet_26 : decode cX8_setOfCarpet 26 = .ok (.bipush (-2), 2) := by decide +kernel
theorem dX8_setOfCarpet_28 : decode cX8_setOfCarpet 28 = .ok (.ireturn, 1) := by decide +kernel
theorem dX8_setOfCarpet_29 : decode cX8_setOfCarpet 29 = .ok (.aload 4, 2) := by decide +kernel
theorem dX8_setOfCarpet_31 : decode cX8_setOfCarpet 31 = .ok (.iload_n 1, 1) := by decide +kernel
theorem dX8_setOfCarpet_32 : decode cX8_setOfCarpet 32 = .ok (.invokevirtual 137, 3) := by decide +kernel
theorem dX8_setOfCarpet_35 : decode cX8_setOfCarpet 35 = .ok (.istore 5, 2) := by decide +kernel
theorem dX8_setOfCarpet_37 : decode cX8_setOfCarpet 37 = .ok (.aload 4, 2) := by decide +kernel
theorem dX8_setOfCarpet_39 : decode cX8_setOfCarpet 39 = .ok (.iload_n 1, 1) := by decide +kernel
theorem dX8_setOfCarpet_40 : decode cX8_setOfCarpet 40 = .ok (.iload_n 3, 1) := by decide +kernel
theorem dX8_setOfCarpet_41 : decode cX8_setOfCarpet 41 = .ok (.invokevirtual 142, 3) := by decide +kernel
theorem dX8_setOfCarpet_44 : decode cX8_setOfCarpet 44 = .ok (.iload 5, 2) := by decide +kernel
theorem dX8_setOfCarpet_46 : decode cX8_setOfCarpet 46 = .ok (.ireturn, 1) := by decide +kernel
theorem dX8_endOf_0 : decode cX8_endOf 0 = .ok (.iload_n 0, 1) := by decide +kernel
theorem dX8_endOf_1 : decode cX8_endOf 1 = .ok (.lookupswitch 33 #[(2, 27), (3, 30)], 27) := by decide +kernel
theorem dX8_endOf_28 : decode cX8_endOf 28 = .ok (.bipush 10, 2) := by decide +kernel
theorem dX8_endOf_30 : decode cX8_endOf 30 = .ok (.ireturn, 1) := by decide +kernel
theorem dX8_endOf_31 : decode cX8_endOf 31 = .ok (.bipush 36, 2) := by decide +kernel
theorem dX8_endOf_33 : decode cX8_endOf 33 = .ok (.ireturn, 1) := by decide +kernel
theorem dX8_endOf_34 : decode cX8_endOf 34 = .ok (.iconst 2, 1) := by decide +kernel
theorem dX8_endOf_35 : decode cX8_endOf 35 = .ok (.ireturn, 1) := by decide +kernel
theorem dX8_carpet_0 : decode cX8_carpet 0 = .ok (.aload_n 0, 1) := by decide +kernel
theorem dX8_carpet_1 : decode cX8_carpet 1 = .ok (.iload_n 1, 1) := by decide +kernel
theorem dX8_carpet_2 : decode cX8_carpet 2 = .ok (.iload_n 2, 1) := by decide +kernel
theorem dX8_carpet_3 : decode cX8_carpet 3 = .ok (.iload_n 3, 1) := by decide +kernel
theorem dX8_carpet_4 : decode cX8_carpet 4 = .ok (.invokevirtual 144, 3) := by decide +kernel
theorem dX8_carpet_7 : decode cX8_carpet 7 = .ok (.ireturn, 1) := by decide +kernel
theorem dX8_lay_0 : decode cX8_lay 0 = .ok (.iload_n 1, 1) := by decide +kernel
theorem dX8_lay_1 : decode cX8_lay 1 = .ok (.bipush 6, 2) := by decide +kernel
theorem dX8_lay_3 : decode cX8_lay 3 = .ok (.invokestatic 116, 3) := by decide +kernel
theorem dX8_lay_6 : decode cX8_lay 6 = .ok (.ifCond .eq 21, 3) := by decide +kernel
theorem dX8_lay_9 : decode cX8_lay 9 = .ok (.iload_n 2, 1) := by decide +kernel
theorem dX8_lay_10 : decode cX8_lay 10 = .ok (.bipush 10, 2) := by decide +kernel
theorem dX8_lay_12 : decode cX8_lay 12 = .ok (.invokestatic 116, 3) := by decide +kernel
theorem dX8_lay_15 : decode cX8_lay 15 = .ok (.ifCond .eq 12, 3) := by decide +kernel
theorem dX8_lay_18 : decode cX8_lay 18 = .ok (.iload_n 3, 1) := by decide +kernel
theorem dX8_lay_19 : decode cX8_lay 19 = .ok (.bipush 36, 2) := by decide +kernel
theorem dX8_lay_21 : decode cX8_lay 21 = .ok (.invokestatic 116, 3) := by decide +kernel
theorem dX8_lay_24 : decode cX8_lay 24 = .ok (.ifCond .ne 6, 3) := by decide +kernel
theorem dX8_lay_27 : decode cX8_lay 27 = .ok (.bipush (-2), 2) := by decide +kernel
theorem dX8_lay_29 : decode cX8_lay 29 = .ok (.ireturn, 1) := by decide +kernel
theorem dX8_lay_30 : decode cX8_lay 30 = .ok (.aload_n 0, 1) := by decide +kernel
theorem dX8_lay_31 : decode cX8_lay 31 = .ok (.getfield 12, 3) := by decide +kernel
theorem dX8_lay_34 : decode cX8_lay 34 = .ok (.iload_n 1, 1) := by decide +kernel
theorem dX8_lay_35 : decode cX8_lay 35 = .ok (.iload_n 2, 1) := by decide +kernel
