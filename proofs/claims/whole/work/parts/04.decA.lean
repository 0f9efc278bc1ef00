theorem dX0_init_0 : decode cX0_init 0 = .ok (.aload_n 0, 1) := by decide +kernel
theorem dX0_init_1 : decode cX0_init 1 = .ok (.invokespecial 1, 3) := by decide +kernel
theorem dX0_init_4 : decode cX0_init 4 = .ok (.return_, 1) := by decide +kernel
theorem dX0_become_0 : decode cX0_become 0 = .ok (.aload_n 0, 1) := by decide +kernel
theorem dX0_become_1 : decode cX0_become 1 = .ok (.iload_n 1, 1) := by decide +kernel
theorem dX0_become_2 : decode cX0_become 2 = .ok (.putfield 7, 3) := by decide +kernel
theorem dX0_become_5 : decode cX0_become 5 = .ok (.aload_n 0, 1) := by decide +kernel
theorem dX0_become_6 : decode cX0_become 6 = .ok (.iload_n 2, 1) := by decide +kernel
theorem dX0_become_7 : decode cX0_become 7 = .ok (.putfield 13, 3) := by decide +kernel
theorem dX0_become_10 : decode cX0_become 10 = .ok (.aload_n 0, 1) := by decide +kernel
theorem dX0_become_11 : decode cX0_become 11 = .ok (.iload_n 3, 1) := by decide +kernel
theorem dX0_become_12 : decode cX0_become 12 = .ok (.putfield 16, 3) := by decide +kernel
theorem dX0_become_15 : decode cX0_become 15 = .ok (.aload_n 0, 1) := by decide +kernel
theorem dX0_become_16 : decode cX0_become 16 = .ok (.iload 4, 2) := by decide +kernel
theorem dX0_become_18 : decode cX0_become 18 = .ok (.putfield 20, 3) := by decide +kernel
theorem dX0_become_21 : decode cX0_become 21 = .ok (.return_, 1) := by decide +kernel
theorem dX0_copyFrom_0 : decode cX0_copyFrom 0 = .ok (.aload_n 0, 1) := by decide +kernel
theorem dX0_copyFrom_1 : decode cX0_copyFrom 1 = .ok (.aload_n 1, 1) := by decide +kernel
theorem dX0_copyFrom_2 : decode cX0_copyFrom 2 = .ok (.getfield 7, 3) := by decide +kernel
theorem dX0_copyFrom_5 : decode cX0_copyFrom 5 = .ok (.aload_n 1, 1) := by decide +kernel
theorem dX0_copyFrom_6 : decode cX0_copyFrom 6 = .ok (.getfield 13, 3) := by decide +kernel
theorem dX0_copyFrom_9 : decode cX0_copyFrom 9 = .ok (.aload_n 1, 1) := by decide +kernel
theorem dX0_copyFrom_10 : decode cX0_copyFrom 10 = .ok (.getfield 16, 3) := by decide +kernel
theorem dX0_copyFrom_13 : decode cX0_copyFrom 13 = .ok (.aload_n 1, 1) := by decide +kernel
theorem dX0_copyFrom_14 : decode cX0_copyFrom 14 = .ok (.getfield 20, 3) := by decide +kernel
theorem dX0_copyFrom_17 : decode cX0_copyFrom 17 = .ok (.invokevirtual 23, 3) := by decide +kernel
theorem dX0_copyFrom_20 : decode cX0_copyFrom 20 = .ok (.return_, 1) := by decide +kernel
theorem dX0_isTighterThan_0 : decode cX0_isTighterThan 0 = .ok (.aload_n 0, 1) := by decide +kernel
theorem dX0_isTighterThan_1 : decode cX0_isTighterThan 1 = .ok (.getfield 13, 3) := by decide +kernel
theorem dX0_isTighterThan_4 : decode cX0_isTighterThan 4 = .ok (.aload_n 1, 1) := by decide +kernel
theorem dX0_isTighterThan_5 : decode cX0_isTighterThan 5 = .ok (.getfield 13, 3) := by decide +kernel
theorem dX0_isTighterThan_8 : decode cX0_isTighterThan 8 = .ok (.if_icmp .lt 25, 3) := by decide +kernel
theorem dX0_isTighterThan_11 : decode cX0_isTighterThan 11 = .ok (.aload_n 0, 1) := by decide +kernel
theorem dX0_isTighterThan_12 : decode cX0_isTighterThan 12 = .ok (.getfield 13, 3) := by decide +kernel
theorem dX0_isTighterThan_15 : decode cX0_isTighterThan 15 = .ok (.aload_n 1, 1) := by decide +kernel
theorem dX0_isTighterThan_16 : decode cX0_isTighterThan 16 = .ok (.getfield 13, 3) := by decide +kernel
theorem dX0_isTighterThan_19 : decode cX0_isTighterThan 19 = .ok (.if_icmp .ne 18, 3) := by decide +kernel
theorem dX0_isTighterThan_22 : decode cX0_isTighterThan 22 = .ok (.aload_n 0, 1) := by decide +kernel
theorem dX0_isTighterThan_23 : decode cX0_isTighterThan 23 = .ok (.getfield 7, 3) := by decide +kernel
theorem dX0_isTighterThan_26 : decode cX0_isTighterThan 26 = .ok (.aload_n 1, 1) := by decide +kernel
theorem dX0_isTighterThan_27 : decode cX0_isTighterThan 27 = .ok (.getfield 7, 3) := by decide +kernel
theorem dX0_isTighterThan_30 : decode cX0_isTighterThan 30 = .ok (.if_icmp .ge 7, 3) := by decide +kernel
theorem dX0_isTighterThan_33 : decode cX0_isTighterThan 33 = .ok (.iconst 1, 1) := by decide +kernel
theorem dX0_isTighterThan_34 : decode cX0_isTighterThan 34 = .ok (.goto 4, 3) := by decide +kernel
theorem dX0_isTighterThan_37 : decode cX0_isTighterThan 37 = .ok (.iconst 0, 1) := by decide +kernel
theorem dX0_isTighterThan_38 : decode cX0_isTighterThan 38 = .ok (.ireturn, 1) := by decide +kernel
theorem dX1_init_0 : decode cX1_init 0 = .ok (.aload_n 0, 1) := by decide +kernel
theorem dX1_init_1 : decode cX1_init 1 = .ok (.invokespecial 3, 3) := by decide +kernel
theorem dX1_init_4 : decode cX1_init 4 = .ok (.return_, 1) := by decide +kernel
theorem dX1_become_0 : decode cX1_become 0 = .ok (.aload_n 0, 1) := by decide +kernel
theorem dX1_become_1 : decode cX1_become 1 = .ok (.iload_n 1, 1) := by decide +kernel
theorem dX1_become_2 : decode cX1_become 2 = .ok (.putfield 9, 3) := by decide +kernel
theorem dX1_become_5 : decode cX1_become 5 = .ok (.aload_n 0, 1) := by decide +kernel
theorem dX1_become_6 : decode cX1_become 6 = .ok (.iload_n 2, 1) := by decide +kernel
theorem dX1_become_7 : decode cX1_become 7 = .ok (.putfield 15, 3) := by decide +kernel
theorem dX1_become_10 : decode cX1_become 10 = .ok (.aload_n 0, 1) := by decide +kernel
theorem dX1_become_11 : decode cX1_become 11 = .ok (.iload_n 3, 1) := by decide +kernel
theorem dX1_become_12 : decode cX1_become 12 = .ok (.putfield 18, 3) := by decide +kernel
theorem dX1_become_15 : decode cX1_become 15 = .ok (.aload_n 0, 1) := by decide +kernel
theorem dX1_become_16 : decode cX1_become 16 = .ok (.iconst 0, 1) := by decide +kernel
theorem dX1_become_17 : decode cX1_become 17 = .ok (.putfield 21, 3) := by decide +kernel
theorem dX1_become_20 : decode cX1_become 20 = .ok (.aload_n 0, 1) := by decide +kernel
theorem dX1_become_21 : decode cX1_become 21 = .ok (.iconst 0, 1) := by decide +kernel
theorem dX1_become_22 : decode cX1_become 22 = .ok (.iconst (-1), 1) := by decide +kernel
theorem dX1_become_23 : decode cX1_become 23 = .ok (.invokevirtual 24, 3) := by decide +kernel
theorem dX1_become_26 : decode cX1_become 26 = .ok (.return_, 1) := by decide +kernel
theorem dX1_copyFrom_0 : decode cX1_copyFrom 0 = .ok (.aload_n 0, 1) := by decide +kernel
theorem dX1_copyFrom_1 : decode cX1_copyFrom 1 = .ok (.aload_n 1, 1) := by decide +kernel
theorem dX1_copyFrom_2 : decode cX1_copyFrom 2 = .ok (.getfield 9, 3) := by decide +kernel
theorem dX1_copyFrom_5 : decode cX1_copyFrom 5 = .ok (.putfield 9, 3) := by decide +kernel
theorem dX1_copyFrom_8 : decode cX1_copyFrom 8 = .ok (.aload_n 0, 1) := by decide +kernel
theorem dX1_copyFrom_9 : decode cX1_copyFrom 9 = .ok (.aload_n 1, 1) := by decide +kernel
theorem dX1_copyFrom_10 : decode cX1_copyFrom 10 = .ok (.getfield 15, 3) := by decide +kernel
theorem dX1_copyFrom_13 : decode cX1_copyFrom 13 = .ok (.putfield 15, 3) := by decide +kernel
theorem dX1_copyFrom_16 : decode cX1_copyFrom 16 = .ok (.aload_n 0, 1) := by decide +kernel
theorem dX1_copyFrom_17 : decode cX1_copyFrom 17 = .ok (.aload_n 1, 1) := by decide +kernel
theorem dX1_copyFrom_18 : decode cX1_copyFrom 18 = .ok (.getfield 18, 3) := by decide +kernel
theorem dX1_copyFrom_21 : decode cX1_copyFrom 21 = .ok (.putfield 18, 3) := by decide +kernel
theorem dX1_copyFrom_24 : decode cX1_copyFrom 24 = .ok (.aload_n 0, 1) := by decide +kernel
theorem dX1_copyFrom_25 : decode cX1_copyFrom 25 = .ok (.aload_n 1, 1) := by decide +kernel
theorem dX1_copyFrom_26 : decode cX1_copyFrom 26 = .ok (.getfield 28, 3) := by decide +kernel
theorem dX1_copyFrom_29 : decode cX1_copyFrom 29 = .ok (.putfield 28, 3) := by decide +kernel
theorem dX1_copyFrom_32 : decode cX1_copyFrom 32 = .ok (.aload_n 0, 1) := by decide +kernel
theorem dX1_copyFrom_33 : decode cX1_copyFrom 33 = .ok (.aload_n 1, 1) := by decide +kernel
theorem dX1_copyFrom_34 : decode cX1_copyFrom 34 = .ok (.getfield 31, 3) := by decide +kernel
theorem dX1_copyFrom_37 : decode cX1_copyFrom 37 = .ok (.putfield 31, 3) := by decide +kernel
theorem dX1_copyFrom_40 : decode cX1_copyFrom 40 = .ok (.aload_n 0, 1) := by decide +kernel
theorem dX1_copyFrom_41 : decode cX1_copyFrom 41 = .ok (.aload_n 1, 1) := by decide +kernel
theorem dX1_copyFrom_42 : decode cX1_copyFrom 42 = .ok (.getfield 34, 3) := by decide +kernel
theorem dX1_copyFrom_45 : decode cX1_copyFrom 45 = .ok (.putfield 34, 3) := by decide +kernel
theorem dX1_copyFrom_48 : decode cX1_copyFrom 48 = .ok (.aload_n 0, 1) := by decide +kernel
theorem dX1_copyFrom_49 : decode cX1_copyFrom 49 = .ok (.aload_n 1, 1) := by decide +kernel
theorem dX1_copyFrom_50 : decode cX1_copyFrom 50 = .ok (.getfield 21, 3) := by decide +kernel
theorem dX1_copyFrom_53 : decode cX1_copyFrom 53 = .ok (.putfield 21, 3) := by decide +kernel
theorem dX1_copyFrom_56 : decode cX1_copyFrom 56 = .ok (.aload_n 0, 1) := by decide +kernel
theorem dX1_copyFrom_57 : decode cX1_copyFrom 57 = .ok (.aload_n 1, 1) := by decide +kernel
theorem dX1_copyFrom_58 : decode cX1_copyFrom 58 = .ok (.getfield 37, 3) := by decide +kernel
theorem dX1_copyFrom_61 : decode cX1_copyFrom 61 = .ok (.putfield 37, 3) := by decide +kernel
theorem dX1_copyFrom_64 : decode cX1_copyFrom 64 = .ok (.aload_n 0, 1) := by decide +kernel
theorem dX1_copyFrom_65 : decode cX1_copyFrom 65 = .ok (.aload_n 1, 1) := by decide +kernel
theorem dX1_copyFrom_66 : decode cX1_copyFrom 66 = .ok (.getfield 40, 3) := by decide +kernel
theorem dX1_copyFrom_69 : decode cX1_copyFrom 69 = .ok (.putfield 40, 3) := by decide +kernel
theorem dX1_copyFrom_72 : decode cX1_copyFrom 72 = .ok (.return_, 1) := by decide +kernel
theorem dX1_move_0 : decode cX1_move 0 = .ok (.aload_n 0, 1) := by decide +kernel
theorem dX1_move_1 : decode cX1_move 1 = .ok (.iload_n 1, 1) := by decide +kernel
theorem dX1_move_2 : decode cX1_move 2 = .ok (.putfield 28, 3) := by decide +kernel
theorem dX1_move_5 : decode cX1_move 5 = .ok (.aload_n 0, 1) := by decide +kernel
theorem dX1_move_6 : decode cX1_move 6 = .ok (.iload_n 2, 1) := by decide +kernel
theorem dX1_move_7 : decode cX1_move 7 = .ok (.putfield 31, 3) := by decide +kernel
theorem dX1_move_10 : decode cX1_move 10 = .ok (.return_, 1) := by decide +kernel
theorem dX1_moveForGood_0 : decode cX1_moveForGood 0 = .ok (.aload_n 0, 1) := by decide +kernel
theorem dX1_moveForGood_1 : decode cX1_moveForGood 1 = .ok (.iload_n 1, 1) := by decide +kernel
theorem dX1_moveForGood_2 : decode cX1_moveForGood 2 = .ok (.iload_n 2, 1) := by decide +kernel
theorem dX1_moveForGood_3 : decode cX1_moveForGood 3 = .ok (.invokevirtual 43, 3) := by decide +kernel
theorem dX1_moveForGood_6 : decode cX1_moveForGood 6 = .ok (.aload_n 0, 1) := by decide +kernel
theorem dX1_moveForGood_7 : decode cX1_moveForGood 7 = .ok (.iconst (-1), 1) := by decide +kernel
theorem dX1_moveForGood_8 : decode cX1_moveForGood 8 = .ok (.putfield 34, 3) := by decide +kernel
theorem dX1_moveForGood_11 : decode cX1_moveForGood 11 = .ok (.return_, 1) := by decide +kernel
theorem dX1_canOweMore_0 : decode cX1_canOweMore 0 = .ok (.aload_n 0, 1) := by decide +kernel
theorem dX1_canOweMore_1 : decode cX1_canOweMore 1 = .ok (.getfield 21, 3) := by decide +kernel
theorem dX1_canOweMore_4 : decode cX1_canOweMore 4 = .ok (.i2l, 1) := by decide +kernel
theorem dX1_canOweMore_5 : decode cX1_canOweMore 5 = .ok (.lload_n 1, 1) := by decide +kernel
theorem dX1_canOweMore_6 : decode cX1_canOweMore 6 = .ok (.ladd, 1) := by decide +kernel
theorem dX1_canOweMore_7 : decode cX1_canOweMore 7 = .ok (.ldc2_w 46, 3) := by decide +kernel
theorem dX1_canOweMore_10 : decode cX1_canOweMore 10 = .ok (.lcmp, 1) := by decide +kernel
theorem dX1_canOweMore_11 : decode cX1_canOweMore 11 = .ok (.ifCond .gt 7, 3) := by decide +kernel
theorem dX1_canOweMore_14 : decode cX1_canOweMore 14 = .ok (.iconst 1, 1) := by decide +kernel
theorem dX1_canOweMore_15 : decode cX1_canOweMore 15 = .ok (.goto 4, 3) := by decide +kernel
theorem dX1_canOweMore_18 : decode cX1_canOweMore 18 = .ok (.iconst 0, 1) := by decide +kernel
theorem dX1_canOweMore_19 : decode cX1_canOweMore 19 = .ok (.ireturn, 1) := by decide +kernel
theorem dX2_init_0 : decode cX2_init 0 = .ok (.aload_n 0, 1) := by decide +kernel
theorem dX2_init_1 : decode cX2_init 1 = .ok (.invokespecial 3, 3) := by decide +kernel
theorem dX2_init_4 : decode cX2_init 4 = .ok (.aload_n 0, 1) := by decide +kernel
theorem dX2_init_5 : decode cX2_init 5 = .ok (.bipush 16, 2) := by decide +kernel
theorem dX2_init_7 : decode cX2_init 7 = .ok (.anewarray 9, 3) := by decide +kernel
theorem dX2_init_10 : decode cX2_init 10 = .ok (.putfield 11, 3) := by decide +kernel
theorem dX2_init_13 : decode cX2_init 13 = .ok (.aload_n 0, 1) := by decide +kernel
theorem dX2_init_14 : decode cX2_init 14 = .ok (.bipush 20, 2) := by decide +kernel
theorem dX2_init_16 : decode cX2_init 16 = .ok (.anewarray 17, 3) := by decide +kernel
theorem dX2_init_19 : decode cX2_init 19 = .ok (.putfield 19, 3) := by decide +kernel
theorem dX2_init_22 : decode cX2_init 22 = .ok (.aload_n 0, 1) := by decide +kernel
theorem dX2_init_23 : decode cX2_init 23 = .ok (.bipush 14, 2) := by decide +kernel
theorem dX2_init_25 : decode cX2_init 25 = .ok (.newarray .int, 2) := by decide +kernel
theorem dX2_init_27 : decode cX2_init 27 = .ok (.putfield 23, 3) := by decide +kernel
theorem dX2_init_30 : decode cX2_init 30 = .ok (.aload_n 0, 1) := by decide +kernel
theorem dX2_init_31 : decode cX2_init 31 = .ok (.iconst 1, 1) := by decide +kernel
theorem dX2_init_32 : decode cX2_init 32 = .ok (.putfield 27, 3) := by decide +kernel
theorem dX2_init_35 : decode cX2_init 35 = .ok (.aload_n 0, 1) := by decide +kernel
theorem dX2_init_36 : decode cX2_init 36 = .ok (.bipush 30, 2) := by decide +kernel
theorem dX2_init_38 : decode cX2_init 38 = .ok (.putfield 31, 3) := by decide +kernel
theorem dX2_init_41 : decode cX2_init 41 = .ok (.aload_n 0, 1) := by decide +kernel
theorem dX2_init_42 : decode cX2_init 42 = .ok (.sipush 270, 3) := by decide +kernel
theorem dX2_init_45 : decode cX2_init 45 = .ok (.putfield 34, 3) := by decide +kernel
theorem dX2_init_48 : decode cX2_init 48 = .ok (.aload_n 0, 1) := by decide +kernel
theorem dX2_init_49 : decode cX2_init 49 = .ok (.bipush 90, 2) := by decide +kernel
theorem dX2_init_51 : decode cX2_init 51 = .ok (.putfield 37, 3) := by decide +kernel
theorem dX2_init_54 : decode cX2_init 54 = .ok (.iconst 0, 1) := by decide +kernel
theorem dX2_init_55 : decode cX2_init 55 = .ok (.istore_n 1, 1) := by decide +kernel
theorem dX2_init_56 : decode cX2_init 56 = .ok (.iload_n 1, 1) := by decide +kernel
theorem dX2_init_57 : decode cX2_init 57 = .ok (.bipush 16, 2) := by decide +kernel
theorem dX2_init_59 : decode cX2_init 59 = .ok (.if_icmp .ge 22, 3) := by decide +kernel
theorem dX2_init_62 : decode cX2_init 62 = .ok (.aload_n 0, 1) := by decide +kernel
theorem dX2_init_63 : decode cX2_init 63 = .ok (.getfield 11, 3) := by decide +kernel
theorem dX2_init_66 : decode cX2_init 66 = .ok (.iload_n 1, 1) := by decide +kernel
theorem dX2_init_67 : decode cX2_init 67 = .ok (.new 9, 3) := by decide +kernel
theorem dX2_init_70 : decode cX2_init 70 = .ok (.dup, 1) := by decide +kernel
theorem dX2_init_71 : decode cX2_init 71 = .ok (.invokespecial 40, 3) := by decide +kernel
theorem dX2_init_74 : decode cX2_init 74 = .ok (.aastore, 1) := by decide +kernel
theorem dX2_init_75 : decode cX2_init 75 = .ok (.iinc 1 1, 3) := by decide +kernel
theorem dX2_init_78 : decode cX2_init 78 = .ok (.goto (-22), 3) := by decide +kernel
theorem dX2_init_81 : decode cX2_init 81 = .ok (.iconst 0, 1) := by decide +kernel
theorem dX2_init_82 : decode cX2_init 82 = .ok (.istore_n 1, 1) := by decide +kernel
theorem dX2_init_83 : decode cX2_init 83 = .ok (.iload_n 1, 1) := by decide +kernel
theorem dX2_init_84 : decode cX2_init 84 = .ok (.bipush 20, 2) := by decide +kernel
theorem dX2_init_86 : decode cX2_init 86 = .ok (.if_icmp .ge 22, 3) := by decide +kernel
theorem dX2_init_89 : decode cX2_init 89 = .ok (.aload_n 0, 1) := by decide +kernel
theorem dX2_init_90 : decode cX2_init 90 = .ok (.getfield 19, 3) := by decide +kernel
theorem dX2_init_93 : decode cX2_init 93 = .ok (.iload_n 1, 1) := by decide +kernel
theorem dX2_init_94 : decode cX2_init 94 = .ok (.new 17, 3) := by decide +kernel
theorem dX2_init_97 : decode cX2_init 97 = .ok (.dup, 1) := by decide +kernel
theorem dX2_init_98 : decode cX2_init 98 = .ok (.invokespecial 41, 3) := by decide +kernel
theorem dX2_init_101 : decode cX2_init 101 = .ok (.aastore, 1) := by decide +kernel
theorem dX2_init_102 : decode cX2_init 102 = .ok (.iinc 1 1, 3) := by decide +kernel
theorem dX2_init_105 : decode cX2_init 105 = .ok (.goto (-22), 3) := by decide +kernel
theorem dX2_init_108 : decode cX2_init 108 = .ok (.return_, 1) := by decide +kernel
theorem dX2_copyFrom_0 : decode cX2_copyFrom 0 = .ok (.aload_n 0, 1) := by decide +kernel
theorem dX2_copyFrom_1 : decode cX2_copyFrom 1 = .ok (.aload_n 1, 1) := by decide +kernel
theorem dX2_copyFrom_2 : decode cX2_copyFrom 2 = .ok (.getfield 42, 3) := by decide +kernel
theorem dX2_copyFrom_5 : decode cX2_copyFrom 5 = .ok (.putfield 42, 3) := by decide +kernel
theorem dX2_copyFrom_8 : decode cX2_copyFrom 8 = .ok (.iconst 0, 1) := by decide +kernel
theorem dX2_copyFrom_9 : decode cX2_copyFrom 9 = .ok (.istore_n 2, 1) := by decide +kernel
theorem dX2_copyFrom_10 : decode cX2_copyFrom 10 = .ok (.iload_n 2, 1) := by decide +kernel
theorem dX2_copyFrom_11 : decode cX2_copyFrom 11 = .ok (.aload_n 0, 1) := by decide +kernel
theorem dX2_copyFrom_12 : decode cX2_copyFrom 12 = .ok (.getfield 42, 3) := by decide +kernel
theorem dX2_copyFrom_15 : decode cX2_copyFrom 15 = .ok (.if_icmp .ge 24, 3) := by decide +kernel
theorem dX2_copyFrom_18 : decode cX2_copyFrom 18 = .ok (.aload_n 0, 1) := by decide +kernel
theorem dX2_copyFrom_19 : decode cX2_copyFrom 19 = .ok (.getfield 11, 3) := by decide +kernel
theorem dX2_copyFrom_22 : decode cX2_copyFrom 22 = .ok (.iload_n 2, 1) := by decide +kernel
theorem dX2_copyFrom_23 : decode cX2_copyFrom 23 = .ok (.aaload, 1) := by decide +kernel
theorem dX2_copyFrom_24 : decode cX2_copyFrom 24 = .ok (.aload_n 1, 1) := by decide +kernel
theorem dX2_copyFrom_25 : decode cX2_copyFrom 25 = .ok (.getfield 11, 3) := by decide +kernel
theorem dX2_copyFrom_28 : decode cX2_copyFrom 28 = .ok (.iload_n 2, 1) := by decide +kernel
theorem dX2_copyFrom_29 : decode cX2_copyFrom 29 = .ok (.aaload, 1) := by decide +kernel
theorem dX2_copyFrom_30 : decode cX2_copyFrom 30 = .ok (.invokevirtual 45, 3) := by decide +kernel
theorem dX2_copyFrom_33 : decode cX2_copyFrom 33 = .ok (.iinc 2 1, 3) := by decide +kernel
theorem dX2_copyFrom_36 : decode cX2_copyFrom 36 = .ok (.goto (-26), 3) := by decide +kernel
theorem dX2_copyFrom_39 : decode cX2_copyFrom 39 = .ok (.aload_n 0, 1) := by decide +kernel
theorem dX2_copyFrom_40 : decode cX2_copyFrom 40 = .ok (.aload_n 1, 1) := by decide +kernel
theorem dX2_copyFrom_41 : decode cX2_copyFrom 41 = .ok (.getfield 49, 3) := by decide +kernel
theorem dX2_copyFrom_44 : decode cX2_copyFrom 44 = .ok (.putfield 49, 3) := by decide +kernel
theorem dX2_copyFrom_47 : decode cX2_copyFrom 47 = .ok (.iconst 0, 1) := by decide +kernel
theorem dX2_copyFrom_48 : decode cX2_copyFrom 48 = .ok (.istore_n 2, 1) := by decide +kernel
theorem dX2_copyFrom_49 : decode cX2_copyFrom 49 = .ok (.iload_n 2, 1) := by decide +kernel
theorem dX2_copyFrom_50 : decode cX2_copyFrom 50 = .ok (.aload_n 0, 1) := by decide +kernel
theorem dX2_copyFrom_51 : decode cX2_copyFrom 51 = .ok (.getfield 49, 3) := by decide +kernel
theorem dX2_copyFrom_54 : decode cX2_copyFrom 54 = .ok (.if_icmp .ge 24, 3) := by decide +kernel
theorem dX2_copyFrom_57 : decode cX2_copyFrom 57 = .ok (.aload_n 0, 1) := by decide +kernel
theorem dX2_copyFrom_58 : decode cX2_copyFrom 58 = .ok (.getfield 19, 3) := by decide +kernel
theorem dX2_copyFrom_61 : decode cX2_copyFrom 61 = .ok (.iload_n 2, 1) := by decide +kernel
theorem dX2_copyFrom_62 : decode cX2_copyFrom 62 = .ok (.aaload, 1) := by decide +kernel
theorem dX2_copyFrom_63 : decode cX2_copyFrom 63 = .ok (.aload_n 1, 1) := by decide +kernel
theorem dX2_copyFrom_64 : decode cX2_copyFrom 64 = .ok (.getfield 19, 3) := by decide +kernel
theorem dX2_copyFrom_67 : decode cX2_copyFrom 67 = .ok (.iload_n 2, 1) := by decide +kernel
theorem dX2_copyFrom_68 : decode cX2_copyFrom 68 = .ok (.aaload, 1) := by decide +kernel
theorem dX2_copyFrom_69 : decode cX2_copyFrom 69 = .ok (.invokevirtual 52, 3) := by decide +kernel
theorem dX2_copyFrom_72 : decode cX2_copyFrom 72 = .ok (.iinc 2 1, 3) := by decide +kernel
theorem dX2_copyFrom_75 : decode cX2_copyFrom 75 = .ok (.goto (-26), 3) := by decide +kernel
theorem dX2_copyFrom_78 : decode cX2_copyFrom 78 = .ok (.aload_n 0, 1) := by decide +kernel
theorem dX2_copyFrom_79 : decode cX2_copyFrom 79 = .ok (.aload_n 1, 1) := by decide +kernel
theorem dX2_copyFrom_80 : decode cX2_copyFrom 80 = .ok (.getfield 27, 3) := by decide +kernel
theorem dX2_copyFrom_83 : decode cX2_copyFrom 83 = .ok (.putfield 27, 3) := by decide +kernel
theorem dX2_copyFrom_86 : decode cX2_copyFrom 86 = .ok (.iconst 0, 1) := by decide +kernel
theorem dX2_copyFrom_87 : decode cX2_copyFrom 87 = .ok (.istore_n 2, 1) := by decide +kernel
theorem dX2_copyFrom_88 : decode cX2_copyFrom 88 = .ok (.iload_n 2, 1) := by decide +kernel
theorem dX2_copyFrom_89 : decode cX2_copyFrom 89 = .ok (.aload_n 0, 1) := by decide +kernel
theorem dX2_copyFrom_90 : decode cX2_copyFrom 90 = .ok (.getfield 27, 3) := by decide +kernel
theorem dX2_copyFrom_93 : decode cX2_copyFrom 93 = .ok (.if_icmp .ge 21, 3) := by decide +kernel
theorem dX2_copyFrom_96 : decode cX2_copyFrom 96 = .ok (.aload_n 0, 1) := by decide +kernel
theorem dX2_copyFrom_97 : decode cX2_copyFrom 97 = .ok (.getfield 23, 3) := by decide +kernel
theorem dX2_copyFrom_100 : decode cX2_copyFrom 100 = .ok (.iload_n 2, 1) := by decide +kernel
theorem dX2_copyFrom_101 : decode cX2_copyFrom 101 = .ok (.aload_n 1, 1) := by decide +kernel
theorem dX2_copyFrom_102 : decode cX2_copyFrom 102 = .ok (.getfield 23, 3) := by decide +kernel
theorem dX2_copyFrom_105 : decode cX2_copyFrom 105 = .ok (.iload_n 2, 1) := by decide +kernel
theorem dX2_copyFrom_106 : decode cX2_copyFrom 106 = .ok (.iaload, 1) := by decide +kernel
theorem dX2_copyFrom_107 : decode cX2_copyFrom 107 = .ok (.iastore, 1) := by decide +kernel
theorem dX2_copyFrom_108 : decode cX2_copyFrom 108 = .ok (.iinc 2 1, 3) := by decide +kernel
theorem dX2_copyFrom_111 : decode cX2_copyFrom 111 = .ok (.goto (-23), 3) := by decide +kernel
theorem dX2_copyFrom_114 : decode cX2_copyFrom 114 = .ok (.aload_n 0, 1) := by decide +kernel
theorem dX2_copyFrom_115 : decode cX2_copyFrom 115 = .ok (.aload_n 1, 1) := by decide +kernel
theorem dX2_copyFrom_116 : decode cX2_copyFrom 116 = .ok (.getfield 55, 3) := by decide +kernel
theorem dX2_copyFrom_119 : decode cX2_copyFrom 119 = .ok (.putfield 55, 3) := by decide +kernel
theorem dX2_copyFrom_122 : decode cX2_copyFrom 122 = .ok (.aload_n 0, 1) := by decide +kernel
theorem dX2_copyFrom_123 : decode cX2_copyFrom 123 = .ok (.aload_n 1, 1) := by decide +kernel
theorem dX2_copyFrom_124 : decode cX2_copyFrom 124 = .ok (.getfield 31, 3) := by decide +kernel
theorem dX2_copyFrom_127 : decode cX2_copyFrom 127 = .ok (.putfield 31, 3) := by decide +kernel
theorem dX2_copyFrom_130 : decode cX2_copyFrom 130 = .ok (.aload_n 0, 1) := by decide +kernel
theorem dX2_copyFrom_131 : decode cX2_copyFrom 131 = .ok (.aload_n 1, 1) := by decide +kernel
theorem dX2_copyFrom_132 : decode cX2_copyFrom 132 = .ok (.getfield 58, 3) := by decide +kernel
theorem dX2_copyFrom_135 : decode cX2_copyFrom 135 = .ok (.putfield 58, 3) := by decide +kernel
theorem dX2_copyFrom_138 : decode cX2_copyFrom 138 = .ok (.aload_n 0, 1) := by decide +kernel
theorem dX2_copyFrom_139 : decode cX2_copyFrom 139 = .ok (.aload_n 1, 1) := by decide +kernel
theorem dX2_copyFrom_140 : decode cX2_copyFrom 140 = .ok (.getfield 34, 3) := by decide +kernel
theorem dX2_copyFrom_143 : decode cX2_copyFrom 143 = .ok (.putfield 34, 3) := by decide +kernel
theorem dX2_copyFrom_146 : decode cX2_copyFrom 146 = .ok (.aload_n 0, 1) := by decide +kernel
theorem dX2_copyFrom_147 : decode cX2_copyFrom 147 = .ok (.aload_n 1, 1) := by decide +kernel
theorem dX2_copyFrom_148 : decode cX2_copyFrom 148 = .ok (.getfield 37, 3) := by decide +kernel
theorem dX2_copyFrom_151 : decode cX2_copyFrom 151 = .ok (.putfield 37, 3) := by decide +kernel
theorem dX2_copyFrom_154 : decode cX2_copyFrom 154 = .ok (.aload_n 0, 1) := by decide +kernel
theorem dX2_copyFrom_155 : decode cX2_copyFrom 155 = .ok (.aload_n 1, 1) := by decide +kernel
theorem dX2_copyFrom_156 : decode cX2_copyFrom 156 = .ok (.getfield 61, 3) := by decide +kernel
theorem dX2_copyFrom_159 : decode cX2_copyFrom 159 = .ok (.putfield 61, 3) := by decide +kernel
theorem dX2_copyFrom_162 : decode cX2_copyFrom 162 = .ok (.aload_n 0, 1) := by decide +kernel
theorem dX2_copyFrom_163 : decode cX2_copyFrom 163 = .ok (.aload_n 1, 1) := by decide +kernel
theorem dX2_copyFrom_164 : decode cX2_copyFrom 164 = .ok (.getfield 64, 3) := by decide +kernel
theorem dX2_copyFrom_167 : decode cX2_copyFrom 167 = .ok (.putfield 64, 3) := by decide +kernel
theorem dX2_copyFrom_170 : decode cX2_copyFrom 170 = .ok (.aload_n 0, 1) := by decide +kernel
theorem dX2_copyFrom_171 : decode cX2_copyFrom 171 = .ok (.aload_n 1, 1) := by decide +kernel
theorem dX2_copyFrom_172 : decode cX2_copyFrom 172 = .ok (.getfield 68, 3) := by decide +kernel
theorem dX2_copyFrom_175 : decode cX2_copyFrom 175 = .ok (.putfield 68, 3) := by decide +kernel
theorem dX2_copyFrom_178 : decode cX2_copyFrom 178 = .ok (.aload_n 0, 1) := by decide +kernel
theorem dX2_copyFrom_179 : decode cX2_copyFrom 179 = .ok (.aload_n 1, 1) := by decide +kernel
theorem dX2_copyFrom_180 : decode cX2_copyFrom 180 = .ok (.getfield 72, 3) := by decide +kernel
theorem dX2_copyFrom_183 : decode cX2_copyFrom 183 = .ok (.putfield 72, 3) := by decide +kernel
theorem dX2_copyFrom_186 : decode cX2_copyFrom 186 = .ok (.return_, 1) := by decide +kernel
theorem dX2_takeLows_0 : decode cX2_takeLows 0 = .ok (.aload_n 0, 1) := by decide +kernel
theorem dX2_takeLows_1 : decode cX2_takeLows 1 = .ok (.aload_n 1, 1) := by decide +kernel
theorem dX2_takeLows_2 : decode cX2_takeLows 2 = .ok (.getfield 75, 3) := by decide +kernel
theorem dX2_takeLows_5 : decode cX2_takeLows 5 = .ok (.putfield 27, 3) := by decide +kernel
theorem dX2_takeLows_8 : decode cX2_takeLows 8 = .ok (.aload_n 0, 1) := by decide +kernel
theorem dX2_takeLows_9 : decode cX2_takeLows 9 = .ok (.sipush 300, 3) := by decide +kernel
theorem dX2_takeLows_12 : decode cX2_takeLows 12 = .ok (.putfield 55, 3) := by decide +kernel
theorem dX2_takeLows_15 : decode cX2_takeLows 15 = .ok (.iconst 0, 1) := by decide +kernel
theorem dX2_takeLows_16 : decode cX2_takeLows 16 = .ok (.istore_n 2, 1) := by decide +kernel
theorem dX2_takeLows_17 : decode cX2_takeLows 17 = .ok (.iload_n 2, 1) := by decide +kernel
theorem dX2_takeLows_18 : decode cX2_takeLows 18 = .ok (.aload_n 0, 1) := by decide +kernel
theorem dX2_takeLows_19 : decode cX2_takeLows 19 = .ok (.getfield 27, 3) := by decide +kernel
theorem dX2_takeLows_22 : decode cX2_takeLows 22 = .ok (.if_icmp .ge 38, 3) := by decide +kernel
theorem dX2_takeLows_25 : decode cX2_takeLows 25 = .ok (.aload_n 0, 1) := by decide +kernel
theorem dX2_takeLows_26 : decode cX2_takeLows 26 = .ok (.getfield 23, 3) := by decide +kernel
theorem dX2_takeLows_29 : decode cX2_takeLows 29 = .ok (.iload_n 2, 1) := by decide +kernel
theorem dX2_takeLows_30 : decode cX2_takeLows 30 = .ok (.aload_n 1, 1) := by decide +kernel
theorem dX2_takeLows_31 : decode cX2_takeLows 31 = .ok (.getfield 80, 3) := by decide +kernel
theorem dX2_takeLows_34 : decode cX2_takeLows 34 = .ok (.iload_n 2, 1) := by decide +kernel
theorem dX2_takeLows_35 : decode cX2_takeLows 35 = .ok (.iaload, 1) := by decide +kernel
theorem dX2_takeLows_36 : decode cX2_takeLows 36 = .ok (.iastore, 1) := by decide +kernel
theorem dX2_takeLows_37 : decode cX2_takeLows 37 = .ok (.aload_n 0, 1) := by decide +kernel
theorem dX2_takeLows_38 : decode cX2_takeLows 38 = .ok (.aload_n 0, 1) := by decide +kernel
theorem dX2_takeLows_39 : decode cX2_takeLows 39 = .ok (.getfield 55, 3) := by decide +kernel
theorem dX2_takeLows_42 : decode cX2_takeLows 42 = .ok (.aload_n 0, 1) := by decide +kernel
theorem dX2_takeLows_43 : decode cX2_takeLows 43 = .ok (.getfield 23, 3) := by decide +kernel
theorem dX2_takeLows_46 : decode cX2_takeLows 46 = .ok (.iload_n 2, 1) := by decide +kernel
theorem dX2_takeLows_47 : decode cX2_takeLows 47 = .ok (.iaload, 1) := by decide +kernel
theorem dX2_takeLows_48 : decode cX2_takeLows 48 = .ok (.invokestatic 83, 3) := by decide +kernel
theorem dX2_takeLows_51 : decode cX2_takeLows 51 = .ok (.putfield 55, 3) := by decide +kernel
theorem dX2_takeLows_54 : decode cX2_takeLows 54 = .ok (.iinc 2 1, 3) := by decide +kernel
theorem dX2_takeLows_57 : decode cX2_takeLows 57 = .ok (.goto (-40), 3) := by decide +kernel
theorem dX2_takeLows_60 : decode cX2_takeLows 60 = .ok (.return_, 1) := by decide +kernel
theorem dX2_lowWater_0 : decode cX2_lowWater 0 = .ok (.iload_n 1, 1) := by decide +kernel
theorem dX2_lowWater_1 : decode cX2_lowWater 1 = .ok (.ifCond .lt 11, 3) := by decide +kernel
theorem dX2_lowWater_4 : decode cX2_lowWater 4 = .ok (.aload_n 0, 1) := by decide +kernel
theorem dX2_lowWater_5 : decode cX2_lowWater 5 = .ok (.getfield 27, 3) := by decide +kernel
theorem dX2_lowWater_8 : decode cX2_lowWater 8 = .ok (.iconst 1, 1) := by decide +kernel
theorem dX2_lowWater_9 : decode cX2_lowWater 9 = .ok (.if_icmp .ge 7, 3) := by decide +kernel
theorem dX2_lowWater_12 : decode cX2_lowWater 12 = .ok (.iconst 0, 1) := by decide +kernel
theorem dX2_lowWater_13 : decode cX2_lowWater 13 = .ok (.goto 14, 3) := by decide +kernel
theorem dX2_lowWater_16 : decode cX2_lowWater 16 = .ok (.aload_n 0, 1) := by decide +kernel
theorem dX2_lowWater_17 : decode cX2_lowWater 17 = .ok (.getfield 23, 3) := by decide +kernel
theorem dX2_lowWater_20 : decode cX2_lowWater 20 = .ok (.iload_n 1, 1) := by decide +kernel
theorem dX2_lowWater_21 : decode cX2_lowWater 21 = .ok (.aload_n 0, 1) := by decide +kernel
theorem dX2_lowWater_22 : decode cX2_lowWater 22 = .ok (.getfield 27, 3) := by decide +kernel
theorem dX2_lowWater_25 : decode cX2_lowWater 25 = .ok (.irem, 1) := by decide +kernel
theorem dX2_lowWater_26 : decode cX2_lowWater 26 = .ok (.iaload, 1) := by decide +kernel
theorem dX2_lowWater_27 : decode cX2_lowWater 27 = .ok (.ireturn, 1) := by decide +kernel
theorem dX2_lackOfWater_0 : decode cX2_lackOfWater 0 = .ok (.aload_n 1, 1) := by decide +kernel
theorem dX2_lackOfWater_1 : decode cX2_lackOfWater 1 = .ok (.getfield 89, 3) := by decide +kernel
theorem dX2_lackOfWater_4 : decode cX2_lackOfWater 4 = .ok (.aload_n 0, 1) := by decide +kernel
theorem dX2_lackOfWater_5 : decode cX2_lackOfWater 5 = .ok (.getfield 31, 3) := by decide +kernel
theorem dX2_lackOfWater_8 : decode cX2_lackOfWater 8 = .ok (.iadd, 1) := by decide +kernel
theorem dX2_lackOfWater_9 : decode cX2_lackOfWater 9 = .ok (.aload_n 2, 1) := by decide +kernel
theorem dX2_lackOfWater_10 : decode cX2_lackOfWater 10 = .ok (.getfield 92, 3) := by decide +kernel
theorem dX2_lackOfWater_13 : decode cX2_lackOfWater 13 = .ok (.aload_n 0, 1) := by decide +kernel
theorem dX2_lackOfWater_14 : decode cX2_lackOfWater 14 = .ok (.getfield 55, 3) := by decide +kernel
theorem dX2_lackOfWater_17 : decode cX2_lackOfWater 17 = .ok (.iadd, 1) := by decide +kernel
theorem dX2_lackOfWater_18 : decode cX2_lackOfWater 18 = .ok (.isub, 1) := by decide +kernel
theorem dX2_lackOfWater_19 : decode cX2_lackOfWater 19 = .ok (.ireturn, 1) := by decide +kernel
theorem dX2_suits_0 : decode cX2_suits 0 = .ok (.aload_n 1, 1) := by decide +kernel
theorem dX2_suits_1 : decode cX2_suits 1 = .ok (.getfield 95, 3) := by decide +kernel
theorem dX2_suits_4 : decode cX2_suits 4 = .ok (.aload_n 2, 1) := by decide +kernel
theorem dX2_suits_5 : decode cX2_suits 5 = .ok (.getfield 98, 3) := by decide +kernel
theorem dX2_suits_8 : decode cX2_suits 8 = .ok (.if_icmp .gt 16, 3) := by decide +kernel
theorem dX2_suits_11 : decode cX2_suits 11 = .ok (.aload_n 0, 1) := by decide +kernel
theorem dX2_suits_12 : decode cX2_suits 12 = .ok (.aload_n 1, 1) := by decide +kernel
theorem dX2_suits_13 : decode cX2_suits 13 = .ok (.aload_n 2, 1) := by decide +kernel
theorem dX2_suits_14 : decode cX2_suits 14 = .ok (.invokevirtual 99, 3) := by decide +kernel
theorem dX2_suits_17 : decode cX2_suits 17 = .ok (.ifCond .gt 7, 3) := by decide +kernel
theorem dX2_suits_20 : decode cX2_suits 20 = .ok (.iconst 1, 1) := by decide +kernel
theorem dX2_suits_21 : decode cX2_suits 21 = .ok (.goto 4, 3) := by decide +kernel
theorem dX2_suits_24 : decode cX2_suits 24 = .ok (.iconst 0, 1) := by decide +kernel
theorem dX2_suits_25 : decode cX2_suits 25 = .ok (.ireturn, 1) := by decide +kernel
theorem dX2_suitsBerthOf_0 : decode cX2_suitsBerthOf 0 = .ok (.aload_n 0, 1) := by decide +kernel
theorem dX2_suitsBerthOf_1 : decode cX2_suitsBerthOf 1 = .ok (.aload_n 2, 1) := by decide +kernel
theorem dX2_suitsBerthOf_2 : decode cX2_suitsBerthOf 2 = .ok (.invokevirtual 103, 3) := by decide +kernel
theorem dX2_suitsBerthOf_5 : decode cX2_suitsBerthOf 5 = .ok (.astore_n 3, 1) := by decide +kernel
theorem dX2_suitsBerthOf_6 : decode cX2_suitsBerthOf 6 = .ok (.aload_n 3, 1) := by decide +kernel
theorem dX2_suitsBerthOf_7 : decode cX2_suitsBerthOf 7 = .ok (.ifnull 16, 3) := by decide +kernel
theorem dX2_suitsBerthOf_10 : decode cX2_suitsBerthOf 10 = .ok (.aload_n 0, 1) := by decide +kernel
theorem dX2_suitsBerthOf_11 : decode cX2_suitsBerthOf 11 = .ok (.aload_n 1, 1) := by decide +kernel
theorem dX2_suitsBerthOf_12 : decode cX2_suitsBerthOf 12 = .ok (.aload_n 3, 1) := by decide +kernel
theorem dX2_suitsBerthOf_13 : decode cX2_suitsBerthOf 13 = .ok (.invokevirtual 107, 3) := by decide +kernel
theorem dX2_suitsBerthOf_16 : decode cX2_suitsBerthOf 16 = .ok (.ifCond .eq 7, 3) := by decide +kernel
theorem dX2_suitsBerthOf_19 : decode cX2_suitsBerthOf 19 = .ok (.iconst 1, 1) := by decide +kernel
theorem dX2_suitsBerthOf_20 : decode cX2_suitsBerthOf 20 = .ok (.goto 4, 3) := by decide +kernel
theorem dX2_suitsBerthOf_23 : decode cX2_suitsBerthOf 23 = .ok (.iconst 0, 1) := by decide +kernel
theorem dX2_suitsBerthOf_24 : decode cX2_suitsBerthOf 24 = .ok (.ireturn, 1) := by decide +kernel
theorem dX2_isWhereItFits_0 : decode cX2_isWhereItFits 0 = .ok (.aload_n 0, 1) := by decide +kernel
theorem dX2_isWhereItFits_1 : decode cX2_isWhereItFits 1 = .ok (.aload_n 1, 1) := by decide +kernel
theorem dX2_isWhereItFits_2 : decode cX2_isWhereItFits 2 = .ok (.invokevirtual 103, 3) := by decide +kernel
theorem dX2_isWhereItFits_5 : decode cX2_isWhereItFits 5 = .ok (.astore_n 2, 1) := by decide +kernel
theorem dX2_isWhereItFits_6 : decode cX2_isWhereItFits 6 = .ok (.aload_n 2, 1) := by decide +kernel
theorem dX2_isWhereItFits_7 : decode cX2_isWhereItFits 7 = .ok (.ifnull 12, 3) := by decide +kernel
theorem dX2_isWhereItFits_10 : decode cX2_isWhereItFits 10 = .ok (.aload_n 0, 1) := by decide +kernel
theorem dX2_isWhereItFits_11 : decode cX2_isWhereItFits 11 = .ok (.aload_n 1, 1) := by decide +kernel
theorem dX2_isWhereItFits_12 : decode cX2_isWhereItFits 12 = .ok (.aload_n 2, 1) := by decide +kernel
theorem dX2_isWhereItFits_13 : decode cX2_isWhereItFits 13 = .ok (.invokevirtual 107, 3) := by decide +kernel
theorem dX2_isWhereItFits_16 : decode cX2_isWhereItFits 16 = .ok (.ifCond .eq 7, 3) := by decide +kernel
theorem dX2_isWhereItFits_19 : decode cX2_isWhereItFits 19 = .ok (.iconst 1, 1) := by decide +kernel
theorem dX2_isWhereItFits_20 : decode cX2_isWhereItFits 20 = .ok (.goto 4, 3) := by decide +kernel
theorem dX2_isWhereItFits_23 : decode cX2_isWhereItFits 23 = .ok (.iconst 0, 1) := by decide +kernel
theorem dX2_isWhereItFits_24 : decode cX2_isWhereItFits 24 = .ok (.ireturn, 1) := by decide +kernel
theorem dX2_berthOf_0 : decode cX2_berthOf 0 = .ok (.aload_n 1, 1) := by decide +kernel
theorem dX2_berthOf_1 : decode cX2_berthOf 1 = .ok (.getfield 111, 3) := by decide +kernel
theorem dX2_berthOf_4 : decode cX2_berthOf 4 = .ok (.ifCond .lt 14, 3) := by decide +kernel
theorem dX2_berthOf_7 : decode cX2_berthOf 7 = .ok (.aload_n 1, 1) := by decide +kernel
theorem dX2_berthOf_8 : decode cX2_berthOf 8 = .ok (.getfield 111, 3) := by decide +kernel
theorem dX2_berthOf_11 : decode cX2_berthOf 11 = .ok (.aload_n 0, 1) := by decide +kernel
theorem dX2_berthOf_12 : decode cX2_berthOf 12 = .ok (.getfield 42, 3) := by decide +kernel
theorem dX2_berthOf_15 : decode cX2_berthOf 15 = .ok (.if_icmp .lt 7, 3) := by decide +kernel
theorem dX2_berthOf_18 : decode cX2_berthOf 18 = .ok (.aconst_null, 1) := by decide +kernel
theorem dX2_berthOf_19 : decode cX2_berthOf 19 = .ok (.goto 12, 3) := by decide +kernel
theorem dX2_berthOf_22 : decode cX2_berthOf 22 = .ok (.aload_n 0, 1) := by decide +kernel
theorem dX2_berthOf_23 : decode cX2_berthOf 23 = .ok (.getfield 11, 3) := by decide +kernel
theorem dX2_berthOf_26 : decode cX2_berthOf 26 = .ok (.aload_n 1, 1) := by decide +kernel
theorem dX2_berthOf_27 : decode cX2_berthOf 27 = .ok (.getfield 111, 3) := by decide +kernel
theorem dX2_berthOf_30 : decode cX2_berthOf 30 = .ok (.aaload, 1) := by decide +kernel
theorem dX2_berthOf_31 : decode cX2_berthOf 31 = .ok (.areturn, 1) := by decide +kernel
theorem dX2_boatIn_0 : decode cX2_boatIn 0 = .ok (.iconst 0, 1) := by decide +kernel
theorem dX2_boatIn_1 : decode cX2_boatIn 1 = .ok (.istore_n 2, 1) := by decide +kernel
theorem dX2_boatIn_2 : decode cX2_boatIn 2 = .ok (.iload_n 2, 1) := by decide +kernel
theorem dX2_boatIn_3 : decode cX2_boatIn 3 = .ok (.aload_n 0, 1) := by decide +kernel
theorem dX2_boatIn_4 : decode cX2_boatIn 4 = .ok (.getfield 49, 3) := by decide +kernel
theorem dX2_boatIn_7 : decode cX2_boatIn 7 = .ok (.if_icmp .ge 24, 3) := by decide +kernel
theorem dX2_boatIn_10 : decode cX2_boatIn 10 = .ok (.aload_n 0, 1) := by decide +kernel
theorem dX2_boatIn_11 : decode cX2_boatIn 11 = .ok (.getfield 19, 3) := by decide +kernel
theorem dX2_boatIn_14 : decode cX2_boatIn 14 = .ok (.iload_n 2, 1) := by decide +kernel
theorem dX2_boatIn_15 : decode cX2_boatIn 15 = .ok (.aaload, 1) := by decide +kernel
theorem dX2_boatIn_16 : decode cX2_boatIn 16 = .ok (.getfield 111, 3) := by decide +kernel
theorem dX2_boatIn_19 : decode cX2_boatIn 19 = .ok (.iload_n 1, 1) := by decide +kernel
theorem dX2_boatIn_20 : decode cX2_boatIn 20 = .ok (.if_icmp .ne 5, 3) := by decide +kernel
theorem dX2_boatIn_23 : decode cX2_boatIn 23 = .ok (.iload_n 2, 1) := by decide +kernel
theorem dX2_boatIn_24 : decode cX2_boatIn 24 = .ok (.ireturn, 1) := by decide +kernel
theorem dX2_boatIn_25 : decode cX2_boatIn 25 = .ok (.iinc 2 1, 3) := by decide +kernel
theorem dX2_boatIn_28 : decode cX2_boatIn 28 = .ok (.goto (-26), 3) := by decide +kernel
theorem dX2_boatIn_31 : decode cX2_boatIn 31 = .ok (.iconst (-1), 1) := by decide +kernel
theorem dX2_boatIn_32 : decode cX2_boatIn 32 = .ok (.ireturn, 1) := by decide +kernel
theorem dX2_isOpen_0 : decode cX2_isOpen 0 = .ok (.aload_n 0, 1) := by decide +kernel
theorem dX2_isOpen_1 : decode cX2_isOpen 1 = .ok (.iload_n 1, 1) := by decide +kernel
theorem dX2_isOpen_2 : decode cX2_isOpen 2 = .ok (.invokevirtual 114, 3) := by decide +kernel
theorem dX2_isOpen_5 : decode cX2_isOpen 5 = .ok (.iconst (-1), 1) := by decide +kernel
theorem dX2_isOpen_6 : decode cX2_isOpen 6 = .ok (.if_icmp .ne 26, 3) := by decide +kernel
theorem dX2_isOpen_9 : decode cX2_isOpen 9 = .ok (.aload_n 0, 1) := by decide +kernel
theorem dX2_isOpen_10 : decode cX2_isOpen 10 = .ok (.getfield 64, 3) := by decide +kernel
theorem dX2_isOpen_13 : decode cX2_isOpen 13 = .ok (.ifCond .eq 15, 3) := by decide +kernel
theorem dX2_isOpen_16 : decode cX2_isOpen 16 = .ok (.aload_n 0, 1) := by decide +kernel
theorem dX2_isOpen_17 : decode cX2_isOpen 17 = .ok (.getfield 11, 3) := by decide +kernel
theorem dX2_isOpen_20 : decode cX2_isOpen 20 = .ok (.iload_n 1, 1) := by decide +kernel
theorem dX2_isOpen_21 : decode cX2_isOpen 21 = .ok (.aaload, 1) := by decide +kernel
theorem dX2_isOpen_22 : decode cX2_isOpen 22 = .ok (.getfield 118, 3) := by decide +kernel
theorem dX2_isOpen_25 : decode cX2_isOpen 25 = .ok (.ifCond .ne 7, 3) := by decide +kernel
theorem dX2_isOpen_28 : decode cX2_isOpen 28 = .ok (.iconst 1, 1) := by decide +kernel
theorem dX2_isOpen_29 : decode cX2_isOpen 29 = .ok (.goto 4, 3) := by decide +kernel
theorem dX2_isOpen_32 : decode cX2_isOpen 32 = .ok (.iconst 0, 1) := by decide +kernel
theorem dX2_isOpen_33 : decode cX2_isOpen 33 = .ok (.ireturn, 1) := by decide +kernel
theorem dX2_countFitting_0 : decode cX2_countFitting 0 = .ok (.iconst 0, 1) := by decide +kernel
theorem dX2_countFitting_1 : decode cX2_countFitting 1 = .ok (.istore_n 2, 1) := by decide +kernel
theorem dX2_countFitting_2 : decode cX2_countFitting 2 = .ok (.iconst 0, 1) := by decide +kernel
theorem dX2_countFitting_3 : decode cX2_countFitting 3 = .ok (.istore_n 3, 1) := by decide +kernel
theorem dX2_countFitting_4 : decode cX2_countFitting 4 = .ok (.iload_n 3, 1) := by decide +kernel
theorem dX2_countFitting_5 : decode cX2_countFitting 5 = .ok (.aload_n 0, 1) := by decide +kernel
theorem dX2_countFitting_6 : decode cX2_countFitting 6 = .ok (.getfield 49, 3) := by decide +kernel
theorem dX2_countFitting_9 : decode cX2_countFitting 9 = .ok (.if_icmp .ge 26, 3) := by decide +kernel
theorem dX2_countFitting_12 : decode cX2_countFitting 12 = .ok (.aload_n 0, 1) := by decide +kernel
theorem dX2_countFitting_13 : decode cX2_countFitting 13 = .ok (.aload_n 0, 1) := by decide +kernel
theorem dX2_countFitting_14 : decode cX2_countFitting 14 = .ok (.getfield 19, 3) := by decide +kernel
theorem dX2_countFitting_17 : decode cX2_countFitting 17 = .ok (.iload_n 3, 1) := by decide +kernel
theorem dX2_countFitting_18 : decode cX2_countFitting 18 = .ok (.aaload, 1) := by decide +kernel
theorem dX2_countFitting_19 : decode cX2_countFitting 19 = .ok (.aload_n 1, 1) := by decide +kernel
theorem dX2_countFitting_20 : decode cX2_countFitting 20 = .ok (.invokevirtual 107, 3) := by decide +kernel
theorem dX2_countFitting_23 : decode cX2_countFitting 23 = .ok (.ifCond .eq 6, 3) := by decide +kernel
theorem dX2_countFitting_26 : decode cX2_countFitting 26 = .ok (.iinc 2 1, 3) := by decide +kernel
theorem dX2_countFitting_29 : decode cX2_countFitting 29 = .ok (.iinc 3 1, 3) := by decide +kernel
theorem dX2_countFitting_32 : decode cX2_countFitting 32 = .ok (.goto (-28), 3) := by decide +kernel
theorem dX2_countFitting_35 : decode cX2_countFitting 35 = .ok (.iload_n 2, 1) := by decide +kernel
theorem dX2_countFitting_36 : decode cX2_countFitting 36 = .ok (.ireturn, 1) := by decide +kernel
theorem dX2_countIn_0 : decode cX2_countIn 0 = .ok (.iconst 0, 1) := by decide +kernel
theorem dX2_countIn_1 : decode cX2_countIn 1 = .ok (.istore_n 2, 1) := by decide +kernel
theorem dX2_countIn_2 : decode cX2_countIn 2 = .ok (.iconst 0, 1) := by decide +kernel
theorem dX2_countIn_3 : decode cX2_countIn 3 = .ok (.istore_n 3, 1) := by decide +kernel
theorem dX2_countIn_4 : decode cX2_countIn 4 = .ok (.iload_n 3, 1) := by decide +kernel
theorem dX2_countIn_5 : decode cX2_countIn 5 = .ok (.aload_n 0, 1) := by decide +kernel
theorem dX2_countIn_6 : decode cX2_countIn 6 = .ok (.getfield 49, 3) := by decide +kernel
theorem dX2_countIn_9 : decode cX2_countIn 9 = .ok (.if_icmp .ge 25, 3) := by decide +kernel
theorem dX2_countIn_12 : decode cX2_countIn 12 = .ok (.aload_n 0, 1) := by decide +kernel
theorem dX2_countIn_13 : decode cX2_countIn 13 = .ok (.getfield 19, 3) := by decide +kernel
theorem dX2_countIn_16 : decode cX2_countIn 16 = .ok (.iload_n 3, 1) := by decide +kernel
theorem dX2_countIn_17 : decode cX2_countIn 17 = .ok (.aaload, 1) := by decide +kernel
theorem dX2_countIn_18 : decode cX2_countIn 18 = .ok (.getfield 121, 3) := by decide +kernel
theorem dX2_countIn_21 : decode cX2_countIn 21 = .ok (.iload_n 1, 1) := by decide +kernel
theorem dX2_countIn_22 : decode cX2_countIn 22 = .ok (.if_icmp .ne 6, 3) := by decide +kernel
theorem dX2_countIn_25 : decode cX2_countIn 25 = .ok (.iinc 2 1, 3) := by decide +kernel
theorem dX2_countIn_28 : decode cX2_countIn 28 = .ok (.iinc 3 1, 3) := by decide +kernel
theorem dX2_countIn_31 : decode cX2_countIn 31 = .ok (.goto (-27), 3) := by decide +kernel
theorem dX2_countIn_34 : decode cX2_countIn 34 = .ok (.iload_n 2, 1) := by decide +kernel
theorem dX2_countIn_35 : decode cX2_countIn 35 = .ok (.ireturn, 1) := by decide +kernel
theorem dX2_bestBerthFor_0 : decode cX2_bestBerthFor 0 = .ok (.iconst (-1), 1) := by decide +kernel
theorem dX2_bestBerthFor_1 : decode cX2_bestBerthFor 1 = .ok (.istore_n 2, 1) := by decide +kernel
theorem dX2_bestBerthFor_2 : decode cX2_bestBerthFor 2 = .ok (.iconst 0, 1) := by decide +kernel
theorem dX2_bestBerthFor_3 : decode cX2_bestBerthFor 3 = .ok (.istore_n 3, 1) := by decide +kernel
theorem dX2_bestBerthFor_4 : decode cX2_bestBerthFor 4 = .ok (.iload_n 3, 1) := by decide +kernel
theorem dX2_bestBerthFor_5 : decode cX2_bestBerthFor 5 = .ok (.aload_n 0, 1) := by decide +kernel
theorem dX2_bestBerthFor_6 : decode cX2_bestBerthFor 6 = .ok (.getfield 42, 3) := by decide +kernel
theorem dX2_bestBerthFor_9 : decode cX2_bestBerthFor 9 = .ok (.if_icmp .ge 56, 3) := by decide +kernel
theorem dX2_bestBerthFor_12 : decode cX2_bestBerthFor 12 = .ok (.aload_n 0, 1) := by decide +kernel
theorem dX2_bestBerthFor_13 : decode cX2_bestBerthFor 13 = .ok (.iload_n 3, 1) := by decide +kernel
theorem dX2_bestBerthFor_14 : decode cX2_bestBerthFor 14 = .ok (.invokevirtual 124, 3) := by decide +kernel
theorem dX2_bestBerthFor_17 : decode cX2_bestBerthFor 17 = .ok (.ifCond .eq 42, 3) := by decide +kernel
theorem dX2_bestBerthFor_20 : decode cX2_bestBerthFor 20 = .ok (.aload_n 0, 1) := by decide +kernel
theorem dX2_bestBerthFor_21 : decode cX2_bestBerthFor 21 = .ok (.aload_n 1, 1) := by decide +kernel
theorem dX2_bestBerthFor_22 : decode cX2_bestBerthFor 22 = .ok (.aload_n 0, 1) := by decide +kernel
theorem dX2_bestBerthFor_23 : decode cX2_bestBerthFor 23 = .ok (.getfield 11, 3) := by decide +kernel
theorem dX2_bestBerthFor_26 : decode cX2_bestBerthFor 26 = .ok (.iload_n 3, 1) := by decide +kernel
theorem dX2_bestBerthFor_27 : decode cX2_bestBerthFor 27 = .ok (.aaload, 1) := by decide +kernel
theorem dX2_bestBerthFor_28 : decode cX2_bestBerthFor 28 = .ok (.invokevirtual 107, 3) := by decide +kernel
theorem dX2_bestBerthFor_31 : decode cX2_bestBerthFor 31 = .ok (.ifCond .eq 28, 3) := by decide +kernel
theorem dX2_bestBerthFor_34 : decode cX2_bestBerthFor 34 = .ok (.iload_n 2, 1) := by decide +kernel
theorem dX2_bestBerthFor_35 : decode cX2_bestBerthFor 35 = .ok (.iconst (-1), 1) := by decide +kernel
theorem dX2_bestBerthFor_36 : decode cX2_bestBerthFor 36 = .ok (.if_icmp .eq 21, 3) := by decide +kernel
theorem dX2_bestBerthFor_39 : decode cX2_bestBerthFor 39 = .ok (.aload_n 0, 1) := by decide +kernel
theorem dX2_bestBerthFor_40 : decode cX2_bestBerthFor 40 = .ok (.getfield 11, 3) := by decide +kernel
theorem dX2_bestBerthFor_43 : decode cX2_bestBerthFor 43 = .ok (.iload_n 3, 1) := by decide +kernel
theorem dX2_bestBerthFor_44 : decode cX2_bestBerthFor 44 = .ok (.aaload, 1) := by decide +kernel
theorem dX2_bestBerthFor_45 : decode cX2_bestBerthFor 45 = .ok (.aload_n 0, 1) := by decide +kernel
theorem dX2_bestBerthFor_46 : decode cX2_bestBerthFor 46 = .ok (.getfield 11, 3) := by decide +kernel
theorem dX2_bestBerthFor_49 : decode cX2_bestBerthFor 49 = .ok (.iload_n 2, 1) := by decide +kernel
theorem dX2_bestBerthFor_50 : decode cX2_bestBerthFor 50 = .ok (.aaload, 1) := by decide +kernel
theorem dX2_bestBerthFor_51 : decode cX2_bestBerthFor 51 = .ok (.invokevirtual 128, 3) := by decide +kernel
theorem dX2_bestBerthFor_54 : decode cX2_bestBerthFor 54 = .ok (.ifCond .eq 5, 3) := by decide +kernel
theorem dX2_bestBerthFor_57 : decode cX2_bestBerthFor 57 = .ok (.iload_n 3, 1) := by decide +kernel
theorem dX2_bestBerthFor_58 : decode cX2_bestBerthFor 58 = .ok (.istore_n 2, 1) := by decide +kernel
theorem dX2_bestBerthFor_59 : decode cX2_bestBerthFor 59 = .ok (.iinc 3 1, 3) := by decide +kernel
theorem dX2_bestBerthFor_62 : decode cX2_bestBerthFor 62 = .ok (.goto (-58), 3) := by decide +kernel
theorem dX2_bestBerthFor_65 : decode cX2_bestBerthFor 65 = .ok (.iload_n 2, 1) := by decide +kernel
theorem dX2_bestBerthFor_66 : decode cX2_bestBerthFor 66 = .ok (.ireturn, 1) := by decide +kernel
theorem dX2_isAground_0 : decode cX2_isAground 0 = .ok (.aload_n 0, 1) := by decide +kernel
theorem dX2_isAground_1 : decode cX2_isAground 1 = .ok (.aload_n 1, 1) := by decide +kernel
theorem dX2_isAground_2 : decode cX2_isAground 2 = .ok (.aload_n 0, 1) := by decide +kernel
theorem dX2_isAground_3 : decode cX2_isAground 3 = .ok (.getfield 61, 3) := by decide +kernel
theorem dX2_isAground_6 : decode cX2_isAground 6 = .ok (.invokevirtual 132, 3) := by decide +kernel
theorem dX2_isAground_9 : decode cX2_isAground 9 = .ok (.ireturn, 1) := by decide +kernel
theorem dX2_isAgroundOn_0 : decode cX2_isAgroundOn 0 = .ok (.aload_n 0, 1) := by decide +kernel
theorem dX2_isAgroundOn_1 : decode cX2_isAgroundOn 1 = .ok (.aload_n 1, 1) := by decide +kernel
theorem dX2_isAgroundOn_2 : decode cX2_isAgroundOn 2 = .ok (.invokevirtual 103, 3) := by decide +kernel
theorem dX2_isAgroundOn_5 : decode cX2_isAgroundOn 5 = .ok (.astore_n 3, 1) := by decide +kernel
theorem dX2_isAgroundOn_6 : decode cX2_isAgroundOn 6 = .ok (.aload_n 3, 1) := by decide +kernel
theorem dX2_isAgroundOn_7 : decode cX2_isAgroundOn 7 = .ok (.ifnull 24, 3) := by decide +kernel
theorem dX2_isAgroundOn_10 : decode cX2_isAgroundOn 10 = .ok (.aload_n 1, 1) := by decide +kernel
theorem dX2_isAgroundOn_11 : decode cX2_isAgroundOn 11 = .ok (.getfield 89, 3) := by decide +kernel
theorem dX2_isAgroundOn_14 : decode cX2_isAgroundOn 14 = .ok (.aload_n 3, 1) := by decide +kernel
theorem dX2_isAgroundOn_15 : decode cX2_isAgroundOn 15 = .ok (.getfield 92, 3) := by decide +kernel
theorem dX2_isAgroundOn_18 : decode cX2_isAgroundOn 18 = .ok (.aload_n 0, 1) := by decide +kernel
theorem dX2_isAgroundOn_19 : decode cX2_isAgroundOn 19 = .ok (.iload_n 2, 1) := by decide +kernel
theorem dX2_isAgroundOn_20 : decode cX2_isAgroundOn 20 = .ok (.invokevirtual 136, 3) := by decide +kernel
theorem dX2_isAgroundOn_23 : decode cX2_isAgroundOn 23 = .ok (.iadd, 1) := by decide +kernel
theorem dX2_isAgroundOn_24 : decode cX2_isAgroundOn 24 = .ok (.if_icmp .le 7, 3) := by decide +kernel
theorem dX2_isAgroundOn_27 : decode cX2_isAgroundOn 27 = .ok (.iconst 1, 1) := by decide +kernel
theorem dX2_isAgroundOn_28 : decode cX2_isAgroundOn 28 = .ok (.goto 4, 3) := by decide +kernel
theorem dX2_isAgroundOn_31 : decode cX2_isAgroundOn 31 = .ok (.iconst 0, 1) := by decide +kernel
theorem dX2_isAgroundOn_32 : decode cX2_isAgroundOn 32 = .ok (.ireturn, 1) := by decide +kernel
theorem dX2_countAground_0 : decode cX2_countAground 0 = .ok (.iconst 0, 1) := by decide +kernel
theorem dX2_countAground_1 : decode cX2_countAground 1 = .ok (.istore_n 1, 1) := by decide +kernel
theorem dX2_countAground_2 : decode cX2_countAground 2 = .ok (.iconst 0, 1) := by decide +kernel
theorem dX2_countAground_3 : decode cX2_countAground 3 = .ok (.istore_n 2, 1) := by decide +kernel
theorem dX2_countAground_4 : decode cX2_countAground 4 = .ok (.iload_n 2, 1) := by decide +kernel
theorem dX2_countAground_5 : decode cX2_countAground 5 = .ok (.aload_n 0, 1) := by decide +kernel
theorem dX2_countAground_6 : decode cX2_countAground 6 = .ok (.getfield 49, 3) := by decide +kernel
theorem dX2_countAground_9 : decode cX2_countAground 9 = .ok (.if_icmp .ge 25, 3) := by decide +kernel
theorem dX2_countAground_12 : decode cX2_countAground 12 = .ok (.aload_n 0, 1) := by decide +kernel
theorem dX2_countAground_13 : decode cX2_countAground 13 = .ok (.aload_n 0, 1) := by decide +kernel
theorem dX2_countAground_14 : decode cX2_countAground 14 = .ok (.getfield 19, 3) := by decide +kernel
theorem dX2_countAground_17 : decode cX2_countAground 17 = .ok (.iload_n 2, 1) := by decide +kernel
theorem dX2_countAground_18 : decode cX2_countAground 18 = .ok (.aaload, 1) := by decide +kernel
theorem dX2_countAground_19 : decode cX2_countAground 19 = .ok (.invokevirtual 139, 3) := by decide +kernel
theorem dX2_countAground_22 : decode cX2_countAground 22 = .ok (.ifCond .eq 6, 3) := by decide +kernel
theorem dX2_countAground_25 : decode cX2_countAground 25 = .ok (.iinc 1 1, 3) := by decide +kernel
theorem dX2_countAground_28 : decode cX2_countAground 28 = .ok (.iinc 2 1, 3) := by decide +kernel
theorem dX2_countAground_31 : decode cX2_countAground 31 = .ok (.goto (-27), 3) := by decide +kernel
theorem dX2_countAground_34 : decode cX2_countAground 34 = .ok (.iload_n 1, 1) := by decide +kernel
theorem dX2_countAground_35 : decode cX2_countAground 35 = .ok (.ireturn, 1) := by decide +kernel
theorem dX2_daysUntilAground_0 : decode cX2_daysUntilAground 0 = .ok (.iconst 0, 1) := by decide +kernel
theorem dX2_daysUntilAground_1 : decode cX2_daysUntilAground 1 = .ok (.istore_n 2, 1) := by decide +kernel
theorem dX2_daysUntilAground_2 : decode cX2_daysUntilAground 2 = .ok (.iload_n 2, 1) := by decide +kernel
theorem dX2_daysUntilAground_3 : decode cX2_daysUntilAground 3 = .ok (.aload_n 0, 1) := by decide +kernel
theorem dX2_daysUntilAground_4 : decode cX2_daysUntilAground 4 = .ok (.getfield 27, 3) := by decide +kernel
theorem dX2_daysUntilAground_7 : decode cX2_daysUntilAground 7 = .ok (.if_icmp .ge 25, 3) := by decide +kernel
theorem dX2_daysUntilAground_10 : decode cX2_daysUntilAground 10 = .ok (.aload_n 0, 1) := by decide +kernel
theorem dX2_daysUntilAground_11 : decode cX2_daysUntilAground 11 = .ok (.aload_n 1, 1) := by decide +kernel
theorem dX2_daysUntilAground_12 : decode cX2_daysUntilAground 12 = .ok (.aload_n 0, 1) := by decide +kernel
theorem dX2_daysUntilAground_13 : decode cX2_daysUntilAground 13 = .ok (.getfield 61, 3) := by decide +kernel
theorem dX2_daysUntilAground_16 : decode cX2_daysUntilAground 16 = .ok (.iload_n 2, 1) := by decide +kernel
theorem dX2_daysUntilAground_17 : decode cX2_daysUntilAground 17 = .ok (.iadd, 1) := by decide +kernel
theorem dX2_daysUntilAground_18 : decode cX2_daysUntilAground 18 = .ok (.invokevirtual 132, 3) := by decide +kernel
theorem dX2_daysUntilAground_21 : decode cX2_daysUntilAground 21 = .ok (.ifCond .eq 5, 3) := by decide +kernel
theorem dX2_daysUntilAground_24 : decode cX2_daysUntilAground 24 = .ok (.iload_n 2, 1) := by decide +kernel
theorem dX2_daysUntilAground_25 : decode cX2_daysUntilAground 25 = .ok (.ireturn, 1) := by decide +kernel
theorem dX2_daysUntilAground_26 : decode cX2_daysUntilAground 26 = .ok (.iinc 2 1, 3) := by decide +kernel
theorem dX2_daysUntilAground_29 : decode cX2_daysUntilAground 29 = .ok (.goto (-27), 3) := by decide +kernel
theorem dX2_daysUntilAground_32 : decode cX2_daysUntilAground 32 = .ok (.iconst (-1), 1) := by decide +kernel
theorem dX2_daysUntilAground_33 : decode cX2_daysUntilAground 33 = .ok (.ireturn, 1) := by decide +kernel
theorem dX2_clearanceForAll_0 : decode cX2_clearanceForAll 0 = .ok (.bipush 100, 2) := by decide +kernel
theorem dX2_clearanceForAll_2 : decode cX2_clearanceForAll 2 = .ok (.istore_n 1, 1) := by decide +kernel
theorem dX2_clearanceForAll_3 : decode cX2_clearanceForAll 3 = .ok (.iconst 0, 1) := by decide +kernel
theorem dX2_clearanceForAll_4 : decode cX2_clearanceForAll 4 = .ok (.istore_n 2, 1) := by decide +kernel
theorem dX2_clearanceForAll_5 : decode cX2_clearanceForAll 5 = .ok (.iload_n 2, 1) := by decide +kernel
theorem dX2_clearanceForAll_6 : decode cX2_clearanceForAll 6 = .ok (.aload_n 0, 1) := by decide +kernel
theorem dX2_clearanceForAll_7 : decode cX2_clearanceForAll 7 = .ok (.getfield 49, 3) := by decide +kernel
theorem dX2_clearanceForAll_10 : decode cX2_clearanceForAll 10 = .ok (.if_icmp .ge 48, 3) := by decide +kernel
theorem dX2_clearanceForAll_13 : decode cX2_clearanceForAll 13 = .ok (.aload_n 0, 1) := by decide +kernel
theorem dX2_clearanceForAll_14 : decode cX2_clearanceForAll 14 = .ok (.aload_n 0, 1) := by decide +kernel
theorem dX2_clearanceForAll_15 : decode cX2_clearanceForAll 15 = .ok (.getfield 19, 3) := by decide +kernel
theorem dX2_clearanceForAll_18 : decode cX2_clearanceForAll 18 = .ok (.iload_n 2, 1) := by decide +kernel
theorem dX2_clearanceForAll_19 : decode cX2_clearanceForAll 19 = .ok (.aaload, 1) := by decide +kernel
theorem dX2_clearanceForAll_20 : decode cX2_clearanceForAll 20 = .ok (.invokevirtual 103, 3) := by decide +kernel
theorem dX2_clearanceForAll_23 : decode cX2_clearanceForAll 23 = .ok (.astore_n 3, 1) := by decide +kernel
theorem dX2_clearanceForAll_24 : decode cX2_clearanceForAll 24 = .ok (.aload_n 3, 1) := by decide +kernel
theorem dX2_clearanceForAll_25 : decode cX2_clearanceForAll 25 = .ok (.ifnull 27, 3) := by decide +kernel
theorem dX2_clearanceForAll_28 : decode cX2_clearanceForAll 28 = .ok (.iload_n 1, 1) := by decide +kernel
theorem dX2_clearanceForAll_29 : decode cX2_clearanceForAll 29 = .ok (.aload_n 3, 1) := by decide +kernel
theorem dX2_clearanceForAll_30 : decode cX2_clearanceForAll 30 = .ok (.getfield 92, 3) := by decide +kernel
theorem dX2_clearanceForAll_33 : decode cX2_clearanceForAll 33 = .ok (.aload_n 0, 1) := by decide +kernel
theorem dX2_clearanceForAll_34 : decode cX2_clearanceForAll 34 = .ok (.getfield 55, 3) := by decide +kernel
theorem dX2_clearanceForAll_37 : decode cX2_clearanceForAll 37 = .ok (.iadd, 1) := by decide +kernel
theorem dX2_clearanceForAll_38 : decode cX2_clearanceForAll 38 = .ok (.aload_n 0, 1) := by decide +kernel
theorem dX2_clearanceForAll_39 : decode cX2_clearanceForAll 39 = .ok (.getfield 19, 3) := by decide +kernel
theorem dX2_clearanceForAll_42 : decode cX2_clearanceForAll 42 = .ok (.iload_n 2, 1) := by decide +kernel
theorem dX2_clearanceForAll_43 : decode cX2_clearanceForAll 43 = .ok (.aaload, 1) := by decide +kernel
theorem dX2_clearanceForAll_44 : decode cX2_clearanceForAll 44 = .ok (.getfield 89, 3) := by decide +kernel
theorem dX2_clearanceForAll_47 : decode cX2_clearanceForAll 47 = .ok (.isub, 1) := by decide +kernel
theorem dX2_clearanceForAll_48 : decode cX2_clearanceForAll 48 = .ok (.invokestatic 83, 3) := by decide +kernel
theorem dX2_clearanceForAll_51 : decode cX2_clearanceForAll 51 = .ok (.istore_n 1, 1) := by decide +kernel
theorem dX2_clearanceForAll_52 : decode cX2_clearanceForAll 52 = .ok (.iinc 2 1, 3) := by decide +kernel
theorem dX2_clearanceForAll_55 : decode cX2_clearanceForAll 55 = .ok (.goto (-50), 3) := by decide +kernel
theorem dX2_clearanceForAll_58 : decode cX2_clearanceForAll 58 = .ok (.iload_n 1, 1) := by decide +kernel
theorem dX2_clearanceForAll_59 : decode cX2_clearanceForAll 59 = .ok (.ifCond .ge 7, 3) := by decide +kernel
theorem dX2_clearanceForAll_62 : decode cX2_clearanceForAll 62 = .ok (.iconst (-1), 1) := by decide +kernel
theorem dX2_clearanceForAll_63 : decode cX2_clearanceForAll 63 = .ok (.goto 4, 3) := by decide +kernel
theorem dX2_clearanceForAll_66 : decode cX2_clearanceForAll 66 = .ok (.iload_n 1, 1) := by decide +kernel
theorem dX2_clearanceForAll_67 : decode cX2_clearanceForAll 67 = .ok (.ireturn, 1) := by decide +kernel
theorem dX2_beginToWait_0 : decode cX2_beginToWait 0 = .ok (.aload_n 1, 1) := by decide +kernel
theorem dX2_beginToWait_1 : decode cX2_beginToWait 1 = .ok (.iconst 2, 1) := by decide +kernel
theorem dX2_beginToWait_2 : decode cX2_beginToWait 2 = .ok (.iconst (-1), 1) := by decide +kernel
theorem dX2_beginToWait_3 : decode cX2_beginToWait 3 = .ok (.invokevirtual 143, 3) := by decide +kernel
theorem dX2_beginToWait_6 : decode cX2_beginToWait 6 = .ok (.aload_n 1, 1) := by decide +kernel
theorem dX2_beginToWait_7 : decode cX2_beginToWait 7 = .ok (.aload_n 0, 1) := by decide +kernel
theorem dX2_beginToWait_8 : decode cX2_beginToWait 8 = .ok (.getfield 61, 3) := by decide +kernel
theorem dX2_beginToWait_11 : decode cX2_beginToWait 11 = .ok (.putfield 147, 3) := by decide +kernel
theorem dX2_beginToWait_14 : decode cX2_beginToWait 14 = .ok (.aload_n 1, 1) := by decide +kernel
theorem dX2_beginToWait_15 : decode cX2_beginToWait 15 = .ok (.aload_n 0, 1) := by decide +kernel
theorem dX2_beginToWait_16 : decode cX2_beginToWait 16 = .ok (.getfield 72, 3) := by decide +kernel
theorem dX2_beginToWait_19 : decode cX2_beginToWait 19 = .ok (.putfield 150, 3) := by decide +kernel
theorem dX2_beginToWait_22 : decode cX2_beginToWait 22 = .ok (.aload_n 0, 1) := by decide +kernel
theorem dX2_beginToWait_23 : decode cX2_beginToWait 23 = .ok (.dup, 1) := by decide +kernel
theorem dX2_beginToWait_24 : decode cX2_beginToWait 24 = .ok (.getfield 72, 3) := by decide +kernel
theorem dX2_beginToWait_27 : decode cX2_beginToWait 27 = .ok (.iconst 1, 1) := by decide +kernel
theorem dX2_beginToWait_28 : decode cX2_beginToWait 28 = .ok (.iadd, 1) := by decide +kernel
theorem dX2_beginToWait_29 : decode cX2_beginToWait 29 = .ok (.putfield 72, 3) := by decide +kernel
theorem dX2_beginToWait_32 : decode cX2_beginToWait 32 = .ok (.return_, 1) := by decide +kernel
theorem dX2_points_0 : decode cX2_points 0 = .ok (.aload_n 0, 1) := by decide +kernel
theorem dX2_points_1 : decode cX2_points 1 = .ok (.getfield 61, 3) := by decide +kernel
theorem dX2_points_4 : decode cX2_points 4 = .ok (.aload_n 1, 1) := by decide +kernel
theorem dX2_points_5 : decode cX2_points 5 = .ok (.getfield 147, 3) := by decide +kernel
theorem dX2_points_8 : decode cX2_points 8 = .ok (.isub, 1) := by decide +kernel
theorem dX2_points_9 : decode cX2_points 9 = .ok (.aload_n 1, 1) := by decide +kernel
theorem dX2_points_10 : decode cX2_points 10 = .ok (.getfield 153, 3) := by decide +kernel
theorem dX2_points_13 : decode cX2_points 13 = .ok (.iadd, 1) := by decide +kernel
theorem dX2_points_14 : decode cX2_points 14 = .ok (.ireturn, 1) := by decide +kernel
theorem dX2_isAhead_0 : decode cX2_isAhead 0 = .ok (.aload_n 0, 1) := by decide +kernel
theorem dX2_isAhead_1 : decode cX2_isAhead 1 = .ok (.aload_n 1, 1) := by decide +kernel
theorem dX2_isAhead_2 : decode cX2_isAhead 2 = .ok (.invokevirtual 156, 3) := by decide +kernel
theorem dX2_isAhead_5 : decode cX2_isAhead 5 = .ok (.aload_n 0, 1) := by decide +kernel
theorem dX2_isAhead_6 : decode cX2_isAhead 6 = .ok (.aload_n 2, 1) := by decide +kernel
theorem dX2_isAhead_7 : decode cX2_isAhead 7 = .ok (.invokevirtual 156, 3) := by decide +kernel
theorem dX2_isAhead_10 : decode cX2_isAhead 10 = .ok (.isub, 1) := by decide +kernel
theorem dX2_isAhead_11 : decode cX2_isAhead 11 = .ok (.istore_n 3, 1) := by decide +kernel
theorem dX2_isAhead_12 : decode cX2_isAhead 12 = .ok (.iload_n 3, 1) := by decide +kernel
theorem dX2_isAhead_13 : decode cX2_isAhead 13 = .ok (.ifCond .gt 18, 3) := by decide +kernel
theorem dX2_isAhead_16 : decode cX2_isAhead 16 = .ok (.iload_n 3, 1) := by decide +kernel
theorem dX2_isAhead_17 : decode cX2_isAhead 17 = .ok (.ifCond .ne 18, 3) := by decide +kernel
theorem dX2_isAhead_20 : decode cX2_isAhead 20 = .ok (.aload_n 1, 1) := by decide +kernel
theorem dX2_isAhead_21 : decode cX2_isAhead 21 = .ok (.getfield 150, 3) := by decide +kernel
theorem dX2_isAhead_24 : decode cX2_isAhead 24 = .ok (.aload_n 2, 1) := by decide +kernel
theorem dX2_isAhead_25 : decode cX2_isAhead 25 = .ok (.getfield 150, 3) := by decide +kernel
theorem dX2_isAhead_28 : decode cX2_isAhead 28 = .ok (.if_icmp .ge 7, 3) := by decide +kernel
theorem dX2_isAhead_31 : decode cX2_isAhead 31 = .ok (.iconst 1, 1) := by decide +kernel
theorem dX2_isAhead_32 : decode cX2_isAhead 32 = .ok (.goto 4, 3) := by decide +kernel
theorem dX2_isAhead_35 : decode cX2_isAhead 35 = .ok (.iconst 0, 1) := by decide +kernel
theorem dX2_isAhead_36 : decode cX2_isAhead 36 = .ok (.ireturn, 1) := by decide +kernel
theorem dX2_countAheadOf_0 : decode cX2_countAheadOf 0 = .ok (.iconst 0, 1) := by decide +kernel
theorem dX2_countAheadOf_1 : decode cX2_countAheadOf 1 = .ok (.istore_n 2, 1) := by decide +kernel
theorem dX2_countAheadOf_2 : decode cX2_countAheadOf 2 = .ok (.iconst 0, 1) := by decide +kernel
theorem dX2_countAheadOf_3 : decode cX2_countAheadOf 3 = .ok (.istore_n 3, 1) := by decide +kernel
theorem dX2_countAheadOf_4 : decode cX2_countAheadOf 4 = .ok (.iload_n 3, 1) := by decide +kernel
theorem dX2_countAheadOf_5 : decode cX2_countAheadOf 5 = .ok (.aload_n 0, 1) := by decide +kernel
theorem dX2_countAheadOf_6 : decode cX2_countAheadOf 6 = .ok (.getfield 49, 3) := by decide +kernel
theorem dX2_countAheadOf_9 : decode cX2_countAheadOf 9 = .ok (.if_icmp .ge 39, 3) := by decide +kernel
theorem dX2_countAheadOf_12 : decode cX2_countAheadOf 12 = .ok (.aload_n 0, 1) := by decide +kernel
theorem dX2_countAheadOf_13 : decode cX2_countAheadOf 13 = .ok (.getfield 19, 3) := by decide +kernel
theorem dX2_countAheadOf_16 : decode cX2_countAheadOf 16 = .ok (.iload_n 3, 1) := by decide +kernel
theorem dX2_countAheadOf_17 : decode cX2_countAheadOf 17 = .ok (.aaload, 1) := by decide +kernel
theorem dX2_countAheadOf_18 : decode cX2_countAheadOf 18 = .ok (.getfield 121, 3) := by decide +kernel
theorem dX2_countAheadOf_21 : decode cX2_countAheadOf 21 = .ok (.iconst 2, 1) := by decide +kernel
theorem dX2_countAheadOf_22 : decode cX2_countAheadOf 22 = .ok (.if_icmp .ne 20, 3) := by decide +kernel
theorem dX2_countAheadOf_25 : decode cX2_countAheadOf 25 = .ok (.aload_n 0, 1) := by decide +kernel
theorem dX2_countAheadOf_26 : decode cX2_countAheadOf 26 = .ok (.aload_n 0, 1) := by decide +kernel
theorem dX2_countAheadOf_27 : decode cX2_countAheadOf 27 = .ok (.getfield 19, 3) := by decide +kernel
theorem dX2_countAheadOf_30 : decode cX2_countAheadOf 30 = .ok (.iload_n 3, 1) := by decide +kernel
theorem dX2_countAheadOf_31 : decode cX2_countAheadOf 31 = .ok (.aaload, 1) := by decide +kernel
theorem dX2_countAheadOf_32 : decode cX2_countAheadOf 32 = .ok (.aload_n 1, 1) := by decide +kernel
theorem dX2_countAheadOf_33 : decode cX2_countAheadOf 33 = .ok (.invokevirtual 160, 3) := by decide +kernel
theorem dX2_countAheadOf_36 : decode cX2_countAheadOf 36 = .ok (.ifCond .eq 6, 3) := by decide +kernel
theorem dX2_countAheadOf_39 : decode cX2_countAheadOf 39 = .ok (.iinc 2 1, 3) := by decide +kernel
theorem dX2_countAheadOf_42 : decode cX2_countAheadOf 42 = .ok (.iinc 3 1, 3) := by decide +kernel
theorem dX2_countAheadOf_45 : decode cX2_countAheadOf 45 = .ok (.goto (-41), 3) := by decide +kernel
theorem dX2_countAheadOf_48 : decode cX2_countAheadOf 48 = .ok (.iload_n 2, 1) := by decide +kernel
theorem dX2_countAheadOf_49 : decode cX2_countAheadOf 49 = .ok (.ireturn, 1) := by decide +kernel
theorem dX2_waitingAt_0 : decode cX2_waitingAt 0 = .ok (.iconst 0, 1) := by decide +kernel
theorem dX2_waitingAt_1 : decode cX2_waitingAt 1 = .ok (.istore_n 2, 1) := by decide +kernel
theorem dX2_waitingAt_2 : decode cX2_waitingAt 2 = .ok (.iload_n 2, 1) := by decide +kernel
theorem dX2_waitingAt_3 : decode cX2_waitingAt 3 = .ok (.aload_n 0, 1) := by decide +kernel
theorem dX2_waitingAt_4 : decode cX2_waitingAt 4 = .ok (.getfield 49, 3) := by decide +kernel
theorem dX2_waitingAt_7 : decode cX2_waitingAt 7 = .ok (.if_icmp .ge 38, 3) := by decide +kernel
theorem dX2_waitingAt_10 : decode cX2_waitingAt 10 = .ok (.aload_n 0, 1) := by decide +kernel
theorem dX2_waitingAt_11 : decode cX2_waitingAt 11 = .ok (.getfield 19, 3) := by decide +kernel
theorem dX2_waitingAt_14 : decode cX2_waitingAt 14 = .ok (.iload_n 2, 1) := by decide +kernel
theorem dX2_waitingAt_15 : decode cX2_waitingAt 15 = .ok (.aaload, 1) := by decide +kernel
theorem dX2_waitingAt_16 : decode cX2_waitingAt 16 = .ok (.getfield 121, 3) := by decide +kernel
theorem dX2_waitingAt_19 : decode cX2_waitingAt 19 = .ok (.iconst 2, 1) := by decide +kernel
theorem dX2_waitingAt_20 : decode cX2_waitingAt 20 = .ok (.if_icmp .ne 19, 3) := by decide +kernel
theorem dX2_waitingAt_23 : decode cX2_waitingAt 23 = .ok (.aload_n 0, 1) := by decide +kernel
theorem dX2_waitingAt_24 : decode cX2_waitingAt 24 = .ok (.aload_n 0, 1) := by decide +kernel
theorem dX2_waitingAt_25 : decode cX2_waitingAt 25 = .ok (.getfield 19, 3) := by decide +kernel
theorem dX2_waitingAt_28 : decode cX2_waitingAt 28 = .ok (.iload_n 2, 1) := by decide +kernel
theorem dX2_waitingAt_29 : decode cX2_waitingAt 29 = .ok (.aaload, 1) := by decide +kernel
theorem dX2_waitingAt_30 : decode cX2_waitingAt 30 = .ok (.invokevirtual 164, 3) := by decide +kernel
theorem dX2_waitingAt_33 : decode cX2_waitingAt 33 = .ok (.iload_n 1, 1) := by decide +kernel
theorem dX2_waitingAt_34 : decode cX2_waitingAt 34 = .ok (.if_icmp .ne 5, 3) := by decide +kernel
theorem dX2_waitingAt_37 : decode cX2_waitingAt 37 = .ok (.iload_n 2, 1) := by decide +kernel
theorem dX2_waitingAt_38 : decode cX2_waitingAt 38 = .ok (.ireturn, 1) := by decide +kernel
theorem dX2_waitingAt_39 : decode cX2_waitingAt 39 = .ok (.iinc 2 1, 3) := by decide +kernel
theorem dX2_waitingAt_42 : decode cX2_waitingAt 42 = .ok (.goto (-40), 3) := by decide +kernel
theorem dX2_waitingAt_45 : decode cX2_waitingAt 45 = .ok (.iconst (-1), 1) := by decide +kernel
theorem dX2_waitingAt_46 : decode cX2_waitingAt 46 = .ok (.ireturn, 1) := by decide +kernel
theorem dX2_firstWaitingFor_0 : decode cX2_firstWaitingFor 0 = .ok (.iconst (-1), 1) := by decide +kernel
theorem dX2_firstWaitingFor_1 : decode cX2_firstWaitingFor 1 = .ok (.istore_n 2, 1) := by decide +kernel
theorem dX2_firstWaitingFor_2 : decode cX2_firstWaitingFor 2 = .ok (.iconst 0, 1) := by decide +kernel
theorem dX2_firstWaitingFor_3 : decode cX2_firstWaitingFor 3 = .ok (.istore_n 3, 1) := by decide +kernel
theorem dX2_firstWaitingFor_4 : decode cX2_firstWaitingFor 4 = .ok (.iload_n 3, 1) := by decide +kernel
theorem dX2_firstWaitingFor_5 : decode cX2_firstWaitingFor 5 = .ok (.aload_n 0, 1) := by decide +kernel
theorem dX2_firstWaitingFor_6 : decode cX2_firstWaitingFor 6 = .ok (.getfield 49, 3) := by decide +kernel
theorem dX2_firstWaitingFor_9 : decode cX2_firstWaitingFor 9 = .ok (.if_icmp .ge 62, 3) := by decide +kernel
theorem dX2_firstWaitingFor_12 : decode cX2_firstWaitingFor 12 = .ok (.aload_n 0, 1) := by decide +kernel
theorem dX2_firstWaitingFor_13 : decode cX2_firstWaitingFor 13 = .ok (.getfield 19, 3) := by decide +kernel
theorem dX2_firstWaitingFor_16 : decode cX2_firstWaitingFor 16 = .ok (.iload_n 3, 1) := by decide +kernel
theorem dX2_firstWaitingFor_17 : decode cX2_firstWaitingFor 17 = .ok (.aaload, 1) := by decide +kernel
theorem dX2_firstWaitingFor_18 : decode cX2_firstWaitingFor 18 = .ok (.getfield 121, 3) := by decide +kernel
theorem dX2_firstWaitingFor_21 : decode cX2_firstWaitingFor 21 = .ok (.iconst 2, 1) := by decide +kernel
theorem dX2_firstWaitingFor_22 : decode cX2_firstWaitingFor 22 = .ok (.if_icmp .ne 43, 3) := by decide +kernel
theorem dX2_firstWaitingFor_25 : decode cX2_firstWaitingFor 25 = .ok (.aload_n 0, 1) := by decide +kernel
theorem dX2_firstWaitingFor_26 : decode cX2_firstWaitingFor 26 = .ok (.aload_n 0, 1) := by decide +kernel
theorem dX2_firstWaitingFor_27 : decode cX2_firstWaitingFor 27 = .ok (.getfield 19, 3) := by decide +kernel
theorem dX2_firstWaitingFor_30 : decode cX2_firstWaitingFor 30 = .ok (.iload_n 3, 1) := by decide +kernel
theorem dX2_firstWaitingFor_31 : decode cX2_firstWaitingFor 31 = .ok (.aaload, 1) := by decide +kernel
theorem dX2_firstWaitingFor_32 : decode cX2_firstWaitingFor 32 = .ok (.aload_n 1, 1) := by decide +kernel
theorem dX2_firstWaitingFor_33 : decode cX2_firstWaitingFor 33 = .ok (.invokevirtual 107, 3) := by decide +kernel
theorem dX2_firstWaitingFor_36 : decode cX2_firstWaitingFor 36 = .ok (.ifCond .eq 29, 3) := by decide +kernel
theorem dX2_firstWaitingFor_39 : decode cX2_firstWaitingFor 39 = .ok (.iload_n 2, 1) := by decide +kernel
theorem dX2_firstWaitingFor_40 : decode cX2_firstWaitingFor 40 = .ok (.iconst (-1), 1) := by decide +kernel
theorem dX2_firstWaitingFor_41 : decode cX2_firstWaitingFor 41 = .ok (.if_icmp .eq 22, 3) := by decide +kernel
theorem dX2_firstWaitingFor_44 : decode cX2_firstWaitingFor 44 = .ok (.aload_n 0, 1) := by decide +kernel
theorem dX2_firstWaitingFor_45 : decode cX2_firstWaitingFor 45 = .ok (.aload_n 0, 1) := by decide +kernel
theorem dX2_firstWaitingFor_46 : decode cX2_firstWaitingFor 46 = .ok (.getfield 19, 3) := by decide +kernel
theorem dX2_firstWaitingFor_49 : decode cX2_firstWaitingFor 49 = .ok (.iload_n 3, 1) := by decide +kernel
theorem dX2_firstWaitingFor_50 : decode cX2_firstWaitingFor 50 = .ok (.aaload, 1) := by decide +kernel
theorem dX2_firstWaitingFor_51 : decode cX2_firstWaitingFor 51 = .ok (.aload_n 0, 1) := by decide +kernel
theorem dX2_firstWaitingFor_52 : decode cX2_firstWaitingFor 52 = .ok (.getfield 19, 3) := by decide +kernel
theorem dX2_firstWaitingFor_55 : decode cX2_firstWaitingFor 55 = .ok (.iload_n 2, 1) := by decide +kernel
theorem dX2_firstWaitingFor_56 : decode cX2_firstWaitingFor 56 = .ok (.aaload, 1) := by decide +kernel
theorem dX2_firstWaitingFor_57 : decode cX2_firstWaitingFor 57 = .ok (.invokevirtual 160, 3) := by decide +kernel
theorem dX2_firstWaitingFor_60 : decode cX2_firstWaitingFor 60 = .ok (.ifCond .eq 5, 3) := by decide +kernel
theorem dX2_firstWaitingFor_63 : decode cX2_firstWaitingFor 63 = .ok (.iload_n 3, 1) := by decide +kernel
theorem dX2_firstWaitingFor_64 : decode cX2_firstWaitingFor 64 = .ok (.istore_n 2, 1) := by decide +kernel
theorem dX2_firstWaitingFor_65 : decode cX2_firstWaitingFor 65 = .ok (.iinc 3 1, 3) := by decide +kernel
theorem dX2_firstWaitingFor_68 : decode cX2_firstWaitingFor 68 = .ok (.goto (-64), 3) := by decide +kernel
theorem dX2_firstWaitingFor_71 : decode cX2_firstWaitingFor 71 = .ok (.iload_n 2, 1) := by decide +kernel
theorem dX2_firstWaitingFor_72 : decode cX2_firstWaitingFor 72 = .ok (.ireturn, 1) := by decide +kernel
theorem dX2_owedInAll_0 : decode cX2_owedInAll 0 = .ok (.lconst 0, 1) := by decide +kernel
theorem dX2_owedInAll_1 : decode cX2_owedInAll 1 = .ok (.lstore_n 1, 1) := by decide +kernel
theorem dX2_owedInAll_2 : decode cX2_owedInAll 2 = .ok (.iconst 0, 1) := by decide +kernel
theorem dX2_owedInAll_3 : decode cX2_owedInAll 3 = .ok (.istore_n 3, 1) := by decide +kernel
theorem dX2_owedInAll_4 : decode cX2_owedInAll 4 = .ok (.iload_n 3, 1) := by decide +kernel
theorem dX2_owedInAll_5 : decode cX2_owedInAll 5 = .ok (.aload_n 0, 1) := by decide +kernel
theorem dX2_owedInAll_6 : decode cX2_owedInAll 6 = .ok (.getfield 49, 3) := by decide +kernel
theorem dX2_owedInAll_9 : decode cX2_owedInAll 9 = .ok (.if_icmp .ge 22, 3) := by decide +kernel
theorem dX2_owedInAll_12 : decode cX2_owedInAll 12 = .ok (.lload_n 1, 1) := by decide +kernel
theorem dX2_owedInAll_13 : decode cX2_owedInAll 13 = .ok (.aload_n 0, 1) := by decide +kernel
theorem dX2_owedInAll_14 : decode cX2_owedInAll 14 = .ok (.getfield 19, 3) := by decide +kernel
theorem dX2_owedInAll_17 : decode cX2_owedInAll 17 = .ok (.iload_n 3, 1) := by decide +kernel
theorem dX2_owedInAll_18 : decode cX2_owedInAll 18 = .ok (.aaload, 1) := by decide +kernel
theorem dX2_owedInAll_19 : decode cX2_owedInAll 19 = .ok (.getfield 167, 3) := by decide +kernel
theorem dX2_owedInAll_22 : decode cX2_owedInAll 22 = .ok (.i2l, 1) := by decide +kernel
theorem dX2_owedInAll_23 : decode cX2_owedInAll 23 = .ok (.ladd, 1) := by decide +kernel
theorem dX2_owedInAll_24 : decode cX2_owedInAll 24 = .ok (.lstore_n 1, 1) := by decide +kernel
theorem dX2_owedInAll_25 : decode cX2_owedInAll 25 = .ok (.iinc 3 1, 3) := by decide +kernel
theorem dX2_owedInAll_28 : decode cX2_owedInAll 28 = .ok (.goto (-24), 3) := by decide +kernel
theorem dX2_owedInAll_31 : decode cX2_owedInAll 31 = .ok (.lload_n 1, 1) := by decide +kernel
theorem dX2_owedInAll_32 : decode cX2_owedInAll 32 = .ok (.lreturn, 1) := by decide +kernel
theorem dX2_letPass_0 : decode cX2_letPass 0 = .ok (.iconst 0, 1) := by decide +kernel
theorem dX2_letPass_1 : decode cX2_letPass 1 = .ok (.istore_n 3, 1) := by decide +kernel
theorem dX2_letPass_2 : decode cX2_letPass 2 = .ok (.iconst 0, 1) := by decide +kernel
theorem dX2_letPass_3 : decode cX2_letPass 3 = .ok (.istore 4, 2) := by decide +kernel
theorem dX2_letPass_5 : decode cX2_letPass 5 = .ok (.iload 4, 2) := by decide +kernel
theorem dX2_letPass_7 : decode cX2_letPass 7 = .ok (.iload_n 1, 1) := by decide +kernel
theorem dX2_letPass_8 : decode cX2_letPass 8 = .ok (.if_icmp .ge 88, 3) := by decide +kernel
theorem dX2_letPass_11 : decode cX2_letPass 11 = .ok (.aload_n 0, 1) := by decide +kernel
theorem dX2_letPass_12 : decode cX2_letPass 12 = .ok (.invokevirtual 170, 3) := by decide +kernel
theorem dX2_letPass_15 : decode cX2_letPass 15 = .ok (.ifCond .ne 5, 3) := by decide +kernel
theorem dX2_letPass_18 : decode cX2_letPass 18 = .ok (.iconst (-1), 1) := by decide +kernel
theorem dX2_letPass_19 : decode cX2_letPass 19 = .ok (.ireturn, 1) := by decide +kernel
theorem dX2_letPass_20 : decode cX2_letPass 20 = .ok (.aload_n 0, 1) := by decide +kernel
theorem dX2_letPass_21 : decode cX2_letPass 21 = .ok (.dup, 1) := by decide +kernel
theorem dX2_letPass_22 : decode cX2_letPass 22 = .ok (.getfield 61, 3) := by decide +kernel
theorem dX2_letPass_25 : decode cX2_letPass 25 = .ok (.iconst 1, 1) := by decide +kernel
theorem dX2_letPass_26 : decode cX2_letPass 26 = .ok (.iadd, 1) := by decide +kernel
theorem dX2_letPass_27 : decode cX2_letPass 27 = .ok (.putfield 61, 3) := by decide +kernel
theorem dX2_letPass_30 : decode cX2_letPass 30 = .ok (.aload_n 0, 1) := by decide +kernel
theorem dX2_letPass_31 : decode cX2_letPass 31 = .ok (.getfield 61, 3) := by decide +kernel
theorem dX2_letPass_34 : decode cX2_letPass 34 = .ok (.sipush 360, 3) := by decide +kernel
theorem dX2_letPass_37 : decode cX2_letPass 37 = .ok (.irem, 1) := by decide +kernel
theorem dX2_letPass_38 : decode cX2_letPass 38 = .ok (.istore 5, 2) := by decide +kernel
theorem dX2_letPass_40 : decode cX2_letPass 40 = .ok (.aload_n 0, 1) := by decide +kernel
theorem dX2_letPass_41 : decode cX2_letPass 41 = .ok (.getfield 64, 3) := by decide +kernel
theorem dX2_letPass_44 : decode cX2_letPass 44 = .ok (.ifCond .ne 23, 3) := by decide +kernel
theorem dX2_letPass_47 : decode cX2_letPass 47 = .ok (.iload 5, 2) := by decide +kernel
theorem dX2_letPass_49 : decode cX2_letPass 49 = .ok (.aload_n 0, 1) := by decide +kernel
theorem dX2_letPass_50 : decode cX2_letPass 50 = .ok (.getfield 34, 3) := by decide +kernel
theorem dX2_letPass_53 : decode cX2_letPass 53 = .ok (.if_icmp .ne 14, 3) := by decide +kernel
theorem dX2_letPass_56 : decode cX2_letPass 56 = .ok (.aload_n 0, 1) := by decide +kernel
theorem dX2_letPass_57 : decode cX2_letPass 57 = .ok (.aload_n 2, 1) := by decide +kernel
theorem dX2_letPass_58 : decode cX2_letPass 58 = .ok (.invokevirtual 174, 3) := by decide +kernel
theorem dX2_letPass_61 : decode cX2_letPass 61 = .ok (.iinc 3 1, 3) := by decide +kernel
theorem dX2_letPass_64 : decode cX2_letPass 64 = .ok (.goto 26, 3) := by decide +kernel
theorem dX2_letPass_67 : decode cX2_letPass 67 = .ok (.aload_n 0, 1) := by decide +kernel
theorem dX2_letPass_68 : decode cX2_letPass 68 = .ok (.getfield 64, 3) := by decide +kernel
theorem dX2_letPass_71 : decode cX2_letPass 71 = .ok (.ifCond .eq 19, 3) := by decide +kernel
theorem dX2_letPass_74 : decode cX2_letPass 74 = .ok (.iload 5, 2) := by decide +kernel
theorem dX2_letPass_76 : decode cX2_letPass 76 = .ok (.aload_n 0, 1) := by decide +kernel
theorem dX2_letPass_77 : decode cX2_letPass 77 = .ok (.getfield 37, 3) := by decide +kernel
theorem dX2_letPass_80 : decode cX2_letPass 80 = .ok (.if_icmp .ne 10, 3) := by decide +kernel
theorem dX2_letPass_83 : decode cX2_letPass 83 = .ok (.aload_n 0, 1) := by decide +kernel
theorem dX2_letPass_84 : decode cX2_letPass 84 = .ok (.invokevirtual 178, 3) := by decide +kernel
theorem dX2_letPass_87 : decode cX2_letPass 87 = .ok (.iinc 3 1, 3) := by decide +kernel
theorem dX2_letPass_90 : decode cX2_letPass 90 = .ok (.iinc 4 1, 3) := by decide +kernel
theorem dX2_letPass_93 : decode cX2_letPass 93 = .ok (.goto (-88), 3) := by decide +kernel
theorem dX2_letPass_96 : decode cX2_letPass 96 = .ok (.iload_n 3, 1) := by decide +kernel
theorem dX2_letPass_97 : decode cX2_letPass 97 = .ok (.ireturn, 1) := by decide +kernel
theorem dX2_chargeAll_0 : decode cX2_chargeAll 0 = .ok (.iconst 0, 1) := by decide +kernel
theorem dX2_chargeAll_1 : decode cX2_chargeAll 1 = .ok (.istore_n 1, 1) := by decide +kernel
theorem dX2_chargeAll_2 : decode cX2_chargeAll 2 = .ok (.iload_n 1, 1) := by decide +kernel
theorem dX2_chargeAll_3 : decode cX2_chargeAll 3 = .ok (.aload_n 0, 1) := by decide +kernel
theorem dX2_chargeAll_4 : decode cX2_chargeAll 4 = .ok (.getfield 49, 3) := by decide +kernel
theorem dX2_chargeAll_7 : decode cX2_chargeAll 7 = .ok (.if_icmp .ge 51, 3) := by decide +kernel
theorem dX2_chargeAll_10 : decode cX2_chargeAll 10 = .ok (.aload_n 0, 1) := by decide +kernel
theorem dX2_chargeAll_11 : decode cX2_chargeAll 11 = .ok (.aload_n 0, 1) := by decide +kernel
theorem dX2_chargeAll_12 : decode cX2_chargeAll 12 = .ok (.getfield 19, 3) := by decide +kernel
theorem dX2_chargeAll_15 : decode cX2_chargeAll 15 = .ok (.iload_n 1, 1) := by decide +kernel
theorem dX2_chargeAll_16 : decode cX2_chargeAll 16 = .ok (.aaload, 1) := by decide +kernel
theorem dX2_chargeAll_17 : decode cX2_chargeAll 17 = .ok (.invokevirtual 181, 3) := by decide +kernel
theorem dX2_chargeAll_20 : decode cX2_chargeAll 20 = .ok (.lstore_n 2, 1) := by decide +kernel
theorem dX2_chargeAll_21 : decode cX2_chargeAll 21 = .ok (.aload_n 0, 1) := by decide +kernel
theorem dX2_chargeAll_22 : decode cX2_chargeAll 22 = .ok (.getfield 19, 3) := by decide +kernel
theorem dX2_chargeAll_25 : decode cX2_chargeAll 25 = .ok (.iload_n 1, 1) := by decide +kernel
theorem dX2_chargeAll_26 : decode cX2_chargeAll 26 = .ok (.aaload, 1) := by decide +kernel
theorem dX2_chargeAll_27 : decode cX2_chargeAll 27 = .ok (.lload_n 2, 1) := by decide +kernel
theorem dX2_chargeAll_28 : decode cX2_chargeAll 28 = .ok (.invokevirtual 185, 3) := by decide +kernel
theorem dX2_chargeAll_31 : decode cX2_chargeAll 31 = .ok (.ifCond .ne 5, 3) := by decide +kernel
theorem dX2_chargeAll_34 : decode cX2_chargeAll 34 = .ok (.iconst 0, 1) := by decide +kernel
theorem dX2_chargeAll_35 : decode cX2_chargeAll 35 = .ok (.ireturn, 1) := by decide +kernel
theorem dX2_chargeAll_36 : decode cX2_chargeAll 36 = .ok (.aload_n 0, 1) := by decide +kernel
theorem dX2_chargeAll_37 : decode cX2_chargeAll 37 = .ok (.getfield 19, 3) := by decide +kernel
theorem dX2_chargeAll_40 : decode cX2_chargeAll 40 = .ok (.iload_n 1, 1) := by decide +kernel
theorem dX2_chargeAll_41 : decode cX2_chargeAll 41 = .ok (.aaload, 1) := by decide +kernel
theorem dX2_chargeAll_42 : decode cX2_chargeAll 42 = .ok (.dup, 1) := by decide +kernel
theorem dX2_chargeAll_43 : decode cX2_chargeAll 43 = .ok (.getfield 167, 3) := by decide +kernel
theorem dX2_chargeAll_46 : decode cX2_chargeAll 46 = .ok (.lload_n 2, 1) := by decide +kernel
theorem dX2_chargeAll_47 : decode cX2_chargeAll 47 = .ok (.l2i, 1) := by decide +kernel
theorem dX2_chargeAll_48 : decode cX2_chargeAll 48 = .ok (.iadd, 1) := by decide +kernel
theorem dX2_chargeAll_49 : decode cX2_chargeAll 49 = .ok (.putfield 167, 3) := by decide +kernel
theorem dX2_chargeAll_52 : decode cX2_chargeAll 52 = .ok (.iinc 1 1, 3) := by decide +kernel
theorem dX2_chargeAll_55 : decode cX2_chargeAll 55 = .ok (.goto (-53), 3) := by decide +kernel
theorem dX2_chargeAll_58 : decode cX2_chargeAll 58 = .ok (.iconst 1, 1) := by decide +kernel
theorem dX2_chargeAll_59 : decode cX2_chargeAll 59 = .ok (.ireturn, 1) := by decide +kernel
theorem dX2_feeOfDay_0 : decode cX2_feeOfDay 0 = .ok (.aload_n 0, 1) := by decide +kernel
theorem dX2_feeOfDay_1 : decode cX2_feeOfDay 1 = .ok (.aload_n 1, 1) := by decide +kernel
theorem dX2_feeOfDay_2 : decode cX2_feeOfDay 2 = .ok (.invokevirtual 103, 3) := by decide +kernel
theorem dX2_feeOfDay_5 : decode cX2_feeOfDay 5 = .ok (.astore_n 2, 1) := by decide +kernel
theorem dX2_feeOfDay_6 : decode cX2_feeOfDay 6 = .ok (.aload_n 2, 1) := by decide +kernel
theorem dX2_feeOfDay_7 : decode cX2_feeOfDay 7 = .ok (.ifnull 19, 3) := by decide +kernel
theorem dX2_feeOfDay_10 : decode cX2_feeOfDay 10 = .ok (.aload_n 1, 1) := by decide +kernel
theorem dX2_feeOfDay_11 : decode cX2_feeOfDay 11 = .ok (.getfield 95, 3) := by decide +kernel
theorem dX2_feeOfDay_14 : decode cX2_feeOfDay 14 = .ok (.i2l, 1) := by decide +kernel
theorem dX2_feeOfDay_15 : decode cX2_feeOfDay 15 = .ok (.aload_n 2, 1) := by decide +kernel
theorem dX2_feeOfDay_16 : decode cX2_feeOfDay 16 = .ok (.getfield 189, 3) := by decide +kernel
theorem dX2_feeOfDay_19 : decode cX2_feeOfDay 19 = .ok (.i2l, 1) := by decide +kernel
theorem dX2_feeOfDay_20 : decode cX2_feeOfDay 20 = .ok (.lmul, 1) := by decide +kernel
theorem dX2_feeOfDay_21 : decode cX2_feeOfDay 21 = .ok (.ldc2_w 192, 3) := by decide +kernel
theorem dX2_feeOfDay_24 : decode cX2_feeOfDay 24 = .ok (.ldiv, 1) := by decide +kernel
theorem dX2_feeOfDay_25 : decode cX2_feeOfDay 25 = .ok (.lreturn, 1) := by decide +kernel
theorem dX2_feeOfDay_26 : decode cX2_feeOfDay 26 = .ok (.aload_n 1, 1) := by decide +kernel
theorem dX2_feeOfDay_27 : decode cX2_feeOfDay 27 = .ok (.getfield 121, 3) := by decide +kernel
theorem dX2_feeOfDay_30 : decode cX2_feeOfDay 30 = .ok (.iconst 3, 1) := by decide +kernel
theorem dX2_feeOfDay_31 : decode cX2_feeOfDay 31 = .ok (.if_icmp .ne 21, 3) := by decide +kernel
theorem dX2_feeOfDay_34 : decode cX2_feeOfDay 34 = .ok (.aload_n 1, 1) := by decide +kernel
theorem dX2_feeOfDay_35 : decode cX2_feeOfDay 35 = .ok (.getfield 95, 3) := by decide +kernel
theorem dX2_feeOfDay_38 : decode cX2_feeOfDay 38 = .ok (.i2l, 1) := by decide +kernel
theorem dX2_feeOfDay_39 : decode cX2_feeOfDay 39 = .ok (.aload_n 0, 1) := by decide +kernel
theorem dX2_feeOfDay_40 : decode cX2_feeOfDay 40 = .ok (.getfield 58, 3) := by decide +kernel
theorem dX2_feeOfDay_43 : decode cX2_feeOfDay 43 = .ok (.i2l, 1) := by decide +kernel
theorem dX2_feeOfDay_44 : decode cX2_feeOfDay 44 = .ok (.lmul, 1) := by decide +kernel
theorem dX2_feeOfDay_45 : decode cX2_feeOfDay 45 = .ok (.ldc2_w 192, 3) := by decide +kernel
theorem dX2_feeOfDay_48 : decode cX2_feeOfDay 48 = .ok (.ldiv, 1) := by decide +kernel
theorem dX2_feeOfDay_49 : decode cX2_feeOfDay 49 = .ok (.goto 4, 3) := by decide +kernel
theorem dX2_feeOfDay_52 : decode cX2_feeOfDay 52 = .ok (.lconst 0, 1) := by decide +kernel
theorem dX2_feeOfDay_53 : decode cX2_feeOfDay 53 = .ok (.lreturn, 1) := by decide +kernel
theorem dX2_beginWinter_0 : decode cX2_beginWinter 0 = .ok (.aload_n 0, 1) := by decide +kernel
theorem dX2_beginWinter_1 : decode cX2_beginWinter 1 = .ok (.iconst 1, 1) := by decide +kernel
theorem dX2_beginWinter_2 : decode cX2_beginWinter 2 = .ok (.putfield 64, 3) := by decide +kernel
theorem dX2_beginWinter_5 : decode cX2_beginWinter 5 = .ok (.aload_n 1, 1) := by decide +kernel
theorem dX2_beginWinter_6 : decode cX2_beginWinter 6 = .ok (.invokevirtual 194, 3) := by decide +kernel
theorem dX2_beginWinter_9 : decode cX2_beginWinter 9 = .ok (.iconst 0, 1) := by decide +kernel
theorem dX2_beginWinter_10 : decode cX2_beginWinter 10 = .ok (.istore_n 2, 1) := by decide +kernel
theorem dX2_beginWinter_11 : decode cX2_beginWinter 11 = .ok (.iload_n 2, 1) := by decide +kernel
theorem dX2_beginWinter_12 : decode cX2_beginWinter 12 = .ok (.aload_n 0, 1) := by decide +kernel
theorem dX2_beginWinter_13 : decode cX2_beginWinter 13 = .ok (.getfield 49, 3) := by decide +kernel
theorem dX2_beginWinter_16 : decode cX2_beginWinter 16 = .ok (.if_icmp .ge 75, 3) := by decide +kernel
theorem dX2_beginWinter_19 : decode cX2_beginWinter 19 = .ok (.aload_n 0, 1) := by decide +kernel
theorem dX2_beginWinter_20 : decode cX2_beginWinter 20 = .ok (.aload_n 0, 1) := by decide +kernel
theorem dX2_beginWinter_21 : decode cX2_beginWinter 21 = .ok (.getfield 19, 3) := by decide +kernel
theorem dX2_beginWinter_24 : decode cX2_beginWinter 24 = .ok (.iload_n 2, 1) := by decide +kernel
theorem dX2_beginWinter_25 : decode cX2_beginWinter 25 = .ok (.aaload, 1) := by decide +kernel
theorem dX2_beginWinter_26 : decode cX2_beginWinter 26 = .ok (.invokevirtual 103, 3) := by decide +kernel
theorem dX2_beginWinter_29 : decode cX2_beginWinter 29 = .ok (.astore_n 3, 1) := by decide +kernel
theorem dX2_beginWinter_30 : decode cX2_beginWinter 30 = .ok (.aload_n 3, 1) := by decide +kernel
theorem dX2_beginWinter_31 : decode cX2_beginWinter 31 = .ok (.ifnull 54, 3) := by decide +kernel
theorem dX2_beginWinter_34 : decode cX2_beginWinter 34 = .ok (.aload_n 3, 1) := by decide +kernel
theorem dX2_beginWinter_35 : decode cX2_beginWinter 35 = .ok (.getfield 118, 3) := by decide +kernel
theorem dX2_beginWinter_38 : decode cX2_beginWinter 38 = .ok (.ifCond .eq 47, 3) := by decide +kernel
theorem dX2_beginWinter_41 : decode cX2_beginWinter 41 = .ok (.aload_n 0, 1) := by decide +kernel
theorem dX2_beginWinter_42 : decode cX2_beginWinter 42 = .ok (.getfield 19, 3) := by decide +kernel
theorem dX2_beginWinter_45 : decode cX2_beginWinter 45 = .ok (.iload_n 2, 1) := by decide +kernel
theorem dX2_beginWinter_46 : decode cX2_beginWinter 46 = .ok (.aaload, 1) := by decide +kernel
theorem dX2_beginWinter_47 : decode cX2_beginWinter 47 = .ok (.aload_n 0, 1) := by decide +kernel
theorem dX2_beginWinter_48 : decode cX2_beginWinter 48 = .ok (.getfield 19, 3) := by decide +kernel
theorem dX2_beginWinter_51 : decode cX2_beginWinter 51 = .ok (.iload_n 2, 1) := by decide +kernel
theorem dX2_beginWinter_52 : decode cX2_beginWinter 52 = .ok (.aaload, 1) := by decide +kernel
theorem dX2_beginWinter_53 : decode cX2_beginWinter 53 = .ok (.getfield 111, 3) := by decide +kernel
theorem dX2_beginWinter_56 : decode cX2_beginWinter 56 = .ok (.putfield 199, 3) := by decide +kernel
theorem dX2_beginWinter_59 : decode cX2_beginWinter 59 = .ok (.aload_n 0, 1) := by decide +kernel
theorem dX2_beginWinter_60 : decode cX2_beginWinter 60 = .ok (.getfield 19, 3) := by decide +kernel
theorem dX2_beginWinter_63 : decode cX2_beginWinter 63 = .ok (.iload_n 2, 1) := by decide +kernel
theorem dX2_beginWinter_64 : decode cX2_beginWinter 64 = .ok (.aaload, 1) := by decide +kernel
theorem dX2_beginWinter_65 : decode cX2_beginWinter 65 = .ok (.iconst 3, 1) := by decide +kernel
theorem dX2_beginWinter_66 : decode cX2_beginWinter 66 = .ok (.iconst (-1), 1) := by decide +kernel
theorem dX2_beginWinter_67 : decode cX2_beginWinter 67 = .ok (.invokevirtual 202, 3) := by decide +kernel
theorem dX2_beginWinter_70 : decode cX2_beginWinter 70 = .ok (.aload_n 1, 1) := by decide +kernel
theorem dX2_beginWinter_71 : decode cX2_beginWinter 71 = .ok (.iload_n 2, 1) := by decide +kernel
theorem dX2_beginWinter_72 : decode cX2_beginWinter 72 = .ok (.aload_n 0, 1) := by decide +kernel
theorem dX2_beginWinter_73 : decode cX2_beginWinter 73 = .ok (.aload_n 0, 1) := by decide +kernel
theorem dX2_beginWinter_74 : decode cX2_beginWinter 74 = .ok (.getfield 19, 3) := by decide +kernel
theorem dX2_beginWinter_77 : decode cX2_beginWinter 77 = .ok (.iload_n 2, 1) := by decide +kernel
theorem dX2_beginWinter_78 : decode cX2_beginWinter 78 = .ok (.aaload, 1) := by decide +kernel
theorem dX2_beginWinter_79 : decode cX2_beginWinter 79 = .ok (.invokevirtual 205, 3) := by decide +kernel
theorem dX2_beginWinter_82 : decode cX2_beginWinter 82 = .ok (.invokevirtual 208, 3) := by decide +kernel
theorem dX2_beginWinter_85 : decode cX2_beginWinter 85 = .ok (.iinc 2 1, 3) := by decide +kernel
theorem dX2_beginWinter_88 : decode cX2_beginWinter 88 = .ok (.goto (-77), 3) := by decide +kernel
theorem dX2_beginWinter_91 : decode cX2_beginWinter 91 = .ok (.iconst 0, 1) := by decide +kernel
theorem dX2_beginWinter_92 : decode cX2_beginWinter 92 = .ok (.istore_n 2, 1) := by decide +kernel
theorem dX2_beginWinter_93 : decode cX2_beginWinter 93 = .ok (.iload_n 2, 1) := by decide +kernel
theorem dX2_beginWinter_94 : decode cX2_beginWinter 94 = .ok (.aload_n 0, 1) := by decide +kernel
theorem dX2_beginWinter_95 : decode cX2_beginWinter 95 = .ok (.getfield 49, 3) := by decide +kernel
theorem dX2_beginWinter_98 : decode cX2_beginWinter 98 = .ok (.if_icmp .ge 31, 3) := by decide +kernel
theorem dX2_beginWinter_101 : decode cX2_beginWinter 101 = .ok (.aload_n 1, 1) := by decide +kernel
theorem dX2_beginWinter_102 : decode cX2_beginWinter 102 = .ok (.iload_n 2, 1) := by decide +kernel
theorem dX2_beginWinter_103 : decode cX2_beginWinter 103 = .ok (.invokevirtual 211, 3) := by decide +kernel
theorem dX2_beginWinter_106 : decode cX2_beginWinter 106 = .ok (.istore_n 3, 1) := by decide +kernel
theorem dX2_beginWinter_107 : decode cX2_beginWinter 107 = .ok (.iload_n 3, 1) := by decide +kernel
theorem dX2_beginWinter_108 : decode cX2_beginWinter 108 = .ok (.iconst (-1), 1) := by decide +kernel
theorem dX2_beginWinter_109 : decode cX2_beginWinter 109 = .ok (.if_icmp .eq 14, 3) := by decide +kernel
theorem dX2_beginWinter_112 : decode cX2_beginWinter 112 = .ok (.aload_n 0, 1) := by decide +kernel
theorem dX2_beginWinter_113 : decode cX2_beginWinter 113 = .ok (.getfield 19, 3) := by decide +kernel
theorem dX2_beginWinter_116 : decode cX2_beginWinter 116 = .ok (.iload_n 2, 1) := by decide +kernel
theorem dX2_beginWinter_117 : decode cX2_beginWinter 117 = .ok (.aaload, 1) := by decide +kernel
theorem dX2_beginWinter_118 : decode cX2_beginWinter 118 = .ok (.iconst 1, 1) := by decide +kernel
theorem dX2_beginWinter_119 : decode cX2_beginWinter 119 = .ok (.iload_n 3, 1) := by decide +kernel
theorem dX2_beginWinter_120 : decode cX2_beginWinter 120 = .ok (.invokevirtual 202, 3) := by decide +kernel
theorem dX2_beginWinter_123 : decode cX2_beginWinter 123 = .ok (.iinc 2 1, 3) := by decide +kernel
theorem dX2_beginWinter_126 : decode cX2_beginWinter 126 = .ok (.goto (-33), 3) := by decide +kernel
theorem dX2_beginWinter_129 : decode cX2_beginWinter 129 = .ok (.return_, 1) := by decide +kernel
theorem dX2_shelterFor_0 : decode cX2_shelterFor 0 = .ok (.iconst 0, 1) := by decide +kernel
theorem dX2_shelterFor_1 : decode cX2_shelterFor 1 = .ok (.istore_n 2, 1) := by decide +kernel
theorem dX2_shelterFor_2 : decode cX2_shelterFor 2 = .ok (.iconst 0, 1) := by decide +kernel
theorem dX2_shelterFor_3 : decode cX2_shelterFor 3 = .ok (.istore_n 3, 1) := by decide +kernel
theorem dX2_shelterFor_4 : decode cX2_shelterFor 4 = .ok (.iload_n 3, 1) := by decide +kernel
theorem dX2_shelterFor_5 : decode cX2_shelterFor 5 = .ok (.aload_n 0, 1) := by decide +kernel
theorem dX2_shelterFor_6 : decode cX2_shelterFor 6 = .ok (.getfield 42, 3) := by decide +kernel
theorem dX2_shelterFor_9 : decode cX2_shelterFor 9 = .ok (.if_icmp .ge 50, 3) := by decide +kernel
theorem dX2_shelterFor_12 : decode cX2_shelterFor 12 = .ok (.aload_n 0, 1) := by decide +kernel
theorem dX2_shelterFor_13 : decode cX2_shelterFor 13 = .ok (.getfield 11, 3) := by decide +kernel
theorem dX2_shelterFor_16 : decode cX2_shelterFor 16 = .ok (.iload_n 3, 1) := by decide +kernel
theorem dX2_shelterFor_17 : decode cX2_shelterFor 17 = .ok (.aaload, 1) := by decide +kernel
theorem dX2_shelterFor_18 : decode cX2_shelterFor 18 = .ok (.getfield 118, 3) := by decide +kernel
theorem dX2_shelterFor_21 : decode cX2_shelterFor 21 = .ok (.ifCond .ne 32, 3) := by decide +kernel
theorem dX2_shelterFor_24 : decode cX2_shelterFor 24 = .ok (.aload_n 0, 1) := by decide +kernel
theorem dX2_shelterFor_25 : decode cX2_shelterFor 25 = .ok (.iload_n 3, 1) := by decide +kernel
theorem dX2_shelterFor_26 : decode cX2_shelterFor 26 = .ok (.invokevirtual 114, 3) := by decide +kernel
theorem dX2_shelterFor_29 : decode cX2_shelterFor 29 = .ok (.iconst (-1), 1) := by decide +kernel
theorem dX2_shelterFor_30 : decode cX2_shelterFor 30 = .ok (.if_icmp .ne 23, 3) := by decide +kernel
theorem dX2_shelterFor_33 : decode cX2_shelterFor 33 = .ok (.aload_n 0, 1) := by decide +kernel
theorem dX2_shelterFor_34 : decode cX2_shelterFor 34 = .ok (.aload_n 1, 1) := by decide +kernel
theorem dX2_shelterFor_35 : decode cX2_shelterFor 35 = .ok (.aload_n 0, 1) := by decide +kernel
theorem dX2_shelterFor_36 : decode cX2_shelterFor 36 = .ok (.getfield 11, 3) := by decide +kernel
theorem dX2_shelterFor_39 : decode cX2_shelterFor 39 = .ok (.iload_n 3, 1) := by decide +kernel
theorem dX2_shelterFor_40 : decode cX2_shelterFor 40 = .ok (.aaload, 1) := by decide +kernel
theorem dX2_shelterFor_41 : decode cX2_shelterFor 41 = .ok (.invokevirtual 107, 3) := by decide +kernel
theorem dX2_shelterFor_44 : decode cX2_shelterFor 44 = .ok (.ifCond .eq 9, 3) := by decide +kernel
theorem dX2_shelterFor_47 : decode cX2_shelterFor 47 = .ok (.iload_n 2, 1) := by decide +kernel
theorem dX2_shelterFor_48 : decode cX2_shelterFor 48 = .ok (.iconst 1, 1) := by decide +kernel
theorem dX2_shelterFor_49 : decode cX2_shelterFor 49 = .ok (.iload_n 3, 1) := by decide +kernel
theorem dX2_shelterFor_50 : decode cX2_shelterFor 50 = .ok (.ishl, 1) := by decide +kernel
theorem dX2_shelterFor_51 : decode cX2_shelterFor 51 = .ok (.ior, 1) := by decide +kernel
theorem dX2_shelterFor_52 : decode cX2_shelterFor 52 = .ok (.istore_n 2, 1) := by decide +kernel
theorem dX2_shelterFor_53 : decode cX2_shelterFor 53 = .ok (.iinc 3 1, 3) := by decide +kernel
theorem dX2_shelterFor_56 : decode cX2_shelterFor 56 = .ok (.goto (-52), 3) := by decide +kernel
theorem dX2_shelterFor_59 : decode cX2_shelterFor 59 = .ok (.iload_n 2, 1) := by decide +kernel
theorem dX2_shelterFor_60 : decode cX2_shelterFor 60 = .ok (.ireturn, 1) := by decide +kernel
theorem dX2_beginSpring_0 : decode cX2_beginSpring 0 = .ok (.aload_n 0, 1) := by decide +kernel
theorem dX2_beginSpring_1 : decode cX2_beginSpring 1 = .ok (.iconst 0, 1) := by decide +kernel
theorem dX2_beginSpring_2 : decode cX2_beginSpring 2 = .ok (.putfield 64, 3) := by decide +kernel
theorem dX2_beginSpring_5 : decode cX2_beginSpring 5 = .ok (.iconst 0, 1) := by decide +kernel
theorem dX2_beginSpring_6 : decode cX2_beginSpring 6 = .ok (.istore_n 1, 1) := by decide +kernel
theorem dX2_beginSpring_7 : decode cX2_beginSpring 7 = .ok (.iload_n 1, 1) := by decide +kernel
theorem dX2_beginSpring_8 : decode cX2_beginSpring 8 = .ok (.aload_n 0, 1) := by decide +kernel
theorem dX2_beginSpring_9 : decode cX2_beginSpring 9 = .ok (.getfield 49, 3) := by decide +kernel
theorem dX2_beginSpring_12 : decode cX2_beginSpring 12 = .ok (.if_icmp .ge 86, 3) := by decide +kernel
theorem dX2_beginSpring_15 : decode cX2_beginSpring 15 = .ok (.aload_n 0, 1) := by decide +kernel
theorem dX2_beginSpring_16 : decode cX2_beginSpring 16 = .ok (.getfield 19, 3) := by decide +kernel
theorem dX2_beginSpring_19 : decode cX2_beginSpring 19 = .ok (.iload_n 1, 1) := by decide +kernel
theorem dX2_beginSpring_20 : decode cX2_beginSpring 20 = .ok (.aaload, 1) := by decide +kernel
theorem dX2_beginSpring_21 : decode cX2_beginSpring 21 = .ok (.astore_n 2, 1) := by decide +kernel
theorem dX2_beginSpring_22 : decode cX2_beginSpring 22 = .ok (.aload_n 2, 1) := by decide +kernel
theorem dX2_beginSpring_23 : decode cX2_beginSpring 23 = .ok (.getfield 199, 3) := by decide +kernel
theorem dX2_beginSpring_26 : decode cX2_beginSpring 26 = .ok (.istore_n 3, 1) := by decide +kernel
theorem dX2_beginSpring_27 : decode cX2_beginSpring 27 = .ok (.iload_n 3, 1) := by decide +kernel
theorem dX2_beginSpring_28 : decode cX2_beginSpring 28 = .ok (.ifCond .lt 64, 3) := by decide +kernel
theorem dX2_beginSpring_31 : decode cX2_beginSpring 31 = .ok (.iload_n 3, 1) := by decide +kernel
theorem dX2_beginSpring_32 : decode cX2_beginSpring 32 = .ok (.aload_n 0, 1) := by decide +kernel
theorem dX2_beginSpring_33 : decode cX2_beginSpring 33 = .ok (.getfield 42, 3) := by decide +kernel
theorem dX2_beginSpring_36 : decode cX2_beginSpring 36 = .ok (.if_icmp .lt 6, 3) := by decide +kernel
theorem dX2_beginSpring_39 : decode cX2_beginSpring 39 = .ok (.goto 53, 3) := by decide +kernel
theorem dX2_beginSpring_42 : decode cX2_beginSpring 42 = .ok (.aload_n 0, 1) := by decide +kernel
theorem dX2_beginSpring_43 : decode cX2_beginSpring 43 = .ok (.iload_n 3, 1) := by decide +kernel
theorem dX2_beginSpring_44 : decode cX2_beginSpring 44 = .ok (.invokevirtual 114, 3) := by decide +kernel
theorem dX2_beginSpring_47 : decode cX2_beginSpring 47 = .ok (.iconst (-1), 1) := by decide +kernel
theorem dX2_beginSpring_48 : decode cX2_beginSpring 48 = .ok (.if_icmp .ne 26, 3) := by decide +kernel
theorem dX2_beginSpring_51 : decode cX2_beginSpring 51 = .ok (.aload_n 0, 1) := by decide +kernel
theorem dX2_beginSpring_52 : decode cX2_beginSpring 52 = .ok (.aload_n 2, 1) := by decide +kernel
theorem dX2_beginSpring_53 : decode cX2_beginSpring 53 = .ok (.aload_n 0, 1) := by decide +kernel
theorem dX2_beginSpring_54 : decode cX2_beginSpring 54 = .ok (.getfield 11, 3) := by decide +kernel
theorem dX2_beginSpring_57 : decode cX2_beginSpring 57 = .ok (.iload_n 3, 1) := by decide +kernel
theorem dX2_beginSpring_58 : decode cX2_beginSpring 58 = .ok (.aaload, 1) := by decide +kernel
theorem dX2_beginSpring_59 : decode cX2_beginSpring 59 = .ok (.invokevirtual 107, 3) := by decide +kernel
theorem dX2_beginSpring_62 : decode cX2_beginSpring 62 = .ok (.ifCond .eq 12, 3) := by decide +kernel
theorem dX2_beginSpring_65 : decode cX2_beginSpring 65 = .ok (.aload_n 2, 1) := by decide +kernel
theorem dX2_beginSpring_66 : decode cX2_beginSpring 66 = .ok (.iconst 1, 1) := by decide +kernel
theorem dX2_beginSpring_67 : decode cX2_beginSpring 67 = .ok (.iload_n 3, 1) := by decide +kernel
theorem dX2_beginSpring_68 : decode cX2_beginSpring 68 = .ok (.invokevirtual 202, 3) := by decide +kernel
theorem dX2_beginSpring_71 : decode cX2_beginSpring 71 = .ok (.goto 16, 3) := by decide +kernel
theorem dX2_beginSpring_74 : decode cX2_beginSpring 74 = .ok (.aload_n 2, 1) := by decide +kernel
theorem dX2_beginSpring_75 : decode cX2_beginSpring 75 = .ok (.getfield 121, 3) := by decide +kernel
theorem dX2_beginSpring_78 : decode cX2_beginSpring 78 = .ok (.iconst 3, 1) := by decide +kernel
theorem dX2_beginSpring_79 : decode cX2_beginSpring 79 = .ok (.if_icmp .ne 8, 3) := by decide +kernel
theorem dX2_beginSpring_82 : decode cX2_beginSpring 82 = .ok (.aload_n 0, 1) := by decide +kernel
theorem dX2_beginSpring_83 : decode cX2_beginSpring 83 = .ok (.aload_n 2, 1) := by decide +kernel
theorem dX2_beginSpring_84 : decode cX2_beginSpring 84 = .ok (.invokevirtual 214, 3) := by decide +kernel
theorem dX2_beginSpring_87 : decode cX2_beginSpring 87 = .ok (.aload_n 2, 1) := by decide +kernel
theorem dX2_beginSpring_88 : decode cX2_beginSpring 88 = .ok (.iconst (-1), 1) := by decide +kernel
theorem dX2_beginSpring_89 : decode cX2_beginSpring 89 = .ok (.putfield 199, 3) := by decide +kernel
theorem dX2_beginSpring_92 : decode cX2_beginSpring 92 = .ok (.iinc 1 1, 3) := by decide +kernel
theorem dX2_beginSpring_95 : decode cX2_beginSpring 95 = .ok (.goto (-88), 3) := by decide +kernel
theorem dX2_beginSpring_98 : decode cX2_beginSpring 98 = .ok (.return_, 1) := by decide +kernel
theorem dX3_init_0 : decode cX3_init 0 = .ok (.aload_n 0, 1) := by decide +kernel
theorem dX3_init_1 : decode cX3_init 1 = .ok (.invokespecial 3, 3) := by decide +kernel
theorem dX3_init_4 : decode cX3_init 4 = .ok (.aload_n 0, 1) := by decide +kernel
theorem dX3_init_5 : decode cX3_init 5 = .ok (.bipush 70, 2) := by decide +kernel
theorem dX3_init_7 : decode cX3_init 7 = .ok (.newarray .char, 2) := by decide +kernel
theorem dX3_init_9 : decode cX3_init 9 = .ok (.putfield 9, 3) := by decide +kernel
theorem dX3_init_12 : decode cX3_init 12 = .ok (.aload_n 0, 1) := by decide +kernel
theorem dX3_init_13 : decode cX3_init 13 = .ok (.bipush 14, 2) := by decide +kernel
theorem dX3_init_15 : decode cX3_init 15 = .ok (.newarray .int, 2) := by decide +kernel
theorem dX3_init_17 : decode cX3_init 17 = .ok (.putfield 15, 3) := by decide +kernel
theorem dX3_init_20 : decode cX3_init 20 = .ok (.return_, 1) := by decide +kernel
theorem dX3_append_0 : decode cX3_append 0 = .ok (.aload_n 0, 1) := by decide +kernel
theorem dX3_append_1 : decode cX3_append 1 = .ok (.getfield 9, 3) := by decide +kernel
theorem dX3_append_4 : decode cX3_append 4 = .ok (.aload_n 0, 1) := by decide +kernel
theorem dX3_append_5 : decode cX3_append 5 = .ok (.getfield 19, 3) := by decide +kernel
theorem dX3_append_8 : decode cX3_append 8 = .ok (.iload_n 1, 1) := by decide +kernel
theorem dX3_append_9 : decode cX3_append 9 = .ok (.castore, 1) := by decide +kernel
theorem dX3_append_10 : decode cX3_append 10 = .ok (.aload_n 0, 1) := by decide +kernel
theorem dX3_append_11 : decode cX3_append 11 = .ok (.dup, 1) := by decide +kernel
theorem dX3_append_12 : decode cX3_append 12 = .ok (.getfield 19, 3) := by decide +kernel
theorem dX3_append_15 : decode cX3_append 15 = .ok (.iconst 1, 1) := by decide +kernel
theorem dX3_append_16 : decode cX3_append 16 = .ok (.iadd, 1) := by decide +kernel
theorem dX3_append_17 : decode cX3_append 17 = .ok (.putfield 19, 3) := by decide +kernel
theorem dX3_append_20 : decode cX3_append 20 = .ok (.return_, 1) := by decide +kernel
theorem dX3_findFault_0 : decode cX3_findFault 0 = .ok (.iconst (-1), 1) := by decide +kernel
theorem dX3_findFault_1 : decode cX3_findFault 1 = .ok (.istore_n 1, 1) := by decide +kernel
theorem dX3_findFault_2 : decode cX3_findFault 2 = .ok (.iconst 0, 1) := by decide +kernel
theorem dX3_findFault_3 : decode cX3_findFault 3 = .ok (.istore_n 2, 1) := by decide +kernel
theorem dX3_findFault_4 : decode cX3_findFault 4 = .ok (.aload_n 0, 1) := by decide +kernel
theorem dX3_findFault_5 : decode cX3_findFault 5 = .ok (.iconst 0, 1) := by decide +kernel
theorem dX3_findFault_6 : decode cX3_findFault 6 = .ok (.putfield 23, 3) := by decide +kernel
theorem dX3_findFault_9 : decode cX3_findFault 9 = .ok (.aload_n 0, 1) := by decide +kernel
theorem dX3_findFault_10 : decode cX3_findFault 10 = .ok (.getfield 23, 3) := by decide +kernel
theorem dX3_findFault_13 : decode cX3_findFault 13 = .ok (.bipush 14, 2) := by decide +kernel
theorem dX3_findFault_15 : decode cX3_findFault 15 = .ok (.if_icmp .ge 132, 3) := by decide +kernel
theorem dX3_findFault_18 : decode cX3_findFault 18 = .ok (.iload_n 2, 1) := by decide +kernel
theorem dX3_findFault_19 : decode cX3_findFault 19 = .ok (.istore_n 3, 1) := by decide +kernel
theorem dX3_findFault_20 : decode cX3_findFault 20 = .ok (.aload_n 0, 1) := by decide +kernel
theorem dX3_findFault_21 : decode cX3_findFault 21 = .ok (.iload_n 2, 1) := by decide +kernel
theorem dX3_findFault_22 : decode cX3_findFault 22 = .ok (.bipush 45, 2) := by decide +kernel
theorem dX3_findFault_24 : decode cX3_findFault 24 = .ok (.invokevirtual 26, 3) := by decide +kernel
theorem dX3_findFault_27 : decode cX3_findFault 27 = .ok (.ifCond .eq 6, 3) := by decide +kernel
theorem dX3_findFault_30 : decode cX3_findFault 30 = .ok (.iinc 2 1, 3) := by decide +kernel
theorem dX3_findFault_33 : decode cX3_findFault 33 = .ok (.aload_n 0, 1) := by decide +kernel
theorem dX3_findFault_34 : decode cX3_findFault 34 = .ok (.iload_n 2, 1) := by decide +kernel
theorem dX3_findFault_35 : decode cX3_findFault 35 = .ok (.invokevirtual 30, 3) := by decide +kernel
theorem dX3_findFault_38 : decode cX3_findFault 38 = .ok (.istore 4, 2) := by decide +kernel
theorem dX3_findFault_40 : decode cX3_findFault 40 = .ok (.iload 4, 2) := by decide +kernel
theorem dX3_findFault_42 : decode cX3_findFault 42 = .ok (.iload_n 2, 1) := by decide +kernel
theorem dX3_findFault_43 : decode cX3_findFault 43 = .ok (.if_icmp .ne 5, 3) := by decide +kernel
theorem dX3_findFault_46 : decode cX3_findFault 46 = .ok (.iload_n 2, 1) := by decide +kernel
theorem dX3_findFault_47 : decode cX3_findFault 47 = .ok (.ireturn, 1) := by decide +kernel
theorem dX3_findFault_48 : decode cX3_findFault 48 = .ok (.aload_n 0, 1) := by decide +kernel
theorem dX3_findFault_49 : decode cX3_findFault 49 = .ok (.iload_n 2, 1) := by decide +kernel
theorem dX3_findFault_50 : decode cX3_findFault 50 = .ok (.iload 4, 2) := by decide +kernel
theorem dX3_findFault_52 : decode cX3_findFault 52 = .ok (.invokevirtual 34, 3) := by decide +kernel
theorem dX3_findFault_55 : decode cX3_findFault 55 = .ok (.istore 5, 2) := by decide +kernel
theorem dX3_findFault_57 : decode cX3_findFault 57 = .ok (.aload_n 0, 1) := by decide +kernel
theorem dX3_findFault_58 : decode cX3_findFault 58 = .ok (.getfield 15, 3) := by decide +kernel
theorem dX3_findFault_61 : decode cX3_findFault 61 = .ok (.aload_n 0, 1) := by decide +kernel
theorem dX3_findFault_62 : decode cX3_findFault 62 = .ok (.getfield 23, 3) := by decide +kernel
theorem dX3_findFault_65 : decode cX3_findFault 65 = .ok (.iload_n 2, 1) := by decide +kernel
theorem dX3_findFault_66 : decode cX3_findFault 66 = .ok (.iload_n 3, 1) := by decide +kernel
theorem dX3_findFault_67 : decode cX3_findFault 67 = .ok (.if_icmp .le 9, 3) := by decide +kernel
theorem dX3_findFault_70 : decode cX3_findFault 70 = .ok (.iload 5, 2) := by decide +kernel
theorem dX3_findFault_72 : decode cX3_findFault 72 = .ok (.ineg, 1) := by decide +kernel
theorem dX3_findFault_73 : decode cX3_findFault 73 = .ok (.goto 5, 3) := by decide +kernel
theorem dX3_findFault_76 : decode cX3_findFault 76 = .ok (.iload 5, 2) := by decide +kernel
theorem dX3_findFault_78 : decode cX3_findFault 78 = .ok (.iastore, 1) := by decide +kernel
theorem dX3_findFault_79 : decode cX3_findFault 79 = .ok (.iload 5, 2) := by decide +kernel
theorem dX3_findFault_81 : decode cX3_findFault 81 = .ok (.sipush 300, 3) := by decide +kernel
theorem dX3_findFault_84 : decode cX3_findFault 84 = .ok (.if_icmp .le 10, 3) := by decide +kernel
theorem dX3_findFault_87 : decode cX3_findFault 87 = .ok (.iload_n 1, 1) := by decide +kernel
theorem dX3_findFault_88 : decode cX3_findFault 88 = .ok (.iconst (-1), 1) := by decide +kernel
theorem dX3_findFault_89 : decode cX3_findFault 89 = .ok (.if_icmp .ne 5, 3) := by decide +kernel
theorem dX3_findFault_92 : decode cX3_findFault 92 = .ok (.iload_n 3, 1) := by decide +kernel
theorem dX3_findFault_93 : decode cX3_findFault 93 = .ok (.istore_n 1, 1) := by decide +kernel
theorem dX3_findFault_94 : decode cX3_findFault 94 = .ok (.iload 4, 2) := by decide +kernel
theorem dX3_findFault_96 : decode cX3_findFault 96 = .ok (.aload_n 0, 1) := by decide +kernel
theorem dX3_findFault_97 : decode cX3_findFault 97 = .ok (.getfield 19, 3) := by decide +kernel
theorem dX3_findFault_100 : decode cX3_findFault 100 = .ok (.if_icmp .ne 15, 3) := by decide +kernel
theorem dX3_findFault_103 : decode cX3_findFault 103 = .ok (.aload_n 0, 1) := by decide +kernel
theorem dX3_findFault_104 : decode cX3_findFault 104 = .ok (.dup, 1) := by decide +kernel
theorem dX3_findFault_105 : decode cX3_findFault 105 = .ok (.getfield 23, 3) := by decide +kernel
theorem dX3_findFault_108 : decode cX3_findFault 108 = .ok (.iconst 1, 1) := by decide +kernel
theorem dX3_findFault_109 : decode cX3_findFault 109 = .ok (.iadd, 1) := by decide +kernel
theorem dX3_findFault_110 : decode cX3_findFault 110 = .ok (.putfield 23, 3) := by decide +kernel
theorem dX3_findFault_113 : decode cX3_findFault 113 = .ok (.iload_n 1, 1) := by decide +kernel
theorem dX3_findFault_114 : decode cX3_findFault 114 = .ok (.ireturn, 1) := by decide +kernel
theorem dX3_findFault_115 : decode cX3_findFault 115 = .ok (.aload_n 0, 1) := by decide +kernel
theorem dX3_findFault_116 : decode cX3_findFault 116 = .ok (.iload 4, 2) := by decide +kernel
theorem dX3_findFault_118 : decode cX3_findFault 118 = .ok (.bipush 44, 2) := by decide +kernel
theorem dX3_findFault_120 : decode cX3_findFault 120 = .ok (.invokevirtual 26, 3) := by decide +kernel
theorem dX3_findFault_123 : decode cX3_findFault 123 = .ok (.ifCond .ne 6, 3) := by decide +kernel
theorem dX3_findFault_126 : decode cX3_findFault 126 = .ok (.iload 4, 2) := by decide +kernel
theorem dX3_findFault_128 : decode cX3_findFault 128 = .ok (.ireturn, 1) := by decide +kernel
theorem dX3_findFault_129 : decode cX3_findFault 129 = .ok (.iload 4, 2) := by decide +kernel
theorem dX3_findFault_131 : decode cX3_findFault 131 = .ok (.iconst 1, 1) := by decide +kernel
theorem dX3_findFault_132 : decode cX3_findFault 132 = .ok (.iadd, 1) := by decide +kernel
theorem dX3_findFault_133 : decode cX3_findFault 133 = .ok (.istore_n 2, 1) := by decide +kernel
theorem dX3_findFault_134 : decode cX3_findFault 134 = .ok (.aload_n 0, 1) := by decide +kernel
theorem dX3_findFault_135 : decode cX3_findFault 135 = .ok (.dup, 1) := by decide +kernel
theorem dX3_findFault_136 : decode cX3_findFault 136 = .ok (.getfield 23, 3) := by decide +kernel
theorem dX3_findFault_139 : decode cX3_findFault 139 = .ok (.iconst 1, 1) := by decide +kernel
theorem dX3_findFault_140 : decode cX3_findFault 140 = .ok (.iadd, 1) := by decide +kernel
theorem dX3_findFault_141 : decode cX3_findFault 141 = .ok (.putfield 23, 3) := by decide +kernel
theorem dX3_findFault_144 : decode cX3_findFault 144 = .ok (.goto (-135), 3) := by decide +kernel
theorem dX3_findFault_147 : decode cX3_findFault 147 = .ok (.iload_n 2, 1) := by decide +kernel
theorem dX3_findFault_148 : decode cX3_findFault 148 = .ok (.iconst 1, 1) := by decide +kernel
theorem dX3_findFault_149 : decode cX3_findFault 149 = .ok (.isub, 1) := by decide +kernel
theorem dX3_findFault_150 : decode cX3_findFault 150 = .ok (.ireturn, 1) := by decide +kernel
theorem dX3_isAt_0 : decode cX3_isAt 0 = .ok (.iload_n 1, 1) := by decide +kernel
theorem dX3_isAt_1 : decode cX3_isAt 1 = .ok (.aload_n 0, 1) := by decide +kernel
theorem dX3_isAt_2 : decode cX3_isAt 2 = .ok (.getfield 19, 3) := by decide +kernel
theorem dX3_isAt_5 : decode cX3_isAt 5 = .ok (.if_icmp .ge 17, 3) := by decide +kernel
theorem dX3_isAt_8 : decode cX3_isAt 8 = .ok (.aload_n 0, 1) := by decide +kernel
theorem dX3_isAt_9 : decode cX3_isAt 9 = .ok (.getfield 9, 3) := by decide +kernel
theorem dX3_isAt_12 : decode cX3_isAt 12 = .ok (.iload_n 1, 1) := by decide +kernel
theorem dX3_isAt_13 : decode cX3_isAt 13 = .ok (.caload, 1) := by decide +kernel
theorem dX3_isAt_14 : decode cX3_isAt 14 = .ok (.iload_n 2, 1) := by decide +kernel
theorem dX3_isAt_15 : decode cX3_isAt 15 = .ok (.if_icmp .ne 7, 3) := by decide +kernel
theorem dX3_isAt_18 : decode cX3_isAt 18 = .ok (.iconst 1, 1) := by decide +kernel
theorem dX3_isAt_19 : decode cX3_isAt 19 = .ok (.goto 4, 3) := by decide +kernel
theorem dX3_isAt_22 : decode cX3_isAt 22 = .ok (.iconst 0, 1) := by decide +kernel
theorem dX3_isAt_23 : decode cX3_isAt 23 = .ok (.ireturn, 1) := by decide +kernel
theorem dX3_endOfDigits_0 : decode cX3_endOfDigits 0 = .ok (.iload_n 1, 1) := by decide +kernel
theorem dX3_endOfDigits_1 : decode cX3_endOfDigits 1 = .ok (.istore_n 2, 1) := by decide +kernel
theorem dX3_endOfDigits_2 : decode cX3_endOfDigits 2 = .ok (.iload_n 2, 1) := by decide +kernel
theorem dX3_endOfDigits_3 : decode cX3_endOfDigits 3 = .ok (.iload_n 1, 1) := by decide +kernel
theorem dX3_endOfDigits_4 : decode cX3_endOfDigits 4 = .ok (.iconst 3, 1) := by decide +kernel
theorem dX3_endOfDigits_5 : decode cX3_endOfDigits 5 = .ok (.iadd, 1) := by decide +kernel
theorem dX3_endOfDigits_6 : decode cX3_endOfDigits 6 = .ok (.if_icmp .ge 39, 3) := by decide +kernel
theorem dX3_endOfDigits_9 : decode cX3_endOfDigits 9 = .ok (.iload_n 2, 1) := by decide +kernel
theorem dX3_endOfDigits_10 : decode cX3_endOfDigits 10 = .ok (.aload_n 0, 1) := by decide +kernel
theorem dX3_endOfDigits_11 : decode cX3_endOfDigits 11 = .ok (.getfield 19, 3) := by decide +kernel
theorem dX3_endOfDigits_14 : decode cX3_endOfDigits 14 = .ok (.if_icmp .ge 31, 3) := by decide +kernel
theorem dX3_endOfDigits_17 : decode cX3_endOfDigits 17 = .ok (.aload_n 0, 1) := by decide +kernel
theorem dX3_endOfDigits_18 : decode cX3_endOfDigits 18 = .ok (.getfield 9, 3) := by decide +kernel
theorem dX3_endOfDigits_21 : decode cX3_endOfDigits 21 = .ok (.iload_n 2, 1) := by decide +kernel
theorem dX3_endOfDigits_22 : decode cX3_endOfDigits 22 = .ok (.caload, 1) := by decide +kernel
theorem dX3_endOfDigits_23 : decode cX3_endOfDigits 23 = .ok (.bipush 48, 2) := by decide +kernel
theorem dX3_endOfDigits_25 : decode cX3_endOfDigits 25 = .ok (.if_icmp .lt 20, 3) := by decide +kernel
theorem dX3_endOfDigits_28 : decode cX3_endOfDigits 28 = .ok (.aload_n 0, 1) := by decide +kernel
theorem dX3_endOfDigits_29 : decode cX3_endOfDigits 29 = .ok (.getfield 9, 3) := by decide +kernel
theorem dX3_endOfDigits_32 : decode cX3_endOfDigits 32 = .ok (.iload_n 2, 1) := by decide +kernel
theorem dX3_endOfDigits_33 : decode cX3_endOfDigits 33 = .ok (.caload, 1) := by decide +kernel
theorem dX3_endOfDigits_34 : decode cX3_endOfDigits 34 = .ok (.bipush 57, 2) := by decide +kernel
theorem dX3_endOfDigits_36 : decode cX3_endOfDigits 36 = .ok (.if_icmp .gt 9, 3) := by decide +kernel
theorem dX3_endOfDigits_39 : decode cX3_endOfDigits 39 = .ok (.iinc 2 1, 3) := by decide +kernel
theorem dX3_endOfDigits_42 : decode cX3_endOfDigits 42 = .ok (.goto (-40), 3) := by decide +kernel
theorem dX3_endOfDigits_45 : decode cX3_endOfDigits 45 = .ok (.iload_n 2, 1) := by decide +kernel
theorem dX3_endOfDigits_46 : decode cX3_endOfDigits 46 = .ok (.ireturn, 1) := by decide +kernel
theorem dX3_valueOf_0 : decode cX3_valueOf 0 = .ok (.iconst 0, 1) := by decide +kernel
theorem dX3_valueOf_1 : decode cX3_valueOf 1 = .ok (.istore_n 3, 1) := by decide +kernel
theorem dX3_valueOf_2 : decode cX3_valueOf 2 = .ok (.iload_n 1, 1) := by decide +kernel
theorem dX3_valueOf_3 : decode cX3_valueOf 3 = .ok (.istore 4, 2) := by decide +kernel
theorem dX3_valueOf_5 : decode cX3_valueOf 5 = .ok (.iload 4, 2) := by decide +kernel
theorem dX3_valueOf_7 : decode cX3_valueOf 7 = .ok (.iload_n 2, 1) := by decide +kernel
theorem dX3_valueOf_8 : decode cX3_valueOf 8 = .ok (.if_icmp .ge 25, 3) := by decide +kernel
theorem dX3_valueOf_11 : decode cX3_valueOf 11 = .ok (.bipush 10, 2) := by decide +kernel
theorem dX3_valueOf_13 : decode cX3_valueOf 13 = .ok (.iload_n 3, 1) := by decide +kernel
theorem dX3_valueOf_14 : decode cX3_valueOf 14 = .ok (.imul, 1) := by decide +kernel
theorem dX3_valueOf_15 : decode cX3_valueOf 15 = .ok (.aload_n 0, 1) := by decide +kernel
theorem dX3_valueOf_16 : decode cX3_valueOf 16 = .ok (.getfield 9, 3) := by decide +kernel
theorem dX3_valueOf_19 : decode cX3_valueOf 19 = .ok (.iload 4, 2) := by decide +kernel
theorem dX3_valueOf_21 : decode cX3_valueOf 21 = .ok (.caload, 1) := by decide +kernel
theorem dX3_valueOf_22 : decode cX3_valueOf 22 = .ok (.bipush 48, 2) := by decide +kernel
theorem dX3_valueOf_24 : decode cX3_valueOf 24 = .ok (.isub, 1) := by decide +kernel
theorem dX3_valueOf_25 : decode cX3_valueOf 25 = .ok (.iadd, 1) := by decide +kernel
theorem dX3_valueOf_26 : decode cX3_valueOf 26 = .ok (.istore_n 3, 1) := by decide +kernel
theorem dX3_valueOf_27 : decode cX3_valueOf 27 = .ok (.iinc 4 1, 3) := by decide +kernel
theorem dX3_valueOf_30 : decode cX3_valueOf 30 = .ok (.goto (-25), 3) := by decide +kernel
theorem dX3_valueOf_33 : decode cX3_valueOf 33 = .ok (.iload_n 3, 1) := by decide +kernel
theorem dX3_valueOf_34 : decode cX3_valueOf 34 = .ok (.ireturn, 1) := by decide +kernel
theorem dX4_init_0 : decode cX4_init 0 = .ok (.aload_n 0, 1) := by decide +kernel
theorem dX4_init_1 : decode cX4_init 1 = .ok (.invokespecial 3, 3) := by decide +kernel
theorem dX4_init_4 : decode cX4_init 4 = .ok (.aload_n 0, 1) := by decide +kernel
theorem dX4_init_5 : decode cX4_init 5 = .ok (.bipush 20, 2) := by decide +kernel
theorem dX4_init_7 : decode cX4_init 7 = .ok (.newarray .int, 2) := by decide +kernel
theorem dX4_init_9 : decode cX4_init 9 = .ok (.putfield 9, 3) := by decide +kernel
theorem dX4_init_12 : decode cX4_init 12 = .ok (.aload_n 0, 1) := by decide +kernel
theorem dX4_init_13 : decode cX4_init 13 = .ok (.bipush 16, 2) := by decide +kernel
theorem dX4_init_15 : decode cX4_init 15 = .ok (.newarray .int, 2) := by decide +kernel
theorem dX4_init_17 : decode cX4_init 17 = .ok (.putfield 15, 3) := by decide +kernel
theorem dX4_init_20 : decode cX4_init 20 = .ok (.return_, 1) := by decide +kernel
theorem dX4_clear_0 : decode cX4_clear 0 = .ok (.aload_n 0, 1) := by decide +kernel
theorem dX4_clear_1 : decode cX4_clear 1 = .ok (.ldc 18, 2) := by decide +kernel
theorem dX4_clear_3 : decode cX4_clear 3 = .ok (.putfield 19, 3) := by decide +kernel
theorem dX4_clear_6 : decode cX4_clear 6 = .ok (.iconst 0, 1) := by decide +kernel
theorem dX4_clear_7 : decode cX4_clear 7 = .ok (.istore_n 1, 1) := by decide +kernel
theorem dX4_clear_8 : decode cX4_clear 8 = .ok (.iload_n 1, 1) := by decide +kernel
theorem dX4_clear_9 : decode cX4_clear 9 = .ok (.bipush 20, 2) := by decide +kernel
theorem dX4_clear_11 : decode cX4_clear 11 = .ok (.if_icmp .ge 16, 3) := by decide +kernel
theorem dX4_clear_14 : decode cX4_clear 14 = .ok (.aload_n 0, 1) := by decide +kernel
theorem dX4_clear_15 : decode cX4_clear 15 = .ok (.getfield 9, 3) := by decide +kernel
theorem dX4_clear_18 : decode cX4_clear 18 = .ok (.iload_n 1, 1) := by decide +kernel
theorem dX4_clear_19 : decode cX4_clear 19 = .ok (.iconst 0, 1) := by decide +kernel
theorem dX4_clear_20 : decode cX4_clear 20 = .ok (.iastore, 1) := by decide +kernel
theorem dX4_clear_21 : decode cX4_clear 21 = .ok (.iinc 1 1, 3) := by decide +kernel
theorem dX4_clear_24 : decode cX4_clear 24 = .ok (.goto (-16), 3) := by decide +kernel
theorem dX4_clear_27 : decode cX4_clear 27 = .ok (.return_, 1) := by decide +kernel
theorem dX4_ask_0 : decode cX4_ask 0 = .ok (.aload_n 0, 1) := by decide +kernel
theorem dX4_ask_1 : decode cX4_ask 1 = .ok (.getfield 9, 3) := by decide +kernel
theorem dX4_ask_4 : decode cX4_ask 4 = .ok (.iload_n 1, 1) := by decide +kernel
theorem dX4_ask_5 : decode cX4_ask 5 = .ok (.iload_n 2, 1) := by decide +kernel
theorem dX4_ask_6 : decode cX4_ask 6 = .ok (.iastore, 1) := by decide +kernel
theorem dX4_ask_7 : decode cX4_ask 7 = .ok (.return_, 1) := by decide +kernel
theorem dX4_giveTo_0 : decode cX4_giveTo 0 = .ok (.aload_n 0, 1) := by decide +kernel
theorem dX4_giveTo_1 : decode cX4_giveTo 1 = .ok (.iload_n 1, 1) := by decide +kernel
theorem dX4_giveTo_2 : decode cX4_giveTo 2 = .ok (.invokevirtual 23, 3) := by decide +kernel
theorem dX4_giveTo_5 : decode cX4_giveTo 5 = .ok (.istore_n 2, 1) := by decide +kernel
theorem dX4_giveTo_6 : decode cX4_giveTo 6 = .ok (.iconst 0, 1) := by decide +kernel
theorem dX4_giveTo_7 : decode cX4_giveTo 7 = .ok (.istore_n 3, 1) := by decide +kernel
theorem dX4_giveTo_8 : decode cX4_giveTo 8 = .ok (.iload_n 3, 1) := by decide +kernel
theorem dX4_giveTo_9 : decode cX4_giveTo 9 = .ok (.bipush 16, 2) := by decide +kernel
theorem dX4_giveTo_11 : decode cX4_giveTo 11 = .ok (.if_icmp .ge 73, 3) := by decide +kernel
theorem dX4_giveTo_14 : decode cX4_giveTo 14 = .ok (.iconst 1, 1) := by decide +kernel
theorem dX4_giveTo_15 : decode cX4_giveTo 15 = .ok (.iload_n 3, 1) := by decide +kernel
theorem dX4_giveTo_16 : decode cX4_giveTo 16 = .ok (.ishl, 1) := by decide +kernel
theorem dX4_giveTo_17 : decode cX4_giveTo 17 = .ok (.istore 4, 2) := by decide +kernel
theorem dX4_giveTo_19 : decode cX4_giveTo 19 = .ok (.aload_n 0, 1) := by decide +kernel
theorem dX4_giveTo_20 : decode cX4_giveTo 20 = .ok (.getfield 9, 3) := by decide +kernel
theorem dX4_giveTo_23 : decode cX4_giveTo 23 = .ok (.iload_n 1, 1) := by decide +kernel
theorem dX4_giveTo_24 : decode cX4_giveTo 24 = .ok (.iaload, 1) := by decide +kernel
theorem dX4_giveTo_25 : decode cX4_giveTo 25 = .ok (.aload_n 0, 1) := by decide +kernel
theorem dX4_giveTo_26 : decode cX4_giveTo 26 = .ok (.getfield 19, 3) := by decide +kernel
theorem dX4_giveTo_29 : decode cX4_giveTo 29 = .ok (.iand, 1) := by decide +kernel
theorem dX4_giveTo_30 : decode cX4_giveTo 30 = .ok (.iload 4, 2) := by decide +kernel
theorem dX4_giveTo_32 : decode cX4_giveTo 32 = .ok (.iand, 1) := by decide +kernel
theorem dX4_giveTo_33 : decode cX4_giveTo 33 = .ok (.ifCond .ne 6, 3) := by decide +kernel
theorem dX4_giveTo_36 : decode cX4_giveTo 36 = .ok (.goto 42, 3) := by decide +kernel
theorem dX4_giveTo_39 : decode cX4_giveTo 39 = .ok (.aload_n 0, 1) := by decide +kernel
theorem dX4_giveTo_40 : decode cX4_giveTo 40 = .ok (.dup, 1) := by decide +kernel
theorem dX4_giveTo_41 : decode cX4_giveTo 41 = .ok (.getfield 19, 3) := by decide +kernel
theorem dX4_giveTo_44 : decode cX4_giveTo 44 = .ok (.iload 4, 2) := by decide +kernel
theorem dX4_giveTo_46 : decode cX4_giveTo 46 = .ok (.iconst (-1), 1) := by decide +kernel
theorem dX4_giveTo_47 : decode cX4_giveTo 47 = .ok (.ixor, 1) := by decide +kernel
theorem dX4_giveTo_48 : decode cX4_giveTo 48 = .ok (.iand, 1) := by decide +kernel
theorem dX4_giveTo_49 : decode cX4_giveTo 49 = .ok (.putfield 19, 3) := by decide +kernel
theorem dX4_giveTo_52 : decode cX4_giveTo 52 = .ok (.aload_n 0, 1) := by decide +kernel
theorem dX4_giveTo_53 : decode cX4_giveTo 53 = .ok (.iload_n 1, 1) := by decide +kernel
theorem dX4_giveTo_54 : decode cX4_giveTo 54 = .ok (.iconst 1, 1) := by decide +kernel
theorem dX4_giveTo_55 : decode cX4_giveTo 55 = .ok (.iadd, 1) := by decide +kernel
theorem dX4_giveTo_56 : decode cX4_giveTo 56 = .ok (.invokevirtual 23, 3) := by decide +kernel
theorem dX4_giveTo_59 : decode cX4_giveTo 59 = .ok (.iconst 1, 1) := by decide +kernel
theorem dX4_giveTo_60 : decode cX4_giveTo 60 = .ok (.iadd, 1) := by decide +kernel
theorem dX4_giveTo_61 : decode cX4_giveTo 61 = .ok (.iload_n 2, 1) := by decide +kernel
theorem dX4_giveTo_62 : decode cX4_giveTo 62 = .ok (.if_icmp .ne 5, 3) := by decide +kernel
theorem dX4_giveTo_65 : decode cX4_giveTo 65 = .ok (.iload_n 3, 1) := by decide +kernel
theorem dX4_giveTo_66 : decode cX4_giveTo 66 = .ok (.ireturn, 1) := by decide +kernel
theorem dX4_giveTo_67 : decode cX4_giveTo 67 = .ok (.aload_n 0, 1) := by decide +kernel
theorem dX4_giveTo_68 : decode cX4_giveTo 68 = .ok (.dup, 1) := by decide +kernel
theorem dX4_giveTo_69 : decode cX4_giveTo 69 = .ok (.getfield 19, 3) := by decide +kernel
theorem dX4_giveTo_72 : decode cX4_giveTo 72 = .ok (.iload 4, 2) := by decide +kernel
theorem dX4_giveTo_74 : decode cX4_giveTo 74 = .ok (.ior, 1) := by decide +kernel
theorem dX4_giveTo_75 : decode cX4_giveTo 75 = .ok (.putfield 19, 3) := by decide +kernel
theorem dX4_giveTo_78 : decode cX4_giveTo 78 = .ok (.iinc 3 1, 3) := by decide +kernel
theorem dX4_giveTo_81 : decode cX4_giveTo 81 = .ok (.goto (-73), 3) := by decide +kernel
theorem dX4_giveTo_84 : decode cX4_giveTo 84 = .ok (.iconst (-1), 1) := by decide +kernel
theorem dX4_giveTo_85 : decode cX4_giveTo 85 = .ok (.ireturn, 1) := by decide +kernel
theorem dX4_mostFrom_0 : decode cX4_mostFrom 0 = .ok (.iconst 0, 1) := by decide +kernel
theorem dX4_mostFrom_1 : decode cX4_mostFrom 1 = .ok (.istore_n 2, 1) := by decide +kernel
theorem dX4_mostFrom_2 : decode cX4_mostFrom 2 = .ok (.iload_n 2, 1) := by decide +kernel
theorem dX4_mostFrom_3 : decode cX4_mostFrom 3 = .ok (.bipush 16, 2) := by decide +kernel
theorem dX4_mostFrom_5 : decode cX4_mostFrom 5 = .ok (.if_icmp .ge 16, 3) := by decide +kernel
theorem dX4_mostFrom_8 : decode cX4_mostFrom 8 = .ok (.aload_n 0, 1) := by decide +kernel
theorem dX4_mostFrom_9 : decode cX4_mostFrom 9 = .ok (.getfield 15, 3) := by decide +kernel
theorem dX4_mostFrom_12 : decode cX4_mostFrom 12 = .ok (.iload_n 2, 1) := by decide +kernel
theorem dX4_mostFrom_13 : decode cX4_mostFrom 13 = .ok (.iconst (-1), 1) := by decide +kernel
theorem dX4_mostFrom_14 : decode cX4_mostFrom 14 = .ok (.iastore, 1) := by decide +kernel
theorem dX4_mostFrom_15 : decode cX4_mostFrom 15 = .ok (.iinc 2 1, 3) := by decide +kernel
theorem dX4_mostFrom_18 : decode cX4_mostFrom 18 = .ok (.goto (-16), 3) := by decide +kernel
theorem dX4_mostFrom_21 : decode cX4_mostFrom 21 = .ok (.iconst 0, 1) := by decide +kernel
theorem dX4_mostFrom_22 : decode cX4_mostFrom 22 = .ok (.istore_n 2, 1) := by decide +kernel
theorem dX4_mostFrom_23 : decode cX4_mostFrom 23 = .ok (.iload_n 1, 1) := by decide +kernel
theorem dX4_mostFrom_24 : decode cX4_mostFrom 24 = .ok (.istore_n 3, 1) := by decide +kernel
theorem dX4_mostFrom_25 : decode cX4_mostFrom 25 = .ok (.iload_n 3, 1) := by decide +kernel
theorem dX4_mostFrom_26 : decode cX4_mostFrom 26 = .ok (.bipush 20, 2) := by decide +kernel
theorem dX4_mostFrom_28 : decode cX4_mostFrom 28 = .ok (.if_icmp .ge 26, 3) := by decide +kernel
theorem dX4_mostFrom_31 : decode cX4_mostFrom 31 = .ok (.aload_n 0, 1) := by decide +kernel
theorem dX4_mostFrom_32 : decode cX4_mostFrom 32 = .ok (.iconst 0, 1) := by decide +kernel
theorem dX4_mostFrom_33 : decode cX4_mostFrom 33 = .ok (.putfield 27, 3) := by decide +kernel
theorem dX4_mostFrom_36 : decode cX4_mostFrom 36 = .ok (.aload_n 0, 1) := by decide +kernel
theorem dX4_mostFrom_37 : decode cX4_mostFrom 37 = .ok (.iload_n 3, 1) := by decide +kernel
theorem dX4_mostFrom_38 : decode cX4_mostFrom 38 = .ok (.iconst 0, 1) := by decide +kernel
theorem dX4_mostFrom_39 : decode cX4_mostFrom 39 = .ok (.invokestatic 30, 3) := by decide +kernel
theorem dX4_mostFrom_42 : decode cX4_mostFrom 42 = .ok (.ifCond .eq 6, 3) := by decide +kernel
theorem dX4_mostFrom_45 : decode cX4_mostFrom 45 = .ok (.iinc 2 1, 3) := by decide +kernel
theorem dX4_mostFrom_48 : decode cX4_mostFrom 48 = .ok (.iinc 3 1, 3) := by decide +kernel
theorem dX4_mostFrom_51 : decode cX4_mostFrom 51 = .ok (.goto (-26), 3) := by decide +kernel
theorem dX4_mostFrom_54 : decode cX4_mostFrom 54 = .ok (.iload_n 2, 1) := by decide +kernel
theorem dX4_mostFrom_55 : decode cX4_mostFrom 55 = .ok (.ireturn, 1) := by decide +kernel
theorem dX4_findsBerth_0 : decode cX4_findsBerth 0 = .ok (.iload_n 1, 1) := by decide +kernel
theorem dX4_findsBerth_1 : decode cX4_findsBerth 1 = .ok (.ifCond .lt 15, 3) := by decide +kernel
theorem dX4_findsBerth_4 : decode cX4_findsBerth 4 = .ok (.iload_n 1, 1) := by decide +kernel
theorem dX4_findsBerth_5 : decode cX4_findsBerth 5 = .ok (.bipush 20, 2) := by decide +kernel
theorem dX4_findsBerth_7 : decode cX4_findsBerth 7 = .ok (.if_icmp .ge 9, 3) := by decide +kernel
theorem dX4_findsBerth_10 : decode cX4_findsBerth 10 = .ok (.iload_n 2, 1) := by decide +kernel
theorem dX4_findsBerth_11 : decode cX4_findsBerth 11 = .ok (.bipush 16, 2) := by decide +kernel
theorem dX4_findsBerth_13 : decode cX4_findsBerth 13 = .ok (.if_icmp .le 5, 3) := by decide +kernel
theorem dX4_findsBerth_16 : decode cX4_findsBerth 16 = .ok (.iconst 0, 1) := by decide +kernel
theorem dX4_findsBerth_17 : decode cX4_findsBerth 17 = .ok (.ireturn, 1) := by decide +kernel
theorem dX4_findsBerth_18 : decode cX4_findsBerth 18 = .ok (.iconst 0, 1) := by decide +kernel
theorem dX4_findsBerth_19 : decode cX4_findsBerth 19 = .ok (.istore_n 3, 1) := by decide +kernel
theorem dX4_findsBerth_20 : decode cX4_findsBerth 20 = .ok (.iload_n 3, 1) := by decide +kernel
theorem dX4_findsBerth_21 : decode cX4_findsBerth 21 = .ok (.bipush 16, 2) := by decide +kernel
theorem dX4_findsBerth_23 : decode cX4_findsBerth 23 = .ok (.if_icmp .ge 87, 3) := by decide +kernel
theorem dX4_findsBerth_26 : decode cX4_findsBerth 26 = .ok (.iconst 1, 1) := by decide +kernel
theorem dX4_findsBerth_27 : decode cX4_findsBerth 27 = .ok (.iload_n 3, 1) := by decide +kernel
theorem dX4_findsBerth_28 : decode cX4_findsBerth 28 = .ok (.ishl, 1) := by decide +kernel
theorem dX4_findsBerth_29 : decode cX4_findsBerth 29 = .ok (.istore 4, 2) := by decide +kernel
theorem dX4_findsBerth_31 : decode cX4_findsBerth 31 = .ok (.aload_n 0, 1) := by decide +kernel
theorem dX4_findsBerth_32 : decode cX4_findsBerth 32 = .ok (.getfield 9, 3) := by decide +kernel
theorem dX4_findsBerth_35 : decode cX4_findsBerth 35 = .ok (.iload_n 1, 1) := by decide +kernel
theorem dX4_findsBerth_36 : decode cX4_findsBerth 36 = .ok (.iaload, 1) := by decide +kernel
theorem dX4_findsBerth_37 : decode cX4_findsBerth 37 = .ok (.aload_n 0, 1) := by decide +kernel
theorem dX4_findsBerth_38 : decode cX4_findsBerth 38 = .ok (.getfield 19, 3) := by decide +kernel
theorem dX4_findsBerth_41 : decode cX4_findsBerth 41 = .ok (.iand, 1) := by decide +kernel
theorem dX4_findsBerth_42 : decode cX4_findsBerth 42 = .ok (.aload_n 0, 1) := by decide +kernel
theorem dX4_findsBerth_43 : decode cX4_findsBerth 43 = .ok (.getfield 27, 3) := by decide +kernel
theorem dX4_findsBerth_46 : decode cX4_findsBerth 46 = .ok (.iconst (-1), 1) := by decide +kernel
theorem dX4_findsBerth_47 : decode cX4_findsBerth 47 = .ok (.ixor, 1) := by decide +kernel
theorem dX4_findsBerth_48 : decode cX4_findsBerth 48 = .ok (.iand, 1) := by decide +kernel
theorem dX4_findsBerth_49 : decode cX4_findsBerth 49 = .ok (.iload 4, 2) := by decide +kernel
theorem dX4_findsBerth_51 : decode cX4_findsBerth 51 = .ok (.iand, 1) := by decide +kernel
theorem dX4_findsBerth_52 : decode cX4_findsBerth 52 = .ok (.ifCond .ne 6, 3) := by decide +kernel
theorem dX4_findsBerth_55 : decode cX4_findsBerth 55 = .ok (.goto 49, 3) := by decide +kernel
theorem dX4_findsBerth_58 : decode cX4_findsBerth 58 = .ok (.aload_n 0, 1) := by decide +kernel
theorem dX4_findsBerth_59 : decode cX4_findsBerth 59 = .ok (.dup, 1) := by decide +kernel
theorem dX4_findsBerth_60 : decode cX4_findsBerth 60 = .ok (.getfield 27, 3) := by decide +kernel
theorem dX4_findsBerth_63 : decode cX4_findsBerth 63 = .ok (.iload 4, 2) := by decide +kernel
theorem dX4_findsBerth_65 : decode cX4_findsBerth 65 = .ok (.ior, 1) := by decide +kernel
theorem dX4_findsBerth_66 : decode cX4_findsBerth 66 = .ok (.putfield 27, 3) := by decide +kernel
theorem dX4_findsBerth_69 : decode cX4_findsBerth 69 = .ok (.aload_n 0, 1) := by decide +kernel
theorem dX4_findsBerth_70 : decode cX4_findsBerth 70 = .ok (.getfield 15, 3) := by decide +kernel
theorem dX4_findsBerth_73 : decode cX4_findsBerth 73 = .ok (.iload_n 3, 1) := by decide +kernel
theorem dX4_findsBerth_74 : decode cX4_findsBerth 74 = .ok (.iaload, 1) := by decide +kernel
theorem dX4_findsBerth_75 : decode cX4_findsBerth 75 = .ok (.iconst (-1), 1) := by decide +kernel
theorem dX4_findsBerth_76 : decode cX4_findsBerth 76 = .ok (.if_icmp .eq 19, 3) := by decide +kernel
theorem dX4_findsBerth_79 : decode cX4_findsBerth 79 = .ok (.aload_n 0, 1) := by decide +kernel
theorem dX4_findsBerth_80 : decode cX4_findsBerth 80 = .ok (.aload_n 0, 1) := by decide +kernel
theorem dX4_findsBerth_81 : decode cX4_findsBerth 81 = .ok (.getfield 15, 3) := by decide +kernel
theorem dX4_findsBerth_84 : decode cX4_findsBerth 84 = .ok (.iload_n 3, 1) := by decide +kernel
theorem dX4_findsBerth_85 : decode cX4_findsBerth 85 = .ok (.iaload, 1) := by decide +kernel
theorem dX4_findsBerth_86 : decode cX4_findsBerth 86 = .ok (.iload_n 2, 1) := by decide +kernel
theorem dX4_findsBerth_87 : decode cX4_findsBerth 87 = .ok (.iconst 1, 1) := by decide +kernel
theorem dX4_findsBerth_88 : decode cX4_findsBerth 88 = .ok (.iadd, 1) := by decide +kernel
theorem dX4_findsBerth_89 : decode cX4_findsBerth 89 = .ok (.invokestatic 30, 3) := by decide +kernel
theorem dX4_findsBerth_92 : decode cX4_findsBerth 92 = .ok (.ifCond .eq 12, 3) := by decide +kernel
theorem dX4_findsBerth_95 : decode cX4_findsBerth 95 = .ok (.aload_n 0, 1) := by decide +kernel
theorem dX4_findsBerth_96 : decode cX4_findsBerth 96 = .ok (.getfield 15, 3) := by decide +kernel
theorem dX4_findsBerth_99 : decode cX4_findsBerth 99 = .ok (.iload_n 3, 1) := by decide +kernel
theorem dX4_findsBerth_100 : decode cX4_findsBerth 100 = .ok (.iload_n 1, 1) := by decide +kernel
theorem dX4_findsBerth_101 : decode cX4_findsBerth 101 = .ok (.iastore, 1) := by decide +kernel
theorem dX4_findsBerth_102 : decode cX4_findsBerth 102 = .ok (.iconst 1, 1) := by decide +kernel
theorem dX4_findsBerth_103 : decode cX4_findsBerth 103 = .ok (.ireturn, 1) := by decide +kernel
theorem dX4_findsBerth_104 : decode cX4_findsBerth 104 = .ok (.iinc 3 1, 3) := by decide +kernel
theorem dX4_findsBerth_107 : decode cX4_findsBerth 107 = .ok (.goto (-87), 3) := by decide +kernel
theorem dX4_findsBerth_110 : decode cX4_findsBerth 110 = .ok (.iconst 0, 1) := by decide +kernel
theorem dX4_findsBerth_111 : decode cX4_findsBerth 111 = .ok (.ireturn, 1) := by decide +kernel
