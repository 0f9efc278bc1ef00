theorem dX6_init_0 : decode cX6_init 0 = .ok (.aload_n 0, 1) := by decide +kernel
theorem dX6_init_1 : decode cX6_init 1 = .ok (.invokespecial 1, 3) := by decide +kernel
theorem dX6_init_4 : decode cX6_init 4 = .ok (.aload_n 0, 1) := by decide +kernel
theorem dX6_init_5 : decode cX6_init 5 = .ok (.sipush 270, 3) := by decide +kernel
theorem dX6_init_8 : decode cX6_init 8 = .ok (.newarray .int, 2) := by decide +kernel
theorem dX6_init_10 : decode cX6_init 10 = .ok (.putfield 7, 3) := by decide +kernel
theorem dX6_init_13 : decode cX6_init 13 = .ok (.aload_n 0, 1) := by decide +kernel
theorem dX6_init_14 : decode cX6_init 14 = .ok (.sipush 1080, 3) := by decide +kernel
theorem dX6_init_17 : decode cX6_init 17 = .ok (.newarray .int, 2) := by decide +kernel
theorem dX6_init_19 : decode cX6_init 19 = .ok (.putfield 13, 3) := by decide +kernel
theorem dX6_init_22 : decode cX6_init 22 = .ok (.aload_n 0, 1) := by decide +kernel
theorem dX6_init_23 : decode cX6_init 23 = .ok (.sipush 270, 3) := by decide +kernel
theorem dX6_init_26 : decode cX6_init 26 = .ok (.newarray .int, 2) := by decide +kernel
theorem dX6_init_28 : decode cX6_init 28 = .ok (.putfield 16, 3) := by decide +kernel
theorem dX6_init_31 : decode cX6_init 31 = .ok (.aload_n 0, 1) := by decide +kernel
theorem dX6_init_32 : decode cX6_init 32 = .ok (.bipush 70, 2) := by decide +kernel
theorem dX6_init_34 : decode cX6_init 34 = .ok (.newarray .int, 2) := by decide +kernel
theorem dX6_init_36 : decode cX6_init 36 = .ok (.putfield 19, 3) := by decide +kernel
theorem dX6_init_39 : decode cX6_init 39 = .ok (.aload_n 0, 1) := by decide +kernel
theorem dX6_init_40 : decode cX6_init 40 = .ok (.bipush 20, 2) := by decide +kernel
theorem dX6_init_42 : decode cX6_init 42 = .ok (.newarray .int, 2) := by decide +kernel
theorem dX6_init_44 : decode cX6_init 44 = .ok (.putfield 22, 3) := by decide +kernel
theorem dX6_init_47 : decode cX6_init 47 = .ok (.aload_n 0, 1) := by decide +kernel
theorem dX6_init_48 : decode cX6_init 48 = .ok (.bipush 16, 2) := by decide +kernel
theorem dX6_init_50 : decode cX6_init 50 = .ok (.newarray .int, 2) := by decide +kernel
theorem dX6_init_52 : decode cX6_init 52 = .ok (.putfield 25, 3) := by decide +kernel
theorem dX6_init_55 : decode cX6_init 55 = .ok (.aload_n 0, 1) := by decide +kernel
theorem dX6_init_56 : decode cX6_init 56 = .ok (.ldc 28, 2) := by decide +kernel
theorem dX6_init_58 : decode cX6_init 58 = .ok (.newarray .int, 2) := by decide +kernel
theorem dX6_init_60 : decode cX6_init 60 = .ok (.putfield 29, 3) := by decide +kernel
theorem dX6_init_63 : decode cX6_init 63 = .ok (.aload_n 0, 1) := by decide +kernel
theorem dX6_init_64 : decode cX6_init 64 = .ok (.bipush 14, 2) := by decide +kernel
theorem dX6_init_66 : decode cX6_init 66 = .ok (.newarray .int, 2) := by decide +kernel
theorem dX6_init_68 : decode cX6_init 68 = .ok (.putfield 32, 3) := by decide +kernel
theorem dX6_init_71 : decode cX6_init 71 = .ok (.aload_n 0, 1) := by decide +kernel
theorem dX6_init_72 : decode cX6_init 72 = .ok (.getfield 7, 3) := by decide +kernel
theorem dX6_init_75 : decode cX6_init 75 = .ok (.iconst 0, 1) := by decide +kernel
theorem dX6_init_76 : decode cX6_init 76 = .ok (.bipush 30, 2) := by decide +kernel
theorem dX6_init_78 : decode cX6_init 78 = .ok (.iastore, 1) := by decide +kernel
theorem dX6_init_79 : decode cX6_init 79 = .ok (.aload_n 0, 1) := by decide +kernel
theorem dX6_init_80 : decode cX6_init 80 = .ok (.getfield 7, 3) := by decide +kernel
theorem dX6_init_83 : decode cX6_init 83 = .ok (.iconst 2, 1) := by decide +kernel
theorem dX6_init_84 : decode cX6_init 84 = .ok (.sipush 270, 3) := by decide +kernel
theorem dX6_init_87 : decode cX6_init 87 = .ok (.iastore, 1) := by decide +kernel
theorem dX6_init_88 : decode cX6_init 88 = .ok (.aload_n 0, 1) := by decide +kernel
theorem dX6_init_89 : decode cX6_init 89 = .ok (.getfield 7, 3) := by decide +kernel
theorem dX6_init_92 : decode cX6_init 92 = .ok (.iconst 3, 1) := by decide +kernel
theorem dX6_init_93 : decode cX6_init 93 = .ok (.bipush 90, 2) := by decide +kernel
theorem dX6_init_95 : decode cX6_init 95 = .ok (.iastore, 1) := by decide +kernel
theorem dX6_init_96 : decode cX6_init 96 = .ok (.aload_n 0, 1) := by decide +kernel
theorem dX6_init_97 : decode cX6_init 97 = .ok (.getfield 7, 3) := by decide +kernel
theorem dX6_init_100 : decode cX6_init 100 = .ok (.bipush 8, 2) := by decide +kernel
theorem dX6_init_102 : decode cX6_init 102 = .ok (.iconst 1, 1) := by decide +kernel
theorem dX6_init_103 : decode cX6_init 103 = .ok (.iastore, 1) := by decide +kernel
theorem dX6_init_104 : decode cX6_init 104 = .ok (.return_, 1) := by decide +kernel
theorem dX6_thrown_0 : decode cX6_thrown 0 = .ok (.aload_n 0, 1) := by decide +kernel
theorem dX6_thrown_1 : decode cX6_thrown 1 = .ok (.getfield 35, 3) := by decide +kernel
theorem dX6_thrown_4 : decode cX6_thrown 4 = .ok (.ireturn, 1) := by decide +kernel
theorem dX6_refused_0 : decode cX6_refused 0 = .ok (.aload_n 0, 1) := by decide +kernel
theorem dX6_refused_1 : decode cX6_refused 1 = .ok (.iload_n 1, 1) := by decide +kernel
theorem dX6_refused_2 : decode cX6_refused 2 = .ok (.putfield 35, 3) := by decide +kernel
theorem dX6_refused_5 : decode cX6_refused 5 = .ok (.iload_n 1, 1) := by decide +kernel
theorem dX6_refused_6 : decode cX6_refused 6 = .ok (.ifCond .le 7, 3) := by decide +kernel
theorem dX6_refused_9 : decode cX6_refused 9 = .ok (.iconst 1, 1) := by decide +kernel
theorem dX6_refused_10 : decode cX6_refused 10 = .ok (.goto 4, 3) := by decide +kernel
theorem dX6_refused_13 : decode cX6_refused 13 = .ok (.iconst 0, 1) := by decide +kernel
theorem dX6_refused_14 : decode cX6_refused 14 = .ok (.ireturn, 1) := by decide +kernel
theorem dX6_within_0 : decode cX6_within 0 = .ok (.iload_n 0, 1) := by decide +kernel
theorem dX6_within_1 : decode cX6_within 1 = .ok (.iload_n 1, 1) := by decide +kernel
theorem dX6_within_2 : decode cX6_within 2 = .ok (.if_icmp .lt 12, 3) := by decide +kernel
theorem dX6_within_5 : decode cX6_within 5 = .ok (.iload_n 0, 1) := by decide +kernel
theorem dX6_within_6 : decode cX6_within 6 = .ok (.iload_n 2, 1) := by decide +kernel
theorem dX6_within_7 : decode cX6_within 7 = .ok (.if_icmp .gt 7, 3) := by decide +kernel
theorem dX6_within_10 : decode cX6_within 10 = .ok (.iconst 1, 1) := by decide +kernel
theorem dX6_within_11 : decode cX6_within 11 = .ok (.goto 4, 3) := by decide +kernel
theorem dX6_within_14 : decode cX6_within 14 = .ok (.iconst 0, 1) := by decide +kernel
theorem dX6_within_15 : decode cX6_within 15 = .ok (.ireturn, 1) := by decide +kernel
theorem dX6_saves_0 : decode cX6_saves 0 = .ok (.aload_n 0, 1) := by decide +kernel
theorem dX6_saves_1 : decode cX6_saves 1 = .ok (.getfield 39, 3) := by decide +kernel
theorem dX6_saves_4 : decode cX6_saves 4 = .ok (.iconst 4, 1) := by decide +kernel
theorem dX6_saves_5 : decode cX6_saves 5 = .ok (.if_icmp .ne 44, 3) := by decide +kernel
theorem dX6_saves_8 : decode cX6_saves 8 = .ok (.iconst 0, 1) := by decide +kernel
theorem dX6_saves_9 : decode cX6_saves 9 = .ok (.istore_n 1, 1) := by decide +kernel
theorem dX6_saves_10 : decode cX6_saves 10 = .ok (.iload_n 1, 1) := by decide +kernel
theorem dX6_saves_11 : decode cX6_saves 11 = .ok (.sipush 810, 3) := by decide +kernel
theorem dX6_saves_14 : decode cX6_saves 14 = .ok (.if_icmp .ge 25, 3) := by decide +kernel
theorem dX6_saves_17 : decode cX6_saves 17 = .ok (.aload_n 0, 1) := by decide +kernel
theorem dX6_saves_18 : decode cX6_saves 18 = .ok (.getfield 13, 3) := by decide +kernel
theorem dX6_saves_21 : decode cX6_saves 21 = .ok (.iload_n 1, 1) := by decide +kernel
theorem dX6_saves_22 : decode cX6_saves 22 = .ok (.aload_n 0, 1) := by decide +kernel
theorem dX6_saves_23 : decode cX6_saves 23 = .ok (.getfield 13, 3) := by decide +kernel
theorem dX6_saves_26 : decode cX6_saves 26 = .ok (.iload_n 1, 1) := by decide +kernel
theorem dX6_saves_27 : decode cX6_saves 27 = .ok (.sipush 270, 3) := by decide +kernel
theorem dX6_saves_30 : decode cX6_saves 30 = .ok (.iadd, 1) := by decide +kernel
theorem dX6_saves_31 : decode cX6_saves 31 = .ok (.iaload, 1) := by decide +kernel
theorem dX6_saves_32 : decode cX6_saves 32 = .ok (.iastore, 1) := by decide +kernel
theorem dX6_saves_33 : decode cX6_saves 33 = .ok (.iinc 1 1, 3) := by decide +kernel
theorem dX6_saves_36 : decode cX6_saves 36 = .ok (.goto (-26), 3) := by decide +kernel
theorem dX6_saves_39 : decode cX6_saves 39 = .ok (.aload_n 0, 1) := by decide +kernel
theorem dX6_saves_40 : decode cX6_saves 40 = .ok (.dup, 1) := by decide +kernel
theorem dX6_saves_41 : decode cX6_saves 41 = .ok (.getfield 39, 3) := by decide +kernel
theorem dX6_saves_44 : decode cX6_saves 44 = .ok (.iconst 1, 1) := by decide +kernel
theorem dX6_saves_45 : decode cX6_saves 45 = .ok (.isub, 1) := by decide +kernel
theorem dX6_saves_46 : decode cX6_saves 46 = .ok (.putfield 39, 3) := by decide +kernel
theorem dX6_saves_49 : decode cX6_saves 49 = .ok (.iconst 0, 1) := by decide +kernel
theorem dX6_saves_50 : decode cX6_saves 50 = .ok (.istore_n 1, 1) := by decide +kernel
theorem dX6_saves_51 : decode cX6_saves 51 = .ok (.iload_n 1, 1) := by decide +kernel
theorem dX6_saves_52 : decode cX6_saves 52 = .ok (.sipush 270, 3) := by decide +kernel
theorem dX6_saves_55 : decode cX6_saves 55 = .ok (.if_icmp .ge 30, 3) := by decide +kernel
theorem dX6_saves_58 : decode cX6_saves 58 = .ok (.aload_n 0, 1) := by decide +kernel
theorem dX6_saves_59 : decode cX6_saves 59 = .ok (.getfield 13, 3) := by decide +kernel
theorem dX6_saves_62 : decode cX6_saves 62 = .ok (.sipush 270, 3) := by decide +kernel
theorem dX6_saves_65 : decode cX6_saves 65 = .ok (.aload_n 0, 1) := by decide +kernel
theorem dX6_saves_66 : decode cX6_saves 66 = .ok (.getfield 39, 3) := by decide +kernel
theorem dX6_saves_69 : decode cX6_saves 69 = .ok (.imul, 1) := by decide +kernel
theorem dX6_saves_70 : decode cX6_saves 70 = .ok (.iload_n 1, 1) := by decide +kernel
theorem dX6_saves_71 : decode cX6_saves 71 = .ok (.iadd, 1) := by decide +kernel
theorem dX6_saves_72 : decode cX6_saves 72 = .ok (.aload_n 0, 1) := by decide +kernel
theorem dX6_saves_73 : decode cX6_saves 73 = .ok (.getfield 7, 3) := by decide +kernel
theorem dX6_saves_76 : decode cX6_saves 76 = .ok (.iload_n 1, 1) := by decide +kernel
theorem dX6_saves_77 : decode cX6_saves 77 = .ok (.iaload, 1) := by decide +kernel
theorem dX6_saves_78 : decode cX6_saves 78 = .ok (.iastore, 1) := by decide +kernel
theorem dX6_saves_79 : decode cX6_saves 79 = .ok (.iinc 1 1, 3) := by decide +kernel
theorem dX6_saves_82 : decode cX6_saves 82 = .ok (.goto (-31), 3) := by decide +kernel
theorem dX6_saves_85 : decode cX6_saves 85 = .ok (.aload_n 0, 1) := by decide +kernel
theorem dX6_saves_86 : decode cX6_saves 86 = .ok (.dup, 1) := by decide +kernel
theorem dX6_saves_87 : decode cX6_saves 87 = .ok (.getfield 39, 3) := by decide +kernel
theorem dX6_saves_90 : decode cX6_saves 90 = .ok (.iconst 1, 1) := by decide +kernel
theorem dX6_saves_91 : decode cX6_saves 91 = .ok (.iadd, 1) := by decide +kernel
theorem dX6_saves_92 : decode cX6_saves 92 = .ok (.putfield 39, 3) := by decide +kernel
theorem dX6_saves_95 : decode cX6_saves 95 = .ok (.return_, 1) := by decide +kernel
theorem dX6_undo_0 : decode cX6_undo 0 = .ok (.aload_n 0, 1) := by decide +kernel
theorem dX6_undo_1 : decode cX6_undo 1 = .ok (.aload_n 0, 1) := by decide +kernel
theorem dX6_undo_2 : decode cX6_undo 2 = .ok (.getfield 39, 3) := by decide +kernel
theorem dX6_undo_5 : decode cX6_undo 5 = .ok (.ifCond .ne 7, 3) := by decide +kernel
theorem dX6_undo_8 : decode cX6_undo 8 = .ok (.iconst 1, 1) := by decide +kernel
theorem dX6_undo_9 : decode cX6_undo 9 = .ok (.goto 4, 3) := by decide +kernel
theorem dX6_undo_12 : decode cX6_undo 12 = .ok (.iconst 0, 1) := by decide +kernel
theorem dX6_undo_13 : decode cX6_undo 13 = .ok (.invokevirtual 42, 3) := by decide +kernel
theorem dX6_undo_16 : decode cX6_undo 16 = .ok (.ifCond .eq 5, 3) := by decide +kernel
theorem dX6_undo_19 : decode cX6_undo 19 = .ok (.iconst 0, 1) := by decide +kernel
theorem dX6_undo_20 : decode cX6_undo 20 = .ok (.ireturn, 1) := by decide +kernel
theorem dX6_undo_21 : decode cX6_undo 21 = .ok (.aload_n 0, 1) := by decide +kernel
theorem dX6_undo_22 : decode cX6_undo 22 = .ok (.dup, 1) := by decide +kernel
theorem dX6_undo_23 : decode cX6_undo 23 = .ok (.getfield 39, 3) := by decide +kernel
theorem dX6_undo_26 : decode cX6_undo 26 = .ok (.iconst 1, 1) := by decide +kernel
theorem dX6_undo_27 : decode cX6_undo 27 = .ok (.isub, 1) := by decide +kernel
theorem dX6_undo_28 : decode cX6_undo 28 = .ok (.putfield 39, 3) := by decide +kernel
theorem dX6_undo_31 : decode cX6_undo 31 = .ok (.iconst 0, 1) := by decide +kernel
theorem dX6_undo_32 : decode cX6_undo 32 = .ok (.istore_n 1, 1) := by decide +kernel
theorem dX6_undo_33 : decode cX6_undo 33 = .ok (.iload_n 1, 1) := by decide +kernel
theorem dX6_undo_34 : decode cX6_undo 34 = .ok (.sipush 270, 3) := by decide +kernel
theorem dX6_undo_37 : decode cX6_undo 37 = .ok (.if_icmp .ge 30, 3) := by decide +kernel
theorem dX6_undo_40 : decode cX6_undo 40 = .ok (.aload_n 0, 1) := by decide +kernel
theorem dX6_undo_41 : decode cX6_undo 41 = .ok (.getfield 7, 3) := by decide +kernel
theorem dX6_undo_44 : decode cX6_undo 44 = .ok (.iload_n 1, 1) := by decide +kernel
theorem dX6_undo_45 : decode cX6_undo 45 = .ok (.aload_n 0, 1) := by decide +kernel
theorem dX6_undo_46 : decode cX6_undo 46 = .ok (.getfield 13, 3) := by decide +kernel
theorem dX6_undo_49 : decode cX6_undo 49 = .ok (.sipush 270, 3) := by decide +kernel
theorem dX6_undo_52 : decode cX6_undo 52 = .ok (.aload_n 0, 1) := by decide +kernel
theorem dX6_undo_53 : decode cX6_undo 53 = .ok (.getfield 39, 3) := by decide +kernel
theorem dX6_undo_56 : decode cX6_undo 56 = .ok (.imul, 1) := by decide +kernel
theorem dX6_undo_57 : decode cX6_undo 57 = .ok (.iload_n 1, 1) := by decide +kernel
theorem dX6_undo_58 : decode cX6_undo 58 = .ok (.iadd, 1) := by decide +kernel
theorem dX6_undo_59 : decode cX6_undo 59 = .ok (.iaload, 1) := by decide +kernel
theorem dX6_undo_60 : decode cX6_undo 60 = .ok (.iastore, 1) := by decide +kernel
theorem dX6_undo_61 : decode cX6_undo 61 = .ok (.iinc 1 1, 3) := by decide +kernel
theorem dX6_undo_64 : decode cX6_undo 64 = .ok (.goto (-31), 3) := by decide +kernel
theorem dX6_undo_67 : decode cX6_undo 67 = .ok (.aload_n 0, 1) := by decide +kernel
theorem dX6_undo_68 : decode cX6_undo 68 = .ok (.getfield 39, 3) := by decide +kernel
theorem dX6_undo_71 : decode cX6_undo 71 = .ok (.ireturn, 1) := by decide +kernel
theorem dX6_keeps_0 : decode cX6_keeps 0 = .ok (.iconst 0, 1) := by decide +kernel
theorem dX6_keeps_1 : decode cX6_keeps 1 = .ok (.istore_n 1, 1) := by decide +kernel
theorem dX6_keeps_2 : decode cX6_keeps 2 = .ok (.iload_n 1, 1) := by decide +kernel
theorem dX6_keeps_3 : decode cX6_keeps 3 = .ok (.sipush 270, 3) := by decide +kernel
theorem dX6_keeps_6 : decode cX6_keeps 6 = .ok (.if_icmp .ge 21, 3) := by decide +kernel
theorem dX6_keeps_9 : decode cX6_keeps 9 = .ok (.aload_n 0, 1) := by decide +kernel
theorem dX6_keeps_10 : decode cX6_keeps 10 = .ok (.getfield 16, 3) := by decide +kernel
theorem dX6_keeps_13 : decode cX6_keeps 13 = .ok (.iload_n 1, 1) := by decide +kernel
theorem dX6_keeps_14 : decode cX6_keeps 14 = .ok (.aload_n 0, 1) := by decide +kernel
theorem dX6_keeps_15 : decode cX6_keeps 15 = .ok (.getfield 7, 3) := by decide +kernel
theorem dX6_keeps_18 : decode cX6_keeps 18 = .ok (.iload_n 1, 1) := by decide +kernel
theorem dX6_keeps_19 : decode cX6_keeps 19 = .ok (.iaload, 1) := by decide +kernel
theorem dX6_keeps_20 : decode cX6_keeps 20 = .ok (.iastore, 1) := by decide +kernel
theorem dX6_keeps_21 : decode cX6_keeps 21 = .ok (.iinc 1 1, 3) := by decide +kernel
theorem dX6_keeps_24 : decode cX6_keeps 24 = .ok (.goto (-22), 3) := by decide +kernel
theorem dX6_keeps_27 : decode cX6_keeps 27 = .ok (.return_, 1) := by decide +kernel
theorem dX6_returns_0 : decode cX6_returns 0 = .ok (.iconst 0, 1) := by decide +kernel
theorem dX6_returns_1 : decode cX6_returns 1 = .ok (.istore_n 1, 1) := by decide +kernel
theorem dX6_returns_2 : decode cX6_returns 2 = .ok (.iload_n 1, 1) := by decide +kernel
theorem dX6_returns_3 : decode cX6_returns 3 = .ok (.sipush 270, 3) := by decide +kernel
theorem dX6_returns_6 : decode cX6_returns 6 = .ok (.if_icmp .ge 21, 3) := by decide +kernel
theorem dX6_returns_9 : decode cX6_returns 9 = .ok (.aload_n 0, 1) := by decide +kernel
theorem dX6_returns_10 : decode cX6_returns 10 = .ok (.getfield 7, 3) := by decide +kernel
theorem dX6_returns_13 : decode cX6_returns 13 = .ok (.iload_n 1, 1) := by decide +kernel
theorem dX6_returns_14 : decode cX6_returns 14 = .ok (.aload_n 0, 1) := by decide +kernel
theorem dX6_returns_15 : decode cX6_returns 15 = .ok (.getfield 16, 3) := by decide +kernel
theorem dX6_returns_18 : decode cX6_returns 18 = .ok (.iload_n 1, 1) := by decide +kernel
theorem dX6_returns_19 : decode cX6_returns 19 = .ok (.iaload, 1) := by decide +kernel
theorem dX6_returns_20 : decode cX6_returns 20 = .ok (.iastore, 1) := by decide +kernel
theorem dX6_returns_21 : decode cX6_returns 21 = .ok (.iinc 1 1, 3) := by decide +kernel
theorem dX6_returns_24 : decode cX6_returns 24 = .ok (.goto (-22), 3) := by decide +kernel
theorem dX6_returns_27 : decode cX6_returns 27 = .ok (.return_, 1) := by decide +kernel
theorem dX6_isBerth_0 : decode cX6_isBerth 0 = .ok (.iload_n 1, 1) := by decide +kernel
theorem dX6_isBerth_1 : decode cX6_isBerth 1 = .ok (.iconst 0, 1) := by decide +kernel
theorem dX6_isBerth_2 : decode cX6_isBerth 2 = .ok (.aload_n 0, 1) := by decide +kernel
theorem dX6_isBerth_3 : decode cX6_isBerth 3 = .ok (.getfield 7, 3) := by decide +kernel
theorem dX6_isBerth_6 : decode cX6_isBerth 6 = .ok (.bipush 6, 2) := by decide +kernel
theorem dX6_isBerth_8 : decode cX6_isBerth 8 = .ok (.iaload, 1) := by decide +kernel
theorem dX6_isBerth_9 : decode cX6_isBerth 9 = .ok (.iconst 1, 1) := by decide +kernel
theorem dX6_isBerth_10 : decode cX6_isBerth 10 = .ok (.isub, 1) := by decide +kernel
theorem dX6_isBerth_11 : decode cX6_isBerth 11 = .ok (.invokestatic 46, 3) := by decide +kernel
theorem dX6_isBerth_14 : decode cX6_isBerth 14 = .ok (.ireturn, 1) := by decide +kernel
theorem dX6_isBoat_0 : decode cX6_isBoat 0 = .ok (.iload_n 1, 1) := by decide +kernel
theorem dX6_isBoat_1 : decode cX6_isBoat 1 = .ok (.iconst 0, 1) := by decide +kernel
theorem dX6_isBoat_2 : decode cX6_isBoat 2 = .ok (.aload_n 0, 1) := by decide +kernel
theorem dX6_isBoat_3 : decode cX6_isBoat 3 = .ok (.getfield 7, 3) := by decide +kernel
theorem dX6_isBoat_6 : decode cX6_isBoat 6 = .ok (.bipush 7, 2) := by decide +kernel
theorem dX6_isBoat_8 : decode cX6_isBoat 8 = .ok (.iaload, 1) := by decide +kernel
theorem dX6_isBoat_9 : decode cX6_isBoat 9 = .ok (.iconst 1, 1) := by decide +kernel
theorem dX6_isBoat_10 : decode cX6_isBoat 10 = .ok (.isub, 1) := by decide +kernel
theorem dX6_isBoat_11 : decode cX6_isBoat 11 = .ok (.invokestatic 46, 3) := by decide +kernel
theorem dX6_isBoat_14 : decode cX6_isBoat 14 = .ok (.ireturn, 1) := by decide +kernel
theorem dX6_ofBerth_0 : decode cX6_ofBerth 0 = .ok (.aload_n 0, 1) := by decide +kernel
theorem dX6_ofBerth_1 : decode cX6_ofBerth 1 = .ok (.getfield 7, 3) := by decide +kernel
theorem dX6_ofBerth_4 : decode cX6_ofBerth 4 = .ok (.bipush 26, 2) := by decide +kernel
theorem dX6_ofBerth_6 : decode cX6_ofBerth 6 = .ok (.iconst 4, 1) := by decide +kernel
theorem dX6_ofBerth_7 : decode cX6_ofBerth 7 = .ok (.iload_n 1, 1) := by decide +kernel
theorem dX6_ofBerth_8 : decode cX6_ofBerth 8 = .ok (.imul, 1) := by decide +kernel
theorem dX6_ofBerth_9 : decode cX6_ofBerth 9 = .ok (.iadd, 1) := by decide +kernel
theorem dX6_ofBerth_10 : decode cX6_ofBerth 10 = .ok (.iload_n 2, 1) := by decide +kernel
theorem dX6_ofBerth_11 : decode cX6_ofBerth 11 = .ok (.iadd, 1) := by decide +kernel
theorem dX6_ofBerth_12 : decode cX6_ofBerth 12 = .ok (.iaload, 1) := by decide +kernel
theorem dX6_ofBerth_13 : decode cX6_ofBerth 13 = .ok (.ireturn, 1) := by decide +kernel
theorem dX6_ofBoat_0 : decode cX6_ofBoat 0 = .ok (.aload_n 0, 1) := by decide +kernel
theorem dX6_ofBoat_1 : decode cX6_ofBoat 1 = .ok (.getfield 7, 3) := by decide +kernel
theorem dX6_ofBoat_4 : decode cX6_ofBoat 4 = .ok (.bipush 90, 2) := by decide +kernel
theorem dX6_ofBoat_6 : decode cX6_ofBoat 6 = .ok (.bipush 9, 2) := by decide +kernel
theorem dX6_ofBoat_8 : decode cX6_ofBoat 8 = .ok (.iload_n 1, 1) := by decide +kernel
theorem dX6_ofBoat_9 : decode cX6_ofBoat 9 = .ok (.imul, 1) := by decide +kernel
theorem dX6_ofBoat_10 : decode cX6_ofBoat 10 = .ok (.iadd, 1) := by decide +kernel
theorem dX6_ofBoat_11 : decode cX6_ofBoat 11 = .ok (.iload_n 2, 1) := by decide +kernel
theorem dX6_ofBoat_12 : decode cX6_ofBoat 12 = .ok (.iadd, 1) := by decide +kernel
theorem dX6_ofBoat_13 : decode cX6_ofBoat 13 = .ok (.iaload, 1) := by decide +kernel
theorem dX6_ofBoat_14 : decode cX6_ofBoat 14 = .ok (.ireturn, 1) := by decide +kernel
theorem dX6_sets_0 : decode cX6_sets 0 = .ok (.aload_n 0, 1) := by decide +kernel
theorem dX6_sets_1 : decode cX6_sets 1 = .ok (.getfield 7, 3) := by decide +kernel
theorem dX6_sets_4 : decode cX6_sets 4 = .ok (.bipush 90, 2) := by decide +kernel
theorem dX6_sets_6 : decode cX6_sets 6 = .ok (.bipush 9, 2) := by decide +kernel
theorem dX6_sets_8 : decode cX6_sets 8 = .ok (.iload_n 1, 1) := by decide +kernel
theorem dX6_sets_9 : decode cX6_sets 9 = .ok (.imul, 1) := by decide +kernel
theorem dX6_sets_10 : decode cX6_sets 10 = .ok (.iadd, 1) := by decide +kernel
theorem dX6_sets_11 : decode cX6_sets 11 = .ok (.iload_n 2, 1) := by decide +kernel
theorem dX6_sets_12 : decode cX6_sets 12 = .ok (.iadd, 1) := by decide +kernel
theorem dX6_sets_13 : decode cX6_sets 13 = .ok (.iload_n 3, 1) := by decide +kernel
theorem dX6_sets_14 : decode cX6_sets 14 = .ok (.iastore, 1) := by decide +kernel
theorem dX6_sets_15 : decode cX6_sets 15 = .ok (.return_, 1) := by decide +kernel
theorem dX6_lowOn_0 : decode cX6_lowOn 0 = .ok (.aload_n 0, 1) := by decide +kernel
theorem dX6_lowOn_1 : decode cX6_lowOn 1 = .ok (.getfield 7, 3) := by decide +kernel
theorem dX6_lowOn_4 : decode cX6_lowOn 4 = .ok (.bipush 12, 2) := by decide +kernel
theorem dX6_lowOn_6 : decode cX6_lowOn 6 = .ok (.iload_n 1, 1) := by decide +kernel
theorem dX6_lowOn_7 : decode cX6_lowOn 7 = .ok (.aload_n 0, 1) := by decide +kernel
theorem dX6_lowOn_8 : decode cX6_lowOn 8 = .ok (.getfield 7, 3) := by decide +kernel
theorem dX6_lowOn_11 : decode cX6_lowOn 11 = .ok (.bipush 8, 2) := by decide +kernel
theorem dX6_lowOn_13 : decode cX6_lowOn 13 = .ok (.iaload, 1) := by decide +kernel
theorem dX6_lowOn_14 : decode cX6_lowOn 14 = .ok (.irem, 1) := by decide +kernel
theorem dX6_lowOn_15 : decode cX6_lowOn 15 = .ok (.iadd, 1) := by decide +kernel
theorem dX6_lowOn_16 : decode cX6_lowOn 16 = .ok (.iaload, 1) := by decide +kernel
theorem dX6_lowOn_17 : decode cX6_lowOn 17 = .ok (.ireturn, 1) := by decide +kernel
theorem dX6_lowest_0 : decode cX6_lowest 0 = .ok (.aload_n 0, 1) := by decide +kernel
theorem dX6_lowest_1 : decode cX6_lowest 1 = .ok (.getfield 7, 3) := by decide +kernel
theorem dX6_lowest_4 : decode cX6_lowest 4 = .ok (.bipush 12, 2) := by decide +kernel
theorem dX6_lowest_6 : decode cX6_lowest 6 = .ok (.iaload, 1) := by decide +kernel
theorem dX6_lowest_7 : decode cX6_lowest 7 = .ok (.istore_n 1, 1) := by decide +kernel
theorem dX6_lowest_8 : decode cX6_lowest 8 = .ok (.iconst 1, 1) := by decide +kernel
theorem dX6_lowest_9 : decode cX6_lowest 9 = .ok (.istore_n 2, 1) := by decide +kernel
theorem dX6_lowest_10 : decode cX6_lowest 10 = .ok (.iload_n 2, 1) := by decide +kernel
theorem dX6_lowest_11 : decode cX6_lowest 11 = .ok (.aload_n 0, 1) := by decide +kernel
theorem dX6_lowest_12 : decode cX6_lowest 12 = .ok (.getfield 7, 3) := by decide +kernel
theorem dX6_lowest_15 : decode cX6_lowest 15 = .ok (.bipush 8, 2) := by decide +kernel
theorem dX6_lowest_17 : decode cX6_lowest 17 = .ok (.iaload, 1) := by decide +kernel
theorem dX6_lowest_18 : decode cX6_lowest 18 = .ok (.if_icmp .ge 36, 3) := by decide +kernel
theorem dX6_lowest_21 : decode cX6_lowest 21 = .ok (.aload_n 0, 1) := by decide +kernel
theorem dX6_lowest_22 : decode cX6_lowest 22 = .ok (.getfield 7, 3) := by decide +kernel
theorem dX6_lowest_25 : decode cX6_lowest 25 = .ok (.bipush 12, 2) := by decide +kernel
theorem dX6_lowest_27 : decode cX6_lowest 27 = .ok (.iload_n 2, 1) := by decide +kernel
theorem dX6_lowest_28 : decode cX6_lowest 28 = .ok (.iadd, 1) := by decide +kernel
theorem dX6_lowest_29 : decode cX6_lowest 29 = .ok (.iaload, 1) := by decide +kernel
theorem dX6_lowest_30 : decode cX6_lowest 30 = .ok (.iload_n 1, 1) := by decide +kernel
theorem dX6_lowest_31 : decode cX6_lowest 31 = .ok (.if_icmp .ge 15, 3) := by decide +kernel
theorem dX6_lowest_34 : decode cX6_lowest 34 = .ok (.aload_n 0, 1) := by decide +kernel
theorem dX6_lowest_35 : decode cX6_lowest 35 = .ok (.getfield 7, 3) := by decide +kernel
theorem dX6_lowest_38 : decode cX6_lowest 38 = .ok (.bipush 12, 2) := by decide +kernel
theorem dX6_lowest_40 : decode cX6_lowest 40 = .ok (.iload_n 2, 1) := by decide +kernel
theorem dX6_lowest_41 : decode cX6_lowest 41 = .ok (.iadd, 1) := by decide +kernel
theorem dX6_lowest_42 : decode cX6_lowest 42 = .ok (.iaload, 1) := by decide +kernel
theorem dX6_lowest_43 : decode cX6_lowest 43 = .ok (.goto 4, 3) := by decide +kernel
theorem dX6_lowest_46 : decode cX6_lowest 46 = .ok (.iload_n 1, 1) := by decide +kernel
theorem dX6_lowest_47 : decode cX6_lowest 47 = .ok (.istore_n 1, 1) := by decide +kernel
theorem dX6_lowest_48 : decode cX6_lowest 48 = .ok (.iinc 2 1, 3) := by decide +kernel
theorem dX6_lowest_51 : decode cX6_lowest 51 = .ok (.goto (-41), 3) := by decide +kernel
theorem dX6_lowest_54 : decode cX6_lowest 54 = .ok (.iload_n 1, 1) := by decide +kernel
theorem dX6_lowest_55 : decode cX6_lowest 55 = .ok (.ireturn, 1) := by decide +kernel
theorem dX6_isLongEnough_0 : decode cX6_isLongEnough 0 = .ok (.aload_n 0, 1) := by decide +kernel
theorem dX6_isLongEnough_1 : decode cX6_isLongEnough 1 = .ok (.iload_n 1, 1) := by decide +kernel
theorem dX6_isLongEnough_2 : decode cX6_isLongEnough 2 = .ok (.iconst 0, 1) := by decide +kernel
theorem dX6_isLongEnough_3 : decode cX6_isLongEnough 3 = .ok (.invokevirtual 50, 3) := by decide +kernel
theorem dX6_isLongEnough_6 : decode cX6_isLongEnough 6 = .ok (.aload_n 0, 1) := by decide +kernel
theorem dX6_isLongEnough_7 : decode cX6_isLongEnough 7 = .ok (.iload_n 2, 1) := by decide +kernel
theorem dX6_isLongEnough_8 : decode cX6_isLongEnough 8 = .ok (.iconst 1, 1) := by decide +kernel
theorem dX6_isLongEnough_9 : decode cX6_isLongEnough 9 = .ok (.invokevirtual 54, 3) := by decide +kernel
theorem dX6_isLongEnough_12 : decode cX6_isLongEnough 12 = .ok (.if_icmp .gt 7, 3) := by decide +kernel
theorem dX6_isLongEnough_15 : decode cX6_isLongEnough 15 = .ok (.iconst 1, 1) := by decide +kernel
theorem dX6_isLongEnough_16 : decode cX6_isLongEnough 16 = .ok (.goto 4, 3) := by decide +kernel
theorem dX6_isLongEnough_19 : decode cX6_isLongEnough 19 = .ok (.iconst 0, 1) := by decide +kernel
theorem dX6_isLongEnough_20 : decode cX6_isLongEnough 20 = .ok (.ireturn, 1) := by decide +kernel
theorem dX6_missing_0 : decode cX6_missing 0 = .ok (.aload_n 0, 1) := by decide +kernel
theorem dX6_missing_1 : decode cX6_missing 1 = .ok (.iload_n 1, 1) := by decide +kernel
theorem dX6_missing_2 : decode cX6_missing 2 = .ok (.iconst 1, 1) := by decide +kernel
theorem dX6_missing_3 : decode cX6_missing 3 = .ok (.invokevirtual 50, 3) := by decide +kernel
theorem dX6_missing_6 : decode cX6_missing 6 = .ok (.aload_n 0, 1) := by decide +kernel
theorem dX6_missing_7 : decode cX6_missing 7 = .ok (.getfield 7, 3) := by decide +kernel
theorem dX6_missing_10 : decode cX6_missing 10 = .ok (.iconst 0, 1) := by decide +kernel
theorem dX6_missing_11 : decode cX6_missing 11 = .ok (.iaload, 1) := by decide +kernel
theorem dX6_missing_12 : decode cX6_missing 12 = .ok (.iadd, 1) := by decide +kernel
theorem dX6_missing_13 : decode cX6_missing 13 = .ok (.aload_n 0, 1) := by decide +kernel
theorem dX6_missing_14 : decode cX6_missing 14 = .ok (.iload_n 2, 1) := by decide +kernel
theorem dX6_missing_15 : decode cX6_missing 15 = .ok (.iconst 0, 1) := by decide +kernel
theorem dX6_missing_16 : decode cX6_missing 16 = .ok (.invokevirtual 54, 3) := by decide +kernel
theorem dX6_missing_19 : decode cX6_missing 19 = .ok (.isub, 1) := by decide +kernel
theorem dX6_missing_20 : decode cX6_missing 20 = .ok (.aload_n 0, 1) := by decide +kernel
theorem dX6_missing_21 : decode cX6_missing 21 = .ok (.invokevirtual 57, 3) := by decide +kernel
theorem dX6_missing_24 : decode cX6_missing 24 = .ok (.isub, 1) := by decide +kernel
theorem dX6_missing_25 : decode cX6_missing 25 = .ok (.istore_n 3, 1) := by decide +kernel
theorem dX6_missing_26 : decode cX6_missing 26 = .ok (.iload_n 3, 1) := by decide +kernel
theorem dX6_missing_27 : decode cX6_missing 27 = .ok (.ifCond .le 7, 3) := by decide +kernel
theorem dX6_missing_30 : decode cX6_missing 30 = .ok (.iload_n 3, 1) := by decide +kernel
theorem dX6_missing_31 : decode cX6_missing 31 = .ok (.goto 4, 3) := by decide +kernel
theorem dX6_missing_34 : decode cX6_missing 34 = .ok (.iconst 0, 1) := by decide +kernel
theorem dX6_missing_35 : decode cX6_missing 35 = .ok (.ireturn, 1) := by decide +kernel
theorem dX6_isFit_0 : decode cX6_isFit 0 = .ok (.aload_n 0, 1) := by decide +kernel
theorem dX6_isFit_1 : decode cX6_isFit 1 = .ok (.iload_n 1, 1) := by decide +kernel
theorem dX6_isFit_2 : decode cX6_isFit 2 = .ok (.iload_n 2, 1) := by decide +kernel
theorem dX6_isFit_3 : decode cX6_isFit 3 = .ok (.invokevirtual 61, 3) := by decide +kernel
theorem dX6_isFit_6 : decode cX6_isFit 6 = .ok (.ifCond .eq 16, 3) := by decide +kernel
theorem dX6_isFit_9 : decode cX6_isFit 9 = .ok (.aload_n 0, 1) := by decide +kernel
theorem dX6_isFit_10 : decode cX6_isFit 10 = .ok (.iload_n 1, 1) := by decide +kernel
theorem dX6_isFit_11 : decode cX6_isFit 11 = .ok (.iload_n 2, 1) := by decide +kernel
theorem dX6_isFit_12 : decode cX6_isFit 12 = .ok (.invokevirtual 65, 3) := by decide +kernel
theorem dX6_isFit_15 : decode cX6_isFit 15 = .ok (.ifCond .ne 7, 3) := by decide +kernel
theorem dX6_isFit_18 : decode cX6_isFit 18 = .ok (.iconst 1, 1) := by decide +kernel
theorem dX6_isFit_19 : decode cX6_isFit 19 = .ok (.goto 4, 3) := by decide +kernel
theorem dX6_isFit_22 : decode cX6_isFit 22 = .ok (.iconst 0, 1) := by decide +kernel
theorem dX6_isFit_23 : decode cX6_isFit 23 = .ok (.ireturn, 1) := by decide +kernel
theorem dX6_boatIn_0 : decode cX6_boatIn 0 = .ok (.iconst 0, 1) := by decide +kernel
theorem dX6_boatIn_1 : decode cX6_boatIn 1 = .ok (.istore_n 2, 1) := by decide +kernel
theorem dX6_boatIn_2 : decode cX6_boatIn 2 = .ok (.iload_n 2, 1) := by decide +kernel
theorem dX6_boatIn_3 : decode cX6_boatIn 3 = .ok (.aload_n 0, 1) := by decide +kernel
theorem dX6_boatIn_4 : decode cX6_boatIn 4 = .ok (.getfield 7, 3) := by decide +kernel
theorem dX6_boatIn_7 : decode cX6_boatIn 7 = .ok (.bipush 7, 2) := by decide +kernel
theorem dX6_boatIn_9 : decode cX6_boatIn 9 = .ok (.iaload, 1) := by decide +kernel
theorem dX6_boatIn_10 : decode cX6_boatIn 10 = .ok (.if_icmp .ge 31, 3) := by decide +kernel
theorem dX6_boatIn_13 : decode cX6_boatIn 13 = .ok (.aload_n 0, 1) := by decide +kernel
theorem dX6_boatIn_14 : decode cX6_boatIn 14 = .ok (.iload_n 2, 1) := by decide +kernel
theorem dX6_boatIn_15 : decode cX6_boatIn 15 = .ok (.iconst 3, 1) := by decide +kernel
theorem dX6_boatIn_16 : decode cX6_boatIn 16 = .ok (.invokevirtual 50, 3) := by decide +kernel
theorem dX6_boatIn_19 : decode cX6_boatIn 19 = .ok (.iconst 1, 1) := by decide +kernel
theorem dX6_boatIn_20 : decode cX6_boatIn 20 = .ok (.if_icmp .ne 15, 3) := by decide +kernel
theorem dX6_boatIn_23 : decode cX6_boatIn 23 = .ok (.aload_n 0, 1) := by decide +kernel
theorem dX6_boatIn_24 : decode cX6_boatIn 24 = .ok (.iload_n 2, 1) := by decide +kernel
theorem dX6_boatIn_25 : decode cX6_boatIn 25 = .ok (.iconst 4, 1) := by decide +kernel
theorem dX6_boatIn_26 : decode cX6_boatIn 26 = .ok (.invokevirtual 50, 3) := by decide +kernel
theorem dX6_boatIn_29 : decode cX6_boatIn 29 = .ok (.iload_n 1, 1) := by decide +kernel
theorem dX6_boatIn_30 : decode cX6_boatIn 30 = .ok (.if_icmp .ne 5, 3) := by decide +kernel
theorem dX6_boatIn_33 : decode cX6_boatIn 33 = .ok (.iload_n 2, 1) := by decide +kernel
theorem dX6_boatIn_34 : decode cX6_boatIn 34 = .ok (.ireturn, 1) := by decide +kernel
theorem dX6_boatIn_35 : decode cX6_boatIn 35 = .ok (.iinc 2 1, 3) := by decide +kernel
theorem dX6_boatIn_38 : decode cX6_boatIn 38 = .ok (.goto (-36), 3) := by decide +kernel
theorem dX6_boatIn_41 : decode cX6_boatIn 41 = .ok (.iconst (-1), 1) := by decide +kernel
theorem dX6_boatIn_42 : decode cX6_boatIn 42 = .ok (.ireturn, 1) := by decide +kernel
theorem dX6_isOpen_0 : decode cX6_isOpen 0 = .ok (.aload_n 0, 1) := by decide +kernel
theorem dX6_isOpen_1 : decode cX6_isOpen 1 = .ok (.iload_n 1, 1) := by decide +kernel
theorem dX6_isOpen_2 : decode cX6_isOpen 2 = .ok (.invokevirtual 68, 3) := by decide +kernel
theorem dX6_isOpen_5 : decode cX6_isOpen 5 = .ok (.iconst (-1), 1) := by decide +kernel
theorem dX6_isOpen_6 : decode cX6_isOpen 6 = .ok (.if_icmp .ne 27, 3) := by decide +kernel
theorem dX6_isOpen_9 : decode cX6_isOpen 9 = .ok (.aload_n 0, 1) := by decide +kernel
theorem dX6_isOpen_10 : decode cX6_isOpen 10 = .ok (.iload_n 1, 1) := by decide +kernel
theorem dX6_isOpen_11 : decode cX6_isOpen 11 = .ok (.iconst 2, 1) := by decide +kernel
theorem dX6_isOpen_12 : decode cX6_isOpen 12 = .ok (.invokevirtual 54, 3) := by decide +kernel
theorem dX6_isOpen_15 : decode cX6_isOpen 15 = .ok (.iconst 1, 1) := by decide +kernel
theorem dX6_isOpen_16 : decode cX6_isOpen 16 = .ok (.if_icmp .ne 13, 3) := by decide +kernel
theorem dX6_isOpen_19 : decode cX6_isOpen 19 = .ok (.aload_n 0, 1) := by decide +kernel
theorem dX6_isOpen_20 : decode cX6_isOpen 20 = .ok (.getfield 7, 3) := by decide +kernel
theorem dX6_isOpen_23 : decode cX6_isOpen 23 = .ok (.iconst 5, 1) := by decide +kernel
theorem dX6_isOpen_24 : decode cX6_isOpen 24 = .ok (.iaload, 1) := by decide +kernel
theorem dX6_isOpen_25 : decode cX6_isOpen 25 = .ok (.iconst 1, 1) := by decide +kernel
theorem dX6_isOpen_26 : decode cX6_isOpen 26 = .ok (.if_icmp .eq 7, 3) := by decide +kernel
theorem dX6_isOpen_29 : decode cX6_isOpen 29 = .ok (.iconst 1, 1) := by decide +kernel
theorem dX6_isOpen_30 : decode cX6_isOpen 30 = .ok (.goto 4, 3) := by decide +kernel
theorem dX6_isOpen_33 : decode cX6_isOpen 33 = .ok (.iconst 0, 1) := by decide +kernel
theorem dX6_isOpen_34 : decode cX6_isOpen 34 = .ok (.ireturn, 1) := by decide +kernel
theorem dX6_isAground_0 : decode cX6_isAground 0 = .ok (.aload_n 0, 1) := by decide +kernel
theorem dX6_isAground_1 : decode cX6_isAground 1 = .ok (.iload_n 1, 1) := by decide +kernel
theorem dX6_isAground_2 : decode cX6_isAground 2 = .ok (.iconst 3, 1) := by decide +kernel
theorem dX6_isAground_3 : decode cX6_isAground 3 = .ok (.invokevirtual 50, 3) := by decide +kernel
theorem dX6_isAground_6 : decode cX6_isAground 6 = .ok (.iconst 1, 1) := by decide +kernel
theorem dX6_isAground_7 : decode cX6_isAground 7 = .ok (.if_icmp .ne 33, 3) := by decide +kernel
theorem dX6_isAground_10 : decode cX6_isAground 10 = .ok (.aload_n 0, 1) := by decide +kernel
theorem dX6_isAground_11 : decode cX6_isAground 11 = .ok (.iload_n 1, 1) := by decide +kernel
theorem dX6_isAground_12 : decode cX6_isAground 12 = .ok (.iconst 1, 1) := by decide +kernel
theorem dX6_isAground_13 : decode cX6_isAground 13 = .ok (.invokevirtual 50, 3) := by decide +kernel
theorem dX6_isAground_16 : decode cX6_isAground 16 = .ok (.aload_n 0, 1) := by decide +kernel
theorem dX6_isAground_17 : decode cX6_isAground 17 = .ok (.aload_n 0, 1) := by decide +kernel
theorem dX6_isAground_18 : decode cX6_isAground 18 = .ok (.iload_n 1, 1) := by decide +kernel
theorem dX6_isAground_19 : decode cX6_isAground 19 = .ok (.iconst 4, 1) := by decide +kernel
theorem dX6_isAground_20 : decode cX6_isAground 20 = .ok (.invokevirtual 50, 3) := by decide +kernel
theorem dX6_isAground_23 : decode cX6_isAground 23 = .ok (.iconst 0, 1) := by decide +kernel
theorem dX6_isAground_24 : decode cX6_isAground 24 = .ok (.invokevirtual 54, 3) := by decide +kernel
theorem dX6_isAground_27 : decode cX6_isAground 27 = .ok (.aload_n 0, 1) := by decide +kernel
theorem dX6_isAground_28 : decode cX6_isAground 28 = .ok (.iload_n 2, 1) := by decide +kernel
theorem dX6_isAground_29 : decode cX6_isAground 29 = .ok (.invokevirtual 72, 3) := by decide +kernel
theorem dX6_isAground_32 : decode cX6_isAground 32 = .ok (.iadd, 1) := by decide +kernel
theorem dX6_isAground_33 : decode cX6_isAground 33 = .ok (.if_icmp .le 7, 3) := by decide +kernel
theorem dX6_isAground_36 : decode cX6_isAground 36 = .ok (.iconst 1, 1) := by decide +kernel
theorem dX6_isAground_37 : decode cX6_isAground 37 = .ok (.goto 4, 3) := by decide +kernel
theorem dX6_isAground_40 : decode cX6_isAground 40 = .ok (.iconst 0, 1) := by decide +kernel
theorem dX6_isAground_41 : decode cX6_isAground 41 = .ok (.ireturn, 1) := by decide +kernel
theorem dX6_countIn_0 : decode cX6_countIn 0 = .ok (.iconst 0, 1) := by decide +kernel
theorem dX6_countIn_1 : decode cX6_countIn 1 = .ok (.istore_n 2, 1) := by decide +kernel
theorem dX6_countIn_2 : decode cX6_countIn 2 = .ok (.iconst 0, 1) := by decide +kernel
theorem dX6_countIn_3 : decode cX6_countIn 3 = .ok (.istore_n 3, 1) := by decide +kernel
theorem dX6_countIn_4 : decode cX6_countIn 4 = .ok (.iload_n 3, 1) := by decide +kernel
theorem dX6_countIn_5 : decode cX6_countIn 5 = .ok (.aload_n 0, 1) := by decide +kernel
theorem dX6_countIn_6 : decode cX6_countIn 6 = .ok (.getfield 7, 3) := by decide +kernel
theorem dX6_countIn_9 : decode cX6_countIn 9 = .ok (.bipush 7, 2) := by decide +kernel
theorem dX6_countIn_11 : decode cX6_countIn 11 = .ok (.iaload, 1) := by decide +kernel
theorem dX6_countIn_12 : decode cX6_countIn 12 = .ok (.if_icmp .ge 27, 3) := by decide +kernel
theorem dX6_countIn_15 : decode cX6_countIn 15 = .ok (.iload_n 2, 1) := by decide +kernel
theorem dX6_countIn_16 : decode cX6_countIn 16 = .ok (.aload_n 0, 1) := by decide +kernel
theorem dX6_countIn_17 : decode cX6_countIn 17 = .ok (.iload_n 3, 1) := by decide +kernel
theorem dX6_countIn_18 : decode cX6_countIn 18 = .ok (.iconst 3, 1) := by decide +kernel
theorem dX6_countIn_19 : decode cX6_countIn 19 = .ok (.invokevirtual 50, 3) := by decide +kernel
theorem dX6_countIn_22 : decode cX6_countIn 22 = .ok (.iload_n 1, 1) := by decide +kernel
theorem dX6_countIn_23 : decode cX6_countIn 23 = .ok (.if_icmp .ne 7, 3) := by decide +kernel
theorem dX6_countIn_26 : decode cX6_countIn 26 = .ok (.iconst 1, 1) := by decide +kernel
theorem dX6_countIn_27 : decode cX6_countIn 27 = .ok (.goto 4, 3) := by decide +kernel
theorem dX6_countIn_30 : decode cX6_countIn 30 = .ok (.iconst 0, 1) := by decide +kernel
theorem dX6_countIn_31 : decode cX6_countIn 31 = .ok (.iadd, 1) := by decide +kernel
theorem dX6_countIn_32 : decode cX6_countIn 32 = .ok (.istore_n 2, 1) := by decide +kernel
theorem dX6_countIn_33 : decode cX6_countIn 33 = .ok (.iinc 3 1, 3) := by decide +kernel
theorem dX6_countIn_36 : decode cX6_countIn 36 = .ok (.goto (-32), 3) := by decide +kernel
theorem dX6_countIn_39 : decode cX6_countIn 39 = .ok (.iload_n 2, 1) := by decide +kernel
theorem dX6_countIn_40 : decode cX6_countIn 40 = .ok (.ireturn, 1) := by decide +kernel
theorem dX6_puts_0 : decode cX6_puts 0 = .ok (.aload_n 0, 1) := by decide +kernel
theorem dX6_puts_1 : decode cX6_puts 1 = .ok (.iload_n 1, 1) := by decide +kernel
theorem dX6_puts_2 : decode cX6_puts 2 = .ok (.iconst 3, 1) := by decide +kernel
theorem dX6_puts_3 : decode cX6_puts 3 = .ok (.iload_n 2, 1) := by decide +kernel
theorem dX6_puts_4 : decode cX6_puts 4 = .ok (.invokevirtual 75, 3) := by decide +kernel
theorem dX6_puts_7 : decode cX6_puts 7 = .ok (.aload_n 0, 1) := by decide +kernel
theorem dX6_puts_8 : decode cX6_puts 8 = .ok (.iload_n 1, 1) := by decide +kernel
theorem dX6_puts_9 : decode cX6_puts 9 = .ok (.iconst 4, 1) := by decide +kernel
theorem dX6_puts_10 : decode cX6_puts 10 = .ok (.iload_n 3, 1) := by decide +kernel
theorem dX6_puts_11 : decode cX6_puts 11 = .ok (.invokevirtual 75, 3) := by decide +kernel
theorem dX6_puts_14 : decode cX6_puts 14 = .ok (.aload_n 0, 1) := by decide +kernel
theorem dX6_puts_15 : decode cX6_puts 15 = .ok (.iload_n 1, 1) := by decide +kernel
theorem dX6_puts_16 : decode cX6_puts 16 = .ok (.iconst 5, 1) := by decide +kernel
theorem dX6_puts_17 : decode cX6_puts 17 = .ok (.iconst 0, 1) := by decide +kernel
theorem dX6_puts_18 : decode cX6_puts 18 = .ok (.invokevirtual 75, 3) := by decide +kernel
theorem dX6_puts_21 : decode cX6_puts 21 = .ok (.return_, 1) := by decide +kernel
theorem dX6_waits_0 : decode cX6_waits 0 = .ok (.aload_n 0, 1) := by decide +kernel
theorem dX6_waits_1 : decode cX6_waits 1 = .ok (.iload_n 1, 1) := by decide +kernel
theorem dX6_waits_2 : decode cX6_waits 2 = .ok (.iconst 2, 1) := by decide +kernel
theorem dX6_waits_3 : decode cX6_waits 3 = .ok (.iconst (-1), 1) := by decide +kernel
theorem dX6_waits_4 : decode cX6_waits 4 = .ok (.invokevirtual 79, 3) := by decide +kernel
theorem dX6_waits_7 : decode cX6_waits 7 = .ok (.aload_n 0, 1) := by decide +kernel
theorem dX6_waits_8 : decode cX6_waits 8 = .ok (.iload_n 1, 1) := by decide +kernel
theorem dX6_waits_9 : decode cX6_waits 9 = .ok (.bipush 6, 2) := by decide +kernel
theorem dX6_waits_11 : decode cX6_waits 11 = .ok (.aload_n 0, 1) := by decide +kernel
theorem dX6_waits_12 : decode cX6_waits 12 = .ok (.getfield 7, 3) := by decide +kernel
theorem dX6_waits_15 : decode cX6_waits 15 = .ok (.bipush 9, 2) := by decide +kernel
theorem dX6_waits_17 : decode cX6_waits 17 = .ok (.iaload, 1) := by decide +kernel
theorem dX6_waits_18 : decode cX6_waits 18 = .ok (.invokevirtual 75, 3) := by decide +kernel
theorem dX6_waits_21 : decode cX6_waits 21 = .ok (.aload_n 0, 1) := by decide +kernel
theorem dX6_waits_22 : decode cX6_waits 22 = .ok (.getfield 7, 3) := by decide +kernel
theorem dX6_waits_25 : decode cX6_waits 25 = .ok (.bipush 9, 2) := by decide +kernel
theorem dX6_waits_27 : decode cX6_waits 27 = .ok (.dup2, 1) := by decide +kernel
theorem dX6_waits_28 : decode cX6_waits 28 = .ok (.iaload, 1) := by decide +kernel
theorem dX6_waits_29 : decode cX6_waits 29 = .ok (.iconst 1, 1) := by decide +kernel
theorem dX6_waits_30 : decode cX6_waits 30 = .ok (.iadd, 1) := by decide +kernel
theorem dX6_waits_31 : decode cX6_waits 31 = .ok (.iastore, 1) := by decide +kernel
theorem dX6_waits_32 : decode cX6_waits 32 = .ok (.return_, 1) := by decide +kernel
theorem dX6_points_0 : decode cX6_points 0 = .ok (.aload_n 0, 1) := by decide +kernel
theorem dX6_points_1 : decode cX6_points 1 = .ok (.iload_n 1, 1) := by decide +kernel
theorem dX6_points_2 : decode cX6_points 2 = .ok (.iconst 5, 1) := by decide +kernel
theorem dX6_points_3 : decode cX6_points 3 = .ok (.invokevirtual 50, 3) := by decide +kernel
theorem dX6_points_6 : decode cX6_points 6 = .ok (.aload_n 0, 1) := by decide +kernel
theorem dX6_points_7 : decode cX6_points 7 = .ok (.iload_n 1, 1) := by decide +kernel
theorem dX6_points_8 : decode cX6_points 8 = .ok (.iconst 2, 1) := by decide +kernel
theorem dX6_points_9 : decode cX6_points 9 = .ok (.invokevirtual 50, 3) := by decide +kernel
theorem dX6_points_12 : decode cX6_points 12 = .ok (.iadd, 1) := by decide +kernel
theorem dX6_points_13 : decode cX6_points 13 = .ok (.ireturn, 1) := by decide +kernel
theorem dX6_ahead_0 : decode cX6_ahead 0 = .ok (.iconst 0, 1) := by decide +kernel
theorem dX6_ahead_1 : decode cX6_ahead 1 = .ok (.istore_n 2, 1) := by decide +kernel
theorem dX6_ahead_2 : decode cX6_ahead 2 = .ok (.iconst 0, 1) := by decide +kernel
theorem dX6_ahead_3 : decode cX6_ahead 3 = .ok (.istore_n 3, 1) := by decide +kernel
theorem dX6_ahead_4 : decode cX6_ahead 4 = .ok (.iload_n 3, 1) := by decide +kernel
theorem dX6_ahead_5 : decode cX6_ahead 5 = .ok (.aload_n 0, 1) := by decide +kernel
theorem dX6_ahead_6 : decode cX6_ahead 6 = .ok (.getfield 7, 3) := by decide +kernel
theorem dX6_ahead_9 : decode cX6_ahead 9 = .ok (.bipush 7, 2) := by decide +kernel
theorem dX6_ahead_11 : decode cX6_ahead 11 = .ok (.iaload, 1) := by decide +kernel
theorem dX6_ahead_12 : decode cX6_ahead 12 = .ok (.if_icmp .ge 87, 3) := by decide +kernel
theorem dX6_ahead_15 : decode cX6_ahead 15 = .ok (.aload_n 0, 1) := by decide +kernel
theorem dX6_ahead_16 : decode cX6_ahead 16 = .ok (.iload_n 3, 1) := by decide +kernel
theorem dX6_ahead_17 : decode cX6_ahead 17 = .ok (.iconst 3, 1) := by decide +kernel
theorem dX6_ahead_18 : decode cX6_ahead 18 = .ok (.invokevirtual 50, 3) := by decide +kernel
theorem dX6_ahead_21 : decode cX6_ahead 21 = .ok (.iconst 2, 1) := by decide +kernel
theorem dX6_ahead_22 : decode cX6_ahead 22 = .ok (.if_icmp .ne 12, 3) := by decide +kernel
theorem dX6_ahead_25 : decode cX6_ahead 25 = .ok (.iload_n 3, 1) := by decide +kernel
theorem dX6_ahead_26 : decode cX6_ahead 26 = .ok (.iload_n 1, 1) := by decide +kernel
theorem dX6_ahead_27 : decode cX6_ahead 27 = .ok (.if_icmp .eq 7, 3) := by decide +kernel
theorem dX6_ahead_30 : decode cX6_ahead 30 = .ok (.iconst 1, 1) := by decide +kernel
theorem dX6_ahead_31 : decode cX6_ahead 31 = .ok (.goto 4, 3) := by decide +kernel
theorem dX6_ahead_34 : decode cX6_ahead 34 = .ok (.iconst 0, 1) := by decide +kernel
theorem dX6_ahead_35 : decode cX6_ahead 35 = .ok (.istore 4, 2) := by decide +kernel
theorem dX6_ahead_37 : decode cX6_ahead 37 = .ok (.iload_n 2, 1) := by decide +kernel
theorem dX6_ahead_38 : decode cX6_ahead 38 = .ok (.iload 4, 2) := by decide +kernel
theorem dX6_ahead_40 : decode cX6_ahead 40 = .ok (.ifCond .eq 50, 3) := by decide +kernel
theorem dX6_ahead_43 : decode cX6_ahead 43 = .ok (.aload_n 0, 1) := by decide +kernel
theorem dX6_ahead_44 : decode cX6_ahead 44 = .ok (.iload_n 3, 1) := by decide +kernel
theorem dX6_ahead_45 : decode cX6_ahead 45 = .ok (.invokevirtual 82, 3) := by decide +kernel
theorem dX6_ahead_48 : decode cX6_ahead 48 = .ok (.aload_n 0, 1) := by decide +kernel
theorem dX6_ahead_49 : decode cX6_ahead 49 = .ok (.iload_n 1, 1) := by decide +kernel
theorem dX6_ahead_50 : decode cX6_ahead 50 = .ok (.invokevirtual 82, 3) := by decide +kernel
theorem dX6_ahead_53 : decode cX6_ahead 53 = .ok (.if_icmp .gt 33, 3) := by decide +kernel
theorem dX6_ahead_56 : decode cX6_ahead 56 = .ok (.aload_n 0, 1) := by decide +kernel
theorem dX6_ahead_57 : decode cX6_ahead 57 = .ok (.iload_n 3, 1) := by decide +kernel
theorem dX6_ahead_58 : decode cX6_ahead 58 = .ok (.invokevirtual 82, 3) := by decide +kernel
theorem dX6_ahead_61 : decode cX6_ahead 61 = .ok (.aload_n 0, 1) := by decide +kernel
theorem dX6_ahead_62 : decode cX6_ahead 62 = .ok (.iload_n 1, 1) := by decide +kernel
theorem dX6_ahead_63 : decode cX6_ahead 63 = .ok (.invokevirtual 82, 3) := by decide +kernel
theorem dX6_ahead_66 : decode cX6_ahead 66 = .ok (.if_icmp .ne 24, 3) := by decide +kernel
theorem dX6_ahead_69 : decode cX6_ahead 69 = .ok (.aload_n 0, 1) := by decide +kernel
theorem dX6_ahead_70 : decode cX6_ahead 70 = .ok (.iload_n 3, 1) := by decide +kernel
theorem dX6_ahead_71 : decode cX6_ahead 71 = .ok (.bipush 6, 2) := by decide +kernel
theorem dX6_ahead_73 : decode cX6_ahead 73 = .ok (.invokevirtual 50, 3) := by decide +kernel
theorem dX6_ahead_76 : decode cX6_ahead 76 = .ok (.aload_n 0, 1) := by decide +kernel
theorem dX6_ahead_77 : decode cX6_ahead 77 = .ok (.iload_n 1, 1) := by decide +kernel
theorem dX6_ahead_78 : decode cX6_ahead 78 = .ok (.bipush 6, 2) := by decide +kernel
theorem dX6_ahead_80 : decode cX6_ahead 80 = .ok (.invokevirtual 50, 3) := by decide +kernel
theorem dX6_ahead_83 : decode cX6_ahead 83 = .ok (.if_icmp .ge 7, 3) := by decide +kernel
theorem dX6_ahead_86 : decode cX6_ahead 86 = .ok (.iconst 1, 1) := by decide +kernel
theorem dX6_ahead_87 : decode cX6_ahead 87 = .ok (.goto 4, 3) := by decide +kernel
theorem dX6_ahead_90 : decode cX6_ahead 90 = .ok (.iconst 0, 1) := by decide +kernel
theorem dX6_ahead_91 : decode cX6_ahead 91 = .ok (.iadd, 1) := by decide +kernel
theorem dX6_ahead_92 : decode cX6_ahead 92 = .ok (.istore_n 2, 1) := by decide +kernel
theorem dX6_ahead_93 : decode cX6_ahead 93 = .ok (.iinc 3 1, 3) := by decide +kernel
theorem dX6_ahead_96 : decode cX6_ahead 96 = .ok (.goto (-92), 3) := by decide +kernel
theorem dX6_ahead_99 : decode cX6_ahead 99 = .ok (.iload_n 2, 1) := by decide +kernel
theorem dX6_ahead_100 : decode cX6_ahead 100 = .ok (.ireturn, 1) := by decide +kernel
theorem dX6_waitingAt_0 : decode cX6_waitingAt 0 = .ok (.iconst 0, 1) := by decide +kernel
theorem dX6_waitingAt_1 : decode cX6_waitingAt 1 = .ok (.istore_n 2, 1) := by decide +kernel
theorem dX6_waitingAt_2 : decode cX6_waitingAt 2 = .ok (.iload_n 2, 1) := by decide +kernel
theorem dX6_waitingAt_3 : decode cX6_waitingAt 3 = .ok (.aload_n 0, 1) := by decide +kernel
theorem dX6_waitingAt_4 : decode cX6_waitingAt 4 = .ok (.getfield 7, 3) := by decide +kernel
theorem dX6_waitingAt_7 : decode cX6_waitingAt 7 = .ok (.bipush 7, 2) := by decide +kernel
theorem dX6_waitingAt_9 : decode cX6_waitingAt 9 = .ok (.iaload, 1) := by decide +kernel
theorem dX6_waitingAt_10 : decode cX6_waitingAt 10 = .ok (.if_icmp .ge 30, 3) := by decide +kernel
theorem dX6_waitingAt_13 : decode cX6_waitingAt 13 = .ok (.aload_n 0, 1) := by decide +kernel
theorem dX6_waitingAt_14 : decode cX6_waitingAt 14 = .ok (.iload_n 2, 1) := by decide +kernel
theorem dX6_waitingAt_15 : decode cX6_waitingAt 15 = .ok (.iconst 3, 1) := by decide +kernel
theorem dX6_waitingAt_16 : decode cX6_waitingAt 16 = .ok (.invokevirtual 50, 3) := by decide +kernel
theorem dX6_waitingAt_19 : decode cX6_waitingAt 19 = .ok (.iconst 2, 1) := by decide +kernel
theorem dX6_waitingAt_20 : decode cX6_waitingAt 20 = .ok (.if_icmp .ne 14, 3) := by decide +kernel
theorem dX6_waitingAt_23 : decode cX6_waitingAt 23 = .ok (.aload_n 0, 1) := by decide +kernel
theorem dX6_waitingAt_24 : decode cX6_waitingAt 24 = .ok (.iload_n 2, 1) := by decide +kernel
theorem dX6_waitingAt_25 : decode cX6_waitingAt 25 = .ok (.invokevirtual 85, 3) := by decide +kernel
theorem dX6_waitingAt_28 : decode cX6_waitingAt 28 = .ok (.iload_n 1, 1) := by decide +kernel
theorem dX6_waitingAt_29 : decode cX6_waitingAt 29 = .ok (.if_icmp .ne 5, 3) := by decide +kernel
theorem dX6_waitingAt_32 : decode cX6_waitingAt 32 = .ok (.iload_n 2, 1) := by decide +kernel
theorem dX6_waitingAt_33 : decode cX6_waitingAt 33 = .ok (.ireturn, 1) := by decide +kernel
theorem dX6_waitingAt_34 : decode cX6_waitingAt 34 = .ok (.iinc 2 1, 3) := by decide +kernel
theorem dX6_waitingAt_37 : decode cX6_waitingAt 37 = .ok (.goto (-35), 3) := by decide +kernel
theorem dX6_waitingAt_40 : decode cX6_waitingAt 40 = .ok (.iconst (-1), 1) := by decide +kernel
theorem dX6_waitingAt_41 : decode cX6_waitingAt 41 = .ok (.ireturn, 1) := by decide +kernel
theorem dX6_begins_0 : decode cX6_begins 0 = .ok (.iconst 0, 1) := by decide +kernel
theorem dX6_begins_1 : decode cX6_begins 1 = .ok (.istore_n 1, 1) := by decide +kernel
theorem dX6_begins_2 : decode cX6_begins 2 = .ok (.iconst 0, 1) := by decide +kernel
theorem dX6_begins_3 : decode cX6_begins 3 = .ok (.istore_n 2, 1) := by decide +kernel
theorem dX6_begins_4 : decode cX6_begins 4 = .ok (.iload_n 2, 1) := by decide +kernel
theorem dX6_begins_5 : decode cX6_begins 5 = .ok (.aload_n 0, 1) := by decide +kernel
theorem dX6_begins_6 : decode cX6_begins 6 = .ok (.getfield 7, 3) := by decide +kernel
theorem dX6_begins_9 : decode cX6_begins 9 = .ok (.bipush 7, 2) := by decide +kernel
theorem dX6_begins_11 : decode cX6_begins 11 = .ok (.iaload, 1) := by decide +kernel
theorem dX6_begins_12 : decode cX6_begins 12 = .ok (.if_icmp .ge 57, 3) := by decide +kernel
theorem dX6_begins_15 : decode cX6_begins 15 = .ok (.aload_n 0, 1) := by decide +kernel
theorem dX6_begins_16 : decode cX6_begins 16 = .ok (.iload_n 2, 1) := by decide +kernel
theorem dX6_begins_17 : decode cX6_begins 17 = .ok (.iconst 3, 1) := by decide +kernel
theorem dX6_begins_18 : decode cX6_begins 18 = .ok (.invokevirtual 50, 3) := by decide +kernel
theorem dX6_begins_21 : decode cX6_begins 21 = .ok (.iconst 1, 1) := by decide +kernel
theorem dX6_begins_22 : decode cX6_begins 22 = .ok (.if_icmp .ne 41, 3) := by decide +kernel
theorem dX6_begins_25 : decode cX6_begins 25 = .ok (.aload_n 0, 1) := by decide +kernel
theorem dX6_begins_26 : decode cX6_begins 26 = .ok (.aload_n 0, 1) := by decide +kernel
theorem dX6_begins_27 : decode cX6_begins 27 = .ok (.iload_n 2, 1) := by decide +kernel
theorem dX6_begins_28 : decode cX6_begins 28 = .ok (.iconst 4, 1) := by decide +kernel
theorem dX6_begins_29 : decode cX6_begins 29 = .ok (.invokevirtual 50, 3) := by decide +kernel
theorem dX6_begins_32 : decode cX6_begins 32 = .ok (.iconst 2, 1) := by decide +kernel
theorem dX6_begins_33 : decode cX6_begins 33 = .ok (.invokevirtual 54, 3) := by decide +kernel
theorem dX6_begins_36 : decode cX6_begins 36 = .ok (.iconst 1, 1) := by decide +kernel
theorem dX6_begins_37 : decode cX6_begins 37 = .ok (.if_icmp .ne 26, 3) := by decide +kernel
theorem dX6_begins_40 : decode cX6_begins 40 = .ok (.aload_n 0, 1) := by decide +kernel
theorem dX6_begins_41 : decode cX6_begins 41 = .ok (.getfield 22, 3) := by decide +kernel
theorem dX6_begins_44 : decode cX6_begins 44 = .ok (.iload_n 1, 1) := by decide +kernel
theorem dX6_begins_45 : decode cX6_begins 45 = .ok (.iload_n 2, 1) := by decide +kernel
theorem dX6_begins_46 : decode cX6_begins 46 = .ok (.iastore, 1) := by decide +kernel
theorem dX6_begins_47 : decode cX6_begins 47 = .ok (.iinc 1 1, 3) := by decide +kernel
theorem dX6_begins_50 : decode cX6_begins 50 = .ok (.aload_n 0, 1) := by decide +kernel
theorem dX6_begins_51 : decode cX6_begins 51 = .ok (.iload_n 2, 1) := by decide +kernel
theorem dX6_begins_52 : decode cX6_begins 52 = .ok (.bipush 7, 2) := by decide +kernel
theorem dX6_begins_54 : decode cX6_begins 54 = .ok (.aload_n 0, 1) := by decide +kernel
theorem dX6_begins_55 : decode cX6_begins 55 = .ok (.iload_n 2, 1) := by decide +kernel
theorem dX6_begins_56 : decode cX6_begins 56 = .ok (.iconst 4, 1) := by decide +kernel
theorem dX6_begins_57 : decode cX6_begins 57 = .ok (.invokevirtual 50, 3) := by decide +kernel
theorem dX6_begins_60 : decode cX6_begins 60 = .ok (.invokevirtual 75, 3) := by decide +kernel
theorem dX6_begins_63 : decode cX6_begins 63 = .ok (.iinc 2 1, 3) := by decide +kernel
theorem dX6_begins_66 : decode cX6_begins 66 = .ok (.goto (-62), 3) := by decide +kernel
theorem dX6_begins_69 : decode cX6_begins 69 = .ok (.iconst 0, 1) := by decide +kernel
theorem dX6_begins_70 : decode cX6_begins 70 = .ok (.istore_n 2, 1) := by decide +kernel
theorem dX6_begins_71 : decode cX6_begins 71 = .ok (.iconst 0, 1) := by decide +kernel
theorem dX6_begins_72 : decode cX6_begins 72 = .ok (.istore_n 3, 1) := by decide +kernel
theorem dX6_begins_73 : decode cX6_begins 73 = .ok (.iload_n 3, 1) := by decide +kernel
theorem dX6_begins_74 : decode cX6_begins 74 = .ok (.aload_n 0, 1) := by decide +kernel
theorem dX6_begins_75 : decode cX6_begins 75 = .ok (.getfield 7, 3) := by decide +kernel
theorem dX6_begins_78 : decode cX6_begins 78 = .ok (.bipush 6, 2) := by decide +kernel
theorem dX6_begins_80 : decode cX6_begins 80 = .ok (.iaload, 1) := by decide +kernel
theorem dX6_begins_81 : decode cX6_begins 81 = .ok (.if_icmp .ge 37, 3) := by decide +kernel
theorem dX6_begins_84 : decode cX6_begins 84 = .ok (.aload_n 0, 1) := by decide +kernel
theorem dX6_begins_85 : decode cX6_begins 85 = .ok (.iload_n 3, 1) := by decide +kernel
theorem dX6_begins_86 : decode cX6_begins 86 = .ok (.iconst 2, 1) := by decide +kernel
theorem dX6_begins_87 : decode cX6_begins 87 = .ok (.invokevirtual 54, 3) := by decide +kernel
theorem dX6_begins_90 : decode cX6_begins 90 = .ok (.ifCond .ne 22, 3) := by decide +kernel
theorem dX6_begins_93 : decode cX6_begins 93 = .ok (.aload_n 0, 1) := by decide +kernel
theorem dX6_begins_94 : decode cX6_begins 94 = .ok (.iload_n 3, 1) := by decide +kernel
theorem dX6_begins_95 : decode cX6_begins 95 = .ok (.invokevirtual 68, 3) := by decide +kernel
theorem dX6_begins_98 : decode cX6_begins 98 = .ok (.iconst (-1), 1) := by decide +kernel
theorem dX6_begins_99 : decode cX6_begins 99 = .ok (.if_icmp .ne 13, 3) := by decide +kernel
theorem dX6_begins_102 : decode cX6_begins 102 = .ok (.aload_n 0, 1) := by decide +kernel
theorem dX6_begins_103 : decode cX6_begins 103 = .ok (.getfield 25, 3) := by decide +kernel
theorem dX6_begins_106 : decode cX6_begins 106 = .ok (.iload_n 2, 1) := by decide +kernel
theorem dX6_begins_107 : decode cX6_begins 107 = .ok (.iload_n 3, 1) := by decide +kernel
theorem dX6_begins_108 : decode cX6_begins 108 = .ok (.iastore, 1) := by decide +kernel
theorem dX6_begins_109 : decode cX6_begins 109 = .ok (.iinc 2 1, 3) := by decide +kernel
theorem dX6_begins_112 : decode cX6_begins 112 = .ok (.iinc 3 1, 3) := by decide +kernel
theorem dX6_begins_115 : decode cX6_begins 115 = .ok (.goto (-42), 3) := by decide +kernel
theorem dX6_begins_118 : decode cX6_begins 118 = .ok (.aload_n 0, 1) := by decide +kernel
theorem dX6_begins_119 : decode cX6_begins 119 = .ok (.iload_n 1, 1) := by decide +kernel
theorem dX6_begins_120 : decode cX6_begins 120 = .ok (.iload_n 2, 1) := by decide +kernel
theorem dX6_begins_121 : decode cX6_begins 121 = .ok (.invokevirtual 88, 3) := by decide +kernel
theorem dX6_begins_124 : decode cX6_begins 124 = .ok (.iconst 0, 1) := by decide +kernel
theorem dX6_begins_125 : decode cX6_begins 125 = .ok (.istore_n 3, 1) := by decide +kernel
theorem dX6_begins_126 : decode cX6_begins 126 = .ok (.iconst 0, 1) := by decide +kernel
theorem dX6_begins_127 : decode cX6_begins 127 = .ok (.istore 4, 2) := by decide +kernel
theorem dX6_begins_129 : decode cX6_begins 129 = .ok (.iload 4, 2) := by decide +kernel
theorem dX6_begins_131 : decode cX6_begins 131 = .ok (.iload_n 1, 1) := by decide +kernel
theorem dX6_begins_132 : decode cX6_begins 132 = .ok (.if_icmp .ge 126, 3) := by decide +kernel
theorem dX6_begins_135 : decode cX6_begins 135 = .ok (.aload_n 0, 1) := by decide +kernel
theorem dX6_begins_136 : decode cX6_begins 136 = .ok (.getfield 29, 3) := by decide +kernel
theorem dX6_begins_139 : decode cX6_begins 139 = .ok (.iload 4, 2) := by decide +kernel
theorem dX6_begins_141 : decode cX6_begins 141 = .ok (.iload_n 2, 1) := by decide +kernel
theorem dX6_begins_142 : decode cX6_begins 142 = .ok (.ishl, 1) := by decide +kernel
theorem dX6_begins_143 : decode cX6_begins 143 = .ok (.iload_n 3, 1) := by decide +kernel
theorem dX6_begins_144 : decode cX6_begins 144 = .ok (.iadd, 1) := by decide +kernel
theorem dX6_begins_145 : decode cX6_begins 145 = .ok (.iaload, 1) := by decide +kernel
theorem dX6_begins_146 : decode cX6_begins 146 = .ok (.istore 5, 2) := by decide +kernel
theorem dX6_begins_148 : decode cX6_begins 148 = .ok (.iconst (-1), 1) := by decide +kernel
theorem dX6_begins_149 : decode cX6_begins 149 = .ok (.istore 6, 2) := by decide +kernel
theorem dX6_begins_151 : decode cX6_begins 151 = .ok (.iload_n 2, 1) := by decide +kernel
theorem dX6_begins_152 : decode cX6_begins 152 = .ok (.iconst 1, 1) := by decide +kernel
theorem dX6_begins_153 : decode cX6_begins 153 = .ok (.isub, 1) := by decide +kernel
theorem dX6_begins_154 : decode cX6_begins 154 = .ok (.istore 7, 2) := by decide +kernel
theorem dX6_begins_156 : decode cX6_begins 156 = .ok (.iload 7, 2) := by decide +kernel
theorem dX6_begins_158 : decode cX6_begins 158 = .ok (.ifCond .lt 38, 3) := by decide +kernel
theorem dX6_begins_161 : decode cX6_begins 161 = .ok (.iload 5, 2) := by decide +kernel
theorem dX6_begins_163 : decode cX6_begins 163 = .ok (.ifCond .le 23, 3) := by decide +kernel
theorem dX6_begins_166 : decode cX6_begins 166 = .ok (.aload_n 0, 1) := by decide +kernel
theorem dX6_begins_167 : decode cX6_begins 167 = .ok (.iload 4, 2) := by decide +kernel
theorem dX6_begins_169 : decode cX6_begins 169 = .ok (.iload 7, 2) := by decide +kernel
theorem dX6_begins_171 : decode cX6_begins 171 = .ok (.iload_n 2, 1) := by decide +kernel
theorem dX6_begins_172 : decode cX6_begins 172 = .ok (.iload_n 3, 1) := by decide +kernel
theorem dX6_begins_173 : decode cX6_begins 173 = .ok (.invokevirtual 92, 3) := by decide +kernel
theorem dX6_begins_176 : decode cX6_begins 176 = .ok (.iload 5, 2) := by decide +kernel
theorem dX6_begins_178 : decode cX6_begins 178 = .ok (.if_icmp .ne 8, 3) := by decide +kernel
theorem dX6_begins_181 : decode cX6_begins 181 = .ok (.iload 7, 2) := by decide +kernel
theorem dX6_begins_183 : decode cX6_begins 183 = .ok (.goto 5, 3) := by decide +kernel
theorem dX6_begins_186 : decode cX6_begins 186 = .ok (.iload 6, 2) := by decide +kernel
theorem dX6_begins_188 : decode cX6_begins 188 = .ok (.istore 6, 2) := by decide +kernel
theorem dX6_begins_190 : decode cX6_begins 190 = .ok (.iinc 7 (-1), 3) := by decide +kernel
theorem dX6_begins_193 : decode cX6_begins 193 = .ok (.goto (-37), 3) := by decide +kernel
theorem dX6_begins_196 : decode cX6_begins 196 = .ok (.aload_n 0, 1) := by decide +kernel
theorem dX6_begins_197 : decode cX6_begins 197 = .ok (.aload_n 0, 1) := by decide +kernel
theorem dX6_begins_198 : decode cX6_begins 198 = .ok (.getfield 22, 3) := by decide +kernel
theorem dX6_begins_201 : decode cX6_begins 201 = .ok (.iload 4, 2) := by decide +kernel
theorem dX6_begins_203 : decode cX6_begins 203 = .ok (.iaload, 1) := by decide +kernel
theorem dX6_begins_204 : decode cX6_begins 204 = .ok (.iload 6, 2) := by decide +kernel
theorem dX6_begins_206 : decode cX6_begins 206 = .ok (.iconst (-1), 1) := by decide +kernel
theorem dX6_begins_207 : decode cX6_begins 207 = .ok (.if_icmp .ne 7, 3) := by decide +kernel
theorem dX6_begins_210 : decode cX6_begins 210 = .ok (.iconst 3, 1) := by decide +kernel
theorem dX6_begins_211 : decode cX6_begins 211 = .ok (.goto 4, 3) := by decide +kernel
theorem dX6_begins_214 : decode cX6_begins 214 = .ok (.iconst 1, 1) := by decide +kernel
theorem dX6_begins_215 : decode cX6_begins 215 = .ok (.iload 6, 2) := by decide +kernel
theorem dX6_begins_217 : decode cX6_begins 217 = .ok (.iconst (-1), 1) := by decide +kernel
theorem dX6_begins_218 : decode cX6_begins 218 = .ok (.if_icmp .ne 7, 3) := by decide +kernel
theorem dX6_begins_221 : decode cX6_begins 221 = .ok (.iconst (-1), 1) := by decide +kernel
theorem dX6_begins_222 : decode cX6_begins 222 = .ok (.goto 10, 3) := by decide +kernel
theorem dX6_begins_225 : decode cX6_begins 225 = .ok (.aload_n 0, 1) := by decide +kernel
theorem dX6_begins_226 : decode cX6_begins 226 = .ok (.getfield 25, 3) := by decide +kernel
theorem dX6_begins_229 : decode cX6_begins 229 = .ok (.iload 6, 2) := by decide +kernel
theorem dX6_begins_231 : decode cX6_begins 231 = .ok (.iaload, 1) := by decide +kernel
theorem dX6_begins_232 : decode cX6_begins 232 = .ok (.invokevirtual 79, 3) := by decide +kernel
theorem dX6_begins_235 : decode cX6_begins 235 = .ok (.iload_n 3, 1) := by decide +kernel
theorem dX6_begins_236 : decode cX6_begins 236 = .ok (.iload 6, 2) := by decide +kernel
theorem dX6_begins_238 : decode cX6_begins 238 = .ok (.iconst (-1), 1) := by decide +kernel
theorem dX6_begins_239 : decode cX6_begins 239 = .ok (.if_icmp .ne 7, 3) := by decide +kernel
theorem dX6_begins_242 : decode cX6_begins 242 = .ok (.iconst 0, 1) := by decide +kernel
theorem dX6_begins_243 : decode cX6_begins 243 = .ok (.goto 7, 3) := by decide +kernel
theorem dX6_begins_246 : decode cX6_begins 246 = .ok (.iconst 1, 1) := by decide +kernel
theorem dX6_begins_247 : decode cX6_begins 247 = .ok (.iload 6, 2) := by decide +kernel
theorem dX6_begins_249 : decode cX6_begins 249 = .ok (.ishl, 1) := by decide +kernel
theorem dX6_begins_250 : decode cX6_begins 250 = .ok (.ior, 1) := by decide +kernel
theorem dX6_begins_251 : decode cX6_begins 251 = .ok (.istore_n 3, 1) := by decide +kernel
theorem dX6_begins_252 : decode cX6_begins 252 = .ok (.iinc 4 1, 3) := by decide +kernel
theorem dX6_begins_255 : decode cX6_begins 255 = .ok (.goto (-126), 3) := by decide +kernel
theorem dX6_begins_258 : decode cX6_begins 258 = .ok (.aload_n 0, 1) := by decide +kernel
theorem dX6_begins_259 : decode cX6_begins 259 = .ok (.getfield 7, 3) := by decide +kernel
theorem dX6_begins_262 : decode cX6_begins 262 = .ok (.iconst 5, 1) := by decide +kernel
theorem dX6_begins_263 : decode cX6_begins 263 = .ok (.iconst 1, 1) := by decide +kernel
theorem dX6_begins_264 : decode cX6_begins 264 = .ok (.iastore, 1) := by decide +kernel
theorem dX6_begins_265 : decode cX6_begins 265 = .ok (.return_, 1) := by decide +kernel
theorem dX6_withShelter_0 : decode cX6_withShelter 0 = .ok (.iload 4, 2) := by decide +kernel
theorem dX6_withShelter_2 : decode cX6_withShelter 2 = .ok (.iload_n 2, 1) := by decide +kernel
theorem dX6_withShelter_3 : decode cX6_withShelter 3 = .ok (.ishr, 1) := by decide +kernel
theorem dX6_withShelter_4 : decode cX6_withShelter 4 = .ok (.iconst 1, 1) := by decide +kernel
theorem dX6_withShelter_5 : decode cX6_withShelter 5 = .ok (.iand, 1) := by decide +kernel
theorem dX6_withShelter_6 : decode cX6_withShelter 6 = .ok (.ifCond .ne 26, 3) := by decide +kernel
theorem dX6_withShelter_9 : decode cX6_withShelter 9 = .ok (.aload_n 0, 1) := by decide +kernel
theorem dX6_withShelter_10 : decode cX6_withShelter 10 = .ok (.aload_n 0, 1) := by decide +kernel
theorem dX6_withShelter_11 : decode cX6_withShelter 11 = .ok (.getfield 22, 3) := by decide +kernel
theorem dX6_withShelter_14 : decode cX6_withShelter 14 = .ok (.iload_n 1, 1) := by decide +kernel
theorem dX6_withShelter_15 : decode cX6_withShelter 15 = .ok (.iaload, 1) := by decide +kernel
theorem dX6_withShelter_16 : decode cX6_withShelter 16 = .ok (.aload_n 0, 1) := by decide +kernel
theorem dX6_withShelter_17 : decode cX6_withShelter 17 = .ok (.getfield 25, 3) := by decide +kernel
theorem dX6_withShelter_20 : decode cX6_withShelter 20 = .ok (.iload_n 2, 1) := by decide +kernel
theorem dX6_withShelter_21 : decode cX6_withShelter 21 = .ok (.iaload, 1) := by decide +kernel
theorem dX6_withShelter_22 : decode cX6_withShelter 22 = .ok (.invokevirtual 96, 3) := by decide +kernel
theorem dX6_withShelter_25 : decode cX6_withShelter 25 = .ok (.ifCond .eq 7, 3) := by decide +kernel
theorem dX6_withShelter_28 : decode cX6_withShelter 28 = .ok (.iconst 1, 1) := by decide +kernel
theorem dX6_withShelter_29 : decode cX6_withShelter 29 = .ok (.goto 4, 3) := by decide +kernel
theorem dX6_withShelter_32 : decode cX6_withShelter 32 = .ok (.iconst 0, 1) := by decide +kernel
theorem dX6_withShelter_33 : decode cX6_withShelter 33 = .ok (.istore 5, 2) := by decide +kernel
theorem dX6_withShelter_35 : decode cX6_withShelter 35 = .ok (.iload 5, 2) := by decide +kernel
theorem dX6_withShelter_37 : decode cX6_withShelter 37 = .ok (.ifCond .eq 25, 3) := by decide +kernel
theorem dX6_withShelter_40 : decode cX6_withShelter 40 = .ok (.iconst 1, 1) := by decide +kernel
theorem dX6_withShelter_41 : decode cX6_withShelter 41 = .ok (.aload_n 0, 1) := by decide +kernel
theorem dX6_withShelter_42 : decode cX6_withShelter 42 = .ok (.getfield 29, 3) := by decide +kernel
theorem dX6_withShelter_45 : decode cX6_withShelter 45 = .ok (.iload_n 1, 1) := by decide +kernel
theorem dX6_withShelter_46 : decode cX6_withShelter 46 = .ok (.iconst 1, 1) := by decide +kernel
theorem dX6_withShelter_47 : decode cX6_withShelter 47 = .ok (.iadd, 1) := by decide +kernel
theorem dX6_withShelter_48 : decode cX6_withShelter 48 = .ok (.iload_n 3, 1) := by decide +kernel
theorem dX6_withShelter_49 : decode cX6_withShelter 49 = .ok (.ishl, 1) := by decide +kernel
theorem dX6_withShelter_50 : decode cX6_withShelter 50 = .ok (.iload 4, 2) := by decide +kernel
theorem dX6_withShelter_52 : decode cX6_withShelter 52 = .ok (.iconst 1, 1) := by decide +kernel
theorem dX6_withShelter_53 : decode cX6_withShelter 53 = .ok (.iload_n 2, 1) := by decide +kernel
theorem dX6_withShelter_54 : decode cX6_withShelter 54 = .ok (.ishl, 1) := by decide +kernel
theorem dX6_withShelter_55 : decode cX6_withShelter 55 = .ok (.ior, 1) := by decide +kernel
theorem dX6_withShelter_56 : decode cX6_withShelter 56 = .ok (.iadd, 1) := by decide +kernel
theorem dX6_withShelter_57 : decode cX6_withShelter 57 = .ok (.iaload, 1) := by decide +kernel
theorem dX6_withShelter_58 : decode cX6_withShelter 58 = .ok (.iadd, 1) := by decide +kernel
theorem dX6_withShelter_59 : decode cX6_withShelter 59 = .ok (.goto 4, 3) := by decide +kernel
theorem dX6_withShelter_62 : decode cX6_withShelter 62 = .ok (.iconst 0, 1) := by decide +kernel
theorem dX6_withShelter_63 : decode cX6_withShelter 63 = .ok (.ireturn, 1) := by decide +kernel
theorem dX6_lays_0 : decode cX6_lays 0 = .ok (.iload_n 1, 1) := by decide +kernel
theorem dX6_lays_1 : decode cX6_lays 1 = .ok (.istore_n 3, 1) := by decide +kernel
theorem dX6_lays_2 : decode cX6_lays 2 = .ok (.iload_n 3, 1) := by decide +kernel
theorem dX6_lays_3 : decode cX6_lays 3 = .ok (.ifCond .lt 111, 3) := by decide +kernel
theorem dX6_lays_6 : decode cX6_lays 6 = .ok (.iconst 0, 1) := by decide +kernel
theorem dX6_lays_7 : decode cX6_lays 7 = .ok (.istore 4, 2) := by decide +kernel
theorem dX6_lays_9 : decode cX6_lays 9 = .ok (.iload 4, 2) := by decide +kernel
theorem dX6_lays_11 : decode cX6_lays 11 = .ok (.iconst 1, 1) := by decide +kernel
theorem dX6_lays_12 : decode cX6_lays 12 = .ok (.iload_n 2, 1) := by decide +kernel
theorem dX6_lays_13 : decode cX6_lays 13 = .ok (.ishl, 1) := by decide +kernel
theorem dX6_lays_14 : decode cX6_lays 14 = .ok (.if_icmp .ge 94, 3) := by decide +kernel
theorem dX6_lays_17 : decode cX6_lays 17 = .ok (.iload_n 3, 1) := by decide +kernel
theorem dX6_lays_18 : decode cX6_lays 18 = .ok (.iload_n 1, 1) := by decide +kernel
theorem dX6_lays_19 : decode cX6_lays 19 = .ok (.if_icmp .ne 7, 3) := by decide +kernel
theorem dX6_lays_22 : decode cX6_lays 22 = .ok (.iconst 0, 1) := by decide +kernel
theorem dX6_lays_23 : decode cX6_lays 23 = .ok (.goto 16, 3) := by decide +kernel
theorem dX6_lays_26 : decode cX6_lays 26 = .ok (.aload_n 0, 1) := by decide +kernel
theorem dX6_lays_27 : decode cX6_lays 27 = .ok (.getfield 29, 3) := by decide +kernel
theorem dX6_lays_30 : decode cX6_lays 30 = .ok (.iload_n 3, 1) := by decide +kernel
theorem dX6_lays_31 : decode cX6_lays 31 = .ok (.iconst 1, 1) := by decide +kernel
theorem dX6_lays_32 : decode cX6_lays 32 = .ok (.iadd, 1) := by decide +kernel
theorem dX6_lays_33 : decode cX6_lays 33 = .ok (.iload_n 2, 1) := by decide +kernel
theorem dX6_lays_34 : decode cX6_lays 34 = .ok (.ishl, 1) := by decide +kernel
theorem dX6_lays_35 : decode cX6_lays 35 = .ok (.iload 4, 2) := by decide +kernel
theorem dX6_lays_37 : decode cX6_lays 37 = .ok (.iadd, 1) := by decide +kernel
theorem dX6_lays_38 : decode cX6_lays 38 = .ok (.iaload, 1) := by decide +kernel
theorem dX6_lays_39 : decode cX6_lays 39 = .ok (.istore 5, 2) := by decide +kernel
theorem dX6_lays_41 : decode cX6_lays 41 = .ok (.iconst 0, 1) := by decide +kernel
theorem dX6_lays_42 : decode cX6_lays 42 = .ok (.istore 6, 2) := by decide +kernel
theorem dX6_lays_44 : decode cX6_lays 44 = .ok (.iload 6, 2) := by decide +kernel
theorem dX6_lays_46 : decode cX6_lays 46 = .ok (.iload_n 2, 1) := by decide +kernel
theorem dX6_lays_47 : decode cX6_lays 47 = .ok (.if_icmp .ge 42, 3) := by decide +kernel
theorem dX6_lays_50 : decode cX6_lays 50 = .ok (.iload_n 3, 1) := by decide +kernel
theorem dX6_lays_51 : decode cX6_lays 51 = .ok (.iload_n 1, 1) := by decide +kernel
theorem dX6_lays_52 : decode cX6_lays 52 = .ok (.if_icmp .ge 37, 3) := by decide +kernel
theorem dX6_lays_55 : decode cX6_lays 55 = .ok (.aload_n 0, 1) := by decide +kernel
theorem dX6_lays_56 : decode cX6_lays 56 = .ok (.iload_n 3, 1) := by decide +kernel
theorem dX6_lays_57 : decode cX6_lays 57 = .ok (.iload 6, 2) := by decide +kernel
theorem dX6_lays_59 : decode cX6_lays 59 = .ok (.iload_n 2, 1) := by decide +kernel
theorem dX6_lays_60 : decode cX6_lays 60 = .ok (.iload 4, 2) := by decide +kernel
theorem dX6_lays_62 : decode cX6_lays 62 = .ok (.invokevirtual 92, 3) := by decide +kernel
theorem dX6_lays_65 : decode cX6_lays 65 = .ok (.istore 7, 2) := by decide +kernel
theorem dX6_lays_67 : decode cX6_lays 67 = .ok (.iload 7, 2) := by decide +kernel
theorem dX6_lays_69 : decode cX6_lays 69 = .ok (.iload 5, 2) := by decide +kernel
theorem dX6_lays_71 : decode cX6_lays 71 = .ok (.if_icmp .le 8, 3) := by decide +kernel
theorem dX6_lays_74 : decode cX6_lays 74 = .ok (.iload 7, 2) := by decide +kernel
theorem dX6_lays_76 : decode cX6_lays 76 = .ok (.goto 5, 3) := by decide +kernel
theorem dX6_lays_79 : decode cX6_lays 79 = .ok (.iload 5, 2) := by decide +kernel
theorem dX6_lays_81 : decode cX6_lays 81 = .ok (.istore 5, 2) := by decide +kernel
theorem dX6_lays_83 : decode cX6_lays 83 = .ok (.iinc 6 1, 3) := by decide +kernel
theorem dX6_lays_86 : decode cX6_lays 86 = .ok (.goto (-42), 3) := by decide +kernel
theorem dX6_lays_89 : decode cX6_lays 89 = .ok (.aload_n 0, 1) := by decide +kernel
theorem dX6_lays_90 : decode cX6_lays 90 = .ok (.getfield 29, 3) := by decide +kernel
theorem dX6_lays_93 : decode cX6_lays 93 = .ok (.iload_n 3, 1) := by decide +kernel
theorem dX6_lays_94 : decode cX6_lays 94 = .ok (.iload_n 2, 1) := by decide +kernel
theorem dX6_lays_95 : decode cX6_lays 95 = .ok (.ishl, 1) := by decide +kernel
theorem dX6_lays_96 : decode cX6_lays 96 = .ok (.iload 4, 2) := by decide +kernel
theorem dX6_lays_98 : decode cX6_lays 98 = .ok (.iadd, 1) := by decide +kernel
theorem dX6_lays_99 : decode cX6_lays 99 = .ok (.iload 5, 2) := by decide +kernel
theorem dX6_lays_101 : decode cX6_lays 101 = .ok (.iastore, 1) := by decide +kernel
theorem dX6_lays_102 : decode cX6_lays 102 = .ok (.iinc 4 1, 3) := by decide +kernel
theorem dX6_lays_105 : decode cX6_lays 105 = .ok (.goto (-96), 3) := by decide +kernel
theorem dX6_lays_108 : decode cX6_lays 108 = .ok (.iinc 3 (-1), 3) := by decide +kernel
theorem dX6_lays_111 : decode cX6_lays 111 = .ok (.goto (-109), 3) := by decide +kernel
theorem dX6_lays_114 : decode cX6_lays 114 = .ok (.return_, 1) := by decide +kernel
theorem dX6_ends_0 : decode cX6_ends 0 = .ok (.iconst 0, 1) := by decide +kernel
theorem dX6_ends_1 : decode cX6_ends 1 = .ok (.istore_n 1, 1) := by decide +kernel
theorem dX6_ends_2 : decode cX6_ends 2 = .ok (.iload_n 1, 1) := by decide +kernel
theorem dX6_ends_3 : decode cX6_ends 3 = .ok (.aload_n 0, 1) := by decide +kernel
theorem dX6_ends_4 : decode cX6_ends 4 = .ok (.getfield 7, 3) := by decide +kernel
theorem dX6_ends_7 : decode cX6_ends 7 = .ok (.bipush 7, 2) := by decide +kernel
theorem dX6_ends_9 : decode cX6_ends 9 = .ok (.iaload, 1) := by decide +kernel
theorem dX6_ends_10 : decode cX6_ends 10 = .ok (.if_icmp .ge 65, 3) := by decide +kernel
theorem dX6_ends_13 : decode cX6_ends 13 = .ok (.aload_n 0, 1) := by decide +kernel
theorem dX6_ends_14 : decode cX6_ends 14 = .ok (.iload_n 1, 1) := by decide +kernel
theorem dX6_ends_15 : decode cX6_ends 15 = .ok (.bipush 7, 2) := by decide +kernel
theorem dX6_ends_17 : decode cX6_ends 17 = .ok (.invokevirtual 50, 3) := by decide +kernel
theorem dX6_ends_20 : decode cX6_ends 20 = .ok (.istore_n 2, 1) := by decide +kernel
theorem dX6_ends_21 : decode cX6_ends 21 = .ok (.iload_n 2, 1) := by decide +kernel
theorem dX6_ends_22 : decode cX6_ends 22 = .ok (.iconst (-1), 1) := by decide +kernel
theorem dX6_ends_23 : decode cX6_ends 23 = .ok (.if_icmp .eq 46, 3) := by decide +kernel
theorem dX6_ends_26 : decode cX6_ends 26 = .ok (.aload_n 0, 1) := by decide +kernel
theorem dX6_ends_27 : decode cX6_ends 27 = .ok (.iload_n 2, 1) := by decide +kernel
theorem dX6_ends_28 : decode cX6_ends 28 = .ok (.invokevirtual 68, 3) := by decide +kernel
theorem dX6_ends_31 : decode cX6_ends 31 = .ok (.iconst (-1), 1) := by decide +kernel
theorem dX6_ends_32 : decode cX6_ends 32 = .ok (.if_icmp .ne 22, 3) := by decide +kernel
theorem dX6_ends_35 : decode cX6_ends 35 = .ok (.aload_n 0, 1) := by decide +kernel
theorem dX6_ends_36 : decode cX6_ends 36 = .ok (.iload_n 1, 1) := by decide +kernel
theorem dX6_ends_37 : decode cX6_ends 37 = .ok (.iload_n 2, 1) := by decide +kernel
theorem dX6_ends_38 : decode cX6_ends 38 = .ok (.invokevirtual 96, 3) := by decide +kernel
theorem dX6_ends_41 : decode cX6_ends 41 = .ok (.ifCond .eq 13, 3) := by decide +kernel
theorem dX6_ends_44 : decode cX6_ends 44 = .ok (.aload_n 0, 1) := by decide +kernel
theorem dX6_ends_45 : decode cX6_ends 45 = .ok (.iload_n 1, 1) := by decide +kernel
theorem dX6_ends_46 : decode cX6_ends 46 = .ok (.iconst 1, 1) := by decide +kernel
theorem dX6_ends_47 : decode cX6_ends 47 = .ok (.iload_n 2, 1) := by decide +kernel
theorem dX6_ends_48 : decode cX6_ends 48 = .ok (.invokevirtual 79, 3) := by decide +kernel
theorem dX6_ends_51 : decode cX6_ends 51 = .ok (.goto 18, 3) := by decide +kernel
theorem dX6_ends_54 : decode cX6_ends 54 = .ok (.aload_n 0, 1) := by decide +kernel
theorem dX6_ends_55 : decode cX6_ends 55 = .ok (.iload_n 1, 1) := by decide +kernel
theorem dX6_ends_56 : decode cX6_ends 56 = .ok (.iconst 3, 1) := by decide +kernel
theorem dX6_ends_57 : decode cX6_ends 57 = .ok (.invokevirtual 50, 3) := by decide +kernel
theorem dX6_ends_60 : decode cX6_ends 60 = .ok (.iconst 3, 1) := by decide +kernel
theorem dX6_ends_61 : decode cX6_ends 61 = .ok (.if_icmp .ne 8, 3) := by decide +kernel
theorem dX6_ends_64 : decode cX6_ends 64 = .ok (.aload_n 0, 1) := by decide +kernel
theorem dX6_ends_65 : decode cX6_ends 65 = .ok (.iload_n 1, 1) := by decide +kernel
theorem dX6_ends_66 : decode cX6_ends 66 = .ok (.invokevirtual 99, 3) := by decide +kernel
theorem dX6_ends_69 : decode cX6_ends 69 = .ok (.iinc 1 1, 3) := by decide +kernel
theorem dX6_ends_72 : decode cX6_ends 72 = .ok (.goto (-70), 3) := by decide +kernel
theorem dX6_ends_75 : decode cX6_ends 75 = .ok (.iconst 0, 1) := by decide +kernel
theorem dX6_ends_76 : decode cX6_ends 76 = .ok (.istore_n 1, 1) := by decide +kernel
theorem dX6_ends_77 : decode cX6_ends 77 = .ok (.iload_n 1, 1) := by decide +kernel
theorem dX6_ends_78 : decode cX6_ends 78 = .ok (.aload_n 0, 1) := by decide +kernel
theorem dX6_ends_79 : decode cX6_ends 79 = .ok (.getfield 7, 3) := by decide +kernel
theorem dX6_ends_82 : decode cX6_ends 82 = .ok (.bipush 7, 2) := by decide +kernel
theorem dX6_ends_84 : decode cX6_ends 84 = .ok (.iaload, 1) := by decide +kernel
theorem dX6_ends_85 : decode cX6_ends 85 = .ok (.if_icmp .ge 17, 3) := by decide +kernel
theorem dX6_ends_88 : decode cX6_ends 88 = .ok (.aload_n 0, 1) := by decide +kernel
theorem dX6_ends_89 : decode cX6_ends 89 = .ok (.iload_n 1, 1) := by decide +kernel
theorem dX6_ends_90 : decode cX6_ends 90 = .ok (.bipush 7, 2) := by decide +kernel
theorem dX6_ends_92 : decode cX6_ends 92 = .ok (.iconst (-1), 1) := by decide +kernel
theorem dX6_ends_93 : decode cX6_ends 93 = .ok (.invokevirtual 75, 3) := by decide +kernel
theorem dX6_ends_96 : decode cX6_ends 96 = .ok (.iinc 1 1, 3) := by decide +kernel
theorem dX6_ends_99 : decode cX6_ends 99 = .ok (.goto (-22), 3) := by decide +kernel
theorem dX6_ends_102 : decode cX6_ends 102 = .ok (.aload_n 0, 1) := by decide +kernel
theorem dX6_ends_103 : decode cX6_ends 103 = .ok (.getfield 7, 3) := by decide +kernel
theorem dX6_ends_106 : decode cX6_ends 106 = .ok (.iconst 5, 1) := by decide +kernel
theorem dX6_ends_107 : decode cX6_ends 107 = .ok (.iconst 0, 1) := by decide +kernel
theorem dX6_ends_108 : decode cX6_ends 108 = .ok (.iastore, 1) := by decide +kernel
theorem dX6_ends_109 : decode cX6_ends 109 = .ok (.return_, 1) := by decide +kernel
theorem dX6_fee_0 : decode cX6_fee 0 = .ok (.aload_n 0, 1) := by decide +kernel
theorem dX6_fee_1 : decode cX6_fee 1 = .ok (.iload_n 1, 1) := by decide +kernel
theorem dX6_fee_2 : decode cX6_fee 2 = .ok (.iconst 3, 1) := by decide +kernel
theorem dX6_fee_3 : decode cX6_fee 3 = .ok (.invokevirtual 50, 3) := by decide +kernel
theorem dX6_fee_6 : decode cX6_fee 6 = .ok (.istore_n 2, 1) := by decide +kernel
theorem dX6_fee_7 : decode cX6_fee 7 = .ok (.iload_n 2, 1) := by decide +kernel
theorem dX6_fee_8 : decode cX6_fee 8 = .ok (.iconst 1, 1) := by decide +kernel
theorem dX6_fee_9 : decode cX6_fee 9 = .ok (.if_icmp .ne 18, 3) := by decide +kernel
theorem dX6_fee_12 : decode cX6_fee 12 = .ok (.aload_n 0, 1) := by decide +kernel
theorem dX6_fee_13 : decode cX6_fee 13 = .ok (.aload_n 0, 1) := by decide +kernel
theorem dX6_fee_14 : decode cX6_fee 14 = .ok (.iload_n 1, 1) := by decide +kernel
theorem dX6_fee_15 : decode cX6_fee 15 = .ok (.iconst 4, 1) := by decide +kernel
theorem dX6_fee_16 : decode cX6_fee 16 = .ok (.invokevirtual 50, 3) := by decide +kernel
theorem dX6_fee_19 : decode cX6_fee 19 = .ok (.iconst 3, 1) := by decide +kernel
theorem dX6_fee_20 : decode cX6_fee 20 = .ok (.invokevirtual 54, 3) := by decide +kernel
theorem dX6_fee_23 : decode cX6_fee 23 = .ok (.i2l, 1) := by decide +kernel
theorem dX6_fee_24 : decode cX6_fee 24 = .ok (.goto 19, 3) := by decide +kernel
theorem dX6_fee_27 : decode cX6_fee 27 = .ok (.iload_n 2, 1) := by decide +kernel
theorem dX6_fee_28 : decode cX6_fee 28 = .ok (.iconst 3, 1) := by decide +kernel
theorem dX6_fee_29 : decode cX6_fee 29 = .ok (.if_icmp .ne 13, 3) := by decide +kernel
theorem dX6_fee_32 : decode cX6_fee 32 = .ok (.aload_n 0, 1) := by decide +kernel
theorem dX6_fee_33 : decode cX6_fee 33 = .ok (.getfield 7, 3) := by decide +kernel
theorem dX6_fee_36 : decode cX6_fee 36 = .ok (.iconst 1, 1) := by decide +kernel
theorem dX6_fee_37 : decode cX6_fee 37 = .ok (.iaload, 1) := by decide +kernel
theorem dX6_fee_38 : decode cX6_fee 38 = .ok (.i2l, 1) := by decide +kernel
theorem dX6_fee_39 : decode cX6_fee 39 = .ok (.goto 4, 3) := by decide +kernel
theorem dX6_fee_42 : decode cX6_fee 42 = .ok (.lconst 0, 1) := by decide +kernel
theorem dX6_fee_43 : decode cX6_fee 43 = .ok (.lstore_n 3, 1) := by decide +kernel
theorem dX6_fee_44 : decode cX6_fee 44 = .ok (.aload_n 0, 1) := by decide +kernel
theorem dX6_fee_45 : decode cX6_fee 45 = .ok (.iload_n 1, 1) := by decide +kernel
theorem dX6_fee_46 : decode cX6_fee 46 = .ok (.iconst 0, 1) := by decide +kernel
theorem dX6_fee_47 : decode cX6_fee 47 = .ok (.invokevirtual 50, 3) := by decide +kernel
theorem dX6_fee_50 : decode cX6_fee 50 = .ok (.i2l, 1) := by decide +kernel
theorem dX6_fee_51 : decode cX6_fee 51 = .ok (.lload_n 3, 1) := by decide +kernel
theorem dX6_fee_52 : decode cX6_fee 52 = .ok (.lmul, 1) := by decide +kernel
theorem dX6_fee_53 : decode cX6_fee 53 = .ok (.ldc2_w 103, 3) := by decide +kernel
theorem dX6_fee_56 : decode cX6_fee 56 = .ok (.ldiv, 1) := by decide +kernel
theorem dX6_fee_57 : decode cX6_fee 57 = .ok (.l2i, 1) := by decide +kernel
theorem dX6_fee_58 : decode cX6_fee 58 = .ok (.ireturn, 1) := by decide +kernel
theorem dX6_passes_0 : decode cX6_passes 0 = .ok (.iconst 0, 1) := by decide +kernel
theorem dX6_passes_1 : decode cX6_passes 1 = .ok (.istore_n 1, 1) := by decide +kernel
theorem dX6_passes_2 : decode cX6_passes 2 = .ok (.iload_n 1, 1) := by decide +kernel
theorem dX6_passes_3 : decode cX6_passes 3 = .ok (.aload_n 0, 1) := by decide +kernel
theorem dX6_passes_4 : decode cX6_passes 4 = .ok (.getfield 7, 3) := by decide +kernel
theorem dX6_passes_7 : decode cX6_passes 7 = .ok (.bipush 7, 2) := by decide +kernel
theorem dX6_passes_9 : decode cX6_passes 9 = .ok (.iaload, 1) := by decide +kernel
theorem dX6_passes_10 : decode cX6_passes 10 = .ok (.if_icmp .ge 29, 3) := by decide +kernel
theorem dX6_passes_13 : decode cX6_passes 13 = .ok (.aload_n 0, 1) := by decide +kernel
theorem dX6_passes_14 : decode cX6_passes 14 = .ok (.iload_n 1, 1) := by decide +kernel
theorem dX6_passes_15 : decode cX6_passes 15 = .ok (.invokevirtual 105, 3) := by decide +kernel
theorem dX6_passes_18 : decode cX6_passes 18 = .ok (.ldc 108, 2) := by decide +kernel
theorem dX6_passes_20 : decode cX6_passes 20 = .ok (.aload_n 0, 1) := by decide +kernel
theorem dX6_passes_21 : decode cX6_passes 21 = .ok (.iload_n 1, 1) := by decide +kernel
theorem dX6_passes_22 : decode cX6_passes 22 = .ok (.bipush 8, 2) := by decide +kernel
theorem dX6_passes_24 : decode cX6_passes 24 = .ok (.invokevirtual 50, 3) := by decide +kernel
theorem dX6_passes_27 : decode cX6_passes 27 = .ok (.isub, 1) := by decide +kernel
theorem dX6_passes_28 : decode cX6_passes 28 = .ok (.if_icmp .le 5, 3) := by decide +kernel
theorem dX6_passes_31 : decode cX6_passes 31 = .ok (.iconst (-1), 1) := by decide +kernel
theorem dX6_passes_32 : decode cX6_passes 32 = .ok (.ireturn, 1) := by decide +kernel
theorem dX6_passes_33 : decode cX6_passes 33 = .ok (.iinc 1 1, 3) := by decide +kernel
theorem dX6_passes_36 : decode cX6_passes 36 = .ok (.goto (-34), 3) := by decide +kernel
theorem dX6_passes_39 : decode cX6_passes 39 = .ok (.iconst 0, 1) := by decide +kernel
theorem dX6_passes_40 : decode cX6_passes 40 = .ok (.istore_n 1, 1) := by decide +kernel
theorem dX6_passes_41 : decode cX6_passes 41 = .ok (.iload_n 1, 1) := by decide +kernel
theorem dX6_passes_42 : decode cX6_passes 42 = .ok (.aload_n 0, 1) := by decide +kernel
theorem dX6_passes_43 : decode cX6_passes 43 = .ok (.getfield 7, 3) := by decide +kernel
theorem dX6_passes_46 : decode cX6_passes 46 = .ok (.bipush 7, 2) := by decide +kernel
theorem dX6_passes_48 : decode cX6_passes 48 = .ok (.iaload, 1) := by decide +kernel
theorem dX6_passes_49 : decode cX6_passes 49 = .ok (.if_icmp .ge 29, 3) := by decide +kernel
theorem dX6_passes_52 : decode cX6_passes 52 = .ok (.aload_n 0, 1) := by decide +kernel
theorem dX6_passes_53 : decode cX6_passes 53 = .ok (.iload_n 1, 1) := by decide +kernel
theorem dX6_passes_54 : decode cX6_passes 54 = .ok (.bipush 8, 2) := by decide +kernel
theorem dX6_passes_56 : decode cX6_passes 56 = .ok (.aload_n 0, 1) := by decide +kernel
theorem dX6_passes_57 : decode cX6_passes 57 = .ok (.iload_n 1, 1) := by decide +kernel
theorem dX6_passes_58 : decode cX6_passes 58 = .ok (.bipush 8, 2) := by decide +kernel
theorem dX6_passes_60 : decode cX6_passes 60 = .ok (.invokevirtual 50, 3) := by decide +kernel
theorem dX6_passes_63 : decode cX6_passes 63 = .ok (.aload_n 0, 1) := by decide +kernel
theorem dX6_passes_64 : decode cX6_passes 64 = .ok (.iload_n 1, 1) := by decide +kernel
theorem dX6_passes_65 : decode cX6_passes 65 = .ok (.invokevirtual 105, 3) := by decide +kernel
theorem dX6_passes_68 : decode cX6_passes 68 = .ok (.iadd, 1) := by decide +kernel
theorem dX6_passes_69 : decode cX6_passes 69 = .ok (.invokevirtual 75, 3) := by decide +kernel
theorem dX6_passes_72 : decode cX6_passes 72 = .ok (.iinc 1 1, 3) := by decide +kernel
theorem dX6_passes_75 : decode cX6_passes 75 = .ok (.goto (-34), 3) := by decide +kernel
theorem dX6_passes_78 : decode cX6_passes 78 = .ok (.aload_n 0, 1) := by decide +kernel
theorem dX6_passes_79 : decode cX6_passes 79 = .ok (.getfield 7, 3) := by decide +kernel
theorem dX6_passes_82 : decode cX6_passes 82 = .ok (.iconst 4, 1) := by decide +kernel
theorem dX6_passes_83 : decode cX6_passes 83 = .ok (.dup2, 1) := by decide +kernel
theorem dX6_passes_84 : decode cX6_passes 84 = .ok (.iaload, 1) := by decide +kernel
theorem dX6_passes_85 : decode cX6_passes 85 = .ok (.iconst 1, 1) := by decide +kernel
theorem dX6_passes_86 : decode cX6_passes 86 = .ok (.iadd, 1) := by decide +kernel
theorem dX6_passes_87 : decode cX6_passes 87 = .ok (.iastore, 1) := by decide +kernel
theorem dX6_passes_88 : decode cX6_passes 88 = .ok (.iconst 0, 1) := by decide +kernel
theorem dX6_passes_89 : decode cX6_passes 89 = .ok (.istore_n 1, 1) := by decide +kernel
theorem dX6_passes_90 : decode cX6_passes 90 = .ok (.iload_n 1, 1) := by decide +kernel
theorem dX6_passes_91 : decode cX6_passes 91 = .ok (.aload_n 0, 1) := by decide +kernel
theorem dX6_passes_92 : decode cX6_passes 92 = .ok (.getfield 7, 3) := by decide +kernel
theorem dX6_passes_95 : decode cX6_passes 95 = .ok (.bipush 7, 2) := by decide +kernel
theorem dX6_passes_97 : decode cX6_passes 97 = .ok (.iaload, 1) := by decide +kernel
theorem dX6_passes_98 : decode cX6_passes 98 = .ok (.if_icmp .ge 37, 3) := by decide +kernel
theorem dX6_passes_101 : decode cX6_passes 101 = .ok (.aload_n 0, 1) := by decide +kernel
theorem dX6_passes_102 : decode cX6_passes 102 = .ok (.iload_n 1, 1) := by decide +kernel
theorem dX6_passes_103 : decode cX6_passes 103 = .ok (.iconst 5, 1) := by decide +kernel
theorem dX6_passes_104 : decode cX6_passes 104 = .ok (.aload_n 0, 1) := by decide +kernel
theorem dX6_passes_105 : decode cX6_passes 105 = .ok (.iload_n 1, 1) := by decide +kernel
theorem dX6_passes_106 : decode cX6_passes 106 = .ok (.iconst 5, 1) := by decide +kernel
theorem dX6_passes_107 : decode cX6_passes 107 = .ok (.invokevirtual 50, 3) := by decide +kernel
theorem dX6_passes_110 : decode cX6_passes 110 = .ok (.aload_n 0, 1) := by decide +kernel
theorem dX6_passes_111 : decode cX6_passes 111 = .ok (.iload_n 1, 1) := by decide +kernel
theorem dX6_passes_112 : decode cX6_passes 112 = .ok (.iconst 3, 1) := by decide +kernel
theorem dX6_passes_113 : decode cX6_passes 113 = .ok (.invokevirtual 50, 3) := by decide +kernel
theorem dX6_passes_116 : decode cX6_passes 116 = .ok (.iconst 2, 1) := by decide +kernel
theorem dX6_passes_117 : decode cX6_passes 117 = .ok (.if_icmp .ne 7, 3) := by decide +kernel
theorem dX6_passes_120 : decode cX6_passes 120 = .ok (.iconst 1, 1) := by decide +kernel
theorem dX6_passes_121 : decode cX6_passes 121 = .ok (.goto 4, 3) := by decide +kernel
theorem dX6_passes_124 : decode cX6_passes 124 = .ok (.iconst 0, 1) := by decide +kernel
theorem dX6_passes_125 : decode cX6_passes 125 = .ok (.iadd, 1) := by decide +kernel
theorem dX6_passes_126 : decode cX6_passes 126 = .ok (.invokevirtual 75, 3) := by decide +kernel
theorem dX6_passes_129 : decode cX6_passes 129 = .ok (.iinc 1 1, 3) := by decide +kernel
theorem dX6_passes_132 : decode cX6_passes 132 = .ok (.goto (-42), 3) := by decide +kernel
theorem dX6_passes_135 : decode cX6_passes 135 = .ok (.aload_n 0, 1) := by decide +kernel
theorem dX6_passes_136 : decode cX6_passes 136 = .ok (.getfield 7, 3) := by decide +kernel
theorem dX6_passes_139 : decode cX6_passes 139 = .ok (.iconst 4, 1) := by decide +kernel
theorem dX6_passes_140 : decode cX6_passes 140 = .ok (.iaload, 1) := by decide +kernel
theorem dX6_passes_141 : decode cX6_passes 141 = .ok (.sipush 360, 3) := by decide +kernel
theorem dX6_passes_144 : decode cX6_passes 144 = .ok (.irem, 1) := by decide +kernel
theorem dX6_passes_145 : decode cX6_passes 145 = .ok (.istore_n 1, 1) := by decide +kernel
theorem dX6_passes_146 : decode cX6_passes 146 = .ok (.iload_n 1, 1) := by decide +kernel
theorem dX6_passes_147 : decode cX6_passes 147 = .ok (.aload_n 0, 1) := by decide +kernel
theorem dX6_passes_148 : decode cX6_passes 148 = .ok (.getfield 7, 3) := by decide +kernel
theorem dX6_passes_151 : decode cX6_passes 151 = .ok (.iconst 2, 1) := by decide +kernel
theorem dX6_passes_152 : decode cX6_passes 152 = .ok (.iaload, 1) := by decide +kernel
theorem dX6_passes_153 : decode cX6_passes 153 = .ok (.if_icmp .ne 18, 3) := by decide +kernel
theorem dX6_passes_156 : decode cX6_passes 156 = .ok (.aload_n 0, 1) := by decide +kernel
theorem dX6_passes_157 : decode cX6_passes 157 = .ok (.getfield 7, 3) := by decide +kernel
theorem dX6_passes_160 : decode cX6_passes 160 = .ok (.iconst 5, 1) := by decide +kernel
theorem dX6_passes_161 : decode cX6_passes 161 = .ok (.iaload, 1) := by decide +kernel
theorem dX6_passes_162 : decode cX6_passes 162 = .ok (.ifCond .ne 9, 3) := by decide +kernel
theorem dX6_passes_165 : decode cX6_passes 165 = .ok (.aload_n 0, 1) := by decide +kernel
theorem dX6_passes_166 : decode cX6_passes 166 = .ok (.invokevirtual 109, 3) := by decide +kernel
theorem dX6_passes_169 : decode cX6_passes 169 = .ok (.iconst 1, 1) := by decide +kernel
theorem dX6_passes_170 : decode cX6_passes 170 = .ok (.ireturn, 1) := by decide +kernel
theorem dX6_passes_171 : decode cX6_passes 171 = .ok (.iload_n 1, 1) := by decide +kernel
theorem dX6_passes_172 : decode cX6_passes 172 = .ok (.aload_n 0, 1) := by decide +kernel
theorem dX6_passes_173 : decode cX6_passes 173 = .ok (.getfield 7, 3) := by decide +kernel
theorem dX6_passes_176 : decode cX6_passes 176 = .ok (.iconst 3, 1) := by decide +kernel
theorem dX6_passes_177 : decode cX6_passes 177 = .ok (.iaload, 1) := by decide +kernel
theorem dX6_passes_178 : decode cX6_passes 178 = .ok (.if_icmp .ne 19, 3) := by decide +kernel
theorem dX6_passes_181 : decode cX6_passes 181 = .ok (.aload_n 0, 1) := by decide +kernel
theorem dX6_passes_182 : decode cX6_passes 182 = .ok (.getfield 7, 3) := by decide +kernel
theorem dX6_passes_185 : decode cX6_passes 185 = .ok (.iconst 5, 1) := by decide +kernel
theorem dX6_passes_186 : decode cX6_passes 186 = .ok (.iaload, 1) := by decide +kernel
theorem dX6_passes_187 : decode cX6_passes 187 = .ok (.iconst 1, 1) := by decide +kernel
theorem dX6_passes_188 : decode cX6_passes 188 = .ok (.if_icmp .ne 9, 3) := by decide +kernel
theorem dX6_passes_191 : decode cX6_passes 191 = .ok (.aload_n 0, 1) := by decide +kernel
theorem dX6_passes_192 : decode cX6_passes 192 = .ok (.invokevirtual 112, 3) := by decide +kernel
theorem dX6_passes_195 : decode cX6_passes 195 = .ok (.iconst 1, 1) := by decide +kernel
theorem dX6_passes_196 : decode cX6_passes 196 = .ok (.ireturn, 1) := by decide +kernel
theorem dX6_passes_197 : decode cX6_passes 197 = .ok (.iconst 0, 1) := by decide +kernel
theorem dX6_passes_198 : decode cX6_passes 198 = .ok (.ireturn, 1) := by decide +kernel
theorem dX6_next_0 : decode cX6_next 0 = .ok (.aload_n 0, 1) := by decide +kernel
theorem dX6_next_1 : decode cX6_next 1 = .ok (.getfield 115, 3) := by decide +kernel
theorem dX6_next_4 : decode cX6_next 4 = .ok (.aload_n 0, 1) := by decide +kernel
theorem dX6_next_5 : decode cX6_next 5 = .ok (.getfield 118, 3) := by decide +kernel
theorem dX6_next_8 : decode cX6_next 8 = .ok (.if_icmp .ge 15, 3) := by decide +kernel
theorem dX6_next_11 : decode cX6_next 11 = .ok (.aload_n 0, 1) := by decide +kernel
theorem dX6_next_12 : decode cX6_next 12 = .ok (.getfield 19, 3) := by decide +kernel
theorem dX6_next_15 : decode cX6_next 15 = .ok (.aload_n 0, 1) := by decide +kernel
theorem dX6_next_16 : decode cX6_next 16 = .ok (.getfield 115, 3) := by decide +kernel
theorem dX6_next_19 : decode cX6_next 19 = .ok (.iaload, 1) := by decide +kernel
theorem dX6_next_20 : decode cX6_next 20 = .ok (.goto 4, 3) := by decide +kernel
theorem dX6_next_23 : decode cX6_next 23 = .ok (.iconst 0, 1) := by decide +kernel
theorem dX6_next_24 : decode cX6_next 24 = .ok (.ireturn, 1) := by decide +kernel
theorem dX6_takes_0 : decode cX6_takes 0 = .ok (.aload_n 0, 1) := by decide +kernel
theorem dX6_takes_1 : decode cX6_takes 1 = .ok (.getfield 121, 3) := by decide +kernel
theorem dX6_takes_4 : decode cX6_takes 4 = .ok (.iconst (-1), 1) := by decide +kernel
theorem dX6_takes_5 : decode cX6_takes 5 = .ok (.if_icmp .ne 15, 3) := by decide +kernel
theorem dX6_takes_8 : decode cX6_takes 8 = .ok (.aload_n 0, 1) := by decide +kernel
theorem dX6_takes_9 : decode cX6_takes 9 = .ok (.invokevirtual 124, 3) := by decide +kernel
theorem dX6_takes_12 : decode cX6_takes 12 = .ok (.iload_n 1, 1) := by decide +kernel
theorem dX6_takes_13 : decode cX6_takes 13 = .ok (.iload_n 2, 1) := by decide +kernel
theorem dX6_takes_14 : decode cX6_takes 14 = .ok (.invokestatic 46, 3) := by decide +kernel
theorem dX6_takes_17 : decode cX6_takes 17 = .ok (.ifCond .ne 28, 3) := by decide +kernel
theorem dX6_takes_20 : decode cX6_takes 20 = .ok (.aload_n 0, 1) := by decide +kernel
theorem dX6_takes_21 : decode cX6_takes 21 = .ok (.aload_n 0, 1) := by decide +kernel
theorem dX6_takes_22 : decode cX6_takes 22 = .ok (.getfield 121, 3) := by decide +kernel
theorem dX6_takes_25 : decode cX6_takes 25 = .ok (.iconst (-1), 1) := by decide +kernel
theorem dX6_takes_26 : decode cX6_takes 26 = .ok (.if_icmp .ne 10, 3) := by decide +kernel
theorem dX6_takes_29 : decode cX6_takes 29 = .ok (.aload_n 0, 1) := by decide +kernel
theorem dX6_takes_30 : decode cX6_takes 30 = .ok (.getfield 115, 3) := by decide +kernel
theorem dX6_takes_33 : decode cX6_takes 33 = .ok (.goto 7, 3) := by decide +kernel
theorem dX6_takes_36 : decode cX6_takes 36 = .ok (.aload_n 0, 1) := by decide +kernel
theorem dX6_takes_37 : decode cX6_takes 37 = .ok (.getfield 121, 3) := by decide +kernel
theorem dX6_takes_40 : decode cX6_takes 40 = .ok (.putfield 121, 3) := by decide +kernel
theorem dX6_takes_43 : decode cX6_takes 43 = .ok (.iload_n 1, 1) := by decide +kernel
theorem dX6_takes_44 : decode cX6_takes 44 = .ok (.ireturn, 1) := by decide +kernel
theorem dX6_takes_45 : decode cX6_takes 45 = .ok (.aload_n 0, 1) := by decide +kernel
theorem dX6_takes_46 : decode cX6_takes 46 = .ok (.dup, 1) := by decide +kernel
theorem dX6_takes_47 : decode cX6_takes 47 = .ok (.getfield 115, 3) := by decide +kernel
theorem dX6_takes_50 : decode cX6_takes 50 = .ok (.iconst 1, 1) := by decide +kernel
theorem dX6_takes_51 : decode cX6_takes 51 = .ok (.iadd, 1) := by decide +kernel
theorem dX6_takes_52 : decode cX6_takes 52 = .ok (.putfield 115, 3) := by decide +kernel
theorem dX6_takes_55 : decode cX6_takes 55 = .ok (.aload_n 0, 1) := by decide +kernel
theorem dX6_takes_56 : decode cX6_takes 56 = .ok (.getfield 19, 3) := by decide +kernel
theorem dX6_takes_59 : decode cX6_takes 59 = .ok (.aload_n 0, 1) := by decide +kernel
theorem dX6_takes_60 : decode cX6_takes 60 = .ok (.getfield 115, 3) := by decide +kernel
theorem dX6_takes_63 : decode cX6_takes 63 = .ok (.iconst 1, 1) := by decide +kernel
theorem dX6_takes_64 : decode cX6_takes 64 = .ok (.isub, 1) := by decide +kernel
theorem dX6_takes_65 : decode cX6_takes 65 = .ok (.iaload, 1) := by decide +kernel
theorem dX6_takes_66 : decode cX6_takes 66 = .ok (.ireturn, 1) := by decide +kernel
theorem dX6_readsNumber_0 : decode cX6_readsNumber 0 = .ok (.aload_n 0, 1) := by decide +kernel
theorem dX6_readsNumber_1 : decode cX6_readsNumber 1 = .ok (.getfield 115, 3) := by decide +kernel
theorem dX6_readsNumber_4 : decode cX6_readsNumber 4 = .ok (.istore_n 1, 1) := by decide +kernel
theorem dX6_readsNumber_5 : decode cX6_readsNumber 5 = .ok (.aload_n 0, 1) := by decide +kernel
theorem dX6_readsNumber_6 : decode cX6_readsNumber 6 = .ok (.invokevirtual 124, 3) := by decide +kernel
theorem dX6_readsNumber_9 : decode cX6_readsNumber 9 = .ok (.bipush 45, 2) := by decide +kernel
theorem dX6_readsNumber_11 : decode cX6_readsNumber 11 = .ok (.if_icmp .ne 7, 3) := by decide +kernel
theorem dX6_readsNumber_14 : decode cX6_readsNumber 14 = .ok (.iconst 1, 1) := by decide +kernel
theorem dX6_readsNumber_15 : decode cX6_readsNumber 15 = .ok (.goto 4, 3) := by decide +kernel
theorem dX6_readsNumber_18 : decode cX6_readsNumber 18 = .ok (.iconst 0, 1) := by decide +kernel
theorem dX6_readsNumber_19 : decode cX6_readsNumber 19 = .ok (.istore_n 2, 1) := by decide +kernel
theorem dX6_readsNumber_20 : decode cX6_readsNumber 20 = .ok (.aload_n 0, 1) := by decide +kernel
theorem dX6_readsNumber_21 : decode cX6_readsNumber 21 = .ok (.dup, 1) := by decide +kernel
theorem dX6_readsNumber_22 : decode cX6_readsNumber 22 = .ok (.getfield 115, 3) := by decide +kernel
theorem dX6_readsNumber_25 : decode cX6_readsNumber 25 = .ok (.iload_n 2, 1) := by decide +kernel
theorem dX6_readsNumber_26 : decode cX6_readsNumber 26 = .ok (.ifCond .eq 7, 3) := by decide +kernel
theorem dX6_readsNumber_29 : decode cX6_readsNumber 29 = .ok (.iconst 1, 1) := by decide +kernel
theorem dX6_readsNumber_30 : decode cX6_readsNumber 30 = .ok (.goto 4, 3) := by decide +kernel
theorem dX6_readsNumber_33 : decode cX6_readsNumber 33 = .ok (.iconst 0, 1) := by decide +kernel
theorem dX6_readsNumber_34 : decode cX6_readsNumber 34 = .ok (.iadd, 1) := by decide +kernel
theorem dX6_readsNumber_35 : decode cX6_readsNumber 35 = .ok (.putfield 115, 3) := by decide +kernel
theorem dX6_readsNumber_38 : decode cX6_readsNumber 38 = .ok (.aload_n 0, 1) := by decide +kernel
theorem dX6_readsNumber_39 : decode cX6_readsNumber 39 = .ok (.bipush 48, 2) := by decide +kernel
theorem dX6_readsNumber_41 : decode cX6_readsNumber 41 = .ok (.bipush 57, 2) := by decide +kernel
theorem dX6_readsNumber_43 : decode cX6_readsNumber 43 = .ok (.invokevirtual 127, 3) := by decide +kernel
theorem dX6_readsNumber_46 : decode cX6_readsNumber 46 = .ok (.bipush 48, 2) := by decide +kernel
theorem dX6_readsNumber_48 : decode cX6_readsNumber 48 = .ok (.isub, 1) := by decide +kernel
theorem dX6_readsNumber_49 : decode cX6_readsNumber 49 = .ok (.istore_n 3, 1) := by decide +kernel
theorem dX6_readsNumber_50 : decode cX6_readsNumber 50 = .ok (.iconst 1, 1) := by decide +kernel
theorem dX6_readsNumber_51 : decode cX6_readsNumber 51 = .ok (.istore 4, 2) := by decide +kernel
theorem dX6_readsNumber_53 : decode cX6_readsNumber 53 = .ok (.iload 4, 2) := by decide +kernel
theorem dX6_readsNumber_55 : decode cX6_readsNumber 55 = .ok (.iconst 3, 1) := by decide +kernel
theorem dX6_readsNumber_56 : decode cX6_readsNumber 56 = .ok (.if_icmp .ge 48, 3) := by decide +kernel
theorem dX6_readsNumber_59 : decode cX6_readsNumber 59 = .ok (.aload_n 0, 1) := by decide +kernel
theorem dX6_readsNumber_60 : decode cX6_readsNumber 60 = .ok (.getfield 121, 3) := by decide +kernel
theorem dX6_readsNumber_63 : decode cX6_readsNumber 63 = .ok (.iconst (-1), 1) := by decide +kernel
theorem dX6_readsNumber_64 : decode cX6_readsNumber 64 = .ok (.if_icmp .ne 40, 3) := by decide +kernel
theorem dX6_readsNumber_67 : decode cX6_readsNumber 67 = .ok (.aload_n 0, 1) := by decide +kernel
theorem dX6_readsNumber_68 : decode cX6_readsNumber 68 = .ok (.invokevirtual 124, 3) := by decide +kernel
theorem dX6_readsNumber_71 : decode cX6_readsNumber 71 = .ok (.bipush 48, 2) := by decide +kernel
theorem dX6_readsNumber_73 : decode cX6_readsNumber 73 = .ok (.bipush 57, 2) := by decide +kernel
theorem dX6_readsNumber_75 : decode cX6_readsNumber 75 = .ok (.invokestatic 46, 3) := by decide +kernel
theorem dX6_readsNumber_78 : decode cX6_readsNumber 78 = .ok (.ifCond .eq 26, 3) := by decide +kernel
theorem dX6_readsNumber_81 : decode cX6_readsNumber 81 = .ok (.bipush 10, 2) := by decide +kernel
theorem dX6_readsNumber_83 : decode cX6_readsNumber 83 = .ok (.iload_n 3, 1) := by decide +kernel
theorem dX6_readsNumber_84 : decode cX6_readsNumber 84 = .ok (.imul, 1) := by decide +kernel
theorem dX6_readsNumber_85 : decode cX6_readsNumber 85 = .ok (.aload_n 0, 1) := by decide +kernel
theorem dX6_readsNumber_86 : decode cX6_readsNumber 86 = .ok (.bipush 48, 2) := by decide +kernel
theorem dX6_readsNumber_88 : decode cX6_readsNumber 88 = .ok (.bipush 57, 2) := by decide +kernel
theorem dX6_readsNumber_90 : decode cX6_readsNumber 90 = .ok (.invokevirtual 127, 3) := by decide +kernel
theorem dX6_readsNumber_93 : decode cX6_readsNumber 93 = .ok (.iadd, 1) := by decide +kernel
theorem dX6_readsNumber_94 : decode cX6_readsNumber 94 = .ok (.bipush 48, 2) := by decide +kernel
theorem dX6_readsNumber_96 : decode cX6_readsNumber 96 = .ok (.isub, 1) := by decide +kernel
theorem dX6_readsNumber_97 : decode cX6_readsNumber 97 = .ok (.istore_n 3, 1) := by decide +kernel
theorem dX6_readsNumber_98 : decode cX6_readsNumber 98 = .ok (.iinc 4 1, 3) := by decide +kernel
theorem dX6_readsNumber_101 : decode cX6_readsNumber 101 = .ok (.goto (-48), 3) := by decide +kernel
theorem dX6_readsNumber_104 : decode cX6_readsNumber 104 = .ok (.aload_n 0, 1) := by decide +kernel
theorem dX6_readsNumber_105 : decode cX6_readsNumber 105 = .ok (.iload_n 3, 1) := by decide +kernel
theorem dX6_readsNumber_106 : decode cX6_readsNumber 106 = .ok (.sipush 300, 3) := by decide +kernel
theorem dX6_readsNumber_109 : decode cX6_readsNumber 109 = .ok (.if_icmp .le 15, 3) := by decide +kernel
theorem dX6_readsNumber_112 : decode cX6_readsNumber 112 = .ok (.aload_n 0, 1) := by decide +kernel
theorem dX6_readsNumber_113 : decode cX6_readsNumber 113 = .ok (.getfield 130, 3) := by decide +kernel
theorem dX6_readsNumber_116 : decode cX6_readsNumber 116 = .ok (.iconst (-1), 1) := by decide +kernel
theorem dX6_readsNumber_117 : decode cX6_readsNumber 117 = .ok (.if_icmp .ne 7, 3) := by decide +kernel
theorem dX6_readsNumber_120 : decode cX6_readsNumber 120 = .ok (.iload_n 1, 1) := by decide +kernel
theorem dX6_readsNumber_121 : decode cX6_readsNumber 121 = .ok (.goto 7, 3) := by decide +kernel
theorem dX6_readsNumber_124 : decode cX6_readsNumber 124 = .ok (.aload_n 0, 1) := by decide +kernel
theorem dX6_readsNumber_125 : decode cX6_readsNumber 125 = .ok (.getfield 130, 3) := by decide +kernel
theorem dX6_readsNumber_128 : decode cX6_readsNumber 128 = .ok (.putfield 130, 3) := by decide +kernel
theorem dX6_readsNumber_131 : decode cX6_readsNumber 131 = .ok (.aload_n 0, 1) := by decide +kernel
theorem dX6_readsNumber_132 : decode cX6_readsNumber 132 = .ok (.getfield 32, 3) := by decide +kernel
theorem dX6_readsNumber_135 : decode cX6_readsNumber 135 = .ok (.aload_n 0, 1) := by decide +kernel
theorem dX6_readsNumber_136 : decode cX6_readsNumber 136 = .ok (.getfield 133, 3) := by decide +kernel
theorem dX6_readsNumber_139 : decode cX6_readsNumber 139 = .ok (.iload_n 2, 1) := by decide +kernel
theorem dX6_readsNumber_140 : decode cX6_readsNumber 140 = .ok (.ifCond .eq 8, 3) := by decide +kernel
theorem dX6_readsNumber_143 : decode cX6_readsNumber 143 = .ok (.iload_n 3, 1) := by decide +kernel
theorem dX6_readsNumber_144 : decode cX6_readsNumber 144 = .ok (.ineg, 1) := by decide +kernel
theorem dX6_readsNumber_145 : decode cX6_readsNumber 145 = .ok (.goto 4, 3) := by decide +kernel
theorem dX6_readsNumber_148 : decode cX6_readsNumber 148 = .ok (.iload_n 3, 1) := by decide +kernel
theorem dX6_readsNumber_149 : decode cX6_readsNumber 149 = .ok (.iastore, 1) := by decide +kernel
theorem dX6_readsNumber_150 : decode cX6_readsNumber 150 = .ok (.aload_n 0, 1) := by decide +kernel
theorem dX6_readsNumber_151 : decode cX6_readsNumber 151 = .ok (.dup, 1) := by decide +kernel
theorem dX6_readsNumber_152 : decode cX6_readsNumber 152 = .ok (.getfield 133, 3) := by decide +kernel
theorem dX6_readsNumber_155 : decode cX6_readsNumber 155 = .ok (.iconst 1, 1) := by decide +kernel
theorem dX6_readsNumber_156 : decode cX6_readsNumber 156 = .ok (.iadd, 1) := by decide +kernel
theorem dX6_readsNumber_157 : decode cX6_readsNumber 157 = .ok (.putfield 133, 3) := by decide +kernel
theorem dX6_readsNumber_160 : decode cX6_readsNumber 160 = .ok (.return_, 1) := by decide +kernel
theorem dX6_reads_0 : decode cX6_reads 0 = .ok (.aload_n 0, 1) := by decide +kernel
theorem dX6_reads_1 : decode cX6_reads 1 = .ok (.iconst 0, 1) := by decide +kernel
theorem dX6_reads_2 : decode cX6_reads 2 = .ok (.putfield 115, 3) := by decide +kernel
theorem dX6_reads_5 : decode cX6_reads 5 = .ok (.aload_n 0, 1) := by decide +kernel
theorem dX6_reads_6 : decode cX6_reads 6 = .ok (.iconst (-1), 1) := by decide +kernel
theorem dX6_reads_7 : decode cX6_reads 7 = .ok (.putfield 121, 3) := by decide +kernel
theorem dX6_reads_10 : decode cX6_reads 10 = .ok (.aload_n 0, 1) := by decide +kernel
theorem dX6_reads_11 : decode cX6_reads 11 = .ok (.iconst (-1), 1) := by decide +kernel
theorem dX6_reads_12 : decode cX6_reads 12 = .ok (.putfield 130, 3) := by decide +kernel
theorem dX6_reads_15 : decode cX6_reads 15 = .ok (.aload_n 0, 1) := by decide +kernel
theorem dX6_reads_16 : decode cX6_reads 16 = .ok (.iconst 0, 1) := by decide +kernel
theorem dX6_reads_17 : decode cX6_reads 17 = .ok (.putfield 133, 3) := by decide +kernel
theorem dX6_reads_20 : decode cX6_reads 20 = .ok (.aload_n 0, 1) := by decide +kernel
theorem dX6_reads_21 : decode cX6_reads 21 = .ok (.invokevirtual 136, 3) := by decide +kernel
theorem dX6_reads_24 : decode cX6_reads 24 = .ok (.aload_n 0, 1) := by decide +kernel
theorem dX6_reads_25 : decode cX6_reads 25 = .ok (.getfield 121, 3) := by decide +kernel
theorem dX6_reads_28 : decode cX6_reads 28 = .ok (.iconst (-1), 1) := by decide +kernel
theorem dX6_reads_29 : decode cX6_reads 29 = .ok (.if_icmp .ne 58, 3) := by decide +kernel
theorem dX6_reads_32 : decode cX6_reads 32 = .ok (.aload_n 0, 1) := by decide +kernel
theorem dX6_reads_33 : decode cX6_reads 33 = .ok (.getfield 115, 3) := by decide +kernel
theorem dX6_reads_36 : decode cX6_reads 36 = .ok (.aload_n 0, 1) := by decide +kernel
theorem dX6_reads_37 : decode cX6_reads 37 = .ok (.getfield 118, 3) := by decide +kernel
theorem dX6_reads_40 : decode cX6_reads 40 = .ok (.if_icmp .ge 47, 3) := by decide +kernel
theorem dX6_reads_43 : decode cX6_reads 43 = .ok (.aload_n 0, 1) := by decide +kernel
theorem dX6_reads_44 : decode cX6_reads 44 = .ok (.getfield 133, 3) := by decide +kernel
theorem dX6_reads_47 : decode cX6_reads 47 = .ok (.bipush 14, 2) := by decide +kernel
theorem dX6_reads_49 : decode cX6_reads 49 = .ok (.if_icmp .ne 14, 3) := by decide +kernel
theorem dX6_reads_52 : decode cX6_reads 52 = .ok (.aload_n 0, 1) := by decide +kernel
theorem dX6_reads_53 : decode cX6_reads 53 = .ok (.aload_n 0, 1) := by decide +kernel
theorem dX6_reads_54 : decode cX6_reads 54 = .ok (.getfield 115, 3) := by decide +kernel
theorem dX6_reads_57 : decode cX6_reads 57 = .ok (.putfield 121, 3) := by decide +kernel
theorem dX6_reads_60 : decode cX6_reads 60 = .ok (.goto (-36), 3) := by decide +kernel
theorem dX6_reads_63 : decode cX6_reads 63 = .ok (.aload_n 0, 1) := by decide +kernel
theorem dX6_reads_64 : decode cX6_reads 64 = .ok (.bipush 44, 2) := by decide +kernel
theorem dX6_reads_66 : decode cX6_reads 66 = .ok (.bipush 44, 2) := by decide +kernel
theorem dX6_reads_68 : decode cX6_reads 68 = .ok (.invokevirtual 127, 3) := by decide +kernel
theorem dX6_reads_71 : decode cX6_reads 71 = .ok (.istore_n 1, 1) := by decide +kernel
theorem dX6_reads_72 : decode cX6_reads 72 = .ok (.aload_n 0, 1) := by decide +kernel
theorem dX6_reads_73 : decode cX6_reads 73 = .ok (.getfield 121, 3) := by decide +kernel
theorem dX6_reads_76 : decode cX6_reads 76 = .ok (.iconst (-1), 1) := by decide +kernel
theorem dX6_reads_77 : decode cX6_reads 77 = .ok (.if_icmp .ne 7, 3) := by decide +kernel
theorem dX6_reads_80 : decode cX6_reads 80 = .ok (.aload_n 0, 1) := by decide +kernel
theorem dX6_reads_81 : decode cX6_reads 81 = .ok (.invokevirtual 136, 3) := by decide +kernel
theorem dX6_reads_84 : decode cX6_reads 84 = .ok (.goto (-60), 3) := by decide +kernel
theorem dX6_reads_87 : decode cX6_reads 87 = .ok (.aload_n 0, 1) := by decide +kernel
theorem dX6_reads_88 : decode cX6_reads 88 = .ok (.getfield 121, 3) := by decide +kernel
theorem dX6_reads_91 : decode cX6_reads 91 = .ok (.iconst (-1), 1) := by decide +kernel
theorem dX6_reads_92 : decode cX6_reads 92 = .ok (.if_icmp .eq 10, 3) := by decide +kernel
theorem dX6_reads_95 : decode cX6_reads 95 = .ok (.aload_n 0, 1) := by decide +kernel
theorem dX6_reads_96 : decode cX6_reads 96 = .ok (.getfield 121, 3) := by decide +kernel
theorem dX6_reads_99 : decode cX6_reads 99 = .ok (.goto 7, 3) := by decide +kernel
theorem dX6_reads_102 : decode cX6_reads 102 = .ok (.aload_n 0, 1) := by decide +kernel
theorem dX6_reads_103 : decode cX6_reads 103 = .ok (.getfield 130, 3) := by decide +kernel
theorem dX6_reads_106 : decode cX6_reads 106 = .ok (.ireturn, 1) := by decide +kernel
theorem dX6_setTable_0 : decode cX6_setTable 0 = .ok (.aload_n 0, 1) := by decide +kernel
theorem dX6_setTable_1 : decode cX6_setTable 1 = .ok (.aload_n 0, 1) := by decide +kernel
theorem dX6_setTable_2 : decode cX6_setTable 2 = .ok (.invokevirtual 139, 3) := by decide +kernel
theorem dX6_setTable_5 : decode cX6_setTable 5 = .ok (.iconst (-1), 1) := by decide +kernel
theorem dX6_setTable_6 : decode cX6_setTable 6 = .ok (.if_icmp .ne 7, 3) := by decide +kernel
theorem dX6_setTable_9 : decode cX6_setTable 9 = .ok (.iconst 0, 1) := by decide +kernel
theorem dX6_setTable_10 : decode cX6_setTable 10 = .ok (.goto 4, 3) := by decide +kernel
theorem dX6_setTable_13 : decode cX6_setTable 13 = .ok (.iconst 1, 1) := by decide +kernel
theorem dX6_setTable_14 : decode cX6_setTable 14 = .ok (.invokevirtual 42, 3) := by decide +kernel
theorem dX6_setTable_17 : decode cX6_setTable 17 = .ok (.ifCond .eq 5, 3) := by decide +kernel
theorem dX6_setTable_20 : decode cX6_setTable 20 = .ok (.iconst 0, 1) := by decide +kernel
theorem dX6_setTable_21 : decode cX6_setTable 21 = .ok (.ireturn, 1) := by decide +kernel
theorem dX6_setTable_22 : decode cX6_setTable 22 = .ok (.aload_n 0, 1) := by decide +kernel
theorem dX6_setTable_23 : decode cX6_setTable 23 = .ok (.invokevirtual 142, 3) := by decide +kernel
theorem dX6_setTable_26 : decode cX6_setTable 26 = .ok (.aload_n 0, 1) := by decide +kernel
theorem dX6_setTable_27 : decode cX6_setTable 27 = .ok (.getfield 7, 3) := by decide +kernel
theorem dX6_setTable_30 : decode cX6_setTable 30 = .ok (.bipush 8, 2) := by decide +kernel
theorem dX6_setTable_32 : decode cX6_setTable 32 = .ok (.aload_n 0, 1) := by decide +kernel
theorem dX6_setTable_33 : decode cX6_setTable 33 = .ok (.getfield 133, 3) := by decide +kernel
theorem dX6_setTable_36 : decode cX6_setTable 36 = .ok (.iastore, 1) := by decide +kernel
theorem dX6_setTable_37 : decode cX6_setTable 37 = .ok (.iconst 0, 1) := by decide +kernel
theorem dX6_setTable_38 : decode cX6_setTable 38 = .ok (.istore_n 1, 1) := by decide +kernel
theorem dX6_setTable_39 : decode cX6_setTable 39 = .ok (.iload_n 1, 1) := by decide +kernel
theorem dX6_setTable_40 : decode cX6_setTable 40 = .ok (.bipush 14, 2) := by decide +kernel
theorem dX6_setTable_42 : decode cX6_setTable 42 = .ok (.if_icmp .ge 36, 3) := by decide +kernel
theorem dX6_setTable_45 : decode cX6_setTable 45 = .ok (.aload_n 0, 1) := by decide +kernel
theorem dX6_setTable_46 : decode cX6_setTable 46 = .ok (.getfield 7, 3) := by decide +kernel
theorem dX6_setTable_49 : decode cX6_setTable 49 = .ok (.bipush 12, 2) := by decide +kernel
theorem dX6_setTable_51 : decode cX6_setTable 51 = .ok (.iload_n 1, 1) := by decide +kernel
theorem dX6_setTable_52 : decode cX6_setTable 52 = .ok (.iadd, 1) := by decide +kernel
theorem dX6_setTable_53 : decode cX6_setTable 53 = .ok (.iload_n 1, 1) := by decide +kernel
theorem dX6_setTable_54 : decode cX6_setTable 54 = .ok (.aload_n 0, 1) := by decide +kernel
theorem dX6_setTable_55 : decode cX6_setTable 55 = .ok (.getfield 133, 3) := by decide +kernel
theorem dX6_setTable_58 : decode cX6_setTable 58 = .ok (.if_icmp .ge 12, 3) := by decide +kernel
theorem dX6_setTable_61 : decode cX6_setTable 61 = .ok (.aload_n 0, 1) := by decide +kernel
theorem dX6_setTable_62 : decode cX6_setTable 62 = .ok (.getfield 32, 3) := by decide +kernel
theorem dX6_setTable_65 : decode cX6_setTable 65 = .ok (.iload_n 1, 1) := by decide +kernel
theorem dX6_setTable_66 : decode cX6_setTable 66 = .ok (.iaload, 1) := by decide +kernel
theorem dX6_setTable_67 : decode cX6_setTable 67 = .ok (.goto 4, 3) := by decide +kernel
theorem dX6_setTable_70 : decode cX6_setTable 70 = .ok (.iconst 0, 1) := by decide +kernel
theorem dX6_setTable_71 : decode cX6_setTable 71 = .ok (.iastore, 1) := by decide +kernel
theorem dX6_setTable_72 : decode cX6_setTable 72 = .ok (.iinc 1 1, 3) := by decide +kernel
theorem dX6_setTable_75 : decode cX6_setTable 75 = .ok (.goto (-36), 3) := by decide +kernel
theorem dX6_setTable_78 : decode cX6_setTable 78 = .ok (.aload_n 0, 1) := by decide +kernel
theorem dX6_setTable_79 : decode cX6_setTable 79 = .ok (.getfield 133, 3) := by decide +kernel
theorem dX6_setTable_82 : decode cX6_setTable 82 = .ok (.ireturn, 1) := by decide +kernel
theorem dX6_low_0 : decode cX6_low 0 = .ok (.aload_n 0, 1) := by decide +kernel
theorem dX6_low_1 : decode cX6_low 1 = .ok (.iload_n 1, 1) := by decide +kernel
theorem dX6_low_2 : decode cX6_low 2 = .ok (.ifCond .ge 7, 3) := by decide +kernel
theorem dX6_low_5 : decode cX6_low 5 = .ok (.iconst 1, 1) := by decide +kernel
theorem dX6_low_6 : decode cX6_low 6 = .ok (.goto 4, 3) := by decide +kernel
theorem dX6_low_9 : decode cX6_low 9 = .ok (.iconst 0, 1) := by decide +kernel
theorem dX6_low_10 : decode cX6_low 10 = .ok (.invokevirtual 42, 3) := by decide +kernel
theorem dX6_low_13 : decode cX6_low 13 = .ok (.ifCond .eq 7, 3) := by decide +kernel
theorem dX6_low_16 : decode cX6_low 16 = .ok (.iconst 0, 1) := by decide +kernel
theorem dX6_low_17 : decode cX6_low 17 = .ok (.goto 8, 3) := by decide +kernel
theorem dX6_low_20 : decode cX6_low 20 = .ok (.aload_n 0, 1) := by decide +kernel
theorem dX6_low_21 : decode cX6_low 21 = .ok (.iload_n 1, 1) := by decide +kernel
theorem dX6_low_22 : decode cX6_low 22 = .ok (.invokevirtual 72, 3) := by decide +kernel
theorem dX6_low_25 : decode cX6_low 25 = .ok (.ireturn, 1) := by decide +kernel
theorem dX6_isRate_0 : decode cX6_isRate 0 = .ok (.iload_n 0, 1) := by decide +kernel
theorem dX6_isRate_1 : decode cX6_isRate 1 = .ok (.iconst 0, 1) := by decide +kernel
theorem dX6_isRate_2 : decode cX6_isRate 2 = .ok (.ldc 145, 2) := by decide +kernel
theorem dX6_isRate_4 : decode cX6_isRate 4 = .ok (.invokestatic 46, 3) := by decide +kernel
theorem dX6_isRate_7 : decode cX6_isRate 7 = .ok (.ireturn, 1) := by decide +kernel
theorem dX6_addBerth_0 : decode cX6_addBerth 0 = .ok (.iload_n 1, 1) := by decide +kernel
theorem dX6_addBerth_1 : decode cX6_addBerth 1 = .ok (.bipush 50, 2) := by decide +kernel
theorem dX6_addBerth_3 : decode cX6_addBerth 3 = .ok (.sipush 900, 3) := by decide +kernel
theorem dX6_addBerth_6 : decode cX6_addBerth 6 = .ok (.invokestatic 46, 3) := by decide +kernel
theorem dX6_addBerth_9 : decode cX6_addBerth 9 = .ok (.ifCond .eq 27, 3) := by decide +kernel
theorem dX6_addBerth_12 : decode cX6_addBerth 12 = .ok (.iload_n 2, 1) := by decide +kernel
theorem dX6_addBerth_13 : decode cX6_addBerth 13 = .ok (.bipush 30, 2) := by decide +kernel
theorem dX6_addBerth_15 : decode cX6_addBerth 15 = .ok (.sipush 400, 3) := by decide +kernel
theorem dX6_addBerth_18 : decode cX6_addBerth 18 = .ok (.invokestatic 46, 3) := by decide +kernel
theorem dX6_addBerth_21 : decode cX6_addBerth 21 = .ok (.ifCond .eq 15, 3) := by decide +kernel
theorem dX6_addBerth_24 : decode cX6_addBerth 24 = .ok (.iload 4, 2) := by decide +kernel
theorem dX6_addBerth_26 : decode cX6_addBerth 26 = .ok (.invokestatic 146, 3) := by decide +kernel
theorem dX6_addBerth_29 : decode cX6_addBerth 29 = .ok (.ifCond .eq 7, 3) := by decide +kernel
theorem dX6_addBerth_32 : decode cX6_addBerth 32 = .ok (.iconst 1, 1) := by decide +kernel
theorem dX6_addBerth_33 : decode cX6_addBerth 33 = .ok (.goto 4, 3) := by decide +kernel
theorem dX6_addBerth_36 : decode cX6_addBerth 36 = .ok (.iconst 0, 1) := by decide +kernel
theorem dX6_addBerth_37 : decode cX6_addBerth 37 = .ok (.istore 5, 2) := by decide +kernel
theorem dX6_addBerth_39 : decode cX6_addBerth 39 = .ok (.aload_n 0, 1) := by decide +kernel
theorem dX6_addBerth_40 : decode cX6_addBerth 40 = .ok (.iload 5, 2) := by decide +kernel
theorem dX6_addBerth_42 : decode cX6_addBerth 42 = .ok (.ifCond .ne 7, 3) := by decide +kernel
theorem dX6_addBerth_45 : decode cX6_addBerth 45 = .ok (.iconst 1, 1) := by decide +kernel
theorem dX6_addBerth_46 : decode cX6_addBerth 46 = .ok (.goto 20, 3) := by decide +kernel
theorem dX6_addBerth_49 : decode cX6_addBerth 49 = .ok (.aload_n 0, 1) := by decide +kernel
theorem dX6_addBerth_50 : decode cX6_addBerth 50 = .ok (.getfield 7, 3) := by decide +kernel
theorem dX6_addBerth_53 : decode cX6_addBerth 53 = .ok (.bipush 6, 2) := by decide +kernel
theorem dX6_addBerth_55 : decode cX6_addBerth 55 = .ok (.iaload, 1) := by decide +kernel
theorem dX6_addBerth_56 : decode cX6_addBerth 56 = .ok (.bipush 16, 2) := by decide +kernel
theorem dX6_addBerth_58 : decode cX6_addBerth 58 = .ok (.if_icmp .ne 7, 3) := by decide +kernel
theorem dX6_addBerth_61 : decode cX6_addBerth 61 = .ok (.iconst 2, 1) := by decide +kernel
theorem dX6_addBerth_62 : decode cX6_addBerth 62 = .ok (.goto 4, 3) := by decide +kernel
theorem dX6_addBerth_65 : decode cX6_addBerth 65 = .ok (.iconst 0, 1) := by decide +kernel
theorem dX6_addBerth_66 : decode cX6_addBerth 66 = .ok (.invokevirtual 42, 3) := by decide +kernel
theorem dX6_addBerth_69 : decode cX6_addBerth 69 = .ok (.ifCond .eq 5, 3) := by decide +kernel
theorem dX6_addBerth_72 : decode cX6_addBerth 72 = .ok (.iconst 0, 1) := by decide +kernel
theorem dX6_addBerth_73 : decode cX6_addBerth 73 = .ok (.ireturn, 1) := by decide +kernel
theorem dX6_addBerth_74 : decode cX6_addBerth 74 = .ok (.aload_n 0, 1) := by decide +kernel
theorem dX6_addBerth_75 : decode cX6_addBerth 75 = .ok (.invokevirtual 142, 3) := by decide +kernel
theorem dX6_addBerth_78 : decode cX6_addBerth 78 = .ok (.bipush 26, 2) := by decide +kernel
theorem dX6_addBerth_80 : decode cX6_addBerth 80 = .ok (.iconst 4, 1) := by decide +kernel
theorem dX6_addBerth_81 : decode cX6_addBerth 81 = .ok (.aload_n 0, 1) := by decide +kernel
theorem dX6_addBerth_82 : decode cX6_addBerth 82 = .ok (.getfield 7, 3) := by decide +kernel
theorem dX6_addBerth_85 : decode cX6_addBerth 85 = .ok (.bipush 6, 2) := by decide +kernel
theorem dX6_addBerth_87 : decode cX6_addBerth 87 = .ok (.iaload, 1) := by decide +kernel
theorem dX6_addBerth_88 : decode cX6_addBerth 88 = .ok (.imul, 1) := by decide +kernel
theorem dX6_addBerth_89 : decode cX6_addBerth 89 = .ok (.iadd, 1) := by decide +kernel
theorem dX6_addBerth_90 : decode cX6_addBerth 90 = .ok (.istore 6, 2) := by decide +kernel
theorem dX6_addBerth_92 : decode cX6_addBerth 92 = .ok (.aload_n 0, 1) := by decide +kernel
theorem dX6_addBerth_93 : decode cX6_addBerth 93 = .ok (.getfield 7, 3) := by decide +kernel
theorem dX6_addBerth_96 : decode cX6_addBerth 96 = .ok (.iload 6, 2) := by decide +kernel
theorem dX6_addBerth_98 : decode cX6_addBerth 98 = .ok (.iload_n 1, 1) := by decide +kernel
theorem dX6_addBerth_99 : decode cX6_addBerth 99 = .ok (.iastore, 1) := by decide +kernel
theorem dX6_addBerth_100 : decode cX6_addBerth 100 = .ok (.aload_n 0, 1) := by decide +kernel
theorem dX6_addBerth_101 : decode cX6_addBerth 101 = .ok (.getfield 7, 3) := by decide +kernel
theorem dX6_addBerth_104 : decode cX6_addBerth 104 = .ok (.iload 6, 2) := by decide +kernel
theorem dX6_addBerth_106 : decode cX6_addBerth 106 = .ok (.iconst 1, 1) := by decide +kernel
theorem dX6_addBerth_107 : decode cX6_addBerth 107 = .ok (.iadd, 1) := by decide +kernel
theorem dX6_addBerth_108 : decode cX6_addBerth 108 = .ok (.iload_n 2, 1) := by decide +kernel
theorem dX6_addBerth_109 : decode cX6_addBerth 109 = .ok (.iastore, 1) := by decide +kernel
theorem dX6_addBerth_110 : decode cX6_addBerth 110 = .ok (.aload_n 0, 1) := by decide +kernel
theorem dX6_addBerth_111 : decode cX6_addBerth 111 = .ok (.getfield 7, 3) := by decide +kernel
theorem dX6_addBerth_114 : decode cX6_addBerth 114 = .ok (.iload 6, 2) := by decide +kernel
theorem dX6_addBerth_116 : decode cX6_addBerth 116 = .ok (.iconst 2, 1) := by decide +kernel
theorem dX6_addBerth_117 : decode cX6_addBerth 117 = .ok (.iadd, 1) := by decide +kernel
theorem dX6_addBerth_118 : decode cX6_addBerth 118 = .ok (.iload_n 3, 1) := by decide +kernel
theorem dX6_addBerth_119 : decode cX6_addBerth 119 = .ok (.ifCond .eq 7, 3) := by decide +kernel
theorem dX6_addBerth_122 : decode cX6_addBerth 122 = .ok (.iconst 1, 1) := by decide +kernel
theorem dX6_addBerth_123 : decode cX6_addBerth 123 = .ok (.goto 4, 3) := by decide +kernel
theorem dX6_addBerth_126 : decode cX6_addBerth 126 = .ok (.iconst 0, 1) := by decide +kernel
theorem dX6_addBerth_127 : decode cX6_addBerth 127 = .ok (.iastore, 1) := by decide +kernel
theorem dX6_addBerth_128 : decode cX6_addBerth 128 = .ok (.aload_n 0, 1) := by decide +kernel
theorem dX6_addBerth_129 : decode cX6_addBerth 129 = .ok (.getfield 7, 3) := by decide +kernel
theorem dX6_addBerth_132 : decode cX6_addBerth 132 = .ok (.iload 6, 2) := by decide +kernel
theorem dX6_addBerth_134 : decode cX6_addBerth 134 = .ok (.iconst 3, 1) := by decide +kernel
theorem dX6_addBerth_135 : decode cX6_addBerth 135 = .ok (.iadd, 1) := by decide +kernel
theorem dX6_addBerth_136 : decode cX6_addBerth 136 = .ok (.iload 4, 2) := by decide +kernel
theorem dX6_addBerth_138 : decode cX6_addBerth 138 = .ok (.iastore, 1) := by decide +kernel
theorem dX6_addBerth_139 : decode cX6_addBerth 139 = .ok (.aload_n 0, 1) := by decide +kernel
theorem dX6_addBerth_140 : decode cX6_addBerth 140 = .ok (.getfield 7, 3) := by decide +kernel
theorem dX6_addBerth_143 : decode cX6_addBerth 143 = .ok (.bipush 6, 2) := by decide +kernel
theorem dX6_addBerth_145 : decode cX6_addBerth 145 = .ok (.dup2, 1) := by decide +kernel
theorem dX6_addBerth_146 : decode cX6_addBerth 146 = .ok (.iaload, 1) := by decide +kernel
theorem dX6_addBerth_147 : decode cX6_addBerth 147 = .ok (.iconst 1, 1) := by decide +kernel
theorem dX6_addBerth_148 : decode cX6_addBerth 148 = .ok (.iadd, 1) := by decide +kernel
theorem dX6_addBerth_149 : decode cX6_addBerth 149 = .ok (.iastore, 1) := by decide +kernel
theorem dX6_addBerth_150 : decode cX6_addBerth 150 = .ok (.aload_n 0, 1) := by decide +kernel
theorem dX6_addBerth_151 : decode cX6_addBerth 151 = .ok (.getfield 7, 3) := by decide +kernel
theorem dX6_addBerth_154 : decode cX6_addBerth 154 = .ok (.bipush 6, 2) := by decide +kernel
theorem dX6_addBerth_156 : decode cX6_addBerth 156 = .ok (.iaload, 1) := by decide +kernel
theorem dX6_addBerth_157 : decode cX6_addBerth 157 = .ok (.iconst 1, 1) := by decide +kernel
theorem dX6_addBerth_158 : decode cX6_addBerth 158 = .ok (.isub, 1) := by decide +kernel
theorem dX6_addBerth_159 : decode cX6_addBerth 159 = .ok (.ireturn, 1) := by decide +kernel
theorem dX6_addBoat_0 : decode cX6_addBoat 0 = .ok (.iload_n 1, 1) := by decide +kernel
theorem dX6_addBoat_1 : decode cX6_addBoat 1 = .ok (.bipush 30, 2) := by decide +kernel
theorem dX6_addBoat_3 : decode cX6_addBoat 3 = .ok (.sipush 400, 3) := by decide +kernel
theorem dX6_addBoat_6 : decode cX6_addBoat 6 = .ok (.invokestatic 46, 3) := by decide +kernel
theorem dX6_addBoat_9 : decode cX6_addBoat 9 = .ok (.ifCond .eq 29, 3) := by decide +kernel
theorem dX6_addBoat_12 : decode cX6_addBoat 12 = .ok (.iload_n 2, 1) := by decide +kernel
theorem dX6_addBoat_13 : decode cX6_addBoat 13 = .ok (.bipush 20, 2) := by decide +kernel
theorem dX6_addBoat_15 : decode cX6_addBoat 15 = .ok (.sipush 500, 3) := by decide +kernel
theorem dX6_addBoat_18 : decode cX6_addBoat 18 = .ok (.invokestatic 46, 3) := by decide +kernel
theorem dX6_addBoat_21 : decode cX6_addBoat 21 = .ok (.ifCond .eq 17, 3) := by decide +kernel
theorem dX6_addBoat_24 : decode cX6_addBoat 24 = .ok (.iload_n 3, 1) := by decide +kernel
theorem dX6_addBoat_25 : decode cX6_addBoat 25 = .ok (.iconst 0, 1) := by decide +kernel
theorem dX6_addBoat_26 : decode cX6_addBoat 26 = .ok (.bipush 99, 2) := by decide +kernel
theorem dX6_addBoat_28 : decode cX6_addBoat 28 = .ok (.invokestatic 46, 3) := by decide +kernel
theorem dX6_addBoat_31 : decode cX6_addBoat 31 = .ok (.ifCond .eq 7, 3) := by decide +kernel
theorem dX6_addBoat_34 : decode cX6_addBoat 34 = .ok (.iconst 1, 1) := by decide +kernel
theorem dX6_addBoat_35 : decode cX6_addBoat 35 = .ok (.goto 4, 3) := by decide +kernel
theorem dX6_addBoat_38 : decode cX6_addBoat 38 = .ok (.iconst 0, 1) := by decide +kernel
theorem dX6_addBoat_39 : decode cX6_addBoat 39 = .ok (.istore 4, 2) := by decide +kernel
theorem dX6_addBoat_41 : decode cX6_addBoat 41 = .ok (.aload_n 0, 1) := by decide +kernel
theorem dX6_addBoat_42 : decode cX6_addBoat 42 = .ok (.iload 4, 2) := by decide +kernel
theorem dX6_addBoat_44 : decode cX6_addBoat 44 = .ok (.ifCond .ne 7, 3) := by decide +kernel
theorem dX6_addBoat_47 : decode cX6_addBoat 47 = .ok (.iconst 1, 1) := by decide +kernel
theorem dX6_addBoat_48 : decode cX6_addBoat 48 = .ok (.goto 20, 3) := by decide +kernel
theorem dX6_addBoat_51 : decode cX6_addBoat 51 = .ok (.aload_n 0, 1) := by decide +kernel
theorem dX6_addBoat_52 : decode cX6_addBoat 52 = .ok (.getfield 7, 3) := by decide +kernel
theorem dX6_addBoat_55 : decode cX6_addBoat 55 = .ok (.bipush 7, 2) := by decide +kernel
theorem dX6_addBoat_57 : decode cX6_addBoat 57 = .ok (.iaload, 1) := by decide +kernel
theorem dX6_addBoat_58 : decode cX6_addBoat 58 = .ok (.bipush 20, 2) := by decide +kernel
theorem dX6_addBoat_60 : decode cX6_addBoat 60 = .ok (.if_icmp .ne 7, 3) := by decide +kernel
theorem dX6_addBoat_63 : decode cX6_addBoat 63 = .ok (.iconst 2, 1) := by decide +kernel
theorem dX6_addBoat_64 : decode cX6_addBoat 64 = .ok (.goto 4, 3) := by decide +kernel
theorem dX6_addBoat_67 : decode cX6_addBoat 67 = .ok (.iconst 0, 1) := by decide +kernel
theorem dX6_addBoat_68 : decode cX6_addBoat 68 = .ok (.invokevirtual 42, 3) := by decide +kernel
theorem dX6_addBoat_71 : decode cX6_addBoat 71 = .ok (.ifCond .eq 5, 3) := by decide +kernel
theorem dX6_addBoat_74 : decode cX6_addBoat 74 = .ok (.iconst 0, 1) := by decide +kernel
theorem dX6_addBoat_75 : decode cX6_addBoat 75 = .ok (.ireturn, 1) := by decide +kernel
theorem dX6_addBoat_76 : decode cX6_addBoat 76 = .ok (.aload_n 0, 1) := by decide +kernel
theorem dX6_addBoat_77 : decode cX6_addBoat 77 = .ok (.invokevirtual 142, 3) := by decide +kernel
theorem dX6_addBoat_80 : decode cX6_addBoat 80 = .ok (.aload_n 0, 1) := by decide +kernel
theorem dX6_addBoat_81 : decode cX6_addBoat 81 = .ok (.getfield 7, 3) := by decide +kernel
theorem dX6_addBoat_84 : decode cX6_addBoat 84 = .ok (.bipush 7, 2) := by decide +kernel
theorem dX6_addBoat_86 : decode cX6_addBoat 86 = .ok (.iaload, 1) := by decide +kernel
theorem dX6_addBoat_87 : decode cX6_addBoat 87 = .ok (.istore 5, 2) := by decide +kernel
theorem dX6_addBoat_89 : decode cX6_addBoat 89 = .ok (.aload_n 0, 1) := by decide +kernel
theorem dX6_addBoat_90 : decode cX6_addBoat 90 = .ok (.getfield 7, 3) := by decide +kernel
theorem dX6_addBoat_93 : decode cX6_addBoat 93 = .ok (.bipush 7, 2) := by decide +kernel
theorem dX6_addBoat_95 : decode cX6_addBoat 95 = .ok (.dup2, 1) := by decide +kernel
theorem dX6_addBoat_96 : decode cX6_addBoat 96 = .ok (.iaload, 1) := by decide +kernel
theorem dX6_addBoat_97 : decode cX6_addBoat 97 = .ok (.iconst 1, 1) := by decide +kernel
theorem dX6_addBoat_98 : decode cX6_addBoat 98 = .ok (.iadd, 1) := by decide +kernel
theorem dX6_addBoat_99 : decode cX6_addBoat 99 = .ok (.iastore, 1) := by decide +kernel
theorem dX6_addBoat_100 : decode cX6_addBoat 100 = .ok (.iconst 0, 1) := by decide +kernel
theorem dX6_addBoat_101 : decode cX6_addBoat 101 = .ok (.istore 6, 2) := by decide +kernel
theorem dX6_addBoat_103 : decode cX6_addBoat 103 = .ok (.iload 6, 2) := by decide +kernel
theorem dX6_addBoat_105 : decode cX6_addBoat 105 = .ok (.bipush 9, 2) := by decide +kernel
theorem dX6_addBoat_107 : decode cX6_addBoat 107 = .ok (.if_icmp .ge 18, 3) := by decide +kernel
theorem dX6_addBoat_110 : decode cX6_addBoat 110 = .ok (.aload_n 0, 1) := by decide +kernel
theorem dX6_addBoat_111 : decode cX6_addBoat 111 = .ok (.iload 5, 2) := by decide +kernel
theorem dX6_addBoat_113 : decode cX6_addBoat 113 = .ok (.iload 6, 2) := by decide +kernel
theorem dX6_addBoat_115 : decode cX6_addBoat 115 = .ok (.iconst 0, 1) := by decide +kernel
theorem dX6_addBoat_116 : decode cX6_addBoat 116 = .ok (.invokevirtual 75, 3) := by decide +kernel
theorem dX6_addBoat_119 : decode cX6_addBoat 119 = .ok (.iinc 6 1, 3) := by decide +kernel
theorem dX6_addBoat_122 : decode cX6_addBoat 122 = .ok (.goto (-19), 3) := by decide +kernel
theorem dX6_addBoat_125 : decode cX6_addBoat 125 = .ok (.aload_n 0, 1) := by decide +kernel
theorem dX6_addBoat_126 : decode cX6_addBoat 126 = .ok (.iload 5, 2) := by decide +kernel
theorem dX6_addBoat_128 : decode cX6_addBoat 128 = .ok (.iconst 0, 1) := by decide +kernel
theorem dX6_addBoat_129 : decode cX6_addBoat 129 = .ok (.iload_n 1, 1) := by decide +kernel
theorem dX6_addBoat_130 : decode cX6_addBoat 130 = .ok (.invokevirtual 75, 3) := by decide +kernel
theorem dX6_addBoat_133 : decode cX6_addBoat 133 = .ok (.aload_n 0, 1) := by decide +kernel
theorem dX6_addBoat_134 : decode cX6_addBoat 134 = .ok (.iload 5, 2) := by decide +kernel
theorem dX6_addBoat_136 : decode cX6_addBoat 136 = .ok (.iconst 1, 1) := by decide +kernel
theorem dX6_addBoat_137 : decode cX6_addBoat 137 = .ok (.iload_n 2, 1) := by decide +kernel
theorem dX6_addBoat_138 : decode cX6_addBoat 138 = .ok (.invokevirtual 75, 3) := by decide +kernel
theorem dX6_addBoat_141 : decode cX6_addBoat 141 = .ok (.aload_n 0, 1) := by decide +kernel
theorem dX6_addBoat_142 : decode cX6_addBoat 142 = .ok (.iload 5, 2) := by decide +kernel
theorem dX6_addBoat_144 : decode cX6_addBoat 144 = .ok (.iconst 2, 1) := by decide +kernel
theorem dX6_addBoat_145 : decode cX6_addBoat 145 = .ok (.iload_n 3, 1) := by decide +kernel
theorem dX6_addBoat_146 : decode cX6_addBoat 146 = .ok (.invokevirtual 75, 3) := by decide +kernel
theorem dX6_addBoat_149 : decode cX6_addBoat 149 = .ok (.aload_n 0, 1) := by decide +kernel
theorem dX6_addBoat_150 : decode cX6_addBoat 150 = .ok (.iload 5, 2) := by decide +kernel
theorem dX6_addBoat_152 : decode cX6_addBoat 152 = .ok (.iconst 4, 1) := by decide +kernel
theorem dX6_addBoat_153 : decode cX6_addBoat 153 = .ok (.iconst (-1), 1) := by decide +kernel
theorem dX6_addBoat_154 : decode cX6_addBoat 154 = .ok (.invokevirtual 75, 3) := by decide +kernel
theorem dX6_addBoat_157 : decode cX6_addBoat 157 = .ok (.aload_n 0, 1) := by decide +kernel
theorem dX6_addBoat_158 : decode cX6_addBoat 158 = .ok (.iload 5, 2) := by decide +kernel
theorem dX6_addBoat_160 : decode cX6_addBoat 160 = .ok (.bipush 7, 2) := by decide +kernel
theorem dX6_addBoat_162 : decode cX6_addBoat 162 = .ok (.iconst (-1), 1) := by decide +kernel
theorem dX6_addBoat_163 : decode cX6_addBoat 163 = .ok (.invokevirtual 75, 3) := by decide +kernel
theorem dX6_addBoat_166 : decode cX6_addBoat 166 = .ok (.iload 5, 2) := by decide +kernel
theorem dX6_addBoat_168 : decode cX6_addBoat 168 = .ok (.ireturn, 1) := by decide +kernel
theorem dX6_canSet_0 : decode cX6_canSet 0 = .ok (.iload_n 1, 1) := by decide +kernel
theorem dX6_canSet_1 : decode cX6_canSet 1 = .ok (.tableswitch 98 0 3 #[31, 39, 44, 71], 31) := by decide +kernel
theorem dX6_canSet_32 : decode cX6_canSet 32 = .ok (.iload_n 2, 1) := by decide +kernel
theorem dX6_canSet_33 : decode cX6_canSet 33 = .ok (.iconst 0, 1) := by decide +kernel
theorem dX6_canSet_34 : decode cX6_canSet 34 = .ok (.bipush 100, 2) := by decide +kernel
theorem dX6_canSet_36 : decode cX6_canSet 36 = .ok (.invokestatic 46, 3) := by decide +kernel
theorem dX6_canSet_39 : decode cX6_canSet 39 = .ok (.ireturn, 1) := by decide +kernel
theorem dX6_canSet_40 : decode cX6_canSet 40 = .ok (.iload_n 2, 1) := by decide +kernel
theorem dX6_canSet_41 : decode cX6_canSet 41 = .ok (.invokestatic 146, 3) := by decide +kernel
theorem dX6_canSet_44 : decode cX6_canSet 44 = .ok (.ireturn, 1) := by decide +kernel
theorem dX6_canSet_45 : decode cX6_canSet 45 = .ok (.iload_n 2, 1) := by decide +kernel
theorem dX6_canSet_46 : decode cX6_canSet 46 = .ok (.iconst 0, 1) := by decide +kernel
theorem dX6_canSet_47 : decode cX6_canSet 47 = .ok (.sipush 359, 3) := by decide +kernel
theorem dX6_canSet_50 : decode cX6_canSet 50 = .ok (.invokestatic 46, 3) := by decide +kernel
theorem dX6_canSet_53 : decode cX6_canSet 53 = .ok (.ifCond .eq 17, 3) := by decide +kernel
theorem dX6_canSet_56 : decode cX6_canSet 56 = .ok (.iload_n 2, 1) := by decide +kernel
theorem dX6_canSet_57 : decode cX6_canSet 57 = .ok (.aload_n 0, 1) := by decide +kernel
theorem dX6_canSet_58 : decode cX6_canSet 58 = .ok (.getfield 7, 3) := by decide +kernel
theorem dX6_canSet_61 : decode cX6_canSet 61 = .ok (.iconst 3, 1) := by decide +kernel
theorem dX6_canSet_62 : decode cX6_canSet 62 = .ok (.iaload, 1) := by decide +kernel
theorem dX6_canSet_63 : decode cX6_canSet 63 = .ok (.if_icmp .eq 7, 3) := by decide +kernel
theorem dX6_canSet_66 : decode cX6_canSet 66 = .ok (.iconst 1, 1) := by decide +kernel
theorem dX6_canSet_67 : decode cX6_canSet 67 = .ok (.goto 4, 3) := by decide +kernel
theorem dX6_canSet_70 : decode cX6_canSet 70 = .ok (.iconst 0, 1) := by decide +kernel
theorem dX6_canSet_71 : decode cX6_canSet 71 = .ok (.ireturn, 1) := by decide +kernel
theorem dX6_canSet_72 : decode cX6_canSet 72 = .ok (.iload_n 2, 1) := by decide +kernel
theorem dX6_canSet_73 : decode cX6_canSet 73 = .ok (.iconst 0, 1) := by decide +kernel
theorem dX6_canSet_74 : decode cX6_canSet 74 = .ok (.sipush 359, 3) := by decide +kernel
theorem dX6_canSet_77 : decode cX6_canSet 77 = .ok (.invokestatic 46, 3) := by decide +kernel
theorem dX6_canSet_80 : decode cX6_canSet 80 = .ok (.ifCond .eq 17, 3) := by decide +kernel
theorem dX6_canSet_83 : decode cX6_canSet 83 = .ok (.iload_n 2, 1) := by decide +kernel
theorem dX6_canSet_84 : decode cX6_canSet 84 = .ok (.aload_n 0, 1) := by decide +kernel
theorem dX6_canSet_85 : decode cX6_canSet 85 = .ok (.getfield 7, 3) := by decide +kernel
theorem dX6_canSet_88 : decode cX6_canSet 88 = .ok (.iconst 2, 1) := by decide +kernel
theorem dX6_canSet_89 : decode cX6_canSet 89 = .ok (.iaload, 1) := by decide +kernel
theorem dX6_canSet_90 : decode cX6_canSet 90 = .ok (.if_icmp .eq 7, 3) := by decide +kernel
theorem dX6_canSet_93 : decode cX6_canSet 93 = .ok (.iconst 1, 1) := by decide +kernel
theorem dX6_canSet_94 : decode cX6_canSet 94 = .ok (.goto 4, 3) := by decide +kernel
theorem dX6_canSet_97 : decode cX6_canSet 97 = .ok (.iconst 0, 1) := by decide +kernel
theorem dX6_canSet_98 : decode cX6_canSet 98 = .ok (.ireturn, 1) := by decide +kernel
theorem dX6_canSet_99 : decode cX6_canSet 99 = .ok (.iconst 0, 1) := by decide +kernel
theorem dX6_canSet_100 : decode cX6_canSet 100 = .ok (.ireturn, 1) := by decide +kernel
theorem dX6_set_0 : decode cX6_set 0 = .ok (.aload_n 0, 1) := by decide +kernel
theorem dX6_set_1 : decode cX6_set 1 = .ok (.aload_n 0, 1) := by decide +kernel
theorem dX6_set_2 : decode cX6_set 2 = .ok (.iload_n 1, 1) := by decide +kernel
theorem dX6_set_3 : decode cX6_set 3 = .ok (.iload_n 2, 1) := by decide +kernel
theorem dX6_set_4 : decode cX6_set 4 = .ok (.invokevirtual 149, 3) := by decide +kernel
theorem dX6_set_7 : decode cX6_set 7 = .ok (.ifCond .eq 7, 3) := by decide +kernel
theorem dX6_set_10 : decode cX6_set 10 = .ok (.iconst 0, 1) := by decide +kernel
theorem dX6_set_11 : decode cX6_set 11 = .ok (.goto 4, 3) := by decide +kernel
theorem dX6_set_14 : decode cX6_set 14 = .ok (.iconst 1, 1) := by decide +kernel
theorem dX6_set_15 : decode cX6_set 15 = .ok (.invokevirtual 42, 3) := by decide +kernel
theorem dX6_set_18 : decode cX6_set 18 = .ok (.ifCond .eq 5, 3) := by decide +kernel
theorem dX6_set_21 : decode cX6_set 21 = .ok (.iconst 0, 1) := by decide +kernel
theorem dX6_set_22 : decode cX6_set 22 = .ok (.ireturn, 1) := by decide +kernel
theorem dX6_set_23 : decode cX6_set 23 = .ok (.aload_n 0, 1) := by decide +kernel
theorem dX6_set_24 : decode cX6_set 24 = .ok (.getfield 7, 3) := by decide +kernel
theorem dX6_set_27 : decode cX6_set 27 = .ok (.iload_n 1, 1) := by decide +kernel
theorem dX6_set_28 : decode cX6_set 28 = .ok (.iaload, 1) := by decide +kernel
theorem dX6_set_29 : decode cX6_set 29 = .ok (.istore_n 3, 1) := by decide +kernel
theorem dX6_set_30 : decode cX6_set 30 = .ok (.aload_n 0, 1) := by decide +kernel
theorem dX6_set_31 : decode cX6_set 31 = .ok (.invokevirtual 142, 3) := by decide +kernel
theorem dX6_set_34 : decode cX6_set 34 = .ok (.aload_n 0, 1) := by decide +kernel
theorem dX6_set_35 : decode cX6_set 35 = .ok (.getfield 7, 3) := by decide +kernel
theorem dX6_set_38 : decode cX6_set 38 = .ok (.iload_n 1, 1) := by decide +kernel
theorem dX6_set_39 : decode cX6_set 39 = .ok (.iload_n 2, 1) := by decide +kernel
theorem dX6_set_40 : decode cX6_set 40 = .ok (.iastore, 1) := by decide +kernel
theorem dX6_set_41 : decode cX6_set 41 = .ok (.iload_n 3, 1) := by decide +kernel
theorem dX6_set_42 : decode cX6_set 42 = .ok (.ireturn, 1) := by decide +kernel
theorem dX6_setRate_0 : decode cX6_setRate 0 = .ok (.aload_n 0, 1) := by decide +kernel
theorem dX6_setRate_1 : decode cX6_setRate 1 = .ok (.aload_n 0, 1) := by decide +kernel
theorem dX6_setRate_2 : decode cX6_setRate 2 = .ok (.iload_n 1, 1) := by decide +kernel
theorem dX6_setRate_3 : decode cX6_setRate 3 = .ok (.invokevirtual 152, 3) := by decide +kernel
theorem dX6_setRate_6 : decode cX6_setRate 6 = .ok (.ifCond .ne 7, 3) := by decide +kernel
theorem dX6_setRate_9 : decode cX6_setRate 9 = .ok (.iconst 1, 1) := by decide +kernel
theorem dX6_setRate_10 : decode cX6_setRate 10 = .ok (.goto 15, 3) := by decide +kernel
theorem dX6_setRate_13 : decode cX6_setRate 13 = .ok (.iload_n 2, 1) := by decide +kernel
theorem dX6_setRate_14 : decode cX6_setRate 14 = .ok (.invokestatic 146, 3) := by decide +kernel
theorem dX6_setRate_17 : decode cX6_setRate 17 = .ok (.ifCond .ne 7, 3) := by decide +kernel
theorem dX6_setRate_20 : decode cX6_setRate 20 = .ok (.iconst 2, 1) := by decide +kernel
theorem dX6_setRate_21 : decode cX6_setRate 21 = .ok (.goto 4, 3) := by decide +kernel
theorem dX6_setRate_24 : decode cX6_setRate 24 = .ok (.iconst 0, 1) := by decide +kernel
theorem dX6_setRate_25 : decode cX6_setRate 25 = .ok (.invokevirtual 42, 3) := by decide +kernel
theorem dX6_setRate_28 : decode cX6_setRate 28 = .ok (.ifCond .eq 5, 3) := by decide +kernel
theorem dX6_setRate_31 : decode cX6_setRate 31 = .ok (.iconst 0, 1) := by decide +kernel
theorem dX6_setRate_32 : decode cX6_setRate 32 = .ok (.ireturn, 1) := by decide +kernel
theorem dX6_setRate_33 : decode cX6_setRate 33 = .ok (.aload_n 0, 1) := by decide +kernel
theorem dX6_setRate_34 : decode cX6_setRate 34 = .ok (.iload_n 1, 1) := by decide +kernel
theorem dX6_setRate_35 : decode cX6_setRate 35 = .ok (.iconst 3, 1) := by decide +kernel
theorem dX6_setRate_36 : decode cX6_setRate 36 = .ok (.invokevirtual 54, 3) := by decide +kernel
theorem dX6_setRate_39 : decode cX6_setRate 39 = .ok (.istore_n 3, 1) := by decide +kernel
theorem dX6_setRate_40 : decode cX6_setRate 40 = .ok (.aload_n 0, 1) := by decide +kernel
theorem dX6_setRate_41 : decode cX6_setRate 41 = .ok (.invokevirtual 142, 3) := by decide +kernel
theorem dX6_setRate_44 : decode cX6_setRate 44 = .ok (.aload_n 0, 1) := by decide +kernel
theorem dX6_setRate_45 : decode cX6_setRate 45 = .ok (.getfield 7, 3) := by decide +kernel
theorem dX6_setRate_48 : decode cX6_setRate 48 = .ok (.bipush 26, 2) := by decide +kernel
theorem dX6_setRate_50 : decode cX6_setRate 50 = .ok (.iconst 4, 1) := by decide +kernel
theorem dX6_setRate_51 : decode cX6_setRate 51 = .ok (.iload_n 1, 1) := by decide +kernel
theorem dX6_setRate_52 : decode cX6_setRate 52 = .ok (.imul, 1) := by decide +kernel
theorem dX6_setRate_53 : decode cX6_setRate 53 = .ok (.iadd, 1) := by decide +kernel
theorem dX6_setRate_54 : decode cX6_setRate 54 = .ok (.iconst 3, 1) := by decide +kernel
theorem dX6_setRate_55 : decode cX6_setRate 55 = .ok (.iadd, 1) := by decide +kernel
theorem dX6_setRate_56 : decode cX6_setRate 56 = .ok (.iload_n 2, 1) := by decide +kernel
theorem dX6_setRate_57 : decode cX6_setRate 57 = .ok (.iastore, 1) := by decide +kernel
theorem dX6_setRate_58 : decode cX6_setRate 58 = .ok (.iload_n 3, 1) := by decide +kernel
theorem dX6_setRate_59 : decode cX6_setRate 59 = .ok (.ireturn, 1) := by decide +kernel
theorem dX6_berthTold_0 : decode cX6_berthTold 0 = .ok (.iload_n 2, 1) := by decide +kernel
theorem dX6_berthTold_1 : decode cX6_berthTold 1 = .ok (.iconst 4, 1) := by decide +kernel
theorem dX6_berthTold_2 : decode cX6_berthTold 2 = .ok (.if_icmp .ge 10, 3) := by decide +kernel
theorem dX6_berthTold_5 : decode cX6_berthTold 5 = .ok (.aload_n 0, 1) := by decide +kernel
theorem dX6_berthTold_6 : decode cX6_berthTold 6 = .ok (.iload_n 1, 1) := by decide +kernel
theorem dX6_berthTold_7 : decode cX6_berthTold 7 = .ok (.iload_n 2, 1) := by decide +kernel
theorem dX6_berthTold_8 : decode cX6_berthTold 8 = .ok (.invokevirtual 54, 3) := by decide +kernel
theorem dX6_berthTold_11 : decode cX6_berthTold 11 = .ok (.ireturn, 1) := by decide +kernel
theorem dX6_berthTold_12 : decode cX6_berthTold 12 = .ok (.iload_n 2, 1) := by decide +kernel
theorem dX6_berthTold_13 : decode cX6_berthTold 13 = .ok (.bipush 6, 2) := by decide +kernel
theorem dX6_berthTold_15 : decode cX6_berthTold 15 = .ok (.if_icmp .ge 28, 3) := by decide +kernel
theorem dX6_berthTold_18 : decode cX6_berthTold 18 = .ok (.iload_n 2, 1) := by decide +kernel
theorem dX6_berthTold_19 : decode cX6_berthTold 19 = .ok (.iconst 4, 1) := by decide +kernel
theorem dX6_berthTold_20 : decode cX6_berthTold 20 = .ok (.if_icmp .ne 11, 3) := by decide +kernel
theorem dX6_berthTold_23 : decode cX6_berthTold 23 = .ok (.aload_n 0, 1) := by decide +kernel
theorem dX6_berthTold_24 : decode cX6_berthTold 24 = .ok (.iload_n 1, 1) := by decide +kernel
theorem dX6_berthTold_25 : decode cX6_berthTold 25 = .ok (.invokevirtual 68, 3) := by decide +kernel
theorem dX6_berthTold_28 : decode cX6_berthTold 28 = .ok (.goto 14, 3) := by decide +kernel
theorem dX6_berthTold_31 : decode cX6_berthTold 31 = .ok (.aload_n 0, 1) := by decide +kernel
theorem dX6_berthTold_32 : decode cX6_berthTold 32 = .ok (.iload_n 1, 1) := by decide +kernel
theorem dX6_berthTold_33 : decode cX6_berthTold 33 = .ok (.iconst 0, 1) := by decide +kernel
theorem dX6_berthTold_34 : decode cX6_berthTold 34 = .ok (.invokevirtual 54, 3) := by decide +kernel
theorem dX6_berthTold_37 : decode cX6_berthTold 37 = .ok (.aload_n 0, 1) := by decide +kernel
theorem dX6_berthTold_38 : decode cX6_berthTold 38 = .ok (.invokevirtual 57, 3) := by decide +kernel
theorem dX6_berthTold_41 : decode cX6_berthTold 41 = .ok (.iadd, 1) := by decide +kernel
theorem dX6_berthTold_42 : decode cX6_berthTold 42 = .ok (.ireturn, 1) := by decide +kernel
theorem dX6_berthTold_43 : decode cX6_berthTold 43 = .ok (.iconst 0, 1) := by decide +kernel
theorem dX6_berthTold_44 : decode cX6_berthTold 44 = .ok (.istore_n 3, 1) := by decide +kernel
theorem dX6_berthTold_45 : decode cX6_berthTold 45 = .ok (.iconst 0, 1) := by decide +kernel
theorem dX6_berthTold_46 : decode cX6_berthTold 46 = .ok (.istore 4, 2) := by decide +kernel
theorem dX6_berthTold_48 : decode cX6_berthTold 48 = .ok (.iload 4, 2) := by decide +kernel
theorem dX6_berthTold_50 : decode cX6_berthTold 50 = .ok (.aload_n 0, 1) := by decide +kernel
theorem dX6_berthTold_51 : decode cX6_berthTold 51 = .ok (.getfield 7, 3) := by decide +kernel
theorem dX6_berthTold_54 : decode cX6_berthTold 54 = .ok (.bipush 7, 2) := by decide +kernel
theorem dX6_berthTold_56 : decode cX6_berthTold 56 = .ok (.iaload, 1) := by decide +kernel
theorem dX6_berthTold_57 : decode cX6_berthTold 57 = .ok (.if_icmp .ge 27, 3) := by decide +kernel
theorem dX6_berthTold_60 : decode cX6_berthTold 60 = .ok (.iload_n 3, 1) := by decide +kernel
theorem dX6_berthTold_61 : decode cX6_berthTold 61 = .ok (.aload_n 0, 1) := by decide +kernel
theorem dX6_berthTold_62 : decode cX6_berthTold 62 = .ok (.iload 4, 2) := by decide +kernel
theorem dX6_berthTold_64 : decode cX6_berthTold 64 = .ok (.iload_n 1, 1) := by decide +kernel
theorem dX6_berthTold_65 : decode cX6_berthTold 65 = .ok (.invokevirtual 96, 3) := by decide +kernel
theorem dX6_berthTold_68 : decode cX6_berthTold 68 = .ok (.ifCond .eq 7, 3) := by decide +kernel
theorem dX6_berthTold_71 : decode cX6_berthTold 71 = .ok (.iconst 1, 1) := by decide +kernel
theorem dX6_berthTold_72 : decode cX6_berthTold 72 = .ok (.goto 4, 3) := by decide +kernel
theorem dX6_berthTold_75 : decode cX6_berthTold 75 = .ok (.iconst 0, 1) := by decide +kernel
theorem dX6_berthTold_76 : decode cX6_berthTold 76 = .ok (.iadd, 1) := by decide +kernel
theorem dX6_berthTold_77 : decode cX6_berthTold 77 = .ok (.istore_n 3, 1) := by decide +kernel
theorem dX6_berthTold_78 : decode cX6_berthTold 78 = .ok (.iinc 4 1, 3) := by decide +kernel
theorem dX6_berthTold_81 : decode cX6_berthTold 81 = .ok (.goto (-33), 3) := by decide +kernel
theorem dX6_berthTold_84 : decode cX6_berthTold 84 = .ok (.iload_n 3, 1) := by decide +kernel
theorem dX6_berthTold_85 : decode cX6_berthTold 85 = .ok (.ireturn, 1) := by decide +kernel
theorem dX6_berth_0 : decode cX6_berth 0 = .ok (.aload_n 0, 1) := by decide +kernel
theorem dX6_berth_1 : decode cX6_berth 1 = .ok (.aload_n 0, 1) := by decide +kernel
theorem dX6_berth_2 : decode cX6_berth 2 = .ok (.iload_n 1, 1) := by decide +kernel
theorem dX6_berth_3 : decode cX6_berth 3 = .ok (.invokevirtual 152, 3) := by decide +kernel
theorem dX6_berth_6 : decode cX6_berth 6 = .ok (.ifCond .ne 7, 3) := by decide +kernel
theorem dX6_berth_9 : decode cX6_berth 9 = .ok (.iconst 1, 1) := by decide +kernel
theorem dX6_berth_10 : decode cX6_berth 10 = .ok (.goto 18, 3) := by decide +kernel
theorem dX6_berth_13 : decode cX6_berth 13 = .ok (.iload_n 2, 1) := by decide +kernel
theorem dX6_berth_14 : decode cX6_berth 14 = .ok (.iconst 0, 1) := by decide +kernel
theorem dX6_berth_15 : decode cX6_berth 15 = .ok (.bipush 6, 2) := by decide +kernel
theorem dX6_berth_17 : decode cX6_berth 17 = .ok (.invokestatic 46, 3) := by decide +kernel
theorem dX6_berth_20 : decode cX6_berth 20 = .ok (.ifCond .ne 7, 3) := by decide +kernel
theorem dX6_berth_23 : decode cX6_berth 23 = .ok (.iconst 2, 1) := by decide +kernel
theorem dX6_berth_24 : decode cX6_berth 24 = .ok (.goto 4, 3) := by decide +kernel
theorem dX6_berth_27 : decode cX6_berth 27 = .ok (.iconst 0, 1) := by decide +kernel
theorem dX6_berth_28 : decode cX6_berth 28 = .ok (.invokevirtual 42, 3) := by decide +kernel
theorem dX6_berth_31 : decode cX6_berth 31 = .ok (.ifCond .eq 7, 3) := by decide +kernel
theorem dX6_berth_34 : decode cX6_berth 34 = .ok (.iconst 0, 1) := by decide +kernel
theorem dX6_berth_35 : decode cX6_berth 35 = .ok (.goto 9, 3) := by decide +kernel
theorem dX6_berth_38 : decode cX6_berth 38 = .ok (.aload_n 0, 1) := by decide +kernel
theorem dX6_berth_39 : decode cX6_berth 39 = .ok (.iload_n 1, 1) := by decide +kernel
theorem dX6_berth_40 : decode cX6_berth 40 = .ok (.iload_n 2, 1) := by decide +kernel
theorem dX6_berth_41 : decode cX6_berth 41 = .ok (.invokevirtual 155, 3) := by decide +kernel
theorem dX6_berth_44 : decode cX6_berth 44 = .ok (.ireturn, 1) := by decide +kernel
theorem dX6_boatTold_0 : decode cX6_boatTold 0 = .ok (.iload_n 2, 1) := by decide +kernel
theorem dX6_boatTold_1 : decode cX6_boatTold 1 = .ok (.tableswitch 121 5 9 #[35, 55, 63, 71, 91], 35) := by decide +kernel
theorem dX6_boatTold_36 : decode cX6_boatTold 36 = .ok (.aload_n 0, 1) := by decide +kernel
theorem dX6_boatTold_37 : decode cX6_boatTold 37 = .ok (.iload_n 1, 1) := by decide +kernel
theorem dX6_boatTold_38 : decode cX6_boatTold 38 = .ok (.iconst 3, 1) := by decide +kernel
theorem dX6_boatTold_39 : decode cX6_boatTold 39 = .ok (.invokevirtual 50, 3) := by decide +kernel
theorem dX6_boatTold_42 : decode cX6_boatTold 42 = .ok (.iconst 2, 1) := by decide +kernel
theorem dX6_boatTold_43 : decode cX6_boatTold 43 = .ok (.if_icmp .ne 11, 3) := by decide +kernel
theorem dX6_boatTold_46 : decode cX6_boatTold 46 = .ok (.aload_n 0, 1) := by decide +kernel
theorem dX6_boatTold_47 : decode cX6_boatTold 47 = .ok (.iload_n 1, 1) := by decide +kernel
theorem dX6_boatTold_48 : decode cX6_boatTold 48 = .ok (.invokevirtual 82, 3) := by decide +kernel
theorem dX6_boatTold_51 : decode cX6_boatTold 51 = .ok (.goto 4, 3) := by decide +kernel
theorem dX6_boatTold_54 : decode cX6_boatTold 54 = .ok (.iconst (-1), 1) := by decide +kernel
theorem dX6_boatTold_55 : decode cX6_boatTold 55 = .ok (.ireturn, 1) := by decide +kernel
theorem dX6_boatTold_56 : decode cX6_boatTold 56 = .ok (.aload_n 0, 1) := by decide +kernel
theorem dX6_boatTold_57 : decode cX6_boatTold 57 = .ok (.iload_n 1, 1) := by decide +kernel
theorem dX6_boatTold_58 : decode cX6_boatTold 58 = .ok (.bipush 7, 2) := by decide +kernel
theorem dX6_boatTold_60 : decode cX6_boatTold 60 = .ok (.invokevirtual 50, 3) := by decide +kernel
theorem dX6_boatTold_63 : decode cX6_boatTold 63 = .ok (.ireturn, 1) := by decide +kernel
theorem dX6_boatTold_64 : decode cX6_boatTold 64 = .ok (.aload_n 0, 1) := by decide +kernel
theorem dX6_boatTold_65 : decode cX6_boatTold 65 = .ok (.iload_n 1, 1) := by decide +kernel
theorem dX6_boatTold_66 : decode cX6_boatTold 66 = .ok (.bipush 8, 2) := by decide +kernel
theorem dX6_boatTold_68 : decode cX6_boatTold 68 = .ok (.invokevirtual 50, 3) := by decide +kernel
theorem dX6_boatTold_71 : decode cX6_boatTold 71 = .ok (.ireturn, 1) := by decide +kernel
theorem dX6_boatTold_72 : decode cX6_boatTold 72 = .ok (.aload_n 0, 1) := by decide +kernel
theorem dX6_boatTold_73 : decode cX6_boatTold 73 = .ok (.iload_n 1, 1) := by decide +kernel
theorem dX6_boatTold_74 : decode cX6_boatTold 74 = .ok (.aload_n 0, 1) := by decide +kernel
theorem dX6_boatTold_75 : decode cX6_boatTold 75 = .ok (.getfield 7, 3) := by decide +kernel
theorem dX6_boatTold_78 : decode cX6_boatTold 78 = .ok (.iconst 4, 1) := by decide +kernel
theorem dX6_boatTold_79 : decode cX6_boatTold 79 = .ok (.iaload, 1) := by decide +kernel
theorem dX6_boatTold_80 : decode cX6_boatTold 80 = .ok (.invokevirtual 158, 3) := by decide +kernel
theorem dX6_boatTold_83 : decode cX6_boatTold 83 = .ok (.ifCond .eq 7, 3) := by decide +kernel
theorem dX6_boatTold_86 : decode cX6_boatTold 86 = .ok (.iconst 1, 1) := by decide +kernel
theorem dX6_boatTold_87 : decode cX6_boatTold 87 = .ok (.goto 4, 3) := by decide +kernel
theorem dX6_boatTold_90 : decode cX6_boatTold 90 = .ok (.iconst 0, 1) := by decide +kernel
theorem dX6_boatTold_91 : decode cX6_boatTold 91 = .ok (.ireturn, 1) := by decide +kernel
theorem dX6_boatTold_92 : decode cX6_boatTold 92 = .ok (.aload_n 0, 1) := by decide +kernel
theorem dX6_boatTold_93 : decode cX6_boatTold 93 = .ok (.iload_n 1, 1) := by decide +kernel
theorem dX6_boatTold_94 : decode cX6_boatTold 94 = .ok (.iconst 3, 1) := by decide +kernel
theorem dX6_boatTold_95 : decode cX6_boatTold 95 = .ok (.invokevirtual 50, 3) := by decide +kernel
theorem dX6_boatTold_98 : decode cX6_boatTold 98 = .ok (.iconst 1, 1) := by decide +kernel
theorem dX6_boatTold_99 : decode cX6_boatTold 99 = .ok (.if_icmp .ne 17, 3) := by decide +kernel
theorem dX6_boatTold_102 : decode cX6_boatTold 102 = .ok (.aload_n 0, 1) := by decide +kernel
theorem dX6_boatTold_103 : decode cX6_boatTold 103 = .ok (.iload_n 1, 1) := by decide +kernel
theorem dX6_boatTold_104 : decode cX6_boatTold 104 = .ok (.aload_n 0, 1) := by decide +kernel
theorem dX6_boatTold_105 : decode cX6_boatTold 105 = .ok (.iload_n 1, 1) := by decide +kernel
theorem dX6_boatTold_106 : decode cX6_boatTold 106 = .ok (.iconst 4, 1) := by decide +kernel
theorem dX6_boatTold_107 : decode cX6_boatTold 107 = .ok (.invokevirtual 50, 3) := by decide +kernel
theorem dX6_boatTold_110 : decode cX6_boatTold 110 = .ok (.invokevirtual 96, 3) := by decide +kernel
theorem dX6_boatTold_113 : decode cX6_boatTold 113 = .ok (.ifCond .eq 7, 3) := by decide +kernel
theorem dX6_boatTold_116 : decode cX6_boatTold 116 = .ok (.iconst 1, 1) := by decide +kernel
theorem dX6_boatTold_117 : decode cX6_boatTold 117 = .ok (.goto 4, 3) := by decide +kernel
theorem dX6_boatTold_120 : decode cX6_boatTold 120 = .ok (.iconst 0, 1) := by decide +kernel
theorem dX6_boatTold_121 : decode cX6_boatTold 121 = .ok (.ireturn, 1) := by decide +kernel
theorem dX6_boatTold_122 : decode cX6_boatTold 122 = .ok (.aload_n 0, 1) := by decide +kernel
theorem dX6_boatTold_123 : decode cX6_boatTold 123 = .ok (.iload_n 1, 1) := by decide +kernel
theorem dX6_boatTold_124 : decode cX6_boatTold 124 = .ok (.iload_n 2, 1) := by decide +kernel
theorem dX6_boatTold_125 : decode cX6_boatTold 125 = .ok (.invokevirtual 50, 3) := by decide +kernel
theorem dX6_boatTold_128 : decode cX6_boatTold 128 = .ok (.ireturn, 1) := by decide +kernel
theorem dX6_boat_0 : decode cX6_boat 0 = .ok (.aload_n 0, 1) := by decide +kernel
theorem dX6_boat_1 : decode cX6_boat 1 = .ok (.aload_n 0, 1) := by decide +kernel
theorem dX6_boat_2 : decode cX6_boat 2 = .ok (.iload_n 1, 1) := by decide +kernel
theorem dX6_boat_3 : decode cX6_boat 3 = .ok (.invokevirtual 161, 3) := by decide +kernel
theorem dX6_boat_6 : decode cX6_boat 6 = .ok (.ifCond .ne 7, 3) := by decide +kernel
theorem dX6_boat_9 : decode cX6_boat 9 = .ok (.iconst 1, 1) := by decide +kernel
theorem dX6_boat_10 : decode cX6_boat 10 = .ok (.goto 18, 3) := by decide +kernel
theorem dX6_boat_13 : decode cX6_boat 13 = .ok (.iload_n 2, 1) := by decide +kernel
theorem dX6_boat_14 : decode cX6_boat 14 = .ok (.iconst 0, 1) := by decide +kernel
theorem dX6_boat_15 : decode cX6_boat 15 = .ok (.bipush 9, 2) := by decide +kernel
theorem dX6_boat_17 : decode cX6_boat 17 = .ok (.invokestatic 46, 3) := by decide +kernel
theorem dX6_boat_20 : decode cX6_boat 20 = .ok (.ifCond .ne 7, 3) := by decide +kernel
theorem dX6_boat_23 : decode cX6_boat 23 = .ok (.iconst 2, 1) := by decide +kernel
theorem dX6_boat_24 : decode cX6_boat 24 = .ok (.goto 4, 3) := by decide +kernel
theorem dX6_boat_27 : decode cX6_boat 27 = .ok (.iconst 0, 1) := by decide +kernel
theorem dX6_boat_28 : decode cX6_boat 28 = .ok (.invokevirtual 42, 3) := by decide +kernel
theorem dX6_boat_31 : decode cX6_boat 31 = .ok (.ifCond .eq 7, 3) := by decide +kernel
theorem dX6_boat_34 : decode cX6_boat 34 = .ok (.iconst 0, 1) := by decide +kernel
theorem dX6_boat_35 : decode cX6_boat 35 = .ok (.goto 9, 3) := by decide +kernel
theorem dX6_boat_38 : decode cX6_boat 38 = .ok (.aload_n 0, 1) := by decide +kernel
theorem dX6_boat_39 : decode cX6_boat 39 = .ok (.iload_n 1, 1) := by decide +kernel
theorem dX6_boat_40 : decode cX6_boat 40 = .ok (.iload_n 2, 1) := by decide +kernel
theorem dX6_boat_41 : decode cX6_boat 41 = .ok (.invokevirtual 164, 3) := by decide +kernel
theorem dX6_boat_44 : decode cX6_boat 44 = .ok (.ireturn, 1) := by decide +kernel
theorem dX6_areBoth_0 : decode cX6_areBoth 0 = .ok (.aload_n 0, 1) := by decide +kernel
theorem dX6_areBoth_1 : decode cX6_areBoth 1 = .ok (.iload_n 1, 1) := by decide +kernel
theorem dX6_areBoth_2 : decode cX6_areBoth 2 = .ok (.invokevirtual 161, 3) := by decide +kernel
theorem dX6_areBoth_5 : decode cX6_areBoth 5 = .ok (.ifCond .eq 15, 3) := by decide +kernel
theorem dX6_areBoth_8 : decode cX6_areBoth 8 = .ok (.aload_n 0, 1) := by decide +kernel
theorem dX6_areBoth_9 : decode cX6_areBoth 9 = .ok (.iload_n 2, 1) := by decide +kernel
theorem dX6_areBoth_10 : decode cX6_areBoth 10 = .ok (.invokevirtual 152, 3) := by decide +kernel
theorem dX6_areBoth_13 : decode cX6_areBoth 13 = .ok (.ifCond .eq 7, 3) := by decide +kernel
theorem dX6_areBoth_16 : decode cX6_areBoth 16 = .ok (.iconst 1, 1) := by decide +kernel
theorem dX6_areBoth_17 : decode cX6_areBoth 17 = .ok (.goto 4, 3) := by decide +kernel
theorem dX6_areBoth_20 : decode cX6_areBoth 20 = .ok (.iconst 0, 1) := by decide +kernel
theorem dX6_areBoth_21 : decode cX6_areBoth 21 = .ok (.ireturn, 1) := by decide +kernel
theorem dX6_fits_0 : decode cX6_fits 0 = .ok (.aload_n 0, 1) := by decide +kernel
theorem dX6_fits_1 : decode cX6_fits 1 = .ok (.aload_n 0, 1) := by decide +kernel
theorem dX6_fits_2 : decode cX6_fits 2 = .ok (.iload_n 1, 1) := by decide +kernel
theorem dX6_fits_3 : decode cX6_fits 3 = .ok (.iload_n 2, 1) := by decide +kernel
theorem dX6_fits_4 : decode cX6_fits 4 = .ok (.invokevirtual 167, 3) := by decide +kernel
theorem dX6_fits_7 : decode cX6_fits 7 = .ok (.ifCond .eq 7, 3) := by decide +kernel
theorem dX6_fits_10 : decode cX6_fits 10 = .ok (.iconst 0, 1) := by decide +kernel
theorem dX6_fits_11 : decode cX6_fits 11 = .ok (.goto 4, 3) := by decide +kernel
theorem dX6_fits_14 : decode cX6_fits 14 = .ok (.iconst 1, 1) := by decide +kernel
theorem dX6_fits_15 : decode cX6_fits 15 = .ok (.invokevirtual 42, 3) := by decide +kernel
theorem dX6_fits_18 : decode cX6_fits 18 = .ok (.ifCond .ne 16, 3) := by decide +kernel
theorem dX6_fits_21 : decode cX6_fits 21 = .ok (.aload_n 0, 1) := by decide +kernel
theorem dX6_fits_22 : decode cX6_fits 22 = .ok (.iload_n 1, 1) := by decide +kernel
theorem dX6_fits_23 : decode cX6_fits 23 = .ok (.iload_n 2, 1) := by decide +kernel
theorem dX6_fits_24 : decode cX6_fits 24 = .ok (.invokevirtual 96, 3) := by decide +kernel
theorem dX6_fits_27 : decode cX6_fits 27 = .ok (.ifCond .eq 7, 3) := by decide +kernel
theorem dX6_fits_30 : decode cX6_fits 30 = .ok (.iconst 1, 1) := by decide +kernel
theorem dX6_fits_31 : decode cX6_fits 31 = .ok (.goto 4, 3) := by decide +kernel
theorem dX6_fits_34 : decode cX6_fits 34 = .ok (.iconst 0, 1) := by decide +kernel
theorem dX6_fits_35 : decode cX6_fits 35 = .ok (.ireturn, 1) := by decide +kernel
theorem dX6_free_0 : decode cX6_free 0 = .ok (.aload_n 0, 1) := by decide +kernel
theorem dX6_free_1 : decode cX6_free 1 = .ok (.getfield 7, 3) := by decide +kernel
theorem dX6_free_4 : decode cX6_free 4 = .ok (.bipush 6, 2) := by decide +kernel
theorem dX6_free_6 : decode cX6_free 6 = .ok (.iaload, 1) := by decide +kernel
theorem dX6_free_7 : decode cX6_free 7 = .ok (.aload_n 0, 1) := by decide +kernel
theorem dX6_free_8 : decode cX6_free 8 = .ok (.iconst 1, 1) := by decide +kernel
theorem dX6_free_9 : decode cX6_free 9 = .ok (.invokevirtual 170, 3) := by decide +kernel
theorem dX6_free_12 : decode cX6_free 12 = .ok (.isub, 1) := by decide +kernel
theorem dX6_free_13 : decode cX6_free 13 = .ok (.ireturn, 1) := by decide +kernel
theorem dX6_aground_0 : decode cX6_aground 0 = .ok (.iconst 0, 1) := by decide +kernel
theorem dX6_aground_1 : decode cX6_aground 1 = .ok (.istore_n 1, 1) := by decide +kernel
theorem dX6_aground_2 : decode cX6_aground 2 = .ok (.iconst 0, 1) := by decide +kernel
theorem dX6_aground_3 : decode cX6_aground 3 = .ok (.istore_n 2, 1) := by decide +kernel
theorem dX6_aground_4 : decode cX6_aground 4 = .ok (.iload_n 2, 1) := by decide +kernel
theorem dX6_aground_5 : decode cX6_aground 5 = .ok (.aload_n 0, 1) := by decide +kernel
theorem dX6_aground_6 : decode cX6_aground 6 = .ok (.getfield 7, 3) := by decide +kernel
theorem dX6_aground_9 : decode cX6_aground 9 = .ok (.bipush 7, 2) := by decide +kernel
theorem dX6_aground_11 : decode cX6_aground 11 = .ok (.iaload, 1) := by decide +kernel
theorem dX6_aground_12 : decode cX6_aground 12 = .ok (.if_icmp .ge 31, 3) := by decide +kernel
theorem dX6_aground_15 : decode cX6_aground 15 = .ok (.iload_n 1, 1) := by decide +kernel
theorem dX6_aground_16 : decode cX6_aground 16 = .ok (.aload_n 0, 1) := by decide +kernel
theorem dX6_aground_17 : decode cX6_aground 17 = .ok (.iload_n 2, 1) := by decide +kernel
theorem dX6_aground_18 : decode cX6_aground 18 = .ok (.aload_n 0, 1) := by decide +kernel
theorem dX6_aground_19 : decode cX6_aground 19 = .ok (.getfield 7, 3) := by decide +kernel
theorem dX6_aground_22 : decode cX6_aground 22 = .ok (.iconst 4, 1) := by decide +kernel
theorem dX6_aground_23 : decode cX6_aground 23 = .ok (.iaload, 1) := by decide +kernel
theorem dX6_aground_24 : decode cX6_aground 24 = .ok (.invokevirtual 158, 3) := by decide +kernel
theorem dX6_aground_27 : decode cX6_aground 27 = .ok (.ifCond .eq 7, 3) := by decide +kernel
theorem dX6_aground_30 : decode cX6_aground 30 = .ok (.iconst 1, 1) := by decide +kernel
theorem dX6_aground_31 : decode cX6_aground 31 = .ok (.goto 4, 3) := by decide +kernel
theorem dX6_aground_34 : decode cX6_aground 34 = .ok (.iconst 0, 1) := by decide +kernel
theorem dX6_aground_35 : decode cX6_aground 35 = .ok (.iadd, 1) := by decide +kernel
theorem dX6_aground_36 : decode cX6_aground 36 = .ok (.istore_n 1, 1) := by decide +kernel
theorem dX6_aground_37 : decode cX6_aground 37 = .ok (.iinc 2 1, 3) := by decide +kernel
theorem dX6_aground_40 : decode cX6_aground 40 = .ok (.goto (-36), 3) := by decide +kernel
theorem dX6_aground_43 : decode cX6_aground 43 = .ok (.iload_n 1, 1) := by decide +kernel
theorem dX6_aground_44 : decode cX6_aground 44 = .ok (.ireturn, 1) := by decide +kernel
theorem dX6_infoTold_0 : decode cX6_infoTold 0 = .ok (.iload_n 1, 1) := by decide +kernel
theorem dX6_infoTold_1 : decode cX6_infoTold 1 = .ok (.tableswitch 74 8 13 #[39, 44, 50, 56, 61, 66], 39) := by decide +kernel
theorem dX6_infoTold_40 : decode cX6_infoTold 40 = .ok (.aload_n 0, 1) := by decide +kernel
theorem dX6_infoTold_41 : decode cX6_infoTold 41 = .ok (.invokevirtual 173, 3) := by decide +kernel
theorem dX6_infoTold_44 : decode cX6_infoTold 44 = .ok (.ireturn, 1) := by decide +kernel
theorem dX6_infoTold_45 : decode cX6_infoTold 45 = .ok (.aload_n 0, 1) := by decide +kernel
theorem dX6_infoTold_46 : decode cX6_infoTold 46 = .ok (.iconst 2, 1) := by decide +kernel
theorem dX6_infoTold_47 : decode cX6_infoTold 47 = .ok (.invokevirtual 170, 3) := by decide +kernel
theorem dX6_infoTold_50 : decode cX6_infoTold 50 = .ok (.ireturn, 1) := by decide +kernel
theorem dX6_infoTold_51 : decode cX6_infoTold 51 = .ok (.aload_n 0, 1) := by decide +kernel
theorem dX6_infoTold_52 : decode cX6_infoTold 52 = .ok (.iconst 3, 1) := by decide +kernel
theorem dX6_infoTold_53 : decode cX6_infoTold 53 = .ok (.invokevirtual 170, 3) := by decide +kernel
theorem dX6_infoTold_56 : decode cX6_infoTold 56 = .ok (.ireturn, 1) := by decide +kernel
theorem dX6_infoTold_57 : decode cX6_infoTold 57 = .ok (.aload_n 0, 1) := by decide +kernel
theorem dX6_infoTold_58 : decode cX6_infoTold 58 = .ok (.invokevirtual 176, 3) := by decide +kernel
theorem dX6_infoTold_61 : decode cX6_infoTold 61 = .ok (.ireturn, 1) := by decide +kernel
theorem dX6_infoTold_62 : decode cX6_infoTold 62 = .ok (.aload_n 0, 1) := by decide +kernel
theorem dX6_infoTold_63 : decode cX6_infoTold 63 = .ok (.invokevirtual 57, 3) := by decide +kernel
theorem dX6_infoTold_66 : decode cX6_infoTold 66 = .ok (.ireturn, 1) := by decide +kernel
theorem dX6_infoTold_67 : decode cX6_infoTold 67 = .ok (.aload_n 0, 1) := by decide +kernel
theorem dX6_infoTold_68 : decode cX6_infoTold 68 = .ok (.getfield 7, 3) := by decide +kernel
theorem dX6_infoTold_71 : decode cX6_infoTold 71 = .ok (.bipush 8, 2) := by decide +kernel
theorem dX6_infoTold_73 : decode cX6_infoTold 73 = .ok (.iaload, 1) := by decide +kernel
theorem dX6_infoTold_74 : decode cX6_infoTold 74 = .ok (.ireturn, 1) := by decide +kernel
theorem dX6_infoTold_75 : decode cX6_infoTold 75 = .ok (.aload_n 0, 1) := by decide +kernel
theorem dX6_infoTold_76 : decode cX6_infoTold 76 = .ok (.getfield 7, 3) := by decide +kernel
theorem dX6_infoTold_79 : decode cX6_infoTold 79 = .ok (.iload_n 1, 1) := by decide +kernel
theorem dX6_infoTold_80 : decode cX6_infoTold 80 = .ok (.iaload, 1) := by decide +kernel
theorem dX6_infoTold_81 : decode cX6_infoTold 81 = .ok (.ireturn, 1) := by decide +kernel
theorem dX6_info_0 : decode cX6_info 0 = .ok (.aload_n 0, 1) := by decide +kernel
theorem dX6_info_1 : decode cX6_info 1 = .ok (.iload_n 1, 1) := by decide +kernel
theorem dX6_info_2 : decode cX6_info 2 = .ok (.iconst 0, 1) := by decide +kernel
theorem dX6_info_3 : decode cX6_info 3 = .ok (.bipush 13, 2) := by decide +kernel
theorem dX6_info_5 : decode cX6_info 5 = .ok (.invokestatic 46, 3) := by decide +kernel
theorem dX6_info_8 : decode cX6_info 8 = .ok (.ifCond .eq 7, 3) := by decide +kernel
theorem dX6_info_11 : decode cX6_info 11 = .ok (.iconst 0, 1) := by decide +kernel
theorem dX6_info_12 : decode cX6_info 12 = .ok (.goto 4, 3) := by decide +kernel
theorem dX6_info_15 : decode cX6_info 15 = .ok (.iconst 1, 1) := by decide +kernel
theorem dX6_info_16 : decode cX6_info 16 = .ok (.invokevirtual 42, 3) := by decide +kernel
theorem dX6_info_19 : decode cX6_info 19 = .ok (.ifCond .eq 7, 3) := by decide +kernel
theorem dX6_info_22 : decode cX6_info 22 = .ok (.iconst 0, 1) := by decide +kernel
theorem dX6_info_23 : decode cX6_info 23 = .ok (.goto 8, 3) := by decide +kernel
theorem dX6_info_26 : decode cX6_info 26 = .ok (.aload_n 0, 1) := by decide +kernel
theorem dX6_info_27 : decode cX6_info 27 = .ok (.iload_n 1, 1) := by decide +kernel
theorem dX6_info_28 : decode cX6_info 28 = .ok (.invokevirtual 179, 3) := by decide +kernel
theorem dX6_info_31 : decode cX6_info 31 = .ok (.ireturn, 1) := by decide +kernel
theorem dX6_place_0 : decode cX6_place 0 = .ok (.aload_n 0, 1) := by decide +kernel
theorem dX6_place_1 : decode cX6_place 1 = .ok (.aload_n 0, 1) := by decide +kernel
theorem dX6_place_2 : decode cX6_place 2 = .ok (.iload_n 1, 1) := by decide +kernel
theorem dX6_place_3 : decode cX6_place 3 = .ok (.iload_n 2, 1) := by decide +kernel
theorem dX6_place_4 : decode cX6_place 4 = .ok (.invokevirtual 167, 3) := by decide +kernel
theorem dX6_place_7 : decode cX6_place 7 = .ok (.ifCond .ne 7, 3) := by decide +kernel
theorem dX6_place_10 : decode cX6_place 10 = .ok (.iconst 1, 1) := by decide +kernel
theorem dX6_place_11 : decode cX6_place 11 = .ok (.goto 25, 3) := by decide +kernel
theorem dX6_place_14 : decode cX6_place 14 = .ok (.aload_n 0, 1) := by decide +kernel
theorem dX6_place_15 : decode cX6_place 15 = .ok (.iload_n 2, 1) := by decide +kernel
theorem dX6_place_16 : decode cX6_place 16 = .ok (.invokevirtual 182, 3) := by decide +kernel
theorem dX6_place_19 : decode cX6_place 19 = .ok (.ifCond .eq 12, 3) := by decide +kernel
theorem dX6_place_22 : decode cX6_place 22 = .ok (.aload_n 0, 1) := by decide +kernel
theorem dX6_place_23 : decode cX6_place 23 = .ok (.iload_n 1, 1) := by decide +kernel
theorem dX6_place_24 : decode cX6_place 24 = .ok (.iload_n 2, 1) := by decide +kernel
theorem dX6_place_25 : decode cX6_place 25 = .ok (.invokevirtual 96, 3) := by decide +kernel
theorem dX6_place_28 : decode cX6_place 28 = .ok (.ifCond .ne 7, 3) := by decide +kernel
theorem dX6_place_31 : decode cX6_place 31 = .ok (.iconst 2, 1) := by decide +kernel
theorem dX6_place_32 : decode cX6_place 32 = .ok (.goto 4, 3) := by decide +kernel
theorem dX6_place_35 : decode cX6_place 35 = .ok (.iconst 0, 1) := by decide +kernel
theorem dX6_place_36 : decode cX6_place 36 = .ok (.invokevirtual 42, 3) := by decide +kernel
theorem dX6_place_39 : decode cX6_place 39 = .ok (.ifCond .eq 5, 3) := by decide +kernel
theorem dX6_place_42 : decode cX6_place 42 = .ok (.iconst 0, 1) := by decide +kernel
theorem dX6_place_43 : decode cX6_place 43 = .ok (.ireturn, 1) := by decide +kernel
theorem dX6_place_44 : decode cX6_place 44 = .ok (.aload_n 0, 1) := by decide +kernel
theorem dX6_place_45 : decode cX6_place 45 = .ok (.iload_n 1, 1) := by decide +kernel
theorem dX6_place_46 : decode cX6_place 46 = .ok (.iconst 4, 1) := by decide +kernel
theorem dX6_place_47 : decode cX6_place 47 = .ok (.invokevirtual 50, 3) := by decide +kernel
theorem dX6_place_50 : decode cX6_place 50 = .ok (.istore_n 3, 1) := by decide +kernel
theorem dX6_place_51 : decode cX6_place 51 = .ok (.aload_n 0, 1) := by decide +kernel
theorem dX6_place_52 : decode cX6_place 52 = .ok (.invokevirtual 142, 3) := by decide +kernel
theorem dX6_place_55 : decode cX6_place 55 = .ok (.aload_n 0, 1) := by decide +kernel
theorem dX6_place_56 : decode cX6_place 56 = .ok (.iload_n 1, 1) := by decide +kernel
theorem dX6_place_57 : decode cX6_place 57 = .ok (.iconst 1, 1) := by decide +kernel
theorem dX6_place_58 : decode cX6_place 58 = .ok (.iload_n 2, 1) := by decide +kernel
theorem dX6_place_59 : decode cX6_place 59 = .ok (.invokevirtual 79, 3) := by decide +kernel
theorem dX6_place_62 : decode cX6_place 62 = .ok (.aload_n 0, 1) := by decide +kernel
theorem dX6_place_63 : decode cX6_place 63 = .ok (.iload_n 1, 1) := by decide +kernel
theorem dX6_place_64 : decode cX6_place 64 = .ok (.bipush 7, 2) := by decide +kernel
theorem dX6_place_66 : decode cX6_place 66 = .ok (.iconst (-1), 1) := by decide +kernel
theorem dX6_place_67 : decode cX6_place 67 = .ok (.invokevirtual 75, 3) := by decide +kernel
theorem dX6_place_70 : decode cX6_place 70 = .ok (.iload_n 3, 1) := by decide +kernel
theorem dX6_place_71 : decode cX6_place 71 = .ok (.ireturn, 1) := by decide +kernel
theorem dX6_leave_0 : decode cX6_leave 0 = .ok (.aload_n 0, 1) := by decide +kernel
theorem dX6_leave_1 : decode cX6_leave 1 = .ok (.aload_n 0, 1) := by decide +kernel
theorem dX6_leave_2 : decode cX6_leave 2 = .ok (.iload_n 1, 1) := by decide +kernel
theorem dX6_leave_3 : decode cX6_leave 3 = .ok (.invokevirtual 161, 3) := by decide +kernel
theorem dX6_leave_6 : decode cX6_leave 6 = .ok (.ifCond .ne 7, 3) := by decide +kernel
theorem dX6_leave_9 : decode cX6_leave 9 = .ok (.iconst 1, 1) := by decide +kernel
theorem dX6_leave_10 : decode cX6_leave 10 = .ok (.goto 27, 3) := by decide +kernel
theorem dX6_leave_13 : decode cX6_leave 13 = .ok (.aload_n 0, 1) := by decide +kernel
theorem dX6_leave_14 : decode cX6_leave 14 = .ok (.iload_n 1, 1) := by decide +kernel
theorem dX6_leave_15 : decode cX6_leave 15 = .ok (.iconst 3, 1) := by decide +kernel
theorem dX6_leave_16 : decode cX6_leave 16 = .ok (.invokevirtual 50, 3) := by decide +kernel
theorem dX6_leave_19 : decode cX6_leave 19 = .ok (.ifCond .eq 13, 3) := by decide +kernel
theorem dX6_leave_22 : decode cX6_leave 22 = .ok (.aload_n 0, 1) := by decide +kernel
theorem dX6_leave_23 : decode cX6_leave 23 = .ok (.iload_n 1, 1) := by decide +kernel
theorem dX6_leave_24 : decode cX6_leave 24 = .ok (.bipush 8, 2) := by decide +kernel
theorem dX6_leave_26 : decode cX6_leave 26 = .ok (.invokevirtual 50, 3) := by decide +kernel
theorem dX6_leave_29 : decode cX6_leave 29 = .ok (.ifCond .le 7, 3) := by decide +kernel
theorem dX6_leave_32 : decode cX6_leave 32 = .ok (.iconst 2, 1) := by decide +kernel
theorem dX6_leave_33 : decode cX6_leave 33 = .ok (.goto 4, 3) := by decide +kernel
theorem dX6_leave_36 : decode cX6_leave 36 = .ok (.iconst 0, 1) := by decide +kernel
theorem dX6_leave_37 : decode cX6_leave 37 = .ok (.invokevirtual 42, 3) := by decide +kernel
theorem dX6_leave_40 : decode cX6_leave 40 = .ok (.ifCond .eq 5, 3) := by decide +kernel
theorem dX6_leave_43 : decode cX6_leave 43 = .ok (.iconst 0, 1) := by decide +kernel
theorem dX6_leave_44 : decode cX6_leave 44 = .ok (.ireturn, 1) := by decide +kernel
theorem dX6_leave_45 : decode cX6_leave 45 = .ok (.aload_n 0, 1) := by decide +kernel
theorem dX6_leave_46 : decode cX6_leave 46 = .ok (.iload_n 1, 1) := by decide +kernel
theorem dX6_leave_47 : decode cX6_leave 47 = .ok (.iconst 3, 1) := by decide +kernel
theorem dX6_leave_48 : decode cX6_leave 48 = .ok (.invokevirtual 50, 3) := by decide +kernel
theorem dX6_leave_51 : decode cX6_leave 51 = .ok (.istore_n 2, 1) := by decide +kernel
theorem dX6_leave_52 : decode cX6_leave 52 = .ok (.aload_n 0, 1) := by decide +kernel
theorem dX6_leave_53 : decode cX6_leave 53 = .ok (.invokevirtual 142, 3) := by decide +kernel
theorem dX6_leave_56 : decode cX6_leave 56 = .ok (.aload_n 0, 1) := by decide +kernel
theorem dX6_leave_57 : decode cX6_leave 57 = .ok (.iload_n 1, 1) := by decide +kernel
theorem dX6_leave_58 : decode cX6_leave 58 = .ok (.iconst 0, 1) := by decide +kernel
theorem dX6_leave_59 : decode cX6_leave 59 = .ok (.iconst (-1), 1) := by decide +kernel
theorem dX6_leave_60 : decode cX6_leave 60 = .ok (.invokevirtual 79, 3) := by decide +kernel
theorem dX6_leave_63 : decode cX6_leave 63 = .ok (.aload_n 0, 1) := by decide +kernel
theorem dX6_leave_64 : decode cX6_leave 64 = .ok (.iload_n 1, 1) := by decide +kernel
theorem dX6_leave_65 : decode cX6_leave 65 = .ok (.bipush 7, 2) := by decide +kernel
theorem dX6_leave_67 : decode cX6_leave 67 = .ok (.iconst (-1), 1) := by decide +kernel
theorem dX6_leave_68 : decode cX6_leave 68 = .ok (.invokevirtual 75, 3) := by decide +kernel
theorem dX6_leave_71 : decode cX6_leave 71 = .ok (.iload_n 2, 1) := by decide +kernel
theorem dX6_leave_72 : decode cX6_leave 72 = .ok (.ireturn, 1) := by decide +kernel
theorem dX6_canChange_0 : decode cX6_canChange 0 = .ok (.aload_n 0, 1) := by decide +kernel
theorem dX6_canChange_1 : decode cX6_canChange 1 = .ok (.iload_n 1, 1) := by decide +kernel
theorem dX6_canChange_2 : decode cX6_canChange 2 = .ok (.iconst 3, 1) := by decide +kernel
theorem dX6_canChange_3 : decode cX6_canChange 3 = .ok (.invokevirtual 50, 3) := by decide +kernel
theorem dX6_canChange_6 : decode cX6_canChange 6 = .ok (.iconst 1, 1) := by decide +kernel
theorem dX6_canChange_7 : decode cX6_canChange 7 = .ok (.if_icmp .ne 17, 3) := by decide +kernel
theorem dX6_canChange_10 : decode cX6_canChange 10 = .ok (.aload_n 0, 1) := by decide +kernel
theorem dX6_canChange_11 : decode cX6_canChange 11 = .ok (.iload_n 2, 1) := by decide +kernel
theorem dX6_canChange_12 : decode cX6_canChange 12 = .ok (.iconst 3, 1) := by decide +kernel
theorem dX6_canChange_13 : decode cX6_canChange 13 = .ok (.invokevirtual 50, 3) := by decide +kernel
theorem dX6_canChange_16 : decode cX6_canChange 16 = .ok (.iconst 1, 1) := by decide +kernel
theorem dX6_canChange_17 : decode cX6_canChange 17 = .ok (.if_icmp .ne 7, 3) := by decide +kernel
theorem dX6_canChange_20 : decode cX6_canChange 20 = .ok (.iconst 1, 1) := by decide +kernel
theorem dX6_canChange_21 : decode cX6_canChange 21 = .ok (.goto 4, 3) := by decide +kernel
theorem dX6_canChange_24 : decode cX6_canChange 24 = .ok (.iconst 0, 1) := by decide +kernel
theorem dX6_canChange_25 : decode cX6_canChange 25 = .ok (.istore_n 3, 1) := by decide +kernel
theorem dX6_canChange_26 : decode cX6_canChange 26 = .ok (.iload_n 3, 1) := by decide +kernel
theorem dX6_canChange_27 : decode cX6_canChange 27 = .ok (.ifCond .eq 35, 3) := by decide +kernel
theorem dX6_canChange_30 : decode cX6_canChange 30 = .ok (.aload_n 0, 1) := by decide +kernel
theorem dX6_canChange_31 : decode cX6_canChange 31 = .ok (.iload_n 1, 1) := by decide +kernel
theorem dX6_canChange_32 : decode cX6_canChange 32 = .ok (.aload_n 0, 1) := by decide +kernel
theorem dX6_canChange_33 : decode cX6_canChange 33 = .ok (.iload_n 2, 1) := by decide +kernel
theorem dX6_canChange_34 : decode cX6_canChange 34 = .ok (.iconst 4, 1) := by decide +kernel
theorem dX6_canChange_35 : decode cX6_canChange 35 = .ok (.invokevirtual 50, 3) := by decide +kernel
theorem dX6_canChange_38 : decode cX6_canChange 38 = .ok (.invokevirtual 96, 3) := by decide +kernel
theorem dX6_canChange_41 : decode cX6_canChange 41 = .ok (.ifCond .eq 21, 3) := by decide +kernel
theorem dX6_canChange_44 : decode cX6_canChange 44 = .ok (.aload_n 0, 1) := by decide +kernel
theorem dX6_canChange_45 : decode cX6_canChange 45 = .ok (.iload_n 2, 1) := by decide +kernel
theorem dX6_canChange_46 : decode cX6_canChange 46 = .ok (.aload_n 0, 1) := by decide +kernel
theorem dX6_canChange_47 : decode cX6_canChange 47 = .ok (.iload_n 1, 1) := by decide +kernel
theorem dX6_canChange_48 : decode cX6_canChange 48 = .ok (.iconst 4, 1) := by decide +kernel
theorem dX6_canChange_49 : decode cX6_canChange 49 = .ok (.invokevirtual 50, 3) := by decide +kernel
theorem dX6_canChange_52 : decode cX6_canChange 52 = .ok (.invokevirtual 96, 3) := by decide +kernel
theorem dX6_canChange_55 : decode cX6_canChange 55 = .ok (.ifCond .eq 7, 3) := by decide +kernel
theorem dX6_canChange_58 : decode cX6_canChange 58 = .ok (.iconst 1, 1) := by decide +kernel
theorem dX6_canChange_59 : decode cX6_canChange 59 = .ok (.goto 4, 3) := by decide +kernel
theorem dX6_canChange_62 : decode cX6_canChange 62 = .ok (.iconst 0, 1) := by decide +kernel
theorem dX6_canChange_63 : decode cX6_canChange 63 = .ok (.ireturn, 1) := by decide +kernel
theorem dX6_change_0 : decode cX6_change 0 = .ok (.aload_n 0, 1) := by decide +kernel
theorem dX6_change_1 : decode cX6_change 1 = .ok (.aload_n 0, 1) := by decide +kernel
theorem dX6_change_2 : decode cX6_change 2 = .ok (.iload_n 1, 1) := by decide +kernel
theorem dX6_change_3 : decode cX6_change 3 = .ok (.invokevirtual 161, 3) := by decide +kernel
theorem dX6_change_6 : decode cX6_change 6 = .ok (.ifCond .eq 11, 3) := by decide +kernel
theorem dX6_change_9 : decode cX6_change 9 = .ok (.aload_n 0, 1) := by decide +kernel
theorem dX6_change_10 : decode cX6_change 10 = .ok (.iload_n 2, 1) := by decide +kernel
theorem dX6_change_11 : decode cX6_change 11 = .ok (.invokevirtual 161, 3) := by decide +kernel
theorem dX6_change_14 : decode cX6_change 14 = .ok (.ifCond .ne 7, 3) := by decide +kernel
theorem dX6_change_17 : decode cX6_change 17 = .ok (.iconst 1, 1) := by decide +kernel
theorem dX6_change_18 : decode cX6_change 18 = .ok (.goto 26, 3) := by decide +kernel
theorem dX6_change_21 : decode cX6_change 21 = .ok (.iload_n 1, 1) := by decide +kernel
theorem dX6_change_22 : decode cX6_change 22 = .ok (.iload_n 2, 1) := by decide +kernel
theorem dX6_change_23 : decode cX6_change 23 = .ok (.if_icmp .ne 7, 3) := by decide +kernel
theorem dX6_change_26 : decode cX6_change 26 = .ok (.iconst 2, 1) := by decide +kernel
theorem dX6_change_27 : decode cX6_change 27 = .ok (.goto 17, 3) := by decide +kernel
theorem dX6_change_30 : decode cX6_change 30 = .ok (.aload_n 0, 1) := by decide +kernel
theorem dX6_change_31 : decode cX6_change 31 = .ok (.iload_n 1, 1) := by decide +kernel
theorem dX6_change_32 : decode cX6_change 32 = .ok (.iload_n 2, 1) := by decide +kernel
theorem dX6_change_33 : decode cX6_change 33 = .ok (.invokevirtual 185, 3) := by decide +kernel
theorem dX6_change_36 : decode cX6_change 36 = .ok (.ifCond .ne 7, 3) := by decide +kernel
theorem dX6_change_39 : decode cX6_change 39 = .ok (.iconst 3, 1) := by decide +kernel
theorem dX6_change_40 : decode cX6_change 40 = .ok (.goto 4, 3) := by decide +kernel
theorem dX6_change_43 : decode cX6_change 43 = .ok (.iconst 0, 1) := by decide +kernel
theorem dX6_change_44 : decode cX6_change 44 = .ok (.invokevirtual 42, 3) := by decide +kernel
theorem dX6_change_47 : decode cX6_change 47 = .ok (.ifCond .eq 5, 3) := by decide +kernel
theorem dX6_change_50 : decode cX6_change 50 = .ok (.iconst 0, 1) := by decide +kernel
theorem dX6_change_51 : decode cX6_change 51 = .ok (.ireturn, 1) := by decide +kernel
theorem dX6_change_52 : decode cX6_change 52 = .ok (.aload_n 0, 1) := by decide +kernel
theorem dX6_change_53 : decode cX6_change 53 = .ok (.iload_n 2, 1) := by decide +kernel
theorem dX6_change_54 : decode cX6_change 54 = .ok (.iconst 4, 1) := by decide +kernel
theorem dX6_change_55 : decode cX6_change 55 = .ok (.invokevirtual 50, 3) := by decide +kernel
theorem dX6_change_58 : decode cX6_change 58 = .ok (.istore_n 3, 1) := by decide +kernel
theorem dX6_change_59 : decode cX6_change 59 = .ok (.aload_n 0, 1) := by decide +kernel
theorem dX6_change_60 : decode cX6_change 60 = .ok (.iload_n 1, 1) := by decide +kernel
theorem dX6_change_61 : decode cX6_change 61 = .ok (.iconst 4, 1) := by decide +kernel
theorem dX6_change_62 : decode cX6_change 62 = .ok (.invokevirtual 50, 3) := by decide +kernel
theorem dX6_change_65 : decode cX6_change 65 = .ok (.istore 4, 2) := by decide +kernel
theorem dX6_change_67 : decode cX6_change 67 = .ok (.aload_n 0, 1) := by decide +kernel
theorem dX6_change_68 : decode cX6_change 68 = .ok (.invokevirtual 142, 3) := by decide +kernel
theorem dX6_change_71 : decode cX6_change 71 = .ok (.aload_n 0, 1) := by decide +kernel
theorem dX6_change_72 : decode cX6_change 72 = .ok (.iload_n 1, 1) := by decide +kernel
theorem dX6_change_73 : decode cX6_change 73 = .ok (.iconst 1, 1) := by decide +kernel
theorem dX6_change_74 : decode cX6_change 74 = .ok (.iload_n 3, 1) := by decide +kernel
theorem dX6_change_75 : decode cX6_change 75 = .ok (.invokevirtual 79, 3) := by decide +kernel
theorem dX6_change_78 : decode cX6_change 78 = .ok (.aload_n 0, 1) := by decide +kernel
theorem dX6_change_79 : decode cX6_change 79 = .ok (.iload_n 2, 1) := by decide +kernel
theorem dX6_change_80 : decode cX6_change 80 = .ok (.iconst 1, 1) := by decide +kernel
theorem dX6_change_81 : decode cX6_change 81 = .ok (.iload 4, 2) := by decide +kernel
theorem dX6_change_83 : decode cX6_change 83 = .ok (.invokevirtual 79, 3) := by decide +kernel
theorem dX6_change_86 : decode cX6_change 86 = .ok (.aload_n 0, 1) := by decide +kernel
theorem dX6_change_87 : decode cX6_change 87 = .ok (.iload_n 1, 1) := by decide +kernel
theorem dX6_change_88 : decode cX6_change 88 = .ok (.bipush 7, 2) := by decide +kernel
theorem dX6_change_90 : decode cX6_change 90 = .ok (.iconst (-1), 1) := by decide +kernel
theorem dX6_change_91 : decode cX6_change 91 = .ok (.invokevirtual 75, 3) := by decide +kernel
theorem dX6_change_94 : decode cX6_change 94 = .ok (.aload_n 0, 1) := by decide +kernel
theorem dX6_change_95 : decode cX6_change 95 = .ok (.iload_n 2, 1) := by decide +kernel
theorem dX6_change_96 : decode cX6_change 96 = .ok (.bipush 7, 2) := by decide +kernel
theorem dX6_change_98 : decode cX6_change 98 = .ok (.iconst (-1), 1) := by decide +kernel
theorem dX6_change_99 : decode cX6_change 99 = .ok (.invokevirtual 75, 3) := by decide +kernel
theorem dX6_change_102 : decode cX6_change 102 = .ok (.iload_n 3, 1) := by decide +kernel
theorem dX6_change_103 : decode cX6_change 103 = .ok (.ireturn, 1) := by decide +kernel
theorem dX6_await_0 : decode cX6_await 0 = .ok (.aload_n 0, 1) := by decide +kernel
theorem dX6_await_1 : decode cX6_await 1 = .ok (.aload_n 0, 1) := by decide +kernel
theorem dX6_await_2 : decode cX6_await 2 = .ok (.iload_n 1, 1) := by decide +kernel
theorem dX6_await_3 : decode cX6_await 3 = .ok (.invokevirtual 161, 3) := by decide +kernel
theorem dX6_await_6 : decode cX6_await 6 = .ok (.ifCond .ne 7, 3) := by decide +kernel
theorem dX6_await_9 : decode cX6_await 9 = .ok (.iconst 1, 1) := by decide +kernel
theorem dX6_await_10 : decode cX6_await 10 = .ok (.goto 17, 3) := by decide +kernel
theorem dX6_await_13 : decode cX6_await 13 = .ok (.aload_n 0, 1) := by decide +kernel
theorem dX6_await_14 : decode cX6_await 14 = .ok (.iload_n 1, 1) := by decide +kernel
theorem dX6_await_15 : decode cX6_await 15 = .ok (.iconst 3, 1) := by decide +kernel
theorem dX6_await_16 : decode cX6_await 16 = .ok (.invokevirtual 50, 3) := by decide +kernel
theorem dX6_await_19 : decode cX6_await 19 = .ok (.ifCond .eq 7, 3) := by decide +kernel
theorem dX6_await_22 : decode cX6_await 22 = .ok (.iconst 2, 1) := by decide +kernel
theorem dX6_await_23 : decode cX6_await 23 = .ok (.goto 4, 3) := by decide +kernel
theorem dX6_await_26 : decode cX6_await 26 = .ok (.iconst 0, 1) := by decide +kernel
theorem dX6_await_27 : decode cX6_await 27 = .ok (.invokevirtual 42, 3) := by decide +kernel
theorem dX6_await_30 : decode cX6_await 30 = .ok (.ifCond .eq 5, 3) := by decide +kernel
theorem dX6_await_33 : decode cX6_await 33 = .ok (.iconst 0, 1) := by decide +kernel
theorem dX6_await_34 : decode cX6_await 34 = .ok (.ireturn, 1) := by decide +kernel
theorem dX6_await_35 : decode cX6_await 35 = .ok (.aload_n 0, 1) := by decide +kernel
theorem dX6_await_36 : decode cX6_await 36 = .ok (.invokevirtual 142, 3) := by decide +kernel
theorem dX6_await_39 : decode cX6_await 39 = .ok (.aload_n 0, 1) := by decide +kernel
theorem dX6_await_40 : decode cX6_await 40 = .ok (.iload_n 1, 1) := by decide +kernel
theorem dX6_await_41 : decode cX6_await 41 = .ok (.invokevirtual 99, 3) := by decide +kernel
theorem dX6_await_44 : decode cX6_await 44 = .ok (.aload_n 0, 1) := by decide +kernel
theorem dX6_await_45 : decode cX6_await 45 = .ok (.iload_n 1, 1) := by decide +kernel
theorem dX6_await_46 : decode cX6_await 46 = .ok (.invokevirtual 85, 3) := by decide +kernel
theorem dX6_await_49 : decode cX6_await 49 = .ok (.ireturn, 1) := by decide +kernel
theorem dX6_offer_0 : decode cX6_offer 0 = .ok (.aload_n 0, 1) := by decide +kernel
theorem dX6_offer_1 : decode cX6_offer 1 = .ok (.aload_n 0, 1) := by decide +kernel
theorem dX6_offer_2 : decode cX6_offer 2 = .ok (.iload_n 1, 1) := by decide +kernel
theorem dX6_offer_3 : decode cX6_offer 3 = .ok (.invokevirtual 152, 3) := by decide +kernel
theorem dX6_offer_6 : decode cX6_offer 6 = .ok (.ifCond .ne 7, 3) := by decide +kernel
theorem dX6_offer_9 : decode cX6_offer 9 = .ok (.iconst 1, 1) := by decide +kernel
theorem dX6_offer_10 : decode cX6_offer 10 = .ok (.goto 16, 3) := by decide +kernel
theorem dX6_offer_13 : decode cX6_offer 13 = .ok (.aload_n 0, 1) := by decide +kernel
theorem dX6_offer_14 : decode cX6_offer 14 = .ok (.iload_n 1, 1) := by decide +kernel
theorem dX6_offer_15 : decode cX6_offer 15 = .ok (.invokevirtual 182, 3) := by decide +kernel
theorem dX6_offer_18 : decode cX6_offer 18 = .ok (.ifCond .ne 7, 3) := by decide +kernel
theorem dX6_offer_21 : decode cX6_offer 21 = .ok (.iconst 2, 1) := by decide +kernel
theorem dX6_offer_22 : decode cX6_offer 22 = .ok (.goto 4, 3) := by decide +kernel
theorem dX6_offer_25 : decode cX6_offer 25 = .ok (.iconst 0, 1) := by decide +kernel
theorem dX6_offer_26 : decode cX6_offer 26 = .ok (.invokevirtual 42, 3) := by decide +kernel
theorem dX6_offer_29 : decode cX6_offer 29 = .ok (.ifCond .eq 5, 3) := by decide +kernel
theorem dX6_offer_32 : decode cX6_offer 32 = .ok (.iconst 0, 1) := by decide +kernel
theorem dX6_offer_33 : decode cX6_offer 33 = .ok (.ireturn, 1) := by decide +kernel
theorem dX6_offer_34 : decode cX6_offer 34 = .ok (.aload_n 0, 1) := by decide +kernel
theorem dX6_offer_35 : decode cX6_offer 35 = .ok (.invokevirtual 142, 3) := by decide +kernel
theorem dX6_offer_38 : decode cX6_offer 38 = .ok (.aload_n 0, 1) := by decide +kernel
theorem dX6_offer_39 : decode cX6_offer 39 = .ok (.iconst 2, 1) := by decide +kernel
theorem dX6_offer_40 : decode cX6_offer 40 = .ok (.invokevirtual 170, 3) := by decide +kernel
theorem dX6_offer_43 : decode cX6_offer 43 = .ok (.istore_n 2, 1) := by decide +kernel
theorem dX6_offer_44 : decode cX6_offer 44 = .ok (.iconst 0, 1) := by decide +kernel
theorem dX6_offer_45 : decode cX6_offer 45 = .ok (.istore_n 3, 1) := by decide +kernel
theorem dX6_offer_46 : decode cX6_offer 46 = .ok (.iload_n 3, 1) := by decide +kernel
theorem dX6_offer_47 : decode cX6_offer 47 = .ok (.iload_n 2, 1) := by decide +kernel
theorem dX6_offer_48 : decode cX6_offer 48 = .ok (.if_icmp .ge 37, 3) := by decide +kernel
theorem dX6_offer_51 : decode cX6_offer 51 = .ok (.aload_n 0, 1) := by decide +kernel
theorem dX6_offer_52 : decode cX6_offer 52 = .ok (.iload_n 3, 1) := by decide +kernel
theorem dX6_offer_53 : decode cX6_offer 53 = .ok (.invokevirtual 188, 3) := by decide +kernel
theorem dX6_offer_56 : decode cX6_offer 56 = .ok (.istore 4, 2) := by decide +kernel
theorem dX6_offer_58 : decode cX6_offer 58 = .ok (.aload_n 0, 1) := by decide +kernel
theorem dX6_offer_59 : decode cX6_offer 59 = .ok (.iload 4, 2) := by decide +kernel
theorem dX6_offer_61 : decode cX6_offer 61 = .ok (.iload_n 1, 1) := by decide +kernel
theorem dX6_offer_62 : decode cX6_offer 62 = .ok (.invokevirtual 96, 3) := by decide +kernel
theorem dX6_offer_65 : decode cX6_offer 65 = .ok (.ifCond .eq 14, 3) := by decide +kernel
theorem dX6_offer_68 : decode cX6_offer 68 = .ok (.aload_n 0, 1) := by decide +kernel
theorem dX6_offer_69 : decode cX6_offer 69 = .ok (.iload 4, 2) := by decide +kernel
theorem dX6_offer_71 : decode cX6_offer 71 = .ok (.iconst 1, 1) := by decide +kernel
theorem dX6_offer_72 : decode cX6_offer 72 = .ok (.iload_n 1, 1) := by decide +kernel
theorem dX6_offer_73 : decode cX6_offer 73 = .ok (.invokevirtual 79, 3) := by decide +kernel
theorem dX6_offer_76 : decode cX6_offer 76 = .ok (.iload 4, 2) := by decide +kernel
theorem dX6_offer_78 : decode cX6_offer 78 = .ok (.ireturn, 1) := by decide +kernel
theorem dX6_offer_79 : decode cX6_offer 79 = .ok (.iinc 3 1, 3) := by decide +kernel
theorem dX6_offer_82 : decode cX6_offer 82 = .ok (.goto (-36), 3) := by decide +kernel
theorem dX6_offer_85 : decode cX6_offer 85 = .ok (.iconst (-1), 1) := by decide +kernel
theorem dX6_offer_86 : decode cX6_offer 86 = .ok (.ireturn, 1) := by decide +kernel
theorem dX6_waiting_0 : decode cX6_waiting 0 = .ok (.aload_n 0, 1) := by decide +kernel
theorem dX6_waiting_1 : decode cX6_waiting 1 = .ok (.iconst 0, 1) := by decide +kernel
theorem dX6_waiting_2 : decode cX6_waiting 2 = .ok (.putfield 35, 3) := by decide +kernel
theorem dX6_waiting_5 : decode cX6_waiting 5 = .ok (.iload_n 1, 1) := by decide +kernel
theorem dX6_waiting_6 : decode cX6_waiting 6 = .ok (.ifCond .ge 7, 3) := by decide +kernel
theorem dX6_waiting_9 : decode cX6_waiting 9 = .ok (.iconst (-1), 1) := by decide +kernel
theorem dX6_waiting_10 : decode cX6_waiting 10 = .ok (.goto 8, 3) := by decide +kernel
theorem dX6_waiting_13 : decode cX6_waiting 13 = .ok (.aload_n 0, 1) := by decide +kernel
theorem dX6_waiting_14 : decode cX6_waiting 14 = .ok (.iload_n 1, 1) := by decide +kernel
theorem dX6_waiting_15 : decode cX6_waiting 15 = .ok (.invokevirtual 188, 3) := by decide +kernel
theorem dX6_waiting_18 : decode cX6_waiting 18 = .ok (.ireturn, 1) := by decide +kernel
theorem dX6_bestOf_0 : decode cX6_bestOf 0 = .ok (.iconst (-1), 1) := by decide +kernel
theorem dX6_bestOf_1 : decode cX6_bestOf 1 = .ok (.istore_n 2, 1) := by decide +kernel
theorem dX6_bestOf_2 : decode cX6_bestOf 2 = .ok (.iconst 0, 1) := by decide +kernel
theorem dX6_bestOf_3 : decode cX6_bestOf 3 = .ok (.istore_n 3, 1) := by decide +kernel
theorem dX6_bestOf_4 : decode cX6_bestOf 4 = .ok (.iload_n 3, 1) := by decide +kernel
theorem dX6_bestOf_5 : decode cX6_bestOf 5 = .ok (.aload_n 0, 1) := by decide +kernel
theorem dX6_bestOf_6 : decode cX6_bestOf 6 = .ok (.getfield 7, 3) := by decide +kernel
theorem dX6_bestOf_9 : decode cX6_bestOf 9 = .ok (.bipush 6, 2) := by decide +kernel
theorem dX6_bestOf_11 : decode cX6_bestOf 11 = .ok (.iaload, 1) := by decide +kernel
theorem dX6_bestOf_12 : decode cX6_bestOf 12 = .ok (.if_icmp .ge 93, 3) := by decide +kernel
theorem dX6_bestOf_15 : decode cX6_bestOf 15 = .ok (.aload_n 0, 1) := by decide +kernel
theorem dX6_bestOf_16 : decode cX6_bestOf 16 = .ok (.iload_n 3, 1) := by decide +kernel
theorem dX6_bestOf_17 : decode cX6_bestOf 17 = .ok (.invokevirtual 182, 3) := by decide +kernel
theorem dX6_bestOf_20 : decode cX6_bestOf 20 = .ok (.ifCond .eq 79, 3) := by decide +kernel
theorem dX6_bestOf_23 : decode cX6_bestOf 23 = .ok (.aload_n 0, 1) := by decide +kernel
theorem dX6_bestOf_24 : decode cX6_bestOf 24 = .ok (.iload_n 1, 1) := by decide +kernel
theorem dX6_bestOf_25 : decode cX6_bestOf 25 = .ok (.iload_n 3, 1) := by decide +kernel
theorem dX6_bestOf_26 : decode cX6_bestOf 26 = .ok (.invokevirtual 96, 3) := by decide +kernel
theorem dX6_bestOf_29 : decode cX6_bestOf 29 = .ok (.ifCond .eq 70, 3) := by decide +kernel
theorem dX6_bestOf_32 : decode cX6_bestOf 32 = .ok (.iload_n 2, 1) := by decide +kernel
theorem dX6_bestOf_33 : decode cX6_bestOf 33 = .ok (.iconst (-1), 1) := by decide +kernel
theorem dX6_bestOf_34 : decode cX6_bestOf 34 = .ok (.if_icmp .ne 7, 3) := by decide +kernel
theorem dX6_bestOf_37 : decode cX6_bestOf 37 = .ok (.iconst (-1), 1) := by decide +kernel
theorem dX6_bestOf_38 : decode cX6_bestOf 38 = .ok (.goto 16, 3) := by decide +kernel
theorem dX6_bestOf_41 : decode cX6_bestOf 41 = .ok (.aload_n 0, 1) := by decide +kernel
theorem dX6_bestOf_42 : decode cX6_bestOf 42 = .ok (.iload_n 3, 1) := by decide +kernel
theorem dX6_bestOf_43 : decode cX6_bestOf 43 = .ok (.iconst 1, 1) := by decide +kernel
theorem dX6_bestOf_44 : decode cX6_bestOf 44 = .ok (.invokevirtual 54, 3) := by decide +kernel
theorem dX6_bestOf_47 : decode cX6_bestOf 47 = .ok (.aload_n 0, 1) := by decide +kernel
theorem dX6_bestOf_48 : decode cX6_bestOf 48 = .ok (.iload_n 2, 1) := by decide +kernel
theorem dX6_bestOf_49 : decode cX6_bestOf 49 = .ok (.iconst 1, 1) := by decide +kernel
theorem dX6_bestOf_50 : decode cX6_bestOf 50 = .ok (.invokevirtual 54, 3) := by decide +kernel
theorem dX6_bestOf_53 : decode cX6_bestOf 53 = .ok (.isub, 1) := by decide +kernel
theorem dX6_bestOf_54 : decode cX6_bestOf 54 = .ok (.istore 4, 2) := by decide +kernel
theorem dX6_bestOf_56 : decode cX6_bestOf 56 = .ok (.iload 4, 2) := by decide +kernel
theorem dX6_bestOf_58 : decode cX6_bestOf 58 = .ok (.ifCond .lt 23, 3) := by decide +kernel
theorem dX6_bestOf_61 : decode cX6_bestOf 61 = .ok (.iload 4, 2) := by decide +kernel
theorem dX6_bestOf_63 : decode cX6_bestOf 63 = .ok (.ifCond .ne 22, 3) := by decide +kernel
theorem dX6_bestOf_66 : decode cX6_bestOf 66 = .ok (.aload_n 0, 1) := by decide +kernel
theorem dX6_bestOf_67 : decode cX6_bestOf 67 = .ok (.iload_n 3, 1) := by decide +kernel
theorem dX6_bestOf_68 : decode cX6_bestOf 68 = .ok (.iconst 0, 1) := by decide +kernel
theorem dX6_bestOf_69 : decode cX6_bestOf 69 = .ok (.invokevirtual 54, 3) := by decide +kernel
theorem dX6_bestOf_72 : decode cX6_bestOf 72 = .ok (.aload_n 0, 1) := by decide +kernel
theorem dX6_bestOf_73 : decode cX6_bestOf 73 = .ok (.iload_n 2, 1) := by decide +kernel
theorem dX6_bestOf_74 : decode cX6_bestOf 74 = .ok (.iconst 0, 1) := by decide +kernel
theorem dX6_bestOf_75 : decode cX6_bestOf 75 = .ok (.invokevirtual 54, 3) := by decide +kernel
theorem dX6_bestOf_78 : decode cX6_bestOf 78 = .ok (.if_icmp .ge 7, 3) := by decide +kernel
theorem dX6_bestOf_81 : decode cX6_bestOf 81 = .ok (.iconst 1, 1) := by decide +kernel
theorem dX6_bestOf_82 : decode cX6_bestOf 82 = .ok (.goto 4, 3) := by decide +kernel
theorem dX6_bestOf_85 : decode cX6_bestOf 85 = .ok (.iconst 0, 1) := by decide +kernel
theorem dX6_bestOf_86 : decode cX6_bestOf 86 = .ok (.istore 5, 2) := by decide +kernel
theorem dX6_bestOf_88 : decode cX6_bestOf 88 = .ok (.iload 5, 2) := by decide +kernel
theorem dX6_bestOf_90 : decode cX6_bestOf 90 = .ok (.ifCond .eq 7, 3) := by decide +kernel
theorem dX6_bestOf_93 : decode cX6_bestOf 93 = .ok (.iload_n 3, 1) := by decide +kernel
theorem dX6_bestOf_94 : decode cX6_bestOf 94 = .ok (.goto 4, 3) := by decide +kernel
theorem dX6_bestOf_97 : decode cX6_bestOf 97 = .ok (.iload_n 2, 1) := by decide +kernel
theorem dX6_bestOf_98 : decode cX6_bestOf 98 = .ok (.istore_n 2, 1) := by decide +kernel
theorem dX6_bestOf_99 : decode cX6_bestOf 99 = .ok (.iinc 3 1, 3) := by decide +kernel
theorem dX6_bestOf_102 : decode cX6_bestOf 102 = .ok (.goto (-98), 3) := by decide +kernel
theorem dX6_bestOf_105 : decode cX6_bestOf 105 = .ok (.iload_n 2, 1) := by decide +kernel
theorem dX6_bestOf_106 : decode cX6_bestOf 106 = .ok (.ireturn, 1) := by decide +kernel
theorem dX6_bestBerth_0 : decode cX6_bestBerth 0 = .ok (.aload_n 0, 1) := by decide +kernel
theorem dX6_bestBerth_1 : decode cX6_bestBerth 1 = .ok (.aload_n 0, 1) := by decide +kernel
theorem dX6_bestBerth_2 : decode cX6_bestBerth 2 = .ok (.iload_n 1, 1) := by decide +kernel
theorem dX6_bestBerth_3 : decode cX6_bestBerth 3 = .ok (.invokevirtual 161, 3) := by decide +kernel
theorem dX6_bestBerth_6 : decode cX6_bestBerth 6 = .ok (.ifCond .eq 7, 3) := by decide +kernel
theorem dX6_bestBerth_9 : decode cX6_bestBerth 9 = .ok (.iconst 0, 1) := by decide +kernel
theorem dX6_bestBerth_10 : decode cX6_bestBerth 10 = .ok (.goto 4, 3) := by decide +kernel
theorem dX6_bestBerth_13 : decode cX6_bestBerth 13 = .ok (.iconst 1, 1) := by decide +kernel
theorem dX6_bestBerth_14 : decode cX6_bestBerth 14 = .ok (.invokevirtual 42, 3) := by decide +kernel
theorem dX6_bestBerth_17 : decode cX6_bestBerth 17 = .ok (.ifCond .eq 7, 3) := by decide +kernel
theorem dX6_bestBerth_20 : decode cX6_bestBerth 20 = .ok (.iconst 0, 1) := by decide +kernel
theorem dX6_bestBerth_21 : decode cX6_bestBerth 21 = .ok (.goto 8, 3) := by decide +kernel
theorem dX6_bestBerth_24 : decode cX6_bestBerth 24 = .ok (.aload_n 0, 1) := by decide +kernel
theorem dX6_bestBerth_25 : decode cX6_bestBerth 25 = .ok (.iload_n 1, 1) := by decide +kernel
theorem dX6_bestBerth_26 : decode cX6_bestBerth 26 = .ok (.invokevirtual 191, 3) := by decide +kernel
theorem dX6_bestBerth_29 : decode cX6_bestBerth 29 = .ok (.ireturn, 1) := by decide +kernel
theorem dX6_pass_0 : decode cX6_pass 0 = .ok (.aload_n 0, 1) := by decide +kernel
theorem dX6_pass_1 : decode cX6_pass 1 = .ok (.iload_n 1, 1) := by decide +kernel
theorem dX6_pass_2 : decode cX6_pass 2 = .ok (.iconst 1, 1) := by decide +kernel
theorem dX6_pass_3 : decode cX6_pass 3 = .ok (.sipush 400, 3) := by decide +kernel
theorem dX6_pass_6 : decode cX6_pass 6 = .ok (.invokestatic 46, 3) := by decide +kernel
theorem dX6_pass_9 : decode cX6_pass 9 = .ok (.ifCond .eq 7, 3) := by decide +kernel
theorem dX6_pass_12 : decode cX6_pass 12 = .ok (.iconst 0, 1) := by decide +kernel
theorem dX6_pass_13 : decode cX6_pass 13 = .ok (.goto 4, 3) := by decide +kernel
theorem dX6_pass_16 : decode cX6_pass 16 = .ok (.iconst 1, 1) := by decide +kernel
theorem dX6_pass_17 : decode cX6_pass 17 = .ok (.invokevirtual 42, 3) := by decide +kernel
theorem dX6_pass_20 : decode cX6_pass 20 = .ok (.ifCond .eq 5, 3) := by decide +kernel
theorem dX6_pass_23 : decode cX6_pass 23 = .ok (.iconst 0, 1) := by decide +kernel
theorem dX6_pass_24 : decode cX6_pass 24 = .ok (.ireturn, 1) := by decide +kernel
theorem dX6_pass_25 : decode cX6_pass 25 = .ok (.aload_n 0, 1) := by decide +kernel
theorem dX6_pass_26 : decode cX6_pass 26 = .ok (.invokevirtual 194, 3) := by decide +kernel
theorem dX6_pass_29 : decode cX6_pass 29 = .ok (.iconst 0, 1) := by decide +kernel
theorem dX6_pass_30 : decode cX6_pass 30 = .ok (.istore_n 2, 1) := by decide +kernel
theorem dX6_pass_31 : decode cX6_pass 31 = .ok (.iconst 0, 1) := by decide +kernel
theorem dX6_pass_32 : decode cX6_pass 32 = .ok (.istore_n 3, 1) := by decide +kernel
theorem dX6_pass_33 : decode cX6_pass 33 = .ok (.iload_n 3, 1) := by decide +kernel
theorem dX6_pass_34 : decode cX6_pass 34 = .ok (.iload_n 1, 1) := by decide +kernel
theorem dX6_pass_35 : decode cX6_pass 35 = .ok (.if_icmp .ge 37, 3) := by decide +kernel
theorem dX6_pass_38 : decode cX6_pass 38 = .ok (.aload_n 0, 1) := by decide +kernel
theorem dX6_pass_39 : decode cX6_pass 39 = .ok (.invokevirtual 197, 3) := by decide +kernel
theorem dX6_pass_42 : decode cX6_pass 42 = .ok (.istore 4, 2) := by decide +kernel
theorem dX6_pass_44 : decode cX6_pass 44 = .ok (.iload 4, 2) := by decide +kernel
theorem dX6_pass_46 : decode cX6_pass 46 = .ok (.iconst (-1), 1) := by decide +kernel
theorem dX6_pass_47 : decode cX6_pass 47 = .ok (.if_icmp .ne 14, 3) := by decide +kernel
theorem dX6_pass_50 : decode cX6_pass 50 = .ok (.aload_n 0, 1) := by decide +kernel
theorem dX6_pass_51 : decode cX6_pass 51 = .ok (.invokevirtual 200, 3) := by decide +kernel
theorem dX6_pass_54 : decode cX6_pass 54 = .ok (.aload_n 0, 1) := by decide +kernel
theorem dX6_pass_55 : decode cX6_pass 55 = .ok (.iconst 2, 1) := by decide +kernel
theorem dX6_pass_56 : decode cX6_pass 56 = .ok (.putfield 35, 3) := by decide +kernel
theorem dX6_pass_59 : decode cX6_pass 59 = .ok (.iconst 0, 1) := by decide +kernel
theorem dX6_pass_60 : decode cX6_pass 60 = .ok (.ireturn, 1) := by decide +kernel
theorem dX6_pass_61 : decode cX6_pass 61 = .ok (.iload_n 2, 1) := by decide +kernel
theorem dX6_pass_62 : decode cX6_pass 62 = .ok (.iload 4, 2) := by decide +kernel
theorem dX6_pass_64 : decode cX6_pass 64 = .ok (.iadd, 1) := by decide +kernel
theorem dX6_pass_65 : decode cX6_pass 65 = .ok (.istore_n 2, 1) := by decide +kernel
theorem dX6_pass_66 : decode cX6_pass 66 = .ok (.iinc 3 1, 3) := by decide +kernel
theorem dX6_pass_69 : decode cX6_pass 69 = .ok (.goto (-36), 3) := by decide +kernel
theorem dX6_pass_72 : decode cX6_pass 72 = .ok (.iconst 0, 1) := by decide +kernel
theorem dX6_pass_73 : decode cX6_pass 73 = .ok (.istore_n 3, 1) := by decide +kernel
theorem dX6_pass_74 : decode cX6_pass 74 = .ok (.iload_n 3, 1) := by decide +kernel
theorem dX6_pass_75 : decode cX6_pass 75 = .ok (.sipush 270, 3) := by decide +kernel
theorem dX6_pass_78 : decode cX6_pass 78 = .ok (.if_icmp .ge 37, 3) := by decide +kernel
theorem dX6_pass_81 : decode cX6_pass 81 = .ok (.aload_n 0, 1) := by decide +kernel
theorem dX6_pass_82 : decode cX6_pass 82 = .ok (.getfield 7, 3) := by decide +kernel
theorem dX6_pass_85 : decode cX6_pass 85 = .ok (.iload_n 3, 1) := by decide +kernel
theorem dX6_pass_86 : decode cX6_pass 86 = .ok (.iaload, 1) := by decide +kernel
theorem dX6_pass_87 : decode cX6_pass 87 = .ok (.istore 4, 2) := by decide +kernel
theorem dX6_pass_89 : decode cX6_pass 89 = .ok (.aload_n 0, 1) := by decide +kernel
theorem dX6_pass_90 : decode cX6_pass 90 = .ok (.getfield 7, 3) := by decide +kernel
theorem dX6_pass_93 : decode cX6_pass 93 = .ok (.iload_n 3, 1) := by decide +kernel
theorem dX6_pass_94 : decode cX6_pass 94 = .ok (.aload_n 0, 1) := by decide +kernel
theorem dX6_pass_95 : decode cX6_pass 95 = .ok (.getfield 16, 3) := by decide +kernel
theorem dX6_pass_98 : decode cX6_pass 98 = .ok (.iload_n 3, 1) := by decide +kernel
theorem dX6_pass_99 : decode cX6_pass 99 = .ok (.iaload, 1) := by decide +kernel
theorem dX6_pass_100 : decode cX6_pass 100 = .ok (.iastore, 1) := by decide +kernel
theorem dX6_pass_101 : decode cX6_pass 101 = .ok (.aload_n 0, 1) := by decide +kernel
theorem dX6_pass_102 : decode cX6_pass 102 = .ok (.getfield 16, 3) := by decide +kernel
theorem dX6_pass_105 : decode cX6_pass 105 = .ok (.iload_n 3, 1) := by decide +kernel
theorem dX6_pass_106 : decode cX6_pass 106 = .ok (.iload 4, 2) := by decide +kernel
theorem dX6_pass_108 : decode cX6_pass 108 = .ok (.iastore, 1) := by decide +kernel
theorem dX6_pass_109 : decode cX6_pass 109 = .ok (.iinc 3 1, 3) := by decide +kernel
theorem dX6_pass_112 : decode cX6_pass 112 = .ok (.goto (-38), 3) := by decide +kernel
theorem dX6_pass_115 : decode cX6_pass 115 = .ok (.aload_n 0, 1) := by decide +kernel
theorem dX6_pass_116 : decode cX6_pass 116 = .ok (.invokevirtual 142, 3) := by decide +kernel
theorem dX6_pass_119 : decode cX6_pass 119 = .ok (.aload_n 0, 1) := by decide +kernel
theorem dX6_pass_120 : decode cX6_pass 120 = .ok (.invokevirtual 200, 3) := by decide +kernel
theorem dX6_pass_123 : decode cX6_pass 123 = .ok (.iload_n 2, 1) := by decide +kernel
theorem dX6_pass_124 : decode cX6_pass 124 = .ok (.ireturn, 1) := by decide +kernel
theorem dX6_pay_0 : decode cX6_pay 0 = .ok (.aload_n 0, 1) := by decide +kernel
theorem dX6_pay_1 : decode cX6_pay 1 = .ok (.aload_n 0, 1) := by decide +kernel
theorem dX6_pay_2 : decode cX6_pay 2 = .ok (.iload_n 1, 1) := by decide +kernel
theorem dX6_pay_3 : decode cX6_pay 3 = .ok (.invokevirtual 161, 3) := by decide +kernel
theorem dX6_pay_6 : decode cX6_pay 6 = .ok (.ifCond .ne 7, 3) := by decide +kernel
theorem dX6_pay_9 : decode cX6_pay 9 = .ok (.iconst 1, 1) := by decide +kernel
theorem dX6_pay_10 : decode cX6_pay 10 = .ok (.goto 23, 3) := by decide +kernel
theorem dX6_pay_13 : decode cX6_pay 13 = .ok (.iload_n 2, 1) := by decide +kernel
theorem dX6_pay_14 : decode cX6_pay 14 = .ok (.iconst 1, 1) := by decide +kernel
theorem dX6_pay_15 : decode cX6_pay 15 = .ok (.aload_n 0, 1) := by decide +kernel
theorem dX6_pay_16 : decode cX6_pay 16 = .ok (.iload_n 1, 1) := by decide +kernel
theorem dX6_pay_17 : decode cX6_pay 17 = .ok (.bipush 8, 2) := by decide +kernel
theorem dX6_pay_19 : decode cX6_pay 19 = .ok (.invokevirtual 50, 3) := by decide +kernel
theorem dX6_pay_22 : decode cX6_pay 22 = .ok (.invokestatic 46, 3) := by decide +kernel
theorem dX6_pay_25 : decode cX6_pay 25 = .ok (.ifCond .ne 7, 3) := by decide +kernel
theorem dX6_pay_28 : decode cX6_pay 28 = .ok (.iconst 2, 1) := by decide +kernel
theorem dX6_pay_29 : decode cX6_pay 29 = .ok (.goto 4, 3) := by decide +kernel
theorem dX6_pay_32 : decode cX6_pay 32 = .ok (.iconst 0, 1) := by decide +kernel
theorem dX6_pay_33 : decode cX6_pay 33 = .ok (.invokevirtual 42, 3) := by decide +kernel
theorem dX6_pay_36 : decode cX6_pay 36 = .ok (.ifCond .eq 5, 3) := by decide +kernel
theorem dX6_pay_39 : decode cX6_pay 39 = .ok (.iconst 0, 1) := by decide +kernel
theorem dX6_pay_40 : decode cX6_pay 40 = .ok (.ireturn, 1) := by decide +kernel
theorem dX6_pay_41 : decode cX6_pay 41 = .ok (.aload_n 0, 1) := by decide +kernel
theorem dX6_pay_42 : decode cX6_pay 42 = .ok (.invokevirtual 142, 3) := by decide +kernel
theorem dX6_pay_45 : decode cX6_pay 45 = .ok (.aload_n 0, 1) := by decide +kernel
theorem dX6_pay_46 : decode cX6_pay 46 = .ok (.iload_n 1, 1) := by decide +kernel
theorem dX6_pay_47 : decode cX6_pay 47 = .ok (.bipush 8, 2) := by decide +kernel
theorem dX6_pay_49 : decode cX6_pay 49 = .ok (.aload_n 0, 1) := by decide +kernel
theorem dX6_pay_50 : decode cX6_pay 50 = .ok (.iload_n 1, 1) := by decide +kernel
theorem dX6_pay_51 : decode cX6_pay 51 = .ok (.bipush 8, 2) := by decide +kernel
theorem dX6_pay_53 : decode cX6_pay 53 = .ok (.invokevirtual 50, 3) := by decide +kernel
theorem dX6_pay_56 : decode cX6_pay 56 = .ok (.iload_n 2, 1) := by decide +kernel
theorem dX6_pay_57 : decode cX6_pay 57 = .ok (.isub, 1) := by decide +kernel
theorem dX6_pay_58 : decode cX6_pay 58 = .ok (.invokevirtual 75, 3) := by decide +kernel
theorem dX6_pay_61 : decode cX6_pay 61 = .ok (.aload_n 0, 1) := by decide +kernel
theorem dX6_pay_62 : decode cX6_pay 62 = .ok (.invokevirtual 203, 3) := by decide +kernel
theorem dX6_pay_65 : decode cX6_pay 65 = .ok (.iload_n 2, 1) := by decide +kernel
theorem dX6_pay_66 : decode cX6_pay 66 = .ok (.i2l, 1) := by decide +kernel
theorem dX6_pay_67 : decode cX6_pay 67 = .ok (.ladd, 1) := by decide +kernel
theorem dX6_pay_68 : decode cX6_pay 68 = .ok (.lstore_n 3, 1) := by decide +kernel
theorem dX6_pay_69 : decode cX6_pay 69 = .ok (.aload_n 0, 1) := by decide +kernel
theorem dX6_pay_70 : decode cX6_pay 70 = .ok (.getfield 7, 3) := by decide +kernel
theorem dX6_pay_73 : decode cX6_pay 73 = .ok (.bipush 10, 2) := by decide +kernel
theorem dX6_pay_75 : decode cX6_pay 75 = .ok (.lload_n 3, 1) := by decide +kernel
theorem dX6_pay_76 : decode cX6_pay 76 = .ok (.ldc2_w 207, 3) := by decide +kernel
theorem dX6_pay_79 : decode cX6_pay 79 = .ok (.ldiv, 1) := by decide +kernel
theorem dX6_pay_80 : decode cX6_pay 80 = .ok (.l2i, 1) := by decide +kernel
theorem dX6_pay_81 : decode cX6_pay 81 = .ok (.iastore, 1) := by decide +kernel
theorem dX6_pay_82 : decode cX6_pay 82 = .ok (.aload_n 0, 1) := by decide +kernel
theorem dX6_pay_83 : decode cX6_pay 83 = .ok (.getfield 7, 3) := by decide +kernel
theorem dX6_pay_86 : decode cX6_pay 86 = .ok (.bipush 11, 2) := by decide +kernel
theorem dX6_pay_88 : decode cX6_pay 88 = .ok (.lload_n 3, 1) := by decide +kernel
theorem dX6_pay_89 : decode cX6_pay 89 = .ok (.ldc2_w 207, 3) := by decide +kernel
theorem dX6_pay_92 : decode cX6_pay 92 = .ok (.lrem, 1) := by decide +kernel
theorem dX6_pay_93 : decode cX6_pay 93 = .ok (.l2i, 1) := by decide +kernel
theorem dX6_pay_94 : decode cX6_pay 94 = .ok (.iastore, 1) := by decide +kernel
theorem dX6_pay_95 : decode cX6_pay 95 = .ok (.aload_n 0, 1) := by decide +kernel
theorem dX6_pay_96 : decode cX6_pay 96 = .ok (.iload_n 1, 1) := by decide +kernel
theorem dX6_pay_97 : decode cX6_pay 97 = .ok (.bipush 8, 2) := by decide +kernel
theorem dX6_pay_99 : decode cX6_pay 99 = .ok (.invokevirtual 50, 3) := by decide +kernel
theorem dX6_pay_102 : decode cX6_pay 102 = .ok (.ireturn, 1) := by decide +kernel
theorem dX6_charge_0 : decode cX6_charge 0 = .ok (.aload_n 0, 1) := by decide +kernel
theorem dX6_charge_1 : decode cX6_charge 1 = .ok (.aload_n 0, 1) := by decide +kernel
theorem dX6_charge_2 : decode cX6_charge 2 = .ok (.iload_n 1, 1) := by decide +kernel
theorem dX6_charge_3 : decode cX6_charge 3 = .ok (.invokevirtual 161, 3) := by decide +kernel
theorem dX6_charge_6 : decode cX6_charge 6 = .ok (.ifCond .ne 7, 3) := by decide +kernel
theorem dX6_charge_9 : decode cX6_charge 9 = .ok (.iconst 1, 1) := by decide +kernel
theorem dX6_charge_10 : decode cX6_charge 10 = .ok (.goto 30, 3) := by decide +kernel
theorem dX6_charge_13 : decode cX6_charge 13 = .ok (.iload_n 2, 1) := by decide +kernel
theorem dX6_charge_14 : decode cX6_charge 14 = .ok (.ifCond .ge 7, 3) := by decide +kernel
theorem dX6_charge_17 : decode cX6_charge 17 = .ok (.iconst 2, 1) := by decide +kernel
theorem dX6_charge_18 : decode cX6_charge 18 = .ok (.goto 22, 3) := by decide +kernel
theorem dX6_charge_21 : decode cX6_charge 21 = .ok (.iload_n 2, 1) := by decide +kernel
theorem dX6_charge_22 : decode cX6_charge 22 = .ok (.ldc 108, 2) := by decide +kernel
theorem dX6_charge_24 : decode cX6_charge 24 = .ok (.aload_n 0, 1) := by decide +kernel
theorem dX6_charge_25 : decode cX6_charge 25 = .ok (.iload_n 1, 1) := by decide +kernel
theorem dX6_charge_26 : decode cX6_charge 26 = .ok (.bipush 8, 2) := by decide +kernel
theorem dX6_charge_28 : decode cX6_charge 28 = .ok (.invokevirtual 50, 3) := by decide +kernel
theorem dX6_charge_31 : decode cX6_charge 31 = .ok (.isub, 1) := by decide +kernel
theorem dX6_charge_32 : decode cX6_charge 32 = .ok (.if_icmp .le 7, 3) := by decide +kernel
theorem dX6_charge_35 : decode cX6_charge 35 = .ok (.iconst 3, 1) := by decide +kernel
theorem dX6_charge_36 : decode cX6_charge 36 = .ok (.goto 4, 3) := by decide +kernel
theorem dX6_charge_39 : decode cX6_charge 39 = .ok (.iconst 0, 1) := by decide +kernel
theorem dX6_charge_40 : decode cX6_charge 40 = .ok (.invokevirtual 42, 3) := by decide +kernel
theorem dX6_charge_43 : decode cX6_charge 43 = .ok (.ifCond .eq 5, 3) := by decide +kernel
theorem dX6_charge_46 : decode cX6_charge 46 = .ok (.iconst 0, 1) := by decide +kernel
theorem dX6_charge_47 : decode cX6_charge 47 = .ok (.ireturn, 1) := by decide +kernel
theorem dX6_charge_48 : decode cX6_charge 48 = .ok (.aload_n 0, 1) := by decide +kernel
theorem dX6_charge_49 : decode cX6_charge 49 = .ok (.invokevirtual 142, 3) := by decide +kernel
theorem dX6_charge_52 : decode cX6_charge 52 = .ok (.aload_n 0, 1) := by decide +kernel
theorem dX6_charge_53 : decode cX6_charge 53 = .ok (.iload_n 1, 1) := by decide +kernel
theorem dX6_charge_54 : decode cX6_charge 54 = .ok (.bipush 8, 2) := by decide +kernel
theorem dX6_charge_56 : decode cX6_charge 56 = .ok (.aload_n 0, 1) := by decide +kernel
theorem dX6_charge_57 : decode cX6_charge 57 = .ok (.iload_n 1, 1) := by decide +kernel
theorem dX6_charge_58 : decode cX6_charge 58 = .ok (.bipush 8, 2) := by decide +kernel
theorem dX6_charge_60 : decode cX6_charge 60 = .ok (.invokevirtual 50, 3) := by decide +kernel
theorem dX6_charge_63 : decode cX6_charge 63 = .ok (.iload_n 2, 1) := by decide +kernel
theorem dX6_charge_64 : decode cX6_charge 64 = .ok (.iadd, 1) := by decide +kernel
theorem dX6_charge_65 : decode cX6_charge 65 = .ok (.invokevirtual 75, 3) := by decide +kernel
theorem dX6_charge_68 : decode cX6_charge 68 = .ok (.aload_n 0, 1) := by decide +kernel
theorem dX6_charge_69 : decode cX6_charge 69 = .ok (.iload_n 1, 1) := by decide +kernel
theorem dX6_charge_70 : decode cX6_charge 70 = .ok (.bipush 8, 2) := by decide +kernel
theorem dX6_charge_72 : decode cX6_charge 72 = .ok (.invokevirtual 50, 3) := by decide +kernel
theorem dX6_charge_75 : decode cX6_charge 75 = .ok (.ireturn, 1) := by decide +kernel
theorem dX6_owedNow_0 : decode cX6_owedNow 0 = .ok (.lconst 0, 1) := by decide +kernel
theorem dX6_owedNow_1 : decode cX6_owedNow 1 = .ok (.lstore_n 1, 1) := by decide +kernel
theorem dX6_owedNow_2 : decode cX6_owedNow 2 = .ok (.iconst 0, 1) := by decide +kernel
theorem dX6_owedNow_3 : decode cX6_owedNow 3 = .ok (.istore_n 3, 1) := by decide +kernel
theorem dX6_owedNow_4 : decode cX6_owedNow 4 = .ok (.iload_n 3, 1) := by decide +kernel
theorem dX6_owedNow_5 : decode cX6_owedNow 5 = .ok (.aload_n 0, 1) := by decide +kernel
theorem dX6_owedNow_6 : decode cX6_owedNow 6 = .ok (.getfield 7, 3) := by decide +kernel
theorem dX6_owedNow_9 : decode cX6_owedNow 9 = .ok (.bipush 7, 2) := by decide +kernel
theorem dX6_owedNow_11 : decode cX6_owedNow 11 = .ok (.iaload, 1) := by decide +kernel
theorem dX6_owedNow_12 : decode cX6_owedNow 12 = .ok (.if_icmp .ge 20, 3) := by decide +kernel
theorem dX6_owedNow_15 : decode cX6_owedNow 15 = .ok (.lload_n 1, 1) := by decide +kernel
theorem dX6_owedNow_16 : decode cX6_owedNow 16 = .ok (.aload_n 0, 1) := by decide +kernel
theorem dX6_owedNow_17 : decode cX6_owedNow 17 = .ok (.iload_n 3, 1) := by decide +kernel
theorem dX6_owedNow_18 : decode cX6_owedNow 18 = .ok (.bipush 8, 2) := by decide +kernel
theorem dX6_owedNow_20 : decode cX6_owedNow 20 = .ok (.invokevirtual 50, 3) := by decide +kernel
theorem dX6_owedNow_23 : decode cX6_owedNow 23 = .ok (.i2l, 1) := by decide +kernel
theorem dX6_owedNow_24 : decode cX6_owedNow 24 = .ok (.ladd, 1) := by decide +kernel
theorem dX6_owedNow_25 : decode cX6_owedNow 25 = .ok (.lstore_n 1, 1) := by decide +kernel
theorem dX6_owedNow_26 : decode cX6_owedNow 26 = .ok (.iinc 3 1, 3) := by decide +kernel
theorem dX6_owedNow_29 : decode cX6_owedNow 29 = .ok (.goto (-25), 3) := by decide +kernel
theorem dX6_owedNow_32 : decode cX6_owedNow 32 = .ok (.lload_n 1, 1) := by decide +kernel
theorem dX6_owedNow_33 : decode cX6_owedNow 33 = .ok (.lreturn, 1) := by decide +kernel
theorem dX6_owed_0 : decode cX6_owed 0 = .ok (.aload_n 0, 1) := by decide +kernel
theorem dX6_owed_1 : decode cX6_owed 1 = .ok (.iconst 0, 1) := by decide +kernel
theorem dX6_owed_2 : decode cX6_owed 2 = .ok (.putfield 35, 3) := by decide +kernel
theorem dX6_owed_5 : decode cX6_owed 5 = .ok (.aload_n 0, 1) := by decide +kernel
theorem dX6_owed_6 : decode cX6_owed 6 = .ok (.invokevirtual 209, 3) := by decide +kernel
theorem dX6_owed_9 : decode cX6_owed 9 = .ok (.lreturn, 1) := by decide +kernel
theorem dX6_paidNow_0 : decode cX6_paidNow 0 = .ok (.aload_n 0, 1) := by decide +kernel
theorem dX6_paidNow_1 : decode cX6_paidNow 1 = .ok (.getfield 7, 3) := by decide +kernel
theorem dX6_paidNow_4 : decode cX6_paidNow 4 = .ok (.bipush 10, 2) := by decide +kernel
theorem dX6_paidNow_6 : decode cX6_paidNow 6 = .ok (.iaload, 1) := by decide +kernel
theorem dX6_paidNow_7 : decode cX6_paidNow 7 = .ok (.i2l, 1) := by decide +kernel
theorem dX6_paidNow_8 : decode cX6_paidNow 8 = .ok (.ldc2_w 207, 3) := by decide +kernel
theorem dX6_paidNow_11 : decode cX6_paidNow 11 = .ok (.lmul, 1) := by decide +kernel
theorem dX6_paidNow_12 : decode cX6_paidNow 12 = .ok (.aload_n 0, 1) := by decide +kernel
theorem dX6_paidNow_13 : decode cX6_paidNow 13 = .ok (.getfield 7, 3) := by decide +kernel
theorem dX6_paidNow_16 : decode cX6_paidNow 16 = .ok (.bipush 11, 2) := by decide +kernel
theorem dX6_paidNow_18 : decode cX6_paidNow 18 = .ok (.iaload, 1) := by decide +kernel
theorem dX6_paidNow_19 : decode cX6_paidNow 19 = .ok (.i2l, 1) := by decide +kernel
theorem dX6_paidNow_20 : decode cX6_paidNow 20 = .ok (.ladd, 1) := by decide +kernel
theorem dX6_paidNow_21 : decode cX6_paidNow 21 = .ok (.lreturn, 1) := by decide +kernel
theorem dX6_paid_0 : decode cX6_paid 0 = .ok (.aload_n 0, 1) := by decide +kernel
theorem dX6_paid_1 : decode cX6_paid 1 = .ok (.iconst 0, 1) := by decide +kernel
theorem dX6_paid_2 : decode cX6_paid 2 = .ok (.putfield 35, 3) := by decide +kernel
theorem dX6_paid_5 : decode cX6_paid 5 = .ok (.aload_n 0, 1) := by decide +kernel
theorem dX6_paid_6 : decode cX6_paid 6 = .ok (.invokevirtual 203, 3) := by decide +kernel
theorem dX6_paid_9 : decode cX6_paid 9 = .ok (.lreturn, 1) := by decide +kernel
theorem dX6_owesAfter_0 : decode cX6_owesAfter 0 = .ok (.aload_n 0, 1) := by decide +kernel
theorem dX6_owesAfter_1 : decode cX6_owesAfter 1 = .ok (.aload_n 0, 1) := by decide +kernel
theorem dX6_owesAfter_2 : decode cX6_owesAfter 2 = .ok (.iload_n 1, 1) := by decide +kernel
theorem dX6_owesAfter_3 : decode cX6_owesAfter 3 = .ok (.invokevirtual 161, 3) := by decide +kernel
theorem dX6_owesAfter_6 : decode cX6_owesAfter 6 = .ok (.ifCond .ne 7, 3) := by decide +kernel
theorem dX6_owesAfter_9 : decode cX6_owesAfter 9 = .ok (.iconst 1, 1) := by decide +kernel
theorem dX6_owesAfter_10 : decode cX6_owesAfter 10 = .ok (.goto 19, 3) := by decide +kernel
theorem dX6_owesAfter_13 : decode cX6_owesAfter 13 = .ok (.iload_n 2, 1) := by decide +kernel
theorem dX6_owesAfter_14 : decode cX6_owesAfter 14 = .ok (.iconst 1, 1) := by decide +kernel
theorem dX6_owesAfter_15 : decode cX6_owesAfter 15 = .ok (.sipush 400, 3) := by decide +kernel
theorem dX6_owesAfter_18 : decode cX6_owesAfter 18 = .ok (.invokestatic 46, 3) := by decide +kernel
theorem dX6_owesAfter_21 : decode cX6_owesAfter 21 = .ok (.ifCond .ne 7, 3) := by decide +kernel
theorem dX6_owesAfter_24 : decode cX6_owesAfter 24 = .ok (.iconst 2, 1) := by decide +kernel
theorem dX6_owesAfter_25 : decode cX6_owesAfter 25 = .ok (.goto 4, 3) := by decide +kernel
theorem dX6_owesAfter_28 : decode cX6_owesAfter 28 = .ok (.iconst 0, 1) := by decide +kernel
theorem dX6_owesAfter_29 : decode cX6_owesAfter 29 = .ok (.invokevirtual 42, 3) := by decide +kernel
theorem dX6_owesAfter_32 : decode cX6_owesAfter 32 = .ok (.ifCond .eq 5, 3) := by decide +kernel
theorem dX6_owesAfter_35 : decode cX6_owesAfter 35 = .ok (.iconst 0, 1) := by decide +kernel
theorem dX6_owesAfter_36 : decode cX6_owesAfter 36 = .ok (.ireturn, 1) := by decide +kernel
theorem dX6_owesAfter_37 : decode cX6_owesAfter 37 = .ok (.aload_n 0, 1) := by decide +kernel
theorem dX6_owesAfter_38 : decode cX6_owesAfter 38 = .ok (.invokevirtual 194, 3) := by decide +kernel
theorem dX6_owesAfter_41 : decode cX6_owesAfter 41 = .ok (.iconst 0, 1) := by decide +kernel
theorem dX6_owesAfter_42 : decode cX6_owesAfter 42 = .ok (.istore_n 3, 1) := by decide +kernel
theorem dX6_owesAfter_43 : decode cX6_owesAfter 43 = .ok (.iconst 0, 1) := by decide +kernel
theorem dX6_owesAfter_44 : decode cX6_owesAfter 44 = .ok (.istore 4, 2) := by decide +kernel
theorem dX6_owesAfter_46 : decode cX6_owesAfter 46 = .ok (.iload 4, 2) := by decide +kernel
theorem dX6_owesAfter_48 : decode cX6_owesAfter 48 = .ok (.iload_n 2, 1) := by decide +kernel
theorem dX6_owesAfter_49 : decode cX6_owesAfter 49 = .ok (.if_icmp .ge 19, 3) := by decide +kernel
theorem dX6_owesAfter_52 : decode cX6_owesAfter 52 = .ok (.iload_n 3, 1) := by decide +kernel
theorem dX6_owesAfter_53 : decode cX6_owesAfter 53 = .ok (.iconst (-1), 1) := by decide +kernel
theorem dX6_owesAfter_54 : decode cX6_owesAfter 54 = .ok (.if_icmp .eq 14, 3) := by decide +kernel
theorem dX6_owesAfter_57 : decode cX6_owesAfter 57 = .ok (.aload_n 0, 1) := by decide +kernel
theorem dX6_owesAfter_58 : decode cX6_owesAfter 58 = .ok (.invokevirtual 197, 3) := by decide +kernel
theorem dX6_owesAfter_61 : decode cX6_owesAfter 61 = .ok (.istore_n 3, 1) := by decide +kernel
theorem dX6_owesAfter_62 : decode cX6_owesAfter 62 = .ok (.iinc 4 1, 3) := by decide +kernel
theorem dX6_owesAfter_65 : decode cX6_owesAfter 65 = .ok (.goto (-19), 3) := by decide +kernel
theorem dX6_owesAfter_68 : decode cX6_owesAfter 68 = .ok (.iload_n 3, 1) := by decide +kernel
theorem dX6_owesAfter_69 : decode cX6_owesAfter 69 = .ok (.iconst (-1), 1) := by decide +kernel
theorem dX6_owesAfter_70 : decode cX6_owesAfter 70 = .ok (.if_icmp .ne 7, 3) := by decide +kernel
theorem dX6_owesAfter_73 : decode cX6_owesAfter 73 = .ok (.iconst (-1), 1) := by decide +kernel
theorem dX6_owesAfter_74 : decode cX6_owesAfter 74 = .ok (.goto 10, 3) := by decide +kernel
theorem dX6_owesAfter_77 : decode cX6_owesAfter 77 = .ok (.aload_n 0, 1) := by decide +kernel
theorem dX6_owesAfter_78 : decode cX6_owesAfter 78 = .ok (.iload_n 1, 1) := by decide +kernel
theorem dX6_owesAfter_79 : decode cX6_owesAfter 79 = .ok (.bipush 8, 2) := by decide +kernel
theorem dX6_owesAfter_81 : decode cX6_owesAfter 81 = .ok (.invokevirtual 50, 3) := by decide +kernel
theorem dX6_owesAfter_84 : decode cX6_owesAfter 84 = .ok (.istore 4, 2) := by decide +kernel
theorem dX6_owesAfter_86 : decode cX6_owesAfter 86 = .ok (.aload_n 0, 1) := by decide +kernel
theorem dX6_owesAfter_87 : decode cX6_owesAfter 87 = .ok (.invokevirtual 200, 3) := by decide +kernel
theorem dX6_owesAfter_90 : decode cX6_owesAfter 90 = .ok (.iload 4, 2) := by decide +kernel
theorem dX6_owesAfter_92 : decode cX6_owesAfter 92 = .ok (.ireturn, 1) := by decide +kernel
theorem dX6_grounds_0 : decode cX6_grounds 0 = .ok (.iconst 0, 1) := by decide +kernel
theorem dX6_grounds_1 : decode cX6_grounds 1 = .ok (.istore_n 2, 1) := by decide +kernel
theorem dX6_grounds_2 : decode cX6_grounds 2 = .ok (.iload_n 2, 1) := by decide +kernel
theorem dX6_grounds_3 : decode cX6_grounds 3 = .ok (.aload_n 0, 1) := by decide +kernel
theorem dX6_grounds_4 : decode cX6_grounds 4 = .ok (.getfield 7, 3) := by decide +kernel
theorem dX6_grounds_7 : decode cX6_grounds 7 = .ok (.bipush 8, 2) := by decide +kernel
theorem dX6_grounds_9 : decode cX6_grounds 9 = .ok (.iaload, 1) := by decide +kernel
theorem dX6_grounds_10 : decode cX6_grounds 10 = .ok (.if_icmp .ge 27, 3) := by decide +kernel
theorem dX6_grounds_13 : decode cX6_grounds 13 = .ok (.aload_n 0, 1) := by decide +kernel
theorem dX6_grounds_14 : decode cX6_grounds 14 = .ok (.iload_n 1, 1) := by decide +kernel
theorem dX6_grounds_15 : decode cX6_grounds 15 = .ok (.aload_n 0, 1) := by decide +kernel
theorem dX6_grounds_16 : decode cX6_grounds 16 = .ok (.getfield 7, 3) := by decide +kernel
theorem dX6_grounds_19 : decode cX6_grounds 19 = .ok (.iconst 4, 1) := by decide +kernel
theorem dX6_grounds_20 : decode cX6_grounds 20 = .ok (.iaload, 1) := by decide +kernel
theorem dX6_grounds_21 : decode cX6_grounds 21 = .ok (.iload_n 2, 1) := by decide +kernel
theorem dX6_grounds_22 : decode cX6_grounds 22 = .ok (.iadd, 1) := by decide +kernel
theorem dX6_grounds_23 : decode cX6_grounds 23 = .ok (.invokevirtual 158, 3) := by decide +kernel
theorem dX6_grounds_26 : decode cX6_grounds 26 = .ok (.ifCond .eq 5, 3) := by decide +kernel
theorem dX6_grounds_29 : decode cX6_grounds 29 = .ok (.iload_n 2, 1) := by decide +kernel
theorem dX6_grounds_30 : decode cX6_grounds 30 = .ok (.ireturn, 1) := by decide +kernel
theorem dX6_grounds_31 : decode cX6_grounds 31 = .ok (.iinc 2 1, 3) := by decide +kernel
theorem dX6_grounds_34 : decode cX6_grounds 34 = .ok (.goto (-32), 3) := by decide +kernel
theorem dX6_grounds_37 : decode cX6_grounds 37 = .ok (.iconst (-1), 1) := by decide +kernel
theorem dX6_grounds_38 : decode cX6_grounds 38 = .ok (.ireturn, 1) := by decide +kernel
theorem dX6_groundsIn_0 : decode cX6_groundsIn 0 = .ok (.aload_n 0, 1) := by decide +kernel
theorem dX6_groundsIn_1 : decode cX6_groundsIn 1 = .ok (.aload_n 0, 1) := by decide +kernel
theorem dX6_groundsIn_2 : decode cX6_groundsIn 2 = .ok (.iload_n 1, 1) := by decide +kernel
theorem dX6_groundsIn_3 : decode cX6_groundsIn 3 = .ok (.invokevirtual 161, 3) := by decide +kernel
theorem dX6_groundsIn_6 : decode cX6_groundsIn 6 = .ok (.ifCond .eq 7, 3) := by decide +kernel
theorem dX6_groundsIn_9 : decode cX6_groundsIn 9 = .ok (.iconst 0, 1) := by decide +kernel
theorem dX6_groundsIn_10 : decode cX6_groundsIn 10 = .ok (.goto 4, 3) := by decide +kernel
theorem dX6_groundsIn_13 : decode cX6_groundsIn 13 = .ok (.iconst 1, 1) := by decide +kernel
theorem dX6_groundsIn_14 : decode cX6_groundsIn 14 = .ok (.invokevirtual 42, 3) := by decide +kernel
theorem dX6_groundsIn_17 : decode cX6_groundsIn 17 = .ok (.ifCond .eq 7, 3) := by decide +kernel
theorem dX6_groundsIn_20 : decode cX6_groundsIn 20 = .ok (.iconst 0, 1) := by decide +kernel
theorem dX6_groundsIn_21 : decode cX6_groundsIn 21 = .ok (.goto 8, 3) := by decide +kernel
theorem dX6_groundsIn_24 : decode cX6_groundsIn 24 = .ok (.aload_n 0, 1) := by decide +kernel
theorem dX6_groundsIn_25 : decode cX6_groundsIn 25 = .ok (.iload_n 1, 1) := by decide +kernel
theorem dX6_groundsIn_26 : decode cX6_groundsIn 26 = .ok (.invokevirtual 212, 3) := by decide +kernel
theorem dX6_groundsIn_29 : decode cX6_groundsIn 29 = .ok (.ireturn, 1) := by decide +kernel
theorem dX6_winterBerth_0 : decode cX6_winterBerth 0 = .ok (.aload_n 0, 1) := by decide +kernel
theorem dX6_winterBerth_1 : decode cX6_winterBerth 1 = .ok (.aload_n 0, 1) := by decide +kernel
theorem dX6_winterBerth_2 : decode cX6_winterBerth 2 = .ok (.iload_n 1, 1) := by decide +kernel
theorem dX6_winterBerth_3 : decode cX6_winterBerth 3 = .ok (.invokevirtual 161, 3) := by decide +kernel
theorem dX6_winterBerth_6 : decode cX6_winterBerth 6 = .ok (.ifCond .ne 7, 3) := by decide +kernel
theorem dX6_winterBerth_9 : decode cX6_winterBerth 9 = .ok (.iconst 1, 1) := by decide +kernel
theorem dX6_winterBerth_10 : decode cX6_winterBerth 10 = .ok (.goto 18, 3) := by decide +kernel
theorem dX6_winterBerth_13 : decode cX6_winterBerth 13 = .ok (.aload_n 0, 1) := by decide +kernel
theorem dX6_winterBerth_14 : decode cX6_winterBerth 14 = .ok (.getfield 7, 3) := by decide +kernel
theorem dX6_winterBerth_17 : decode cX6_winterBerth 17 = .ok (.iconst 5, 1) := by decide +kernel
theorem dX6_winterBerth_18 : decode cX6_winterBerth 18 = .ok (.iaload, 1) := by decide +kernel
theorem dX6_winterBerth_19 : decode cX6_winterBerth 19 = .ok (.iconst 1, 1) := by decide +kernel
theorem dX6_winterBerth_20 : decode cX6_winterBerth 20 = .ok (.if_icmp .ne 7, 3) := by decide +kernel
theorem dX6_winterBerth_23 : decode cX6_winterBerth 23 = .ok (.iconst 2, 1) := by decide +kernel
theorem dX6_winterBerth_24 : decode cX6_winterBerth 24 = .ok (.goto 4, 3) := by decide +kernel
theorem dX6_winterBerth_27 : decode cX6_winterBerth 27 = .ok (.iconst 0, 1) := by decide +kernel
theorem dX6_winterBerth_28 : decode cX6_winterBerth 28 = .ok (.invokevirtual 42, 3) := by decide +kernel
theorem dX6_winterBerth_31 : decode cX6_winterBerth 31 = .ok (.ifCond .eq 5, 3) := by decide +kernel
theorem dX6_winterBerth_34 : decode cX6_winterBerth 34 = .ok (.iconst 0, 1) := by decide +kernel
theorem dX6_winterBerth_35 : decode cX6_winterBerth 35 = .ok (.ireturn, 1) := by decide +kernel
theorem dX6_winterBerth_36 : decode cX6_winterBerth 36 = .ok (.aload_n 0, 1) := by decide +kernel
theorem dX6_winterBerth_37 : decode cX6_winterBerth 37 = .ok (.invokevirtual 194, 3) := by decide +kernel
theorem dX6_winterBerth_40 : decode cX6_winterBerth 40 = .ok (.aload_n 0, 1) := by decide +kernel
theorem dX6_winterBerth_41 : decode cX6_winterBerth 41 = .ok (.invokevirtual 109, 3) := by decide +kernel
theorem dX6_winterBerth_44 : decode cX6_winterBerth 44 = .ok (.aload_n 0, 1) := by decide +kernel
theorem dX6_winterBerth_45 : decode cX6_winterBerth 45 = .ok (.iload_n 1, 1) := by decide +kernel
theorem dX6_winterBerth_46 : decode cX6_winterBerth 46 = .ok (.iconst 4, 1) := by decide +kernel
theorem dX6_winterBerth_47 : decode cX6_winterBerth 47 = .ok (.invokevirtual 50, 3) := by decide +kernel
theorem dX6_winterBerth_50 : decode cX6_winterBerth 50 = .ok (.istore_n 2, 1) := by decide +kernel
theorem dX6_winterBerth_51 : decode cX6_winterBerth 51 = .ok (.aload_n 0, 1) := by decide +kernel
theorem dX6_winterBerth_52 : decode cX6_winterBerth 52 = .ok (.invokevirtual 200, 3) := by decide +kernel
theorem dX6_winterBerth_55 : decode cX6_winterBerth 55 = .ok (.iload_n 2, 1) := by decide +kernel
theorem dX6_winterBerth_56 : decode cX6_winterBerth 56 = .ok (.ireturn, 1) := by decide +kernel
theorem dX6_wouldGoAshore_0 : decode cX6_wouldGoAshore 0 = .ok (.aload_n 0, 1) := by decide +kernel
theorem dX6_wouldGoAshore_1 : decode cX6_wouldGoAshore 1 = .ok (.aload_n 0, 1) := by decide +kernel
theorem dX6_wouldGoAshore_2 : decode cX6_wouldGoAshore 2 = .ok (.getfield 7, 3) := by decide +kernel
theorem dX6_wouldGoAshore_5 : decode cX6_wouldGoAshore 5 = .ok (.iconst 5, 1) := by decide +kernel
theorem dX6_wouldGoAshore_6 : decode cX6_wouldGoAshore 6 = .ok (.iaload, 1) := by decide +kernel
theorem dX6_wouldGoAshore_7 : decode cX6_wouldGoAshore 7 = .ok (.iconst 1, 1) := by decide +kernel
theorem dX6_wouldGoAshore_8 : decode cX6_wouldGoAshore 8 = .ok (.if_icmp .ne 7, 3) := by decide +kernel
theorem dX6_wouldGoAshore_11 : decode cX6_wouldGoAshore 11 = .ok (.iconst 1, 1) := by decide +kernel
theorem dX6_wouldGoAshore_12 : decode cX6_wouldGoAshore 12 = .ok (.goto 4, 3) := by decide +kernel
theorem dX6_wouldGoAshore_15 : decode cX6_wouldGoAshore 15 = .ok (.iconst 0, 1) := by decide +kernel
theorem dX6_wouldGoAshore_16 : decode cX6_wouldGoAshore 16 = .ok (.invokevirtual 42, 3) := by decide +kernel
theorem dX6_wouldGoAshore_19 : decode cX6_wouldGoAshore 19 = .ok (.ifCond .eq 5, 3) := by decide +kernel
theorem dX6_wouldGoAshore_22 : decode cX6_wouldGoAshore 22 = .ok (.iconst 0, 1) := by decide +kernel
theorem dX6_wouldGoAshore_23 : decode cX6_wouldGoAshore 23 = .ok (.ireturn, 1) := by decide +kernel
theorem dX6_wouldGoAshore_24 : decode cX6_wouldGoAshore 24 = .ok (.aload_n 0, 1) := by decide +kernel
theorem dX6_wouldGoAshore_25 : decode cX6_wouldGoAshore 25 = .ok (.invokevirtual 194, 3) := by decide +kernel
theorem dX6_wouldGoAshore_28 : decode cX6_wouldGoAshore 28 = .ok (.aload_n 0, 1) := by decide +kernel
theorem dX6_wouldGoAshore_29 : decode cX6_wouldGoAshore 29 = .ok (.iconst 3, 1) := by decide +kernel
theorem dX6_wouldGoAshore_30 : decode cX6_wouldGoAshore 30 = .ok (.invokevirtual 170, 3) := by decide +kernel
theorem dX6_wouldGoAshore_33 : decode cX6_wouldGoAshore 33 = .ok (.istore_n 1, 1) := by decide +kernel
theorem dX6_wouldGoAshore_34 : decode cX6_wouldGoAshore 34 = .ok (.aload_n 0, 1) := by decide +kernel
theorem dX6_wouldGoAshore_35 : decode cX6_wouldGoAshore 35 = .ok (.invokevirtual 109, 3) := by decide +kernel
theorem dX6_wouldGoAshore_38 : decode cX6_wouldGoAshore 38 = .ok (.aload_n 0, 1) := by decide +kernel
theorem dX6_wouldGoAshore_39 : decode cX6_wouldGoAshore 39 = .ok (.iconst 3, 1) := by decide +kernel
theorem dX6_wouldGoAshore_40 : decode cX6_wouldGoAshore 40 = .ok (.invokevirtual 170, 3) := by decide +kernel
theorem dX6_wouldGoAshore_43 : decode cX6_wouldGoAshore 43 = .ok (.iload_n 1, 1) := by decide +kernel
theorem dX6_wouldGoAshore_44 : decode cX6_wouldGoAshore 44 = .ok (.isub, 1) := by decide +kernel
theorem dX6_wouldGoAshore_45 : decode cX6_wouldGoAshore 45 = .ok (.istore_n 2, 1) := by decide +kernel
theorem dX6_wouldGoAshore_46 : decode cX6_wouldGoAshore 46 = .ok (.aload_n 0, 1) := by decide +kernel
theorem dX6_wouldGoAshore_47 : decode cX6_wouldGoAshore 47 = .ok (.invokevirtual 200, 3) := by decide +kernel
theorem dX6_wouldGoAshore_50 : decode cX6_wouldGoAshore 50 = .ok (.iload_n 2, 1) := by decide +kernel
theorem dX6_wouldGoAshore_51 : decode cX6_wouldGoAshore 51 = .ok (.ireturn, 1) := by decide +kernel
theorem dX6_greatestClearance_0 : decode cX6_greatestClearance 0 = .ok (.aload_n 0, 1) := by decide +kernel
theorem dX6_greatestClearance_1 : decode cX6_greatestClearance 1 = .ok (.iconst 0, 1) := by decide +kernel
theorem dX6_greatestClearance_2 : decode cX6_greatestClearance 2 = .ok (.putfield 35, 3) := by decide +kernel
theorem dX6_greatestClearance_5 : decode cX6_greatestClearance 5 = .ok (.aload_n 0, 1) := by decide +kernel
theorem dX6_greatestClearance_6 : decode cX6_greatestClearance 6 = .ok (.getfield 7, 3) := by decide +kernel
theorem dX6_greatestClearance_9 : decode cX6_greatestClearance 9 = .ok (.iconst 0, 1) := by decide +kernel
theorem dX6_greatestClearance_10 : decode cX6_greatestClearance 10 = .ok (.iaload, 1) := by decide +kernel
theorem dX6_greatestClearance_11 : decode cX6_greatestClearance 11 = .ok (.istore_n 1, 1) := by decide +kernel
theorem dX6_greatestClearance_12 : decode cX6_greatestClearance 12 = .ok (.iconst (-1), 1) := by decide +kernel
theorem dX6_greatestClearance_13 : decode cX6_greatestClearance 13 = .ok (.istore_n 2, 1) := by decide +kernel
theorem dX6_greatestClearance_14 : decode cX6_greatestClearance 14 = .ok (.iconst 0, 1) := by decide +kernel
theorem dX6_greatestClearance_15 : decode cX6_greatestClearance 15 = .ok (.istore_n 3, 1) := by decide +kernel
theorem dX6_greatestClearance_16 : decode cX6_greatestClearance 16 = .ok (.iload_n 3, 1) := by decide +kernel
theorem dX6_greatestClearance_17 : decode cX6_greatestClearance 17 = .ok (.bipush 100, 2) := by decide +kernel
theorem dX6_greatestClearance_19 : decode cX6_greatestClearance 19 = .ok (.if_icmp .gt 90, 3) := by decide +kernel
theorem dX6_greatestClearance_22 : decode cX6_greatestClearance 22 = .ok (.aload_n 0, 1) := by decide +kernel
theorem dX6_greatestClearance_23 : decode cX6_greatestClearance 23 = .ok (.getfield 7, 3) := by decide +kernel
theorem dX6_greatestClearance_26 : decode cX6_greatestClearance 26 = .ok (.iconst 0, 1) := by decide +kernel
theorem dX6_greatestClearance_27 : decode cX6_greatestClearance 27 = .ok (.iload_n 3, 1) := by decide +kernel
theorem dX6_greatestClearance_28 : decode cX6_greatestClearance 28 = .ok (.iastore, 1) := by decide +kernel
theorem dX6_greatestClearance_29 : decode cX6_greatestClearance 29 = .ok (.iconst 1, 1) := by decide +kernel
theorem dX6_greatestClearance_30 : decode cX6_greatestClearance 30 = .ok (.istore 4, 2) := by decide +kernel
theorem dX6_greatestClearance_32 : decode cX6_greatestClearance 32 = .ok (.iconst 0, 1) := by decide +kernel
theorem dX6_greatestClearance_33 : decode cX6_greatestClearance 33 = .ok (.istore 5, 2) := by decide +kernel
theorem dX6_greatestClearance_35 : decode cX6_greatestClearance 35 = .ok (.iload 5, 2) := by decide +kernel
theorem dX6_greatestClearance_37 : decode cX6_greatestClearance 37 = .ok (.aload_n 0, 1) := by decide +kernel
theorem dX6_greatestClearance_38 : decode cX6_greatestClearance 38 = .ok (.getfield 7, 3) := by decide +kernel
theorem dX6_greatestClearance_41 : decode cX6_greatestClearance 41 = .ok (.bipush 7, 2) := by decide +kernel
theorem dX6_greatestClearance_43 : decode cX6_greatestClearance 43 = .ok (.iaload, 1) := by decide +kernel
theorem dX6_greatestClearance_44 : decode cX6_greatestClearance 44 = .ok (.if_icmp .ge 48, 3) := by decide +kernel
theorem dX6_greatestClearance_47 : decode cX6_greatestClearance 47 = .ok (.iload 4, 2) := by decide +kernel
theorem dX6_greatestClearance_49 : decode cX6_greatestClearance 49 = .ok (.ifCond .eq 34, 3) := by decide +kernel
theorem dX6_greatestClearance_52 : decode cX6_greatestClearance 52 = .ok (.aload_n 0, 1) := by decide +kernel
theorem dX6_greatestClearance_53 : decode cX6_greatestClearance 53 = .ok (.iload 5, 2) := by decide +kernel
theorem dX6_greatestClearance_55 : decode cX6_greatestClearance 55 = .ok (.iconst 3, 1) := by decide +kernel
theorem dX6_greatestClearance_56 : decode cX6_greatestClearance 56 = .ok (.invokevirtual 50, 3) := by decide +kernel
theorem dX6_greatestClearance_59 : decode cX6_greatestClearance 59 = .ok (.iconst 1, 1) := by decide +kernel
theorem dX6_greatestClearance_60 : decode cX6_greatestClearance 60 = .ok (.if_icmp .ne 19, 3) := by decide +kernel
theorem dX6_greatestClearance_63 : decode cX6_greatestClearance 63 = .ok (.aload_n 0, 1) := by decide +kernel
theorem dX6_greatestClearance_64 : decode cX6_greatestClearance 64 = .ok (.iload 5, 2) := by decide +kernel
theorem dX6_greatestClearance_66 : decode cX6_greatestClearance 66 = .ok (.aload_n 0, 1) := by decide +kernel
theorem dX6_greatestClearance_67 : decode cX6_greatestClearance 67 = .ok (.iload 5, 2) := by decide +kernel
theorem dX6_greatestClearance_69 : decode cX6_greatestClearance 69 = .ok (.iconst 4, 1) := by decide +kernel
theorem dX6_greatestClearance_70 : decode cX6_greatestClearance 70 = .ok (.invokevirtual 50, 3) := by decide +kernel
theorem dX6_greatestClearance_73 : decode cX6_greatestClearance 73 = .ok (.invokevirtual 96, 3) := by decide +kernel
theorem dX6_greatestClearance_76 : decode cX6_greatestClearance 76 = .ok (.ifCond .eq 7, 3) := by decide +kernel
theorem dX6_greatestClearance_79 : decode cX6_greatestClearance 79 = .ok (.iconst 1, 1) := by decide +kernel
theorem dX6_greatestClearance_80 : decode cX6_greatestClearance 80 = .ok (.goto 4, 3) := by decide +kernel
theorem dX6_greatestClearance_83 : decode cX6_greatestClearance 83 = .ok (.iconst 0, 1) := by decide +kernel
theorem dX6_greatestClearance_84 : decode cX6_greatestClearance 84 = .ok (.istore 4, 2) := by decide +kernel
theorem dX6_greatestClearance_86 : decode cX6_greatestClearance 86 = .ok (.iinc 5 1, 3) := by decide +kernel
theorem dX6_greatestClearance_89 : decode cX6_greatestClearance 89 = .ok (.goto (-54), 3) := by decide +kernel
theorem dX6_greatestClearance_92 : decode cX6_greatestClearance 92 = .ok (.iload 4, 2) := by decide +kernel
theorem dX6_greatestClearance_94 : decode cX6_greatestClearance 94 = .ok (.ifCond .eq 7, 3) := by decide +kernel
theorem dX6_greatestClearance_97 : decode cX6_greatestClearance 97 = .ok (.iload_n 3, 1) := by decide +kernel
theorem dX6_greatestClearance_98 : decode cX6_greatestClearance 98 = .ok (.goto 4, 3) := by decide +kernel
theorem dX6_greatestClearance_101 : decode cX6_greatestClearance 101 = .ok (.iload_n 2, 1) := by decide +kernel
theorem dX6_greatestClearance_102 : decode cX6_greatestClearance 102 = .ok (.istore_n 2, 1) := by decide +kernel
theorem dX6_greatestClearance_103 : decode cX6_greatestClearance 103 = .ok (.iinc 3 1, 3) := by decide +kernel
theorem dX6_greatestClearance_106 : decode cX6_greatestClearance 106 = .ok (.goto (-90), 3) := by decide +kernel
theorem dX6_greatestClearance_109 : decode cX6_greatestClearance 109 = .ok (.aload_n 0, 1) := by decide +kernel
theorem dX6_greatestClearance_110 : decode cX6_greatestClearance 110 = .ok (.getfield 7, 3) := by decide +kernel
theorem dX6_greatestClearance_113 : decode cX6_greatestClearance 113 = .ok (.iconst 0, 1) := by decide +kernel
theorem dX6_greatestClearance_114 : decode cX6_greatestClearance 114 = .ok (.iload_n 1, 1) := by decide +kernel
theorem dX6_greatestClearance_115 : decode cX6_greatestClearance 115 = .ok (.iastore, 1) := by decide +kernel
theorem dX6_greatestClearance_116 : decode cX6_greatestClearance 116 = .ok (.iload_n 2, 1) := by decide +kernel
theorem dX6_greatestClearance_117 : decode cX6_greatestClearance 117 = .ok (.ireturn, 1) := by decide +kernel
theorem dX6_missingDepth_0 : decode cX6_missingDepth 0 = .ok (.aload_n 0, 1) := by decide +kernel
theorem dX6_missingDepth_1 : decode cX6_missingDepth 1 = .ok (.aload_n 0, 1) := by decide +kernel
theorem dX6_missingDepth_2 : decode cX6_missingDepth 2 = .ok (.iload_n 1, 1) := by decide +kernel
theorem dX6_missingDepth_3 : decode cX6_missingDepth 3 = .ok (.iload_n 2, 1) := by decide +kernel
theorem dX6_missingDepth_4 : decode cX6_missingDepth 4 = .ok (.invokevirtual 167, 3) := by decide +kernel
theorem dX6_missingDepth_7 : decode cX6_missingDepth 7 = .ok (.ifCond .eq 7, 3) := by decide +kernel
theorem dX6_missingDepth_10 : decode cX6_missingDepth 10 = .ok (.iconst 0, 1) := by decide +kernel
theorem dX6_missingDepth_11 : decode cX6_missingDepth 11 = .ok (.goto 4, 3) := by decide +kernel
theorem dX6_missingDepth_14 : decode cX6_missingDepth 14 = .ok (.iconst 1, 1) := by decide +kernel
theorem dX6_missingDepth_15 : decode cX6_missingDepth 15 = .ok (.invokevirtual 42, 3) := by decide +kernel
theorem dX6_missingDepth_18 : decode cX6_missingDepth 18 = .ok (.ifCond .eq 5, 3) := by decide +kernel
theorem dX6_missingDepth_21 : decode cX6_missingDepth 21 = .ok (.iconst 0, 1) := by decide +kernel
theorem dX6_missingDepth_22 : decode cX6_missingDepth 22 = .ok (.ireturn, 1) := by decide +kernel
theorem dX6_missingDepth_23 : decode cX6_missingDepth 23 = .ok (.aload_n 0, 1) := by decide +kernel
theorem dX6_missingDepth_24 : decode cX6_missingDepth 24 = .ok (.iload_n 1, 1) := by decide +kernel
theorem dX6_missingDepth_25 : decode cX6_missingDepth 25 = .ok (.iload_n 2, 1) := by decide +kernel
theorem dX6_missingDepth_26 : decode cX6_missingDepth 26 = .ok (.invokevirtual 61, 3) := by decide +kernel
theorem dX6_missingDepth_29 : decode cX6_missingDepth 29 = .ok (.ifCond .eq 12, 3) := by decide +kernel
theorem dX6_missingDepth_32 : decode cX6_missingDepth 32 = .ok (.aload_n 0, 1) := by decide +kernel
theorem dX6_missingDepth_33 : decode cX6_missingDepth 33 = .ok (.iload_n 1, 1) := by decide +kernel
theorem dX6_missingDepth_34 : decode cX6_missingDepth 34 = .ok (.iload_n 2, 1) := by decide +kernel
theorem dX6_missingDepth_35 : decode cX6_missingDepth 35 = .ok (.invokevirtual 65, 3) := by decide +kernel
theorem dX6_missingDepth_38 : decode cX6_missingDepth 38 = .ok (.goto 4, 3) := by decide +kernel
theorem dX6_missingDepth_41 : decode cX6_missingDepth 41 = .ok (.iconst (-1), 1) := by decide +kernel
theorem dX6_missingDepth_42 : decode cX6_missingDepth 42 = .ok (.ireturn, 1) := by decide +kernel
theorem dX6_type_0 : decode cX6_type 0 = .ok (.aload_n 0, 1) := by decide +kernel
theorem dX6_type_1 : decode cX6_type 1 = .ok (.iload_n 1, 1) := by decide +kernel
theorem dX6_type_2 : decode cX6_type 2 = .ok (.bipush 32, 2) := by decide +kernel
theorem dX6_type_4 : decode cX6_type 4 = .ok (.bipush 126, 2) := by decide +kernel
theorem dX6_type_6 : decode cX6_type 6 = .ok (.invokestatic 46, 3) := by decide +kernel
theorem dX6_type_9 : decode cX6_type 9 = .ok (.ifCond .ne 7, 3) := by decide +kernel
theorem dX6_type_12 : decode cX6_type 12 = .ok (.iconst 1, 1) := by decide +kernel
theorem dX6_type_13 : decode cX6_type 13 = .ok (.goto 17, 3) := by decide +kernel
theorem dX6_type_16 : decode cX6_type 16 = .ok (.aload_n 0, 1) := by decide +kernel
theorem dX6_type_17 : decode cX6_type 17 = .ok (.getfield 118, 3) := by decide +kernel
theorem dX6_type_20 : decode cX6_type 20 = .ok (.bipush 70, 2) := by decide +kernel
theorem dX6_type_22 : decode cX6_type 22 = .ok (.if_icmp .ne 7, 3) := by decide +kernel
theorem dX6_type_25 : decode cX6_type 25 = .ok (.iconst 2, 1) := by decide +kernel
theorem dX6_type_26 : decode cX6_type 26 = .ok (.goto 4, 3) := by decide +kernel
theorem dX6_type_29 : decode cX6_type 29 = .ok (.iconst 0, 1) := by decide +kernel
theorem dX6_type_30 : decode cX6_type 30 = .ok (.invokevirtual 42, 3) := by decide +kernel
theorem dX6_type_33 : decode cX6_type 33 = .ok (.ifCond .eq 5, 3) := by decide +kernel
theorem dX6_type_36 : decode cX6_type 36 = .ok (.iconst 0, 1) := by decide +kernel
theorem dX6_type_37 : decode cX6_type 37 = .ok (.ireturn, 1) := by decide +kernel
theorem dX6_type_38 : decode cX6_type 38 = .ok (.aload_n 0, 1) := by decide +kernel
theorem dX6_type_39 : decode cX6_type 39 = .ok (.getfield 19, 3) := by decide +kernel
theorem dX6_type_42 : decode cX6_type 42 = .ok (.aload_n 0, 1) := by decide +kernel
theorem dX6_type_43 : decode cX6_type 43 = .ok (.getfield 118, 3) := by decide +kernel
theorem dX6_type_46 : decode cX6_type 46 = .ok (.iload_n 1, 1) := by decide +kernel
theorem dX6_type_47 : decode cX6_type 47 = .ok (.iastore, 1) := by decide +kernel
theorem dX6_type_48 : decode cX6_type 48 = .ok (.aload_n 0, 1) := by decide +kernel
theorem dX6_type_49 : decode cX6_type 49 = .ok (.dup, 1) := by decide +kernel
theorem dX6_type_50 : decode cX6_type 50 = .ok (.getfield 118, 3) := by decide +kernel
theorem dX6_type_53 : decode cX6_type 53 = .ok (.iconst 1, 1) := by decide +kernel
theorem dX6_type_54 : decode cX6_type 54 = .ok (.iadd, 1) := by decide +kernel
theorem dX6_type_55 : decode cX6_type 55 = .ok (.putfield 118, 3) := by decide +kernel
theorem dX6_type_58 : decode cX6_type 58 = .ok (.aload_n 0, 1) := by decide +kernel
theorem dX6_type_59 : decode cX6_type 59 = .ok (.getfield 118, 3) := by decide +kernel
theorem dX6_type_62 : decode cX6_type 62 = .ok (.ireturn, 1) := by decide +kernel
theorem dX6_clearText_0 : decode cX6_clearText 0 = .ok (.aload_n 0, 1) := by decide +kernel
theorem dX6_clearText_1 : decode cX6_clearText 1 = .ok (.iconst 0, 1) := by decide +kernel
theorem dX6_clearText_2 : decode cX6_clearText 2 = .ok (.putfield 35, 3) := by decide +kernel
theorem dX6_clearText_5 : decode cX6_clearText 5 = .ok (.aload_n 0, 1) := by decide +kernel
theorem dX6_clearText_6 : decode cX6_clearText 6 = .ok (.getfield 118, 3) := by decide +kernel
theorem dX6_clearText_9 : decode cX6_clearText 9 = .ok (.istore_n 1, 1) := by decide +kernel
theorem dX6_clearText_10 : decode cX6_clearText 10 = .ok (.aload_n 0, 1) := by decide +kernel
theorem dX6_clearText_11 : decode cX6_clearText 11 = .ok (.iconst 0, 1) := by decide +kernel
theorem dX6_clearText_12 : decode cX6_clearText 12 = .ok (.putfield 118, 3) := by decide +kernel
theorem dX6_clearText_15 : decode cX6_clearText 15 = .ok (.iload_n 1, 1) := by decide +kernel
theorem dX6_clearText_16 : decode cX6_clearText 16 = .ok (.ireturn, 1) := by decide +kernel
theorem dX6_fault_0 : decode cX6_fault 0 = .ok (.aload_n 0, 1) := by decide +kernel
theorem dX6_fault_1 : decode cX6_fault 1 = .ok (.iconst 0, 1) := by decide +kernel
theorem dX6_fault_2 : decode cX6_fault 2 = .ok (.putfield 35, 3) := by decide +kernel
theorem dX6_fault_5 : decode cX6_fault 5 = .ok (.aload_n 0, 1) := by decide +kernel
theorem dX6_fault_6 : decode cX6_fault 6 = .ok (.invokevirtual 139, 3) := by decide +kernel
theorem dX6_fault_9 : decode cX6_fault 9 = .ok (.ireturn, 1) := by decide +kernel
theorem dX6_mix_0 : decode cX6_mix 0 = .ok (.aload_n 0, 1) := by decide +kernel
theorem dX6_mix_1 : decode cX6_mix 1 = .ok (.ldc2_w 215, 3) := by decide +kernel
theorem dX6_mix_4 : decode cX6_mix 4 = .ok (.aload_n 0, 1) := by decide +kernel
theorem dX6_mix_5 : decode cX6_mix 5 = .ok (.getfield 217, 3) := by decide +kernel
theorem dX6_mix_8 : decode cX6_mix 8 = .ok (.lmul, 1) := by decide +kernel
theorem dX6_mix_9 : decode cX6_mix 9 = .ok (.lload_n 1, 1) := by decide +kernel
theorem dX6_mix_10 : decode cX6_mix 10 = .ok (.ladd, 1) := by decide +kernel
theorem dX6_mix_11 : decode cX6_mix 11 = .ok (.putfield 217, 3) := by decide +kernel
theorem dX6_mix_14 : decode cX6_mix 14 = .ok (.return_, 1) := by decide +kernel
theorem dX6_checksum_0 : decode cX6_checksum 0 = .ok (.aload_n 0, 1) := by decide +kernel
theorem dX6_checksum_1 : decode cX6_checksum 1 = .ok (.iconst 0, 1) := by decide +kernel
theorem dX6_checksum_2 : decode cX6_checksum 2 = .ok (.putfield 35, 3) := by decide +kernel
theorem dX6_checksum_5 : decode cX6_checksum 5 = .ok (.aload_n 0, 1) := by decide +kernel
theorem dX6_checksum_6 : decode cX6_checksum 6 = .ok (.ldc2_w 221, 3) := by decide +kernel
theorem dX6_checksum_9 : decode cX6_checksum 9 = .ok (.putfield 217, 3) := by decide +kernel
theorem dX6_checksum_12 : decode cX6_checksum 12 = .ok (.iconst 0, 1) := by decide +kernel
theorem dX6_checksum_13 : decode cX6_checksum 13 = .ok (.istore_n 1, 1) := by decide +kernel
theorem dX6_checksum_14 : decode cX6_checksum 14 = .ok (.iload_n 1, 1) := by decide +kernel
theorem dX6_checksum_15 : decode cX6_checksum 15 = .ok (.bipush 14, 2) := by decide +kernel
theorem dX6_checksum_17 : decode cX6_checksum 17 = .ok (.if_icmp .ge 19, 3) := by decide +kernel
theorem dX6_checksum_20 : decode cX6_checksum 20 = .ok (.aload_n 0, 1) := by decide +kernel
theorem dX6_checksum_21 : decode cX6_checksum 21 = .ok (.aload_n 0, 1) := by decide +kernel
theorem dX6_checksum_22 : decode cX6_checksum 22 = .ok (.iload_n 1, 1) := by decide +kernel
theorem dX6_checksum_23 : decode cX6_checksum 23 = .ok (.invokevirtual 179, 3) := by decide +kernel
theorem dX6_checksum_26 : decode cX6_checksum 26 = .ok (.i2l, 1) := by decide +kernel
theorem dX6_checksum_27 : decode cX6_checksum 27 = .ok (.invokevirtual 223, 3) := by decide +kernel
theorem dX6_checksum_30 : decode cX6_checksum 30 = .ok (.iinc 1 1, 3) := by decide +kernel
theorem dX6_checksum_33 : decode cX6_checksum 33 = .ok (.goto (-19), 3) := by decide +kernel
theorem dX6_checksum_36 : decode cX6_checksum 36 = .ok (.iconst 0, 1) := by decide +kernel
theorem dX6_checksum_37 : decode cX6_checksum 37 = .ok (.istore_n 1, 1) := by decide +kernel
theorem dX6_checksum_38 : decode cX6_checksum 38 = .ok (.iload_n 1, 1) := by decide +kernel
theorem dX6_checksum_39 : decode cX6_checksum 39 = .ok (.aload_n 0, 1) := by decide +kernel
theorem dX6_checksum_40 : decode cX6_checksum 40 = .ok (.getfield 7, 3) := by decide +kernel
theorem dX6_checksum_43 : decode cX6_checksum 43 = .ok (.bipush 8, 2) := by decide +kernel
theorem dX6_checksum_45 : decode cX6_checksum 45 = .ok (.iaload, 1) := by decide +kernel
theorem dX6_checksum_46 : decode cX6_checksum 46 = .ok (.if_icmp .ge 23, 3) := by decide +kernel
theorem dX6_checksum_49 : decode cX6_checksum 49 = .ok (.aload_n 0, 1) := by decide +kernel
theorem dX6_checksum_50 : decode cX6_checksum 50 = .ok (.aload_n 0, 1) := by decide +kernel
theorem dX6_checksum_51 : decode cX6_checksum 51 = .ok (.getfield 7, 3) := by decide +kernel
theorem dX6_checksum_54 : decode cX6_checksum 54 = .ok (.bipush 12, 2) := by decide +kernel
theorem dX6_checksum_56 : decode cX6_checksum 56 = .ok (.iload_n 1, 1) := by decide +kernel
theorem dX6_checksum_57 : decode cX6_checksum 57 = .ok (.iadd, 1) := by decide +kernel
theorem dX6_checksum_58 : decode cX6_checksum 58 = .ok (.iaload, 1) := by decide +kernel
theorem dX6_checksum_59 : decode cX6_checksum 59 = .ok (.i2l, 1) := by decide +kernel
theorem dX6_checksum_60 : decode cX6_checksum 60 = .ok (.invokevirtual 223, 3) := by decide +kernel
theorem dX6_checksum_63 : decode cX6_checksum 63 = .ok (.iinc 1 1, 3) := by decide +kernel
theorem dX6_checksum_66 : decode cX6_checksum 66 = .ok (.goto (-28), 3) := by decide +kernel
theorem dX6_checksum_69 : decode cX6_checksum 69 = .ok (.iconst 0, 1) := by decide +kernel
theorem dX6_checksum_70 : decode cX6_checksum 70 = .ok (.istore_n 1, 1) := by decide +kernel
theorem dX6_checksum_71 : decode cX6_checksum 71 = .ok (.iload_n 1, 1) := by decide +kernel
theorem dX6_checksum_72 : decode cX6_checksum 72 = .ok (.aload_n 0, 1) := by decide +kernel
theorem dX6_checksum_73 : decode cX6_checksum 73 = .ok (.getfield 7, 3) := by decide +kernel
theorem dX6_checksum_76 : decode cX6_checksum 76 = .ok (.bipush 6, 2) := by decide +kernel
theorem dX6_checksum_78 : decode cX6_checksum 78 = .ok (.iaload, 1) := by decide +kernel
theorem dX6_checksum_79 : decode cX6_checksum 79 = .ok (.if_icmp .ge 34, 3) := by decide +kernel
theorem dX6_checksum_82 : decode cX6_checksum 82 = .ok (.iconst 0, 1) := by decide +kernel
theorem dX6_checksum_83 : decode cX6_checksum 83 = .ok (.istore_n 2, 1) := by decide +kernel
theorem dX6_checksum_84 : decode cX6_checksum 84 = .ok (.iload_n 2, 1) := by decide +kernel
theorem dX6_checksum_85 : decode cX6_checksum 85 = .ok (.bipush 7, 2) := by decide +kernel
theorem dX6_checksum_87 : decode cX6_checksum 87 = .ok (.if_icmp .ge 20, 3) := by decide +kernel
theorem dX6_checksum_90 : decode cX6_checksum 90 = .ok (.aload_n 0, 1) := by decide +kernel
theorem dX6_checksum_91 : decode cX6_checksum 91 = .ok (.aload_n 0, 1) := by decide +kernel
theorem dX6_checksum_92 : decode cX6_checksum 92 = .ok (.iload_n 1, 1) := by decide +kernel
theorem dX6_checksum_93 : decode cX6_checksum 93 = .ok (.iload_n 2, 1) := by decide +kernel
theorem dX6_checksum_94 : decode cX6_checksum 94 = .ok (.invokevirtual 155, 3) := by decide +kernel
theorem dX6_checksum_97 : decode cX6_checksum 97 = .ok (.i2l, 1) := by decide +kernel
theorem dX6_checksum_98 : decode cX6_checksum 98 = .ok (.invokevirtual 223, 3) := by decide +kernel
theorem dX6_checksum_101 : decode cX6_checksum 101 = .ok (.iinc 2 1, 3) := by decide +kernel
theorem dX6_checksum_104 : decode cX6_checksum 104 = .ok (.goto (-20), 3) := by decide +kernel
theorem dX6_checksum_107 : decode cX6_checksum 107 = .ok (.iinc 1 1, 3) := by decide +kernel
theorem dX6_checksum_110 : decode cX6_checksum 110 = .ok (.goto (-39), 3) := by decide +kernel
theorem dX6_checksum_113 : decode cX6_checksum 113 = .ok (.iconst 0, 1) := by decide +kernel
theorem dX6_checksum_114 : decode cX6_checksum 114 = .ok (.istore_n 1, 1) := by decide +kernel
theorem dX6_checksum_115 : decode cX6_checksum 115 = .ok (.iload_n 1, 1) := by decide +kernel
theorem dX6_checksum_116 : decode cX6_checksum 116 = .ok (.aload_n 0, 1) := by decide +kernel
theorem dX6_checksum_117 : decode cX6_checksum 117 = .ok (.getfield 7, 3) := by decide +kernel
theorem dX6_checksum_120 : decode cX6_checksum 120 = .ok (.bipush 7, 2) := by decide +kernel
theorem dX6_checksum_122 : decode cX6_checksum 122 = .ok (.iaload, 1) := by decide +kernel
theorem dX6_checksum_123 : decode cX6_checksum 123 = .ok (.if_icmp .ge 54, 3) := by decide +kernel
theorem dX6_checksum_126 : decode cX6_checksum 126 = .ok (.iconst 0, 1) := by decide +kernel
theorem dX6_checksum_127 : decode cX6_checksum 127 = .ok (.istore_n 2, 1) := by decide +kernel
theorem dX6_checksum_128 : decode cX6_checksum 128 = .ok (.iload_n 2, 1) := by decide +kernel
theorem dX6_checksum_129 : decode cX6_checksum 129 = .ok (.bipush 10, 2) := by decide +kernel
theorem dX6_checksum_131 : decode cX6_checksum 131 = .ok (.if_icmp .ge 20, 3) := by decide +kernel
theorem dX6_checksum_134 : decode cX6_checksum 134 = .ok (.aload_n 0, 1) := by decide +kernel
theorem dX6_checksum_135 : decode cX6_checksum 135 = .ok (.aload_n 0, 1) := by decide +kernel
theorem dX6_checksum_136 : decode cX6_checksum 136 = .ok (.iload_n 1, 1) := by decide +kernel
theorem dX6_checksum_137 : decode cX6_checksum 137 = .ok (.iload_n 2, 1) := by decide +kernel
theorem dX6_checksum_138 : decode cX6_checksum 138 = .ok (.invokevirtual 164, 3) := by decide +kernel
theorem dX6_checksum_141 : decode cX6_checksum 141 = .ok (.i2l, 1) := by decide +kernel
theorem dX6_checksum_142 : decode cX6_checksum 142 = .ok (.invokevirtual 223, 3) := by decide +kernel
theorem dX6_checksum_145 : decode cX6_checksum 145 = .ok (.iinc 2 1, 3) := by decide +kernel
theorem dX6_checksum_148 : decode cX6_checksum 148 = .ok (.goto (-20), 3) := by decide +kernel
theorem dX6_checksum_151 : decode cX6_checksum 151 = .ok (.aload_n 0, 1) := by decide +kernel
theorem dX6_checksum_152 : decode cX6_checksum 152 = .ok (.aload_n 0, 1) := by decide +kernel
theorem dX6_checksum_153 : decode cX6_checksum 153 = .ok (.iload_n 1, 1) := by decide +kernel
theorem dX6_checksum_154 : decode cX6_checksum 154 = .ok (.invokevirtual 191, 3) := by decide +kernel
theorem dX6_checksum_157 : decode cX6_checksum 157 = .ok (.i2l, 1) := by decide +kernel
theorem dX6_checksum_158 : decode cX6_checksum 158 = .ok (.invokevirtual 223, 3) := by decide +kernel
theorem dX6_checksum_161 : decode cX6_checksum 161 = .ok (.aload_n 0, 1) := by decide +kernel
theorem dX6_checksum_162 : decode cX6_checksum 162 = .ok (.aload_n 0, 1) := by decide +kernel
theorem dX6_checksum_163 : decode cX6_checksum 163 = .ok (.iload_n 1, 1) := by decide +kernel
theorem dX6_checksum_164 : decode cX6_checksum 164 = .ok (.invokevirtual 212, 3) := by decide +kernel
theorem dX6_checksum_167 : decode cX6_checksum 167 = .ok (.i2l, 1) := by decide +kernel
theorem dX6_checksum_168 : decode cX6_checksum 168 = .ok (.invokevirtual 223, 3) := by decide +kernel
theorem dX6_checksum_171 : decode cX6_checksum 171 = .ok (.iinc 1 1, 3) := by decide +kernel
theorem dX6_checksum_174 : decode cX6_checksum 174 = .ok (.goto (-59), 3) := by decide +kernel
theorem dX6_checksum_177 : decode cX6_checksum 177 = .ok (.aload_n 0, 1) := by decide +kernel
theorem dX6_checksum_178 : decode cX6_checksum 178 = .ok (.iconst 2, 1) := by decide +kernel
theorem dX6_checksum_179 : decode cX6_checksum 179 = .ok (.invokevirtual 170, 3) := by decide +kernel
theorem dX6_checksum_182 : decode cX6_checksum 182 = .ok (.istore_n 1, 1) := by decide +kernel
theorem dX6_checksum_183 : decode cX6_checksum 183 = .ok (.iconst 0, 1) := by decide +kernel
theorem dX6_checksum_184 : decode cX6_checksum 184 = .ok (.istore_n 2, 1) := by decide +kernel
theorem dX6_checksum_185 : decode cX6_checksum 185 = .ok (.iload_n 2, 1) := by decide +kernel
theorem dX6_checksum_186 : decode cX6_checksum 186 = .ok (.iload_n 1, 1) := by decide +kernel
theorem dX6_checksum_187 : decode cX6_checksum 187 = .ok (.if_icmp .ge 19, 3) := by decide +kernel
theorem dX6_checksum_190 : decode cX6_checksum 190 = .ok (.aload_n 0, 1) := by decide +kernel
theorem dX6_checksum_191 : decode cX6_checksum 191 = .ok (.aload_n 0, 1) := by decide +kernel
theorem dX6_checksum_192 : decode cX6_checksum 192 = .ok (.iload_n 2, 1) := by decide +kernel
theorem dX6_checksum_193 : decode cX6_checksum 193 = .ok (.invokevirtual 188, 3) := by decide +kernel
theorem dX6_checksum_196 : decode cX6_checksum 196 = .ok (.i2l, 1) := by decide +kernel
theorem dX6_checksum_197 : decode cX6_checksum 197 = .ok (.invokevirtual 223, 3) := by decide +kernel
theorem dX6_checksum_200 : decode cX6_checksum 200 = .ok (.iinc 2 1, 3) := by decide +kernel
theorem dX6_checksum_203 : decode cX6_checksum 203 = .ok (.goto (-18), 3) := by decide +kernel
theorem dX6_checksum_206 : decode cX6_checksum 206 = .ok (.aload_n 0, 1) := by decide +kernel
theorem dX6_checksum_207 : decode cX6_checksum 207 = .ok (.aload_n 0, 1) := by decide +kernel
theorem dX6_checksum_208 : decode cX6_checksum 208 = .ok (.invokevirtual 209, 3) := by decide +kernel
theorem dX6_checksum_211 : decode cX6_checksum 211 = .ok (.invokevirtual 223, 3) := by decide +kernel
theorem dX6_checksum_214 : decode cX6_checksum 214 = .ok (.aload_n 0, 1) := by decide +kernel
theorem dX6_checksum_215 : decode cX6_checksum 215 = .ok (.aload_n 0, 1) := by decide +kernel
theorem dX6_checksum_216 : decode cX6_checksum 216 = .ok (.invokevirtual 203, 3) := by decide +kernel
theorem dX6_checksum_219 : decode cX6_checksum 219 = .ok (.invokevirtual 223, 3) := by decide +kernel
theorem dX6_checksum_222 : decode cX6_checksum 222 = .ok (.aload_n 0, 1) := by decide +kernel
theorem dX6_checksum_223 : decode cX6_checksum 223 = .ok (.aload_n 0, 1) := by decide +kernel
theorem dX6_checksum_224 : decode cX6_checksum 224 = .ok (.getfield 118, 3) := by decide +kernel
theorem dX6_checksum_227 : decode cX6_checksum 227 = .ok (.i2l, 1) := by decide +kernel
theorem dX6_checksum_228 : decode cX6_checksum 228 = .ok (.invokevirtual 223, 3) := by decide +kernel
theorem dX6_checksum_231 : decode cX6_checksum 231 = .ok (.aload_n 0, 1) := by decide +kernel
theorem dX6_checksum_232 : decode cX6_checksum 232 = .ok (.aload_n 0, 1) := by decide +kernel
theorem dX6_checksum_233 : decode cX6_checksum 233 = .ok (.getfield 39, 3) := by decide +kernel
theorem dX6_checksum_236 : decode cX6_checksum 236 = .ok (.i2l, 1) := by decide +kernel
theorem dX6_checksum_237 : decode cX6_checksum 237 = .ok (.invokevirtual 223, 3) := by decide +kernel
theorem dX6_checksum_240 : decode cX6_checksum 240 = .ok (.aload_n 0, 1) := by decide +kernel
theorem dX6_checksum_241 : decode cX6_checksum 241 = .ok (.getfield 217, 3) := by decide +kernel
theorem dX6_checksum_244 : decode cX6_checksum 244 = .ok (.lreturn, 1) := by decide +kernel
