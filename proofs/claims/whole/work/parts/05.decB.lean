theorem dX5_init_0 : decode cX5_init 0 = .ok (.aload_n 0, 1) := by decide +kernel
theorem dX5_init_1 : decode cX5_init 1 = .ok (.invokespecial 1, 3) := by decide +kernel
theorem dX5_init_4 : decode cX5_init 4 = .ok (.aload_n 0, 1) := by decide +kernel
theorem dX5_init_5 : decode cX5_init 5 = .ok (.new 7, 3) := by decide +kernel
theorem dX5_init_8 : decode cX5_init 8 = .ok (.dup, 1) := by decide +kernel
theorem dX5_init_9 : decode cX5_init 9 = .ok (.invokespecial 9, 3) := by decide +kernel
theorem dX5_init_12 : decode cX5_init 12 = .ok (.putfield 10, 3) := by decide +kernel
theorem dX5_init_15 : decode cX5_init 15 = .ok (.aload_n 0, 1) := by decide +kernel
theorem dX5_init_16 : decode cX5_init 16 = .ok (.new 7, 3) := by decide +kernel
theorem dX5_init_19 : decode cX5_init 19 = .ok (.dup, 1) := by decide +kernel
theorem dX5_init_20 : decode cX5_init 20 = .ok (.invokespecial 9, 3) := by decide +kernel
theorem dX5_init_23 : decode cX5_init 23 = .ok (.putfield 16, 3) := by decide +kernel
theorem dX5_init_26 : decode cX5_init 26 = .ok (.aload_n 0, 1) := by decide +kernel
theorem dX5_init_27 : decode cX5_init 27 = .ok (.iconst 4, 1) := by decide +kernel
theorem dX5_init_28 : decode cX5_init 28 = .ok (.anewarray 7, 3) := by decide +kernel
theorem dX5_init_31 : decode cX5_init 31 = .ok (.putfield 19, 3) := by decide +kernel
theorem dX5_init_34 : decode cX5_init 34 = .ok (.aload_n 0, 1) := by decide +kernel
theorem dX5_init_35 : decode cX5_init 35 = .ok (.new 23, 3) := by decide +kernel
theorem dX5_init_38 : decode cX5_init 38 = .ok (.dup, 1) := by decide +kernel
theorem dX5_init_39 : decode cX5_init 39 = .ok (.invokespecial 25, 3) := by decide +kernel
theorem dX5_init_42 : decode cX5_init 42 = .ok (.putfield 26, 3) := by decide +kernel
theorem dX5_init_45 : decode cX5_init 45 = .ok (.aload_n 0, 1) := by decide +kernel
theorem dX5_init_46 : decode cX5_init 46 = .ok (.new 30, 3) := by decide +kernel
theorem dX5_init_49 : decode cX5_init 49 = .ok (.dup, 1) := by decide +kernel
theorem dX5_init_50 : decode cX5_init 50 = .ok (.invokespecial 32, 3) := by decide +kernel
theorem dX5_init_53 : decode cX5_init 53 = .ok (.putfield 33, 3) := by decide +kernel
theorem dX5_init_56 : decode cX5_init 56 = .ok (.iconst 0, 1) := by decide +kernel
theorem dX5_init_57 : decode cX5_init 57 = .ok (.istore_n 1, 1) := by decide +kernel
theorem dX5_init_58 : decode cX5_init 58 = .ok (.iload_n 1, 1) := by decide +kernel
theorem dX5_init_59 : decode cX5_init 59 = .ok (.iconst 4, 1) := by decide +kernel
theorem dX5_init_60 : decode cX5_init 60 = .ok (.if_icmp .ge 22, 3) := by decide +kernel
theorem dX5_init_63 : decode cX5_init 63 = .ok (.aload_n 0, 1) := by decide +kernel
theorem dX5_init_64 : decode cX5_init 64 = .ok (.getfield 19, 3) := by decide +kernel
theorem dX5_init_67 : decode cX5_init 67 = .ok (.iload_n 1, 1) := by decide +kernel
theorem dX5_init_68 : decode cX5_init 68 = .ok (.new 7, 3) := by decide +kernel
theorem dX5_init_71 : decode cX5_init 71 = .ok (.dup, 1) := by decide +kernel
theorem dX5_init_72 : decode cX5_init 72 = .ok (.invokespecial 9, 3) := by decide +kernel
theorem dX5_init_75 : decode cX5_init 75 = .ok (.aastore, 1) := by decide +kernel
theorem dX5_init_76 : decode cX5_init 76 = .ok (.iinc 1 1, 3) := by decide +kernel
theorem dX5_init_79 : decode cX5_init 79 = .ok (.goto (-21), 3) := by decide +kernel
theorem dX5_init_82 : decode cX5_init 82 = .ok (.return_, 1) := by decide +kernel
theorem dX5_setTable_0 : decode cX5_setTable 0 = .ok (.aload_n 0, 1) := by decide +kernel
theorem dX5_setTable_1 : decode cX5_setTable 1 = .ok (.getfield 33, 3) := by decide +kernel
theorem dX5_setTable_4 : decode cX5_setTable 4 = .ok (.invokevirtual 37, 3) := by decide +kernel
theorem dX5_setTable_7 : decode cX5_setTable 7 = .ok (.iconst (-1), 1) := by decide +kernel
theorem dX5_setTable_8 : decode cX5_setTable 8 = .ok (.if_icmp .eq 13, 3) := by decide +kernel
theorem dX5_setTable_11 : decode cX5_setTable 11 = .ok (.new 41, 3) := by decide +kernel
theorem dX5_setTable_14 : decode cX5_setTable 14 = .ok (.dup, 1) := by decide +kernel
theorem dX5_setTable_15 : decode cX5_setTable 15 = .ok (.ldc 43, 2) := by decide +kernel
theorem dX5_setTable_17 : decode cX5_setTable 17 = .ok (.invokespecial 45, 3) := by decide +kernel
theorem dX5_setTable_20 : decode cX5_setTable 20 = .ok (.athrow, 1) := by decide +kernel
theorem dX5_setTable_21 : decode cX5_setTable 21 = .ok (.aload_n 0, 1) := by decide +kernel
theorem dX5_setTable_22 : decode cX5_setTable 22 = .ok (.invokevirtual 48, 3) := by decide +kernel
theorem dX5_setTable_25 : decode cX5_setTable 25 = .ok (.aload_n 0, 1) := by decide +kernel
theorem dX5_setTable_26 : decode cX5_setTable 26 = .ok (.getfield 10, 3) := by decide +kernel
theorem dX5_setTable_29 : decode cX5_setTable 29 = .ok (.aload_n 0, 1) := by decide +kernel
theorem dX5_setTable_30 : decode cX5_setTable 30 = .ok (.getfield 33, 3) := by decide +kernel
theorem dX5_setTable_33 : decode cX5_setTable 33 = .ok (.invokevirtual 51, 3) := by decide +kernel
theorem dX5_setTable_36 : decode cX5_setTable 36 = .ok (.aload_n 0, 1) := by decide +kernel
theorem dX5_setTable_37 : decode cX5_setTable 37 = .ok (.getfield 10, 3) := by decide +kernel
theorem dX5_setTable_40 : decode cX5_setTable 40 = .ok (.getfield 55, 3) := by decide +kernel
theorem dX5_setTable_43 : decode cX5_setTable 43 = .ok (.ireturn, 1) := by decide +kernel
theorem dX5_low_0 : decode cX5_low 0 = .ok (.iload_n 1, 1) := by decide +kernel
theorem dX5_low_1 : decode cX5_low 1 = .ok (.ifCond .ge 13, 3) := by decide +kernel
theorem dX5_low_4 : decode cX5_low 4 = .ok (.new 41, 3) := by decide +kernel
theorem dX5_low_7 : decode cX5_low 7 = .ok (.dup, 1) := by decide +kernel
theorem dX5_low_8 : decode cX5_low 8 = .ok (.ldc 59, 2) := by decide +kernel
theorem dX5_low_10 : decode cX5_low 10 = .ok (.invokespecial 45, 3) := by decide +kernel
theorem dX5_low_13 : decode cX5_low 13 = .ok (.athrow, 1) := by decide +kernel
theorem dX5_low_14 : decode cX5_low 14 = .ok (.aload_n 0, 1) := by decide +kernel
theorem dX5_low_15 : decode cX5_low 15 = .ok (.getfield 10, 3) := by decide +kernel
theorem dX5_low_18 : decode cX5_low 18 = .ok (.iload_n 1, 1) := by decide +kernel
theorem dX5_low_19 : decode cX5_low 19 = .ok (.invokevirtual 61, 3) := by decide +kernel
theorem dX5_low_22 : decode cX5_low 22 = .ok (.ireturn, 1) := by decide +kernel
theorem dX5_addBerth_0 : decode cX5_addBerth 0 = .ok (.iload_n 1, 1) := by decide +kernel
theorem dX5_addBerth_1 : decode cX5_addBerth 1 = .ok (.bipush 50, 2) := by decide +kernel
theorem dX5_addBerth_3 : decode cX5_addBerth 3 = .ok (.sipush 900, 3) := by decide +kernel
theorem dX5_addBerth_6 : decode cX5_addBerth 6 = .ok (.invokestatic 65, 3) := by decide +kernel
theorem dX5_addBerth_9 : decode cX5_addBerth 9 = .ok (.ifCond .eq 23, 3) := by decide +kernel
theorem dX5_addBerth_12 : decode cX5_addBerth 12 = .ok (.iload_n 2, 1) := by decide +kernel
theorem dX5_addBerth_13 : decode cX5_addBerth 13 = .ok (.bipush 30, 2) := by decide +kernel
theorem dX5_addBerth_15 : decode cX5_addBerth 15 = .ok (.sipush 400, 3) := by decide +kernel
theorem dX5_addBerth_18 : decode cX5_addBerth 18 = .ok (.invokestatic 65, 3) := by decide +kernel
theorem dX5_addBerth_21 : decode cX5_addBerth 21 = .ok (.ifCond .eq 11, 3) := by decide +kernel
theorem dX5_addBerth_24 : decode cX5_addBerth 24 = .ok (.iload 4, 2) := by decide +kernel
theorem dX5_addBerth_26 : decode cX5_addBerth 26 = .ok (.invokestatic 69, 3) := by decide +kernel
theorem dX5_addBerth_29 : decode cX5_addBerth 29 = .ok (.ifCond .ne 13, 3) := by decide +kernel
theorem dX5_addBerth_32 : decode cX5_addBerth 32 = .ok (.new 41, 3) := by decide +kernel
theorem dX5_addBerth_35 : decode cX5_addBerth 35 = .ok (.dup, 1) := by decide +kernel
theorem dX5_addBerth_36 : decode cX5_addBerth 36 = .ok (.ldc 73, 2) := by decide +kernel
theorem dX5_addBerth_38 : decode cX5_addBerth 38 = .ok (.invokespecial 45, 3) := by decide +kernel
theorem dX5_addBerth_41 : decode cX5_addBerth 41 = .ok (.athrow, 1) := by decide +kernel
theorem dX5_addBerth_42 : decode cX5_addBerth 42 = .ok (.aload_n 0, 1) := by decide +kernel
theorem dX5_addBerth_43 : decode cX5_addBerth 43 = .ok (.getfield 10, 3) := by decide +kernel
theorem dX5_addBerth_46 : decode cX5_addBerth 46 = .ok (.getfield 75, 3) := by decide +kernel
theorem dX5_addBerth_49 : decode cX5_addBerth 49 = .ok (.bipush 16, 2) := by decide +kernel
theorem dX5_addBerth_51 : decode cX5_addBerth 51 = .ok (.if_icmp .lt 13, 3) := by decide +kernel
theorem dX5_addBerth_54 : decode cX5_addBerth 54 = .ok (.new 78, 3) := by decide +kernel
theorem dX5_addBerth_57 : decode cX5_addBerth 57 = .ok (.dup, 1) := by decide +kernel
theorem dX5_addBerth_58 : decode cX5_addBerth 58 = .ok (.ldc 80, 2) := by decide +kernel
theorem dX5_addBerth_60 : decode cX5_addBerth 60 = .ok (.invokespecial 82, 3) := by decide +kernel
theorem dX5_addBerth_63 : decode cX5_addBerth 63 = .ok (.athrow, 1) := by decide +kernel
theorem dX5_addBerth_64 : decode cX5_addBerth 64 = .ok (.aload_n 0, 1) := by decide +kernel
theorem dX5_addBerth_65 : decode cX5_addBerth 65 = .ok (.invokevirtual 48, 3) := by decide +kernel
theorem dX5_addBerth_68 : decode cX5_addBerth 68 = .ok (.aload_n 0, 1) := by decide +kernel
theorem dX5_addBerth_69 : decode cX5_addBerth 69 = .ok (.getfield 10, 3) := by decide +kernel
theorem dX5_addBerth_72 : decode cX5_addBerth 72 = .ok (.getfield 75, 3) := by decide +kernel
theorem dX5_addBerth_75 : decode cX5_addBerth 75 = .ok (.istore 5, 2) := by decide +kernel
theorem dX5_addBerth_77 : decode cX5_addBerth 77 = .ok (.aload_n 0, 1) := by decide +kernel
theorem dX5_addBerth_78 : decode cX5_addBerth 78 = .ok (.getfield 10, 3) := by decide +kernel
theorem dX5_addBerth_81 : decode cX5_addBerth 81 = .ok (.getfield 83, 3) := by decide +kernel
theorem dX5_addBerth_84 : decode cX5_addBerth 84 = .ok (.iload 5, 2) := by decide +kernel
theorem dX5_addBerth_86 : decode cX5_addBerth 86 = .ok (.aaload, 1) := by decide +kernel
theorem dX5_addBerth_87 : decode cX5_addBerth 87 = .ok (.iload_n 1, 1) := by decide +kernel
theorem dX5_addBerth_88 : decode cX5_addBerth 88 = .ok (.iload_n 2, 1) := by decide +kernel
theorem dX5_addBerth_89 : decode cX5_addBerth 89 = .ok (.iload_n 3, 1) := by decide +kernel
theorem dX5_addBerth_90 : decode cX5_addBerth 90 = .ok (.iload 4, 2) := by decide +kernel
theorem dX5_addBerth_92 : decode cX5_addBerth 92 = .ok (.invokevirtual 87, 3) := by decide +kernel
theorem dX5_addBerth_95 : decode cX5_addBerth 95 = .ok (.aload_n 0, 1) := by decide +kernel
theorem dX5_addBerth_96 : decode cX5_addBerth 96 = .ok (.getfield 10, 3) := by decide +kernel
theorem dX5_addBerth_99 : decode cX5_addBerth 99 = .ok (.iload 5, 2) := by decide +kernel
theorem dX5_addBerth_101 : decode cX5_addBerth 101 = .ok (.iconst 1, 1) := by decide +kernel
theorem dX5_addBerth_102 : decode cX5_addBerth 102 = .ok (.iadd, 1) := by decide +kernel
theorem dX5_addBerth_103 : decode cX5_addBerth 103 = .ok (.putfield 75, 3) := by decide +kernel
theorem dX5_addBerth_106 : decode cX5_addBerth 106 = .ok (.iload 5, 2) := by decide +kernel
theorem dX5_addBerth_108 : decode cX5_addBerth 108 = .ok (.ireturn, 1) := by decide +kernel
theorem dX5_addBoat_0 : decode cX5_addBoat 0 = .ok (.iload_n 1, 1) := by decide +kernel
theorem dX5_addBoat_1 : decode cX5_addBoat 1 = .ok (.bipush 30, 2) := by decide +kernel
theorem dX5_addBoat_3 : decode cX5_addBoat 3 = .ok (.sipush 400, 3) := by decide +kernel
theorem dX5_addBoat_6 : decode cX5_addBoat 6 = .ok (.invokestatic 65, 3) := by decide +kernel
theorem dX5_addBoat_9 : decode cX5_addBoat 9 = .ok (.ifCond .eq 25, 3) := by decide +kernel
theorem dX5_addBoat_12 : decode cX5_addBoat 12 = .ok (.iload_n 2, 1) := by decide +kernel
theorem dX5_addBoat_13 : decode cX5_addBoat 13 = .ok (.bipush 20, 2) := by decide +kernel
theorem dX5_addBoat_15 : decode cX5_addBoat 15 = .ok (.sipush 500, 3) := by decide +kernel
theorem dX5_addBoat_18 : decode cX5_addBoat 18 = .ok (.invokestatic 65, 3) := by decide +kernel
theorem dX5_addBoat_21 : decode cX5_addBoat 21 = .ok (.ifCond .eq 13, 3) := by decide +kernel
theorem dX5_addBoat_24 : decode cX5_addBoat 24 = .ok (.iload_n 3, 1) := by decide +kernel
theorem dX5_addBoat_25 : decode cX5_addBoat 25 = .ok (.iconst 0, 1) := by decide +kernel
theorem dX5_addBoat_26 : decode cX5_addBoat 26 = .ok (.bipush 99, 2) := by decide +kernel
theorem dX5_addBoat_28 : decode cX5_addBoat 28 = .ok (.invokestatic 65, 3) := by decide +kernel
theorem dX5_addBoat_31 : decode cX5_addBoat 31 = .ok (.ifCond .ne 13, 3) := by decide +kernel
theorem dX5_addBoat_34 : decode cX5_addBoat 34 = .ok (.new 41, 3) := by decide +kernel
theorem dX5_addBoat_37 : decode cX5_addBoat 37 = .ok (.dup, 1) := by decide +kernel
theorem dX5_addBoat_38 : decode cX5_addBoat 38 = .ok (.ldc 93, 2) := by decide +kernel
theorem dX5_addBoat_40 : decode cX5_addBoat 40 = .ok (.invokespecial 45, 3) := by decide +kernel
theorem dX5_addBoat_43 : decode cX5_addBoat 43 = .ok (.athrow, 1) := by decide +kernel
theorem dX5_addBoat_44 : decode cX5_addBoat 44 = .ok (.aload_n 0, 1) := by decide +kernel
theorem dX5_addBoat_45 : decode cX5_addBoat 45 = .ok (.getfield 10, 3) := by decide +kernel
theorem dX5_addBoat_48 : decode cX5_addBoat 48 = .ok (.getfield 95, 3) := by decide +kernel
theorem dX5_addBoat_51 : decode cX5_addBoat 51 = .ok (.bipush 20, 2) := by decide +kernel
theorem dX5_addBoat_53 : decode cX5_addBoat 53 = .ok (.if_icmp .lt 13, 3) := by decide +kernel
theorem dX5_addBoat_56 : decode cX5_addBoat 56 = .ok (.new 78, 3) := by decide +kernel
theorem dX5_addBoat_59 : decode cX5_addBoat 59 = .ok (.dup, 1) := by decide +kernel
theorem dX5_addBoat_60 : decode cX5_addBoat 60 = .ok (.ldc 98, 2) := by decide +kernel
theorem dX5_addBoat_62 : decode cX5_addBoat 62 = .ok (.invokespecial 82, 3) := by decide +kernel
theorem dX5_addBoat_65 : decode cX5_addBoat 65 = .ok (.athrow, 1) := by decide +kernel
theorem dX5_addBoat_66 : decode cX5_addBoat 66 = .ok (.aload_n 0, 1) := by decide +kernel
theorem dX5_addBoat_67 : decode cX5_addBoat 67 = .ok (.invokevirtual 48, 3) := by decide +kernel
theorem dX5_addBoat_70 : decode cX5_addBoat 70 = .ok (.aload_n 0, 1) := by decide +kernel
theorem dX5_addBoat_71 : decode cX5_addBoat 71 = .ok (.getfield 10, 3) := by decide +kernel
theorem dX5_addBoat_74 : decode cX5_addBoat 74 = .ok (.getfield 95, 3) := by decide +kernel
theorem dX5_addBoat_77 : decode cX5_addBoat 77 = .ok (.istore 4, 2) := by decide +kernel
theorem dX5_addBoat_79 : decode cX5_addBoat 79 = .ok (.aload_n 0, 1) := by decide +kernel
theorem dX5_addBoat_80 : decode cX5_addBoat 80 = .ok (.getfield 10, 3) := by decide +kernel
theorem dX5_addBoat_83 : decode cX5_addBoat 83 = .ok (.getfield 100, 3) := by decide +kernel
theorem dX5_addBoat_86 : decode cX5_addBoat 86 = .ok (.iload 4, 2) := by decide +kernel
theorem dX5_addBoat_88 : decode cX5_addBoat 88 = .ok (.aaload, 1) := by decide +kernel
theorem dX5_addBoat_89 : decode cX5_addBoat 89 = .ok (.iload_n 1, 1) := by decide +kernel
theorem dX5_addBoat_90 : decode cX5_addBoat 90 = .ok (.iload_n 2, 1) := by decide +kernel
theorem dX5_addBoat_91 : decode cX5_addBoat 91 = .ok (.iload_n 3, 1) := by decide +kernel
theorem dX5_addBoat_92 : decode cX5_addBoat 92 = .ok (.invokevirtual 104, 3) := by decide +kernel
theorem dX5_addBoat_95 : decode cX5_addBoat 95 = .ok (.aload_n 0, 1) := by decide +kernel
theorem dX5_addBoat_96 : decode cX5_addBoat 96 = .ok (.getfield 10, 3) := by decide +kernel
theorem dX5_addBoat_99 : decode cX5_addBoat 99 = .ok (.iload 4, 2) := by decide +kernel
theorem dX5_addBoat_101 : decode cX5_addBoat 101 = .ok (.iconst 1, 1) := by decide +kernel
theorem dX5_addBoat_102 : decode cX5_addBoat 102 = .ok (.iadd, 1) := by decide +kernel
theorem dX5_addBoat_103 : decode cX5_addBoat 103 = .ok (.putfield 95, 3) := by decide +kernel
theorem dX5_addBoat_106 : decode cX5_addBoat 106 = .ok (.iload 4, 2) := by decide +kernel
theorem dX5_addBoat_108 : decode cX5_addBoat 108 = .ok (.ireturn, 1) := by decide +kernel
theorem dX5_set_0 : decode cX5_set 0 = .ok (.aload_n 0, 1) := by decide +kernel
theorem dX5_set_1 : decode cX5_set 1 = .ok (.iload_n 1, 1) := by decide +kernel
theorem dX5_set_2 : decode cX5_set 2 = .ok (.iload_n 2, 1) := by decide +kernel
theorem dX5_set_3 : decode cX5_set 3 = .ok (.invokevirtual 109, 3) := by decide +kernel
theorem dX5_set_6 : decode cX5_set 6 = .ok (.ifCond .ne 13, 3) := by decide +kernel
theorem dX5_set_9 : decode cX5_set 9 = .ok (.new 41, 3) := by decide +kernel
theorem dX5_set_12 : decode cX5_set 12 = .ok (.dup, 1) := by decide +kernel
theorem dX5_set_13 : decode cX5_set 13 = .ok (.ldc 113, 2) := by decide +kernel
theorem dX5_set_15 : decode cX5_set 15 = .ok (.invokespecial 45, 3) := by decide +kernel
theorem dX5_set_18 : decode cX5_set 18 = .ok (.athrow, 1) := by decide +kernel
theorem dX5_set_19 : decode cX5_set 19 = .ok (.aload_n 0, 1) := by decide +kernel
theorem dX5_set_20 : decode cX5_set 20 = .ok (.iload_n 1, 1) := by decide +kernel
theorem dX5_set_21 : decode cX5_set 21 = .ok (.invokevirtual 115, 3) := by decide +kernel
theorem dX5_set_24 : decode cX5_set 24 = .ok (.istore_n 3, 1) := by decide +kernel
theorem dX5_set_25 : decode cX5_set 25 = .ok (.aload_n 0, 1) := by decide +kernel
theorem dX5_set_26 : decode cX5_set 26 = .ok (.invokevirtual 48, 3) := by decide +kernel
theorem dX5_set_29 : decode cX5_set 29 = .ok (.iload_n 1, 1) := by decide +kernel
theorem dX5_set_30 : decode cX5_set 30 = .ok (.tableswitch 59 0 2 #[26, 37, 48], 26) := by decide +kernel
theorem dX5_set_56 : decode cX5_set 56 = .ok (.aload_n 0, 1) := by decide +kernel
theorem dX5_set_57 : decode cX5_set 57 = .ok (.getfield 10, 3) := by decide +kernel
theorem dX5_set_60 : decode cX5_set 60 = .ok (.iload_n 2, 1) := by decide +kernel
theorem dX5_set_61 : decode cX5_set 61 = .ok (.putfield 118, 3) := by decide +kernel
theorem dX5_set_64 : decode cX5_set 64 = .ok (.goto 33, 3) := by decide +kernel
theorem dX5_set_67 : decode cX5_set 67 = .ok (.aload_n 0, 1) := by decide +kernel
theorem dX5_set_68 : decode cX5_set 68 = .ok (.getfield 10, 3) := by decide +kernel
theorem dX5_set_71 : decode cX5_set 71 = .ok (.iload_n 2, 1) := by decide +kernel
theorem dX5_set_72 : decode cX5_set 72 = .ok (.putfield 121, 3) := by decide +kernel
theorem dX5_set_75 : decode cX5_set 75 = .ok (.goto 22, 3) := by decide +kernel
theorem dX5_set_78 : decode cX5_set 78 = .ok (.aload_n 0, 1) := by decide +kernel
theorem dX5_set_79 : decode cX5_set 79 = .ok (.getfield 10, 3) := by decide +kernel
theorem dX5_set_82 : decode cX5_set 82 = .ok (.iload_n 2, 1) := by decide +kernel
theorem dX5_set_83 : decode cX5_set 83 = .ok (.putfield 124, 3) := by decide +kernel
theorem dX5_set_86 : decode cX5_set 86 = .ok (.goto 11, 3) := by decide +kernel
theorem dX5_set_89 : decode cX5_set 89 = .ok (.aload_n 0, 1) := by decide +kernel
theorem dX5_set_90 : decode cX5_set 90 = .ok (.getfield 10, 3) := by decide +kernel
theorem dX5_set_93 : decode cX5_set 93 = .ok (.iload_n 2, 1) := by decide +kernel
theorem dX5_set_94 : decode cX5_set 94 = .ok (.putfield 127, 3) := by decide +kernel
theorem dX5_set_97 : decode cX5_set 97 = .ok (.iload_n 3, 1) := by decide +kernel
theorem dX5_set_98 : decode cX5_set 98 = .ok (.ireturn, 1) := by decide +kernel
theorem dX5_setRate_0 : decode cX5_setRate 0 = .ok (.aload_n 0, 1) := by decide +kernel
theorem dX5_setRate_1 : decode cX5_setRate 1 = .ok (.iload_n 1, 1) := by decide +kernel
theorem dX5_setRate_2 : decode cX5_setRate 2 = .ok (.invokevirtual 130, 3) := by decide +kernel
theorem dX5_setRate_5 : decode cX5_setRate 5 = .ok (.iload_n 2, 1) := by decide +kernel
theorem dX5_setRate_6 : decode cX5_setRate 6 = .ok (.invokestatic 69, 3) := by decide +kernel
theorem dX5_setRate_9 : decode cX5_setRate 9 = .ok (.ifCond .ne 13, 3) := by decide +kernel
theorem dX5_setRate_12 : decode cX5_setRate 12 = .ok (.new 41, 3) := by decide +kernel
theorem dX5_setRate_15 : decode cX5_setRate 15 = .ok (.dup, 1) := by decide +kernel
theorem dX5_setRate_16 : decode cX5_setRate 16 = .ok (.ldc 134, 2) := by decide +kernel
theorem dX5_setRate_18 : decode cX5_setRate 18 = .ok (.invokespecial 45, 3) := by decide +kernel
theorem dX5_setRate_21 : decode cX5_setRate 21 = .ok (.athrow, 1) := by decide +kernel
theorem dX5_setRate_22 : decode cX5_setRate 22 = .ok (.aload_n 0, 1) := by decide +kernel
theorem dX5_setRate_23 : decode cX5_setRate 23 = .ok (.invokevirtual 48, 3) := by decide +kernel
theorem dX5_setRate_26 : decode cX5_setRate 26 = .ok (.aload_n 0, 1) := by decide +kernel
theorem dX5_setRate_27 : decode cX5_setRate 27 = .ok (.getfield 10, 3) := by decide +kernel
theorem dX5_setRate_30 : decode cX5_setRate 30 = .ok (.getfield 83, 3) := by decide +kernel
theorem dX5_setRate_33 : decode cX5_setRate 33 = .ok (.iload_n 1, 1) := by decide +kernel
theorem dX5_setRate_34 : decode cX5_setRate 34 = .ok (.aaload, 1) := by decide +kernel
theorem dX5_setRate_35 : decode cX5_setRate 35 = .ok (.getfield 136, 3) := by decide +kernel
theorem dX5_setRate_38 : decode cX5_setRate 38 = .ok (.istore_n 3, 1) := by decide +kernel
theorem dX5_setRate_39 : decode cX5_setRate 39 = .ok (.aload_n 0, 1) := by decide +kernel
theorem dX5_setRate_40 : decode cX5_setRate 40 = .ok (.getfield 10, 3) := by decide +kernel
theorem dX5_setRate_43 : decode cX5_setRate 43 = .ok (.getfield 83, 3) := by decide +kernel
theorem dX5_setRate_46 : decode cX5_setRate 46 = .ok (.iload_n 1, 1) := by decide +kernel
theorem dX5_setRate_47 : decode cX5_setRate 47 = .ok (.aaload, 1) := by decide +kernel
theorem dX5_setRate_48 : decode cX5_setRate 48 = .ok (.iload_n 2, 1) := by decide +kernel
theorem dX5_setRate_49 : decode cX5_setRate 49 = .ok (.putfield 136, 3) := by decide +kernel
theorem dX5_setRate_52 : decode cX5_setRate 52 = .ok (.iload_n 3, 1) := by decide +kernel
theorem dX5_setRate_53 : decode cX5_setRate 53 = .ok (.ireturn, 1) := by decide +kernel
theorem dX5_berth_0 : decode cX5_berth 0 = .ok (.aload_n 0, 1) := by decide +kernel
theorem dX5_berth_1 : decode cX5_berth 1 = .ok (.iload_n 1, 1) := by decide +kernel
theorem dX5_berth_2 : decode cX5_berth 2 = .ok (.invokevirtual 130, 3) := by decide +kernel
theorem dX5_berth_5 : decode cX5_berth 5 = .ok (.aload_n 0, 1) := by decide +kernel
theorem dX5_berth_6 : decode cX5_berth 6 = .ok (.getfield 10, 3) := by decide +kernel
theorem dX5_berth_9 : decode cX5_berth 9 = .ok (.getfield 83, 3) := by decide +kernel
theorem dX5_berth_12 : decode cX5_berth 12 = .ok (.iload_n 1, 1) := by decide +kernel
theorem dX5_berth_13 : decode cX5_berth 13 = .ok (.aaload, 1) := by decide +kernel
theorem dX5_berth_14 : decode cX5_berth 14 = .ok (.astore_n 3, 1) := by decide +kernel
theorem dX5_berth_15 : decode cX5_berth 15 = .ok (.iload_n 2, 1) := by decide +kernel
theorem dX5_berth_16 : decode cX5_berth 16 = .ok (.tableswitch 103 0 6 #[44, 49, 54, 67, 72, 81, 94], 44) := by decide +kernel
theorem dX5_berth_60 : decode cX5_berth 60 = .ok (.aload_n 3, 1) := by decide +kernel
theorem dX5_berth_61 : decode cX5_berth 61 = .ok (.getfield 139, 3) := by decide +kernel
theorem dX5_berth_64 : decode cX5_berth 64 = .ok (.ireturn, 1) := by decide +kernel
theorem dX5_berth_65 : decode cX5_berth 65 = .ok (.aload_n 3, 1) := by decide +kernel
theorem dX5_berth_66 : decode cX5_berth 66 = .ok (.getfield 142, 3) := by decide +kernel
theorem dX5_berth_69 : decode cX5_berth 69 = .ok (.ireturn, 1) := by decide +kernel
theorem dX5_berth_70 : decode cX5_berth 70 = .ok (.aload_n 3, 1) := by decide +kernel
theorem dX5_berth_71 : decode cX5_berth 71 = .ok (.getfield 145, 3) := by decide +kernel
theorem dX5_berth_74 : decode cX5_berth 74 = .ok (.ifCond .eq 7, 3) := by decide +kernel
theorem dX5_berth_77 : decode cX5_berth 77 = .ok (.iconst 1, 1) := by decide +kernel
theorem dX5_berth_78 : decode cX5_berth 78 = .ok (.goto 4, 3) := by decide +kernel
theorem dX5_berth_81 : decode cX5_berth 81 = .ok (.iconst 0, 1) := by decide +kernel
theorem dX5_berth_82 : decode cX5_berth 82 = .ok (.ireturn, 1) := by decide +kernel
theorem dX5_berth_83 : decode cX5_berth 83 = .ok (.aload_n 3, 1) := by decide +kernel
theorem dX5_berth_84 : decode cX5_berth 84 = .ok (.getfield 136, 3) := by decide +kernel
theorem dX5_berth_87 : decode cX5_berth 87 = .ok (.ireturn, 1) := by decide +kernel
theorem dX5_berth_88 : decode cX5_berth 88 = .ok (.aload_n 0, 1) := by decide +kernel
theorem dX5_berth_89 : decode cX5_berth 89 = .ok (.getfield 10, 3) := by decide +kernel
theorem dX5_berth_92 : decode cX5_berth 92 = .ok (.iload_n 1, 1) := by decide +kernel
theorem dX5_berth_93 : decode cX5_berth 93 = .ok (.invokevirtual 149, 3) := by decide +kernel
theorem dX5_berth_96 : decode cX5_berth 96 = .ok (.ireturn, 1) := by decide +kernel
theorem dX5_berth_97 : decode cX5_berth 97 = .ok (.aload_n 3, 1) := by decide +kernel
theorem dX5_berth_98 : decode cX5_berth 98 = .ok (.getfield 139, 3) := by decide +kernel
theorem dX5_berth_101 : decode cX5_berth 101 = .ok (.aload_n 0, 1) := by decide +kernel
theorem dX5_berth_102 : decode cX5_berth 102 = .ok (.getfield 10, 3) := by decide +kernel
theorem dX5_berth_105 : decode cX5_berth 105 = .ok (.getfield 152, 3) := by decide +kernel
theorem dX5_berth_108 : decode cX5_berth 108 = .ok (.iadd, 1) := by decide +kernel
theorem dX5_berth_109 : decode cX5_berth 109 = .ok (.ireturn, 1) := by decide +kernel
theorem dX5_berth_110 : decode cX5_berth 110 = .ok (.aload_n 0, 1) := by decide +kernel
theorem dX5_berth_111 : decode cX5_berth 111 = .ok (.getfield 10, 3) := by decide +kernel
theorem dX5_berth_114 : decode cX5_berth 114 = .ok (.aload_n 3, 1) := by decide +kernel
theorem dX5_berth_115 : decode cX5_berth 115 = .ok (.invokevirtual 155, 3) := by decide +kernel
theorem dX5_berth_118 : decode cX5_berth 118 = .ok (.ireturn, 1) := by decide +kernel
theorem dX5_berth_119 : decode cX5_berth 119 = .ok (.new 41, 3) := by decide +kernel
theorem dX5_berth_122 : decode cX5_berth 122 = .ok (.dup, 1) := by decide +kernel
theorem dX5_berth_123 : decode cX5_berth 123 = .ok (.ldc 159, 2) := by decide +kernel
theorem dX5_berth_125 : decode cX5_berth 125 = .ok (.invokespecial 45, 3) := by decide +kernel
theorem dX5_berth_128 : decode cX5_berth 128 = .ok (.athrow, 1) := by decide +kernel
theorem dX5_boat_0 : decode cX5_boat 0 = .ok (.aload_n 0, 1) := by decide +kernel
theorem dX5_boat_1 : decode cX5_boat 1 = .ok (.iload_n 1, 1) := by decide +kernel
theorem dX5_boat_2 : decode cX5_boat 2 = .ok (.invokevirtual 161, 3) := by decide +kernel
theorem dX5_boat_5 : decode cX5_boat 5 = .ok (.aload_n 0, 1) := by decide +kernel
theorem dX5_boat_6 : decode cX5_boat 6 = .ok (.getfield 10, 3) := by decide +kernel
theorem dX5_boat_9 : decode cX5_boat 9 = .ok (.getfield 100, 3) := by decide +kernel
theorem dX5_boat_12 : decode cX5_boat 12 = .ok (.iload_n 1, 1) := by decide +kernel
theorem dX5_boat_13 : decode cX5_boat 13 = .ok (.aaload, 1) := by decide +kernel
theorem dX5_boat_14 : decode cX5_boat 14 = .ok (.astore_n 3, 1) := by decide +kernel
theorem dX5_boat_15 : decode cX5_boat 15 = .ok (.iload_n 2, 1) := by decide +kernel
theorem dX5_boat_16 : decode cX5_boat 16 = .ok (.tableswitch 146 0 9 #[56, 61, 66, 71, 76, 81, 102, 107, 112, 129], 56) := by decide +kernel
theorem dX5_boat_72 : decode cX5_boat 72 = .ok (.aload_n 3, 1) := by decide +kernel
theorem dX5_boat_73 : decode cX5_boat 73 = .ok (.getfield 164, 3) := by decide +kernel
theorem dX5_boat_76 : decode cX5_boat 76 = .ok (.ireturn, 1) := by decide +kernel
theorem dX5_boat_77 : decode cX5_boat 77 = .ok (.aload_n 3, 1) := by decide +kernel
theorem dX5_boat_78 : decode cX5_boat 78 = .ok (.getfield 165, 3) := by decide +kernel
theorem dX5_boat_81 : decode cX5_boat 81 = .ok (.ireturn, 1) := by decide +kernel
theorem dX5_boat_82 : decode cX5_boat 82 = .ok (.aload_n 3, 1) := by decide +kernel
theorem dX5_boat_83 : decode cX5_boat 83 = .ok (.getfield 168, 3) := by decide +kernel
theorem dX5_boat_86 : decode cX5_boat 86 = .ok (.ireturn, 1) := by decide +kernel
theorem dX5_boat_87 : decode cX5_boat 87 = .ok (.aload_n 3, 1) := by decide +kernel
theorem dX5_boat_88 : decode cX5_boat 88 = .ok (.getfield 171, 3) := by decide +kernel
theorem dX5_boat_91 : decode cX5_boat 91 = .ok (.ireturn, 1) := by decide +kernel
theorem dX5_boat_92 : decode cX5_boat 92 = .ok (.aload_n 3, 1) := by decide +kernel
theorem dX5_boat_93 : decode cX5_boat 93 = .ok (.getfield 174, 3) := by decide +kernel
theorem dX5_boat_96 : decode cX5_boat 96 = .ok (.ireturn, 1) := by decide +kernel
theorem dX5_boat_97 : decode cX5_boat 97 = .ok (.aload_n 3, 1) := by decide +kernel
theorem dX5_boat_98 : decode cX5_boat 98 = .ok (.getfield 171, 3) := by decide +kernel
theorem dX5_boat_101 : decode cX5_boat 101 = .ok (.iconst 2, 1) := by decide +kernel
theorem dX5_boat_102 : decode cX5_boat 102 = .ok (.if_icmp .ne 14, 3) := by decide +kernel
theorem dX5_boat_105 : decode cX5_boat 105 = .ok (.aload_n 0, 1) := by decide +kernel
theorem dX5_boat_106 : decode cX5_boat 106 = .ok (.getfield 10, 3) := by decide +kernel
theorem dX5_boat_109 : decode cX5_boat 109 = .ok (.aload_n 3, 1) := by decide +kernel
theorem dX5_boat_110 : decode cX5_boat 110 = .ok (.invokevirtual 177, 3) := by decide +kernel
theorem dX5_boat_113 : decode cX5_boat 113 = .ok (.goto 4, 3) := by decide +kernel
theorem dX5_boat_116 : decode cX5_boat 116 = .ok (.iconst (-1), 1) := by decide +kernel
theorem dX5_boat_117 : decode cX5_boat 117 = .ok (.ireturn, 1) := by decide +kernel
theorem dX5_boat_118 : decode cX5_boat 118 = .ok (.aload_n 3, 1) := by decide +kernel
theorem dX5_boat_119 : decode cX5_boat 119 = .ok (.getfield 181, 3) := by decide +kernel
theorem dX5_boat_122 : decode cX5_boat 122 = .ok (.ireturn, 1) := by decide +kernel
theorem dX5_boat_123 : decode cX5_boat 123 = .ok (.aload_n 3, 1) := by decide +kernel
theorem dX5_boat_124 : decode cX5_boat 124 = .ok (.getfield 184, 3) := by decide +kernel
theorem dX5_boat_127 : decode cX5_boat 127 = .ok (.ireturn, 1) := by decide +kernel
theorem dX5_boat_128 : decode cX5_boat 128 = .ok (.aload_n 0, 1) := by decide +kernel
theorem dX5_boat_129 : decode cX5_boat 129 = .ok (.getfield 10, 3) := by decide +kernel
theorem dX5_boat_132 : decode cX5_boat 132 = .ok (.aload_n 3, 1) := by decide +kernel
theorem dX5_boat_133 : decode cX5_boat 133 = .ok (.invokevirtual 187, 3) := by decide +kernel
theorem dX5_boat_136 : decode cX5_boat 136 = .ok (.ifCond .eq 7, 3) := by decide +kernel
theorem dX5_boat_139 : decode cX5_boat 139 = .ok (.iconst 1, 1) := by decide +kernel
theorem dX5_boat_140 : decode cX5_boat 140 = .ok (.goto 4, 3) := by decide +kernel
theorem dX5_boat_143 : decode cX5_boat 143 = .ok (.iconst 0, 1) := by decide +kernel
theorem dX5_boat_144 : decode cX5_boat 144 = .ok (.ireturn, 1) := by decide +kernel
theorem dX5_boat_145 : decode cX5_boat 145 = .ok (.aload_n 0, 1) := by decide +kernel
theorem dX5_boat_146 : decode cX5_boat 146 = .ok (.getfield 10, 3) := by decide +kernel
theorem dX5_boat_149 : decode cX5_boat 149 = .ok (.aload_n 3, 1) := by decide +kernel
theorem dX5_boat_150 : decode cX5_boat 150 = .ok (.invokevirtual 191, 3) := by decide +kernel
theorem dX5_boat_153 : decode cX5_boat 153 = .ok (.ifCond .eq 7, 3) := by decide +kernel
theorem dX5_boat_156 : decode cX5_boat 156 = .ok (.iconst 1, 1) := by decide +kernel
theorem dX5_boat_157 : decode cX5_boat 157 = .ok (.goto 4, 3) := by decide +kernel
theorem dX5_boat_160 : decode cX5_boat 160 = .ok (.iconst 0, 1) := by decide +kernel
theorem dX5_boat_161 : decode cX5_boat 161 = .ok (.ireturn, 1) := by decide +kernel
theorem dX5_boat_162 : decode cX5_boat 162 = .ok (.new 41, 3) := by decide +kernel
theorem dX5_boat_165 : decode cX5_boat 165 = .ok (.dup, 1) := by decide +kernel
theorem dX5_boat_166 : decode cX5_boat 166 = .ok (.ldc 194, 2) := by decide +kernel
theorem dX5_boat_168 : decode cX5_boat 168 = .ok (.invokespecial 45, 3) := by decide +kernel
theorem dX5_boat_171 : decode cX5_boat 171 = .ok (.athrow, 1) := by decide +kernel
theorem dX5_fits_0 : decode cX5_fits 0 = .ok (.aload_n 0, 1) := by decide +kernel
theorem dX5_fits_1 : decode cX5_fits 1 = .ok (.iload_n 1, 1) := by decide +kernel
theorem dX5_fits_2 : decode cX5_fits 2 = .ok (.invokevirtual 161, 3) := by decide +kernel
theorem dX5_fits_5 : decode cX5_fits 5 = .ok (.aload_n 0, 1) := by decide +kernel
theorem dX5_fits_6 : decode cX5_fits 6 = .ok (.iload_n 2, 1) := by decide +kernel
theorem dX5_fits_7 : decode cX5_fits 7 = .ok (.invokevirtual 130, 3) := by decide +kernel
theorem dX5_fits_10 : decode cX5_fits 10 = .ok (.aload_n 0, 1) := by decide +kernel
theorem dX5_fits_11 : decode cX5_fits 11 = .ok (.getfield 10, 3) := by decide +kernel
theorem dX5_fits_14 : decode cX5_fits 14 = .ok (.aload_n 0, 1) := by decide +kernel
theorem dX5_fits_15 : decode cX5_fits 15 = .ok (.getfield 10, 3) := by decide +kernel
theorem dX5_fits_18 : decode cX5_fits 18 = .ok (.getfield 100, 3) := by decide +kernel
theorem dX5_fits_21 : decode cX5_fits 21 = .ok (.iload_n 1, 1) := by decide +kernel
theorem dX5_fits_22 : decode cX5_fits 22 = .ok (.aaload, 1) := by decide +kernel
theorem dX5_fits_23 : decode cX5_fits 23 = .ok (.aload_n 0, 1) := by decide +kernel
theorem dX5_fits_24 : decode cX5_fits 24 = .ok (.getfield 10, 3) := by decide +kernel
theorem dX5_fits_27 : decode cX5_fits 27 = .ok (.getfield 83, 3) := by decide +kernel
theorem dX5_fits_30 : decode cX5_fits 30 = .ok (.iload_n 2, 1) := by decide +kernel
theorem dX5_fits_31 : decode cX5_fits 31 = .ok (.aaload, 1) := by decide +kernel
theorem dX5_fits_32 : decode cX5_fits 32 = .ok (.invokevirtual 196, 3) := by decide +kernel
theorem dX5_fits_35 : decode cX5_fits 35 = .ok (.ireturn, 1) := by decide +kernel
theorem dX5_info_0 : decode cX5_info 0 = .ok (.iload_n 1, 1) := by decide +kernel
theorem dX5_info_1 : decode cX5_info 1 = .ok (.tableswitch 202 0 13 #[71, 79, 87, 95, 103, 111, 127, 135, 143, 160, 169, 178, 186, 194], 71) := by decide +kernel
theorem dX5_info_72 : decode cX5_info 72 = .ok (.aload_n 0, 1) := by decide +kernel
theorem dX5_info_73 : decode cX5_info 73 = .ok (.getfield 10, 3) := by decide +kernel
theorem dX5_info_76 : decode cX5_info 76 = .ok (.getfield 118, 3) := by decide +kernel
theorem dX5_info_79 : decode cX5_info 79 = .ok (.ireturn, 1) := by decide +kernel
theorem dX5_info_80 : decode cX5_info 80 = .ok (.aload_n 0, 1) := by decide +kernel
theorem dX5_info_81 : decode cX5_info 81 = .ok (.getfield 10, 3) := by decide +kernel
theorem dX5_info_84 : decode cX5_info 84 = .ok (.getfield 121, 3) := by decide +kernel
theorem dX5_info_87 : decode cX5_info 87 = .ok (.ireturn, 1) := by decide +kernel
theorem dX5_info_88 : decode cX5_info 88 = .ok (.aload_n 0, 1) := by decide +kernel
theorem dX5_info_89 : decode cX5_info 89 = .ok (.getfield 10, 3) := by decide +kernel
theorem dX5_info_92 : decode cX5_info 92 = .ok (.getfield 124, 3) := by decide +kernel
theorem dX5_info_95 : decode cX5_info 95 = .ok (.ireturn, 1) := by decide +kernel
theorem dX5_info_96 : decode cX5_info 96 = .ok (.aload_n 0, 1) := by decide +kernel
theorem dX5_info_97 : decode cX5_info 97 = .ok (.getfield 10, 3) := by decide +kernel
theorem dX5_info_100 : decode cX5_info 100 = .ok (.getfield 127, 3) := by decide +kernel
theorem dX5_info_103 : decode cX5_info 103 = .ok (.ireturn, 1) := by decide +kernel
theorem dX5_info_104 : decode cX5_info 104 = .ok (.aload_n 0, 1) := by decide +kernel
theorem dX5_info_105 : decode cX5_info 105 = .ok (.getfield 10, 3) := by decide +kernel
theorem dX5_info_108 : decode cX5_info 108 = .ok (.getfield 200, 3) := by decide +kernel
theorem dX5_info_111 : decode cX5_info 111 = .ok (.ireturn, 1) := by decide +kernel
theorem dX5_info_112 : decode cX5_info 112 = .ok (.aload_n 0, 1) := by decide +kernel
theorem dX5_info_113 : decode cX5_info 113 = .ok (.getfield 10, 3) := by decide +kernel
theorem dX5_info_116 : decode cX5_info 116 = .ok (.getfield 203, 3) := by decide +kernel
theorem dX5_info_119 : decode cX5_info 119 = .ok (.ifCond .eq 7, 3) := by decide +kernel
theorem dX5_info_122 : decode cX5_info 122 = .ok (.iconst 1, 1) := by decide +kernel
theorem dX5_info_123 : decode cX5_info 123 = .ok (.goto 4, 3) := by decide +kernel
theorem dX5_info_126 : decode cX5_info 126 = .ok (.iconst 0, 1) := by decide +kernel
theorem dX5_info_127 : decode cX5_info 127 = .ok (.ireturn, 1) := by decide +kernel
theorem dX5_info_128 : decode cX5_info 128 = .ok (.aload_n 0, 1) := by decide +kernel
theorem dX5_info_129 : decode cX5_info 129 = .ok (.getfield 10, 3) := by decide +kernel
theorem dX5_info_132 : decode cX5_info 132 = .ok (.getfield 75, 3) := by decide +kernel
theorem dX5_info_135 : decode cX5_info 135 = .ok (.ireturn, 1) := by decide +kernel
theorem dX5_info_136 : decode cX5_info 136 = .ok (.aload_n 0, 1) := by decide +kernel
theorem dX5_info_137 : decode cX5_info 137 = .ok (.getfield 10, 3) := by decide +kernel
theorem dX5_info_140 : decode cX5_info 140 = .ok (.getfield 95, 3) := by decide +kernel
theorem dX5_info_143 : decode cX5_info 143 = .ok (.ireturn, 1) := by decide +kernel
theorem dX5_info_144 : decode cX5_info 144 = .ok (.aload_n 0, 1) := by decide +kernel
theorem dX5_info_145 : decode cX5_info 145 = .ok (.getfield 10, 3) := by decide +kernel
theorem dX5_info_148 : decode cX5_info 148 = .ok (.getfield 75, 3) := by decide +kernel
theorem dX5_info_151 : decode cX5_info 151 = .ok (.aload_n 0, 1) := by decide +kernel
theorem dX5_info_152 : decode cX5_info 152 = .ok (.getfield 10, 3) := by decide +kernel
theorem dX5_info_155 : decode cX5_info 155 = .ok (.iconst 1, 1) := by decide +kernel
theorem dX5_info_156 : decode cX5_info 156 = .ok (.invokevirtual 206, 3) := by decide +kernel
theorem dX5_info_159 : decode cX5_info 159 = .ok (.isub, 1) := by decide +kernel
theorem dX5_info_160 : decode cX5_info 160 = .ok (.ireturn, 1) := by decide +kernel
theorem dX5_info_161 : decode cX5_info 161 = .ok (.aload_n 0, 1) := by decide +kernel
theorem dX5_info_162 : decode cX5_info 162 = .ok (.getfield 10, 3) := by decide +kernel
theorem dX5_info_165 : decode cX5_info 165 = .ok (.iconst 2, 1) := by decide +kernel
theorem dX5_info_166 : decode cX5_info 166 = .ok (.invokevirtual 206, 3) := by decide +kernel
theorem dX5_info_169 : decode cX5_info 169 = .ok (.ireturn, 1) := by decide +kernel
theorem dX5_info_170 : decode cX5_info 170 = .ok (.aload_n 0, 1) := by decide +kernel
theorem dX5_info_171 : decode cX5_info 171 = .ok (.getfield 10, 3) := by decide +kernel
theorem dX5_info_174 : decode cX5_info 174 = .ok (.iconst 3, 1) := by decide +kernel
theorem dX5_info_175 : decode cX5_info 175 = .ok (.invokevirtual 206, 3) := by decide +kernel
theorem dX5_info_178 : decode cX5_info 178 = .ok (.ireturn, 1) := by decide +kernel
theorem dX5_info_179 : decode cX5_info 179 = .ok (.aload_n 0, 1) := by decide +kernel
theorem dX5_info_180 : decode cX5_info 180 = .ok (.getfield 10, 3) := by decide +kernel
theorem dX5_info_183 : decode cX5_info 183 = .ok (.invokevirtual 209, 3) := by decide +kernel
theorem dX5_info_186 : decode cX5_info 186 = .ok (.ireturn, 1) := by decide +kernel
theorem dX5_info_187 : decode cX5_info 187 = .ok (.aload_n 0, 1) := by decide +kernel
theorem dX5_info_188 : decode cX5_info 188 = .ok (.getfield 10, 3) := by decide +kernel
theorem dX5_info_191 : decode cX5_info 191 = .ok (.getfield 152, 3) := by decide +kernel
theorem dX5_info_194 : decode cX5_info 194 = .ok (.ireturn, 1) := by decide +kernel
theorem dX5_info_195 : decode cX5_info 195 = .ok (.aload_n 0, 1) := by decide +kernel
theorem dX5_info_196 : decode cX5_info 196 = .ok (.getfield 10, 3) := by decide +kernel
theorem dX5_info_199 : decode cX5_info 199 = .ok (.getfield 55, 3) := by decide +kernel
theorem dX5_info_202 : decode cX5_info 202 = .ok (.ireturn, 1) := by decide +kernel
theorem dX5_info_203 : decode cX5_info 203 = .ok (.new 41, 3) := by decide +kernel
theorem dX5_info_206 : decode cX5_info 206 = .ok (.dup, 1) := by decide +kernel
theorem dX5_info_207 : decode cX5_info 207 = .ok (.ldc 212, 2) := by decide +kernel
theorem dX5_info_209 : decode cX5_info 209 = .ok (.invokespecial 45, 3) := by decide +kernel
theorem dX5_info_212 : decode cX5_info 212 = .ok (.athrow, 1) := by decide +kernel
theorem dX5_place_0 : decode cX5_place 0 = .ok (.aload_n 0, 1) := by decide +kernel
theorem dX5_place_1 : decode cX5_place 1 = .ok (.iload_n 1, 1) := by decide +kernel
theorem dX5_place_2 : decode cX5_place 2 = .ok (.invokevirtual 161, 3) := by decide +kernel
theorem dX5_place_5 : decode cX5_place 5 = .ok (.aload_n 0, 1) := by decide +kernel
theorem dX5_place_6 : decode cX5_place 6 = .ok (.iload_n 2, 1) := by decide +kernel
theorem dX5_place_7 : decode cX5_place 7 = .ok (.invokevirtual 130, 3) := by decide +kernel
theorem dX5_place_10 : decode cX5_place 10 = .ok (.aload_n 0, 1) := by decide +kernel
theorem dX5_place_11 : decode cX5_place 11 = .ok (.getfield 10, 3) := by decide +kernel
theorem dX5_place_14 : decode cX5_place 14 = .ok (.getfield 100, 3) := by decide +kernel
theorem dX5_place_17 : decode cX5_place 17 = .ok (.iload_n 1, 1) := by decide +kernel
theorem dX5_place_18 : decode cX5_place 18 = .ok (.aaload, 1) := by decide +kernel
theorem dX5_place_19 : decode cX5_place 19 = .ok (.astore_n 3, 1) := by decide +kernel
theorem dX5_place_20 : decode cX5_place 20 = .ok (.aload_n 0, 1) := by decide +kernel
theorem dX5_place_21 : decode cX5_place 21 = .ok (.getfield 10, 3) := by decide +kernel
theorem dX5_place_24 : decode cX5_place 24 = .ok (.iload_n 2, 1) := by decide +kernel
theorem dX5_place_25 : decode cX5_place 25 = .ok (.invokevirtual 214, 3) := by decide +kernel
theorem dX5_place_28 : decode cX5_place 28 = .ok (.ifCond .eq 23, 3) := by decide +kernel
theorem dX5_place_31 : decode cX5_place 31 = .ok (.aload_n 0, 1) := by decide +kernel
theorem dX5_place_32 : decode cX5_place 32 = .ok (.getfield 10, 3) := by decide +kernel
theorem dX5_place_35 : decode cX5_place 35 = .ok (.aload_n 3, 1) := by decide +kernel
theorem dX5_place_36 : decode cX5_place 36 = .ok (.aload_n 0, 1) := by decide +kernel
theorem dX5_place_37 : decode cX5_place 37 = .ok (.getfield 10, 3) := by decide +kernel
theorem dX5_place_40 : decode cX5_place 40 = .ok (.getfield 83, 3) := by decide +kernel
theorem dX5_place_43 : decode cX5_place 43 = .ok (.iload_n 2, 1) := by decide +kernel
theorem dX5_place_44 : decode cX5_place 44 = .ok (.aaload, 1) := by decide +kernel
theorem dX5_place_45 : decode cX5_place 45 = .ok (.invokevirtual 196, 3) := by decide +kernel
theorem dX5_place_48 : decode cX5_place 48 = .ok (.ifCond .ne 13, 3) := by decide +kernel
theorem dX5_place_51 : decode cX5_place 51 = .ok (.new 78, 3) := by decide +kernel
theorem dX5_place_54 : decode cX5_place 54 = .ok (.dup, 1) := by decide +kernel
theorem dX5_place_55 : decode cX5_place 55 = .ok (.ldc 217, 2) := by decide +kernel
theorem dX5_place_57 : decode cX5_place 57 = .ok (.invokespecial 82, 3) := by decide +kernel
theorem dX5_place_60 : decode cX5_place 60 = .ok (.athrow, 1) := by decide +kernel
theorem dX5_place_61 : decode cX5_place 61 = .ok (.aload_n 0, 1) := by decide +kernel
theorem dX5_place_62 : decode cX5_place 62 = .ok (.invokevirtual 48, 3) := by decide +kernel
theorem dX5_place_65 : decode cX5_place 65 = .ok (.aload_n 3, 1) := by decide +kernel
theorem dX5_place_66 : decode cX5_place 66 = .ok (.getfield 174, 3) := by decide +kernel
theorem dX5_place_69 : decode cX5_place 69 = .ok (.istore 4, 2) := by decide +kernel
theorem dX5_place_71 : decode cX5_place 71 = .ok (.aload_n 3, 1) := by decide +kernel
theorem dX5_place_72 : decode cX5_place 72 = .ok (.iconst 1, 1) := by decide +kernel
theorem dX5_place_73 : decode cX5_place 73 = .ok (.iload_n 2, 1) := by decide +kernel
theorem dX5_place_74 : decode cX5_place 74 = .ok (.invokevirtual 219, 3) := by decide +kernel
theorem dX5_place_77 : decode cX5_place 77 = .ok (.iload 4, 2) := by decide +kernel
theorem dX5_place_79 : decode cX5_place 79 = .ok (.ireturn, 1) := by decide +kernel
theorem dX5_leave_0 : decode cX5_leave 0 = .ok (.aload_n 0, 1) := by decide +kernel
theorem dX5_leave_1 : decode cX5_leave 1 = .ok (.iload_n 1, 1) := by decide +kernel
theorem dX5_leave_2 : decode cX5_leave 2 = .ok (.invokevirtual 161, 3) := by decide +kernel
theorem dX5_leave_5 : decode cX5_leave 5 = .ok (.aload_n 0, 1) := by decide +kernel
theorem dX5_leave_6 : decode cX5_leave 6 = .ok (.getfield 10, 3) := by decide +kernel
theorem dX5_leave_9 : decode cX5_leave 9 = .ok (.getfield 100, 3) := by decide +kernel
theorem dX5_leave_12 : decode cX5_leave 12 = .ok (.iload_n 1, 1) := by decide +kernel
theorem dX5_leave_13 : decode cX5_leave 13 = .ok (.aaload, 1) := by decide +kernel
theorem dX5_leave_14 : decode cX5_leave 14 = .ok (.astore_n 2, 1) := by decide +kernel
theorem dX5_leave_15 : decode cX5_leave 15 = .ok (.aload_n 2, 1) := by decide +kernel
theorem dX5_leave_16 : decode cX5_leave 16 = .ok (.getfield 171, 3) := by decide +kernel
theorem dX5_leave_19 : decode cX5_leave 19 = .ok (.ifCond .eq 10, 3) := by decide +kernel
theorem dX5_leave_22 : decode cX5_leave 22 = .ok (.aload_n 2, 1) := by decide +kernel
theorem dX5_leave_23 : decode cX5_leave 23 = .ok (.getfield 184, 3) := by decide +kernel
theorem dX5_leave_26 : decode cX5_leave 26 = .ok (.ifCond .le 13, 3) := by decide +kernel
theorem dX5_leave_29 : decode cX5_leave 29 = .ok (.new 78, 3) := by decide +kernel
theorem dX5_leave_32 : decode cX5_leave 32 = .ok (.dup, 1) := by decide +kernel
theorem dX5_leave_33 : decode cX5_leave 33 = .ok (.ldc 223, 2) := by decide +kernel
theorem dX5_leave_35 : decode cX5_leave 35 = .ok (.invokespecial 82, 3) := by decide +kernel
theorem dX5_leave_38 : decode cX5_leave 38 = .ok (.athrow, 1) := by decide +kernel
theorem dX5_leave_39 : decode cX5_leave 39 = .ok (.aload_n 0, 1) := by decide +kernel
theorem dX5_leave_40 : decode cX5_leave 40 = .ok (.invokevirtual 48, 3) := by decide +kernel
theorem dX5_leave_43 : decode cX5_leave 43 = .ok (.aload_n 2, 1) := by decide +kernel
theorem dX5_leave_44 : decode cX5_leave 44 = .ok (.getfield 171, 3) := by decide +kernel
theorem dX5_leave_47 : decode cX5_leave 47 = .ok (.istore_n 3, 1) := by decide +kernel
theorem dX5_leave_48 : decode cX5_leave 48 = .ok (.aload_n 2, 1) := by decide +kernel
theorem dX5_leave_49 : decode cX5_leave 49 = .ok (.iconst 0, 1) := by decide +kernel
theorem dX5_leave_50 : decode cX5_leave 50 = .ok (.iconst (-1), 1) := by decide +kernel
theorem dX5_leave_51 : decode cX5_leave 51 = .ok (.invokevirtual 219, 3) := by decide +kernel
theorem dX5_leave_54 : decode cX5_leave 54 = .ok (.iload_n 3, 1) := by decide +kernel
theorem dX5_leave_55 : decode cX5_leave 55 = .ok (.ireturn, 1) := by decide +kernel
theorem dX5_change_0 : decode cX5_change 0 = .ok (.aload_n 0, 1) := by decide +kernel
theorem dX5_change_1 : decode cX5_change 1 = .ok (.iload_n 1, 1) := by decide +kernel
theorem dX5_change_2 : decode cX5_change 2 = .ok (.invokevirtual 161, 3) := by decide +kernel
theorem dX5_change_5 : decode cX5_change 5 = .ok (.aload_n 0, 1) := by decide +kernel
theorem dX5_change_6 : decode cX5_change 6 = .ok (.iload_n 2, 1) := by decide +kernel
theorem dX5_change_7 : decode cX5_change 7 = .ok (.invokevirtual 161, 3) := by decide +kernel
theorem dX5_change_10 : decode cX5_change 10 = .ok (.iload_n 1, 1) := by decide +kernel
theorem dX5_change_11 : decode cX5_change 11 = .ok (.iload_n 2, 1) := by decide +kernel
theorem dX5_change_12 : decode cX5_change 12 = .ok (.if_icmp .ne 13, 3) := by decide +kernel
theorem dX5_change_15 : decode cX5_change 15 = .ok (.new 41, 3) := by decide +kernel
theorem dX5_change_18 : decode cX5_change 18 = .ok (.dup, 1) := by decide +kernel
theorem dX5_change_19 : decode cX5_change 19 = .ok (.ldc 225, 2) := by decide +kernel
theorem dX5_change_21 : decode cX5_change 21 = .ok (.invokespecial 45, 3) := by decide +kernel
theorem dX5_change_24 : decode cX5_change 24 = .ok (.athrow, 1) := by decide +kernel
theorem dX5_change_25 : decode cX5_change 25 = .ok (.aload_n 0, 1) := by decide +kernel
theorem dX5_change_26 : decode cX5_change 26 = .ok (.getfield 10, 3) := by decide +kernel
theorem dX5_change_29 : decode cX5_change 29 = .ok (.getfield 100, 3) := by decide +kernel
theorem dX5_change_32 : decode cX5_change 32 = .ok (.iload_n 1, 1) := by decide +kernel
theorem dX5_change_33 : decode cX5_change 33 = .ok (.aaload, 1) := by decide +kernel
theorem dX5_change_34 : decode cX5_change 34 = .ok (.astore_n 3, 1) := by decide +kernel
theorem dX5_change_35 : decode cX5_change 35 = .ok (.aload_n 0, 1) := by decide +kernel
theorem dX5_change_36 : decode cX5_change 36 = .ok (.getfield 10, 3) := by decide +kernel
theorem dX5_change_39 : decode cX5_change 39 = .ok (.getfield 100, 3) := by decide +kernel
theorem dX5_change_42 : decode cX5_change 42 = .ok (.iload_n 2, 1) := by decide +kernel
theorem dX5_change_43 : decode cX5_change 43 = .ok (.aaload, 1) := by decide +kernel
theorem dX5_change_44 : decode cX5_change 44 = .ok (.astore 4, 2) := by decide +kernel
theorem dX5_change_46 : decode cX5_change 46 = .ok (.aload_n 0, 1) := by decide +kernel
theorem dX5_change_47 : decode cX5_change 47 = .ok (.getfield 10, 3) := by decide +kernel
theorem dX5_change_50 : decode cX5_change 50 = .ok (.aload_n 3, 1) := by decide +kernel
theorem dX5_change_51 : decode cX5_change 51 = .ok (.aload 4, 2) := by decide +kernel
theorem dX5_change_53 : decode cX5_change 53 = .ok (.invokevirtual 227, 3) := by decide +kernel
theorem dX5_change_56 : decode cX5_change 56 = .ok (.ifCond .eq 16, 3) := by decide +kernel
theorem dX5_change_59 : decode cX5_change 59 = .ok (.aload_n 0, 1) := by decide +kernel
theorem dX5_change_60 : decode cX5_change 60 = .ok (.getfield 10, 3) := by decide +kernel
theorem dX5_change_63 : decode cX5_change 63 = .ok (.aload 4, 2) := by decide +kernel
theorem dX5_change_65 : decode cX5_change 65 = .ok (.aload_n 3, 1) := by decide +kernel
theorem dX5_change_66 : decode cX5_change 66 = .ok (.invokevirtual 227, 3) := by decide +kernel
theorem dX5_change_69 : decode cX5_change 69 = .ok (.ifCond .ne 13, 3) := by decide +kernel
theorem dX5_change_72 : decode cX5_change 72 = .ok (.new 78, 3) := by decide +kernel
theorem dX5_change_75 : decode cX5_change 75 = .ok (.dup, 1) := by decide +kernel
theorem dX5_change_76 : decode cX5_change 76 = .ok (.ldc 231, 2) := by decide +kernel
theorem dX5_change_78 : decode cX5_change 78 = .ok (.invokespecial 82, 3) := by decide +kernel
theorem dX5_change_81 : decode cX5_change 81 = .ok (.athrow, 1) := by decide +kernel
theorem dX5_change_82 : decode cX5_change 82 = .ok (.aload_n 0, 1) := by decide +kernel
theorem dX5_change_83 : decode cX5_change 83 = .ok (.invokevirtual 48, 3) := by decide +kernel
theorem dX5_change_86 : decode cX5_change 86 = .ok (.aload_n 3, 1) := by decide +kernel
theorem dX5_change_87 : decode cX5_change 87 = .ok (.getfield 174, 3) := by decide +kernel
theorem dX5_change_90 : decode cX5_change 90 = .ok (.istore 5, 2) := by decide +kernel
theorem dX5_change_92 : decode cX5_change 92 = .ok (.aload_n 3, 1) := by decide +kernel
theorem dX5_change_93 : decode cX5_change 93 = .ok (.iconst 1, 1) := by decide +kernel
theorem dX5_change_94 : decode cX5_change 94 = .ok (.aload 4, 2) := by decide +kernel
theorem dX5_change_96 : decode cX5_change 96 = .ok (.getfield 174, 3) := by decide +kernel
theorem dX5_change_99 : decode cX5_change 99 = .ok (.invokevirtual 219, 3) := by decide +kernel
theorem dX5_change_102 : decode cX5_change 102 = .ok (.aload 4, 2) := by decide +kernel
theorem dX5_change_104 : decode cX5_change 104 = .ok (.iconst 1, 1) := by decide +kernel
theorem dX5_change_105 : decode cX5_change 105 = .ok (.iload 5, 2) := by decide +kernel
theorem dX5_change_107 : decode cX5_change 107 = .ok (.invokevirtual 219, 3) := by decide +kernel
theorem dX5_change_110 : decode cX5_change 110 = .ok (.aload_n 3, 1) := by decide +kernel
theorem dX5_change_111 : decode cX5_change 111 = .ok (.getfield 174, 3) := by decide +kernel
theorem dX5_change_114 : decode cX5_change 114 = .ok (.ireturn, 1) := by decide +kernel
theorem dX5_await_0 : decode cX5_await 0 = .ok (.aload_n 0, 1) := by decide +kernel
theorem dX5_await_1 : decode cX5_await 1 = .ok (.iload_n 1, 1) := by decide +kernel
theorem dX5_await_2 : decode cX5_await 2 = .ok (.invokevirtual 161, 3) := by decide +kernel
theorem dX5_await_5 : decode cX5_await 5 = .ok (.aload_n 0, 1) := by decide +kernel
theorem dX5_await_6 : decode cX5_await 6 = .ok (.getfield 10, 3) := by decide +kernel
theorem dX5_await_9 : decode cX5_await 9 = .ok (.getfield 100, 3) := by decide +kernel
theorem dX5_await_12 : decode cX5_await 12 = .ok (.iload_n 1, 1) := by decide +kernel
theorem dX5_await_13 : decode cX5_await 13 = .ok (.aaload, 1) := by decide +kernel
theorem dX5_await_14 : decode cX5_await 14 = .ok (.astore_n 2, 1) := by decide +kernel
theorem dX5_await_15 : decode cX5_await 15 = .ok (.aload_n 2, 1) := by decide +kernel
theorem dX5_await_16 : decode cX5_await 16 = .ok (.getfield 171, 3) := by decide +kernel
theorem dX5_await_19 : decode cX5_await 19 = .ok (.ifCond .eq 13, 3) := by decide +kernel
theorem dX5_await_22 : decode cX5_await 22 = .ok (.new 78, 3) := by decide +kernel
theorem dX5_await_25 : decode cX5_await 25 = .ok (.dup, 1) := by decide +kernel
theorem dX5_await_26 : decode cX5_await 26 = .ok (.ldc 233, 2) := by decide +kernel
theorem dX5_await_28 : decode cX5_await 28 = .ok (.invokespecial 82, 3) := by decide +kernel
theorem dX5_await_31 : decode cX5_await 31 = .ok (.athrow, 1) := by decide +kernel
theorem dX5_await_32 : decode cX5_await 32 = .ok (.aload_n 0, 1) := by decide +kernel
theorem dX5_await_33 : decode cX5_await 33 = .ok (.invokevirtual 48, 3) := by decide +kernel
theorem dX5_await_36 : decode cX5_await 36 = .ok (.aload_n 0, 1) := by decide +kernel
theorem dX5_await_37 : decode cX5_await 37 = .ok (.getfield 10, 3) := by decide +kernel
theorem dX5_await_40 : decode cX5_await 40 = .ok (.aload_n 2, 1) := by decide +kernel
theorem dX5_await_41 : decode cX5_await 41 = .ok (.invokevirtual 235, 3) := by decide +kernel
theorem dX5_await_44 : decode cX5_await 44 = .ok (.aload_n 0, 1) := by decide +kernel
theorem dX5_await_45 : decode cX5_await 45 = .ok (.getfield 10, 3) := by decide +kernel
theorem dX5_await_48 : decode cX5_await 48 = .ok (.aload_n 2, 1) := by decide +kernel
theorem dX5_await_49 : decode cX5_await 49 = .ok (.invokevirtual 239, 3) := by decide +kernel
theorem dX5_await_52 : decode cX5_await 52 = .ok (.ireturn, 1) := by decide +kernel
theorem dX5_offer_0 : decode cX5_offer 0 = .ok (.aload_n 0, 1) := by decide +kernel
theorem dX5_offer_1 : decode cX5_offer 1 = .ok (.iload_n 1, 1) := by decide +kernel
theorem dX5_offer_2 : decode cX5_offer 2 = .ok (.invokevirtual 130, 3) := by decide +kernel
theorem dX5_offer_5 : decode cX5_offer 5 = .ok (.aload_n 0, 1) := by decide +kernel
theorem dX5_offer_6 : decode cX5_offer 6 = .ok (.getfield 10, 3) := by decide +kernel
theorem dX5_offer_9 : decode cX5_offer 9 = .ok (.iload_n 1, 1) := by decide +kernel
theorem dX5_offer_10 : decode cX5_offer 10 = .ok (.invokevirtual 214, 3) := by decide +kernel
theorem dX5_offer_13 : decode cX5_offer 13 = .ok (.ifCond .ne 13, 3) := by decide +kernel
theorem dX5_offer_16 : decode cX5_offer 16 = .ok (.new 78, 3) := by decide +kernel
theorem dX5_offer_19 : decode cX5_offer 19 = .ok (.dup, 1) := by decide +kernel
theorem dX5_offer_20 : decode cX5_offer 20 = .ok (.ldc 242, 2) := by decide +kernel
theorem dX5_offer_22 : decode cX5_offer 22 = .ok (.invokespecial 82, 3) := by decide +kernel
theorem dX5_offer_25 : decode cX5_offer 25 = .ok (.athrow, 1) := by decide +kernel
theorem dX5_offer_26 : decode cX5_offer 26 = .ok (.aload_n 0, 1) := by decide +kernel
theorem dX5_offer_27 : decode cX5_offer 27 = .ok (.invokevirtual 48, 3) := by decide +kernel
theorem dX5_offer_30 : decode cX5_offer 30 = .ok (.aload_n 0, 1) := by decide +kernel
theorem dX5_offer_31 : decode cX5_offer 31 = .ok (.getfield 10, 3) := by decide +kernel
theorem dX5_offer_34 : decode cX5_offer 34 = .ok (.aload_n 0, 1) := by decide +kernel
theorem dX5_offer_35 : decode cX5_offer 35 = .ok (.getfield 10, 3) := by decide +kernel
theorem dX5_offer_38 : decode cX5_offer 38 = .ok (.getfield 83, 3) := by decide +kernel
theorem dX5_offer_41 : decode cX5_offer 41 = .ok (.iload_n 1, 1) := by decide +kernel
theorem dX5_offer_42 : decode cX5_offer 42 = .ok (.aaload, 1) := by decide +kernel
theorem dX5_offer_43 : decode cX5_offer 43 = .ok (.invokevirtual 244, 3) := by decide +kernel
theorem dX5_offer_46 : decode cX5_offer 46 = .ok (.istore_n 2, 1) := by decide +kernel
theorem dX5_offer_47 : decode cX5_offer 47 = .ok (.iload_n 2, 1) := by decide +kernel
theorem dX5_offer_48 : decode cX5_offer 48 = .ok (.iconst (-1), 1) := by decide +kernel
theorem dX5_offer_49 : decode cX5_offer 49 = .ok (.if_icmp .eq 17, 3) := by decide +kernel
theorem dX5_offer_52 : decode cX5_offer 52 = .ok (.aload_n 0, 1) := by decide +kernel
theorem dX5_offer_53 : decode cX5_offer 53 = .ok (.getfield 10, 3) := by decide +kernel
theorem dX5_offer_56 : decode cX5_offer 56 = .ok (.getfield 100, 3) := by decide +kernel
theorem dX5_offer_59 : decode cX5_offer 59 = .ok (.iload_n 2, 1) := by decide +kernel
theorem dX5_offer_60 : decode cX5_offer 60 = .ok (.aaload, 1) := by decide +kernel
theorem dX5_offer_61 : decode cX5_offer 61 = .ok (.iconst 1, 1) := by decide +kernel
theorem dX5_offer_62 : decode cX5_offer 62 = .ok (.iload_n 1, 1) := by decide +kernel
theorem dX5_offer_63 : decode cX5_offer 63 = .ok (.invokevirtual 219, 3) := by decide +kernel
theorem dX5_offer_66 : decode cX5_offer 66 = .ok (.iload_n 2, 1) := by decide +kernel
theorem dX5_offer_67 : decode cX5_offer 67 = .ok (.ireturn, 1) := by decide +kernel
theorem dX5_waiting_0 : decode cX5_waiting 0 = .ok (.aload_n 0, 1) := by decide +kernel
theorem dX5_waiting_1 : decode cX5_waiting 1 = .ok (.getfield 10, 3) := by decide +kernel
theorem dX5_waiting_4 : decode cX5_waiting 4 = .ok (.iload_n 1, 1) := by decide +kernel
theorem dX5_waiting_5 : decode cX5_waiting 5 = .ok (.invokevirtual 247, 3) := by decide +kernel
theorem dX5_waiting_8 : decode cX5_waiting 8 = .ok (.ireturn, 1) := by decide +kernel
theorem dX5_bestBerth_0 : decode cX5_bestBerth 0 = .ok (.aload_n 0, 1) := by decide +kernel
theorem dX5_bestBerth_1 : decode cX5_bestBerth 1 = .ok (.iload_n 1, 1) := by decide +kernel
theorem dX5_bestBerth_2 : decode cX5_bestBerth 2 = .ok (.invokevirtual 161, 3) := by decide +kernel
theorem dX5_bestBerth_5 : decode cX5_bestBerth 5 = .ok (.aload_n 0, 1) := by decide +kernel
theorem dX5_bestBerth_6 : decode cX5_bestBerth 6 = .ok (.getfield 10, 3) := by decide +kernel
theorem dX5_bestBerth_9 : decode cX5_bestBerth 9 = .ok (.aload_n 0, 1) := by decide +kernel
theorem dX5_bestBerth_10 : decode cX5_bestBerth 10 = .ok (.getfield 10, 3) := by decide +kernel
theorem dX5_bestBerth_13 : decode cX5_bestBerth 13 = .ok (.getfield 100, 3) := by decide +kernel
theorem dX5_bestBerth_16 : decode cX5_bestBerth 16 = .ok (.iload_n 1, 1) := by decide +kernel
theorem dX5_bestBerth_17 : decode cX5_bestBerth 17 = .ok (.aaload, 1) := by decide +kernel
theorem dX5_bestBerth_18 : decode cX5_bestBerth 18 = .ok (.invokevirtual 250, 3) := by decide +kernel
theorem dX5_bestBerth_21 : decode cX5_bestBerth 21 = .ok (.ireturn, 1) := by decide +kernel
theorem dX5_pass_0 : decode cX5_pass 0 = .ok (.iload_n 1, 1) := by decide +kernel
theorem dX5_pass_1 : decode cX5_pass 1 = .ok (.invokestatic 253, 3) := by decide +kernel
theorem dX5_pass_4 : decode cX5_pass 4 = .ok (.aload_n 0, 1) := by decide +kernel
theorem dX5_pass_5 : decode cX5_pass 5 = .ok (.getfield 16, 3) := by decide +kernel
theorem dX5_pass_8 : decode cX5_pass 8 = .ok (.aload_n 0, 1) := by decide +kernel
theorem dX5_pass_9 : decode cX5_pass 9 = .ok (.getfield 10, 3) := by decide +kernel
theorem dX5_pass_12 : decode cX5_pass 12 = .ok (.invokevirtual 256, 3) := by decide +kernel
theorem dX5_pass_15 : decode cX5_pass 15 = .ok (.aload_n 0, 1) := by decide +kernel
theorem dX5_pass_16 : decode cX5_pass 16 = .ok (.getfield 16, 3) := by decide +kernel
theorem dX5_pass_19 : decode cX5_pass 19 = .ok (.iload_n 1, 1) := by decide +kernel
theorem dX5_pass_20 : decode cX5_pass 20 = .ok (.aload_n 0, 1) := by decide +kernel
theorem dX5_pass_21 : decode cX5_pass 21 = .ok (.getfield 26, 3) := by decide +kernel
theorem dX5_pass_24 : decode cX5_pass 24 = .ok (.invokevirtual 260, 3) := by decide +kernel
theorem dX5_pass_27 : decode cX5_pass 27 = .ok (.istore_n 2, 1) := by decide +kernel
theorem dX5_pass_28 : decode cX5_pass 28 = .ok (.iload_n 2, 1) := by decide +kernel
theorem dX5_pass_29 : decode cX5_pass 29 = .ok (.iconst (-1), 1) := by decide +kernel
theorem dX5_pass_30 : decode cX5_pass 30 = .ok (.if_icmp .ne 14, 3) := by decide +kernel
theorem dX5_pass_33 : decode cX5_pass 33 = .ok (.new 78, 3) := by decide +kernel
theorem dX5_pass_36 : decode cX5_pass 36 = .ok (.dup, 1) := by decide +kernel
theorem dX5_pass_37 : decode cX5_pass 37 = .ok (.ldc_w 264, 3) := by decide +kernel
theorem dX5_pass_40 : decode cX5_pass 40 = .ok (.invokespecial 82, 3) := by decide +kernel
theorem dX5_pass_43 : decode cX5_pass 43 = .ok (.athrow, 1) := by decide +kernel
theorem dX5_pass_44 : decode cX5_pass 44 = .ok (.aload_n 0, 1) := by decide +kernel
theorem dX5_pass_45 : decode cX5_pass 45 = .ok (.invokevirtual 48, 3) := by decide +kernel
theorem dX5_pass_48 : decode cX5_pass 48 = .ok (.aload_n 0, 1) := by decide +kernel
theorem dX5_pass_49 : decode cX5_pass 49 = .ok (.getfield 10, 3) := by decide +kernel
theorem dX5_pass_52 : decode cX5_pass 52 = .ok (.aload_n 0, 1) := by decide +kernel
theorem dX5_pass_53 : decode cX5_pass 53 = .ok (.getfield 16, 3) := by decide +kernel
theorem dX5_pass_56 : decode cX5_pass 56 = .ok (.invokevirtual 256, 3) := by decide +kernel
theorem dX5_pass_59 : decode cX5_pass 59 = .ok (.iload_n 2, 1) := by decide +kernel
theorem dX5_pass_60 : decode cX5_pass 60 = .ok (.ireturn, 1) := by decide +kernel
theorem dX5_pay_0 : decode cX5_pay 0 = .ok (.aload_n 0, 1) := by decide +kernel
theorem dX5_pay_1 : decode cX5_pay 1 = .ok (.iload_n 1, 1) := by decide +kernel
theorem dX5_pay_2 : decode cX5_pay 2 = .ok (.invokevirtual 161, 3) := by decide +kernel
theorem dX5_pay_5 : decode cX5_pay 5 = .ok (.aload_n 0, 1) := by decide +kernel
theorem dX5_pay_6 : decode cX5_pay 6 = .ok (.getfield 10, 3) := by decide +kernel
theorem dX5_pay_9 : decode cX5_pay 9 = .ok (.getfield 100, 3) := by decide +kernel
theorem dX5_pay_12 : decode cX5_pay 12 = .ok (.iload_n 1, 1) := by decide +kernel
theorem dX5_pay_13 : decode cX5_pay 13 = .ok (.aaload, 1) := by decide +kernel
theorem dX5_pay_14 : decode cX5_pay 14 = .ok (.astore_n 3, 1) := by decide +kernel
theorem dX5_pay_15 : decode cX5_pay 15 = .ok (.iload_n 2, 1) := by decide +kernel
theorem dX5_pay_16 : decode cX5_pay 16 = .ok (.iconst 1, 1) := by decide +kernel
theorem dX5_pay_17 : decode cX5_pay 17 = .ok (.aload_n 3, 1) := by decide +kernel
theorem dX5_pay_18 : decode cX5_pay 18 = .ok (.getfield 184, 3) := by decide +kernel
theorem dX5_pay_21 : decode cX5_pay 21 = .ok (.invokestatic 65, 3) := by decide +kernel
theorem dX5_pay_24 : decode cX5_pay 24 = .ok (.ifCond .ne 14, 3) := by decide +kernel
theorem dX5_pay_27 : decode cX5_pay 27 = .ok (.new 41, 3) := by decide +kernel
theorem dX5_pay_30 : decode cX5_pay 30 = .ok (.dup, 1) := by decide +kernel
theorem dX5_pay_31 : decode cX5_pay 31 = .ok (.ldc_w 266, 3) := by decide +kernel
theorem dX5_pay_34 : decode cX5_pay 34 = .ok (.invokespecial 45, 3) := by decide +kernel
theorem dX5_pay_37 : decode cX5_pay 37 = .ok (.athrow, 1) := by decide +kernel
theorem dX5_pay_38 : decode cX5_pay 38 = .ok (.aload_n 0, 1) := by decide +kernel
theorem dX5_pay_39 : decode cX5_pay 39 = .ok (.invokevirtual 48, 3) := by decide +kernel
theorem dX5_pay_42 : decode cX5_pay 42 = .ok (.aload_n 3, 1) := by decide +kernel
theorem dX5_pay_43 : decode cX5_pay 43 = .ok (.dup, 1) := by decide +kernel
theorem dX5_pay_44 : decode cX5_pay 44 = .ok (.getfield 184, 3) := by decide +kernel
theorem dX5_pay_47 : decode cX5_pay 47 = .ok (.iload_n 2, 1) := by decide +kernel
theorem dX5_pay_48 : decode cX5_pay 48 = .ok (.isub, 1) := by decide +kernel
theorem dX5_pay_49 : decode cX5_pay 49 = .ok (.putfield 184, 3) := by decide +kernel
theorem dX5_pay_52 : decode cX5_pay 52 = .ok (.aload_n 0, 1) := by decide +kernel
theorem dX5_pay_53 : decode cX5_pay 53 = .ok (.getfield 10, 3) := by decide +kernel
theorem dX5_pay_56 : decode cX5_pay 56 = .ok (.dup, 1) := by decide +kernel
theorem dX5_pay_57 : decode cX5_pay 57 = .ok (.getfield 268, 3) := by decide +kernel
theorem dX5_pay_60 : decode cX5_pay 60 = .ok (.iload_n 2, 1) := by decide +kernel
theorem dX5_pay_61 : decode cX5_pay 61 = .ok (.i2l, 1) := by decide +kernel
theorem dX5_pay_62 : decode cX5_pay 62 = .ok (.ladd, 1) := by decide +kernel
theorem dX5_pay_63 : decode cX5_pay 63 = .ok (.putfield 268, 3) := by decide +kernel
theorem dX5_pay_66 : decode cX5_pay 66 = .ok (.aload_n 3, 1) := by decide +kernel
theorem dX5_pay_67 : decode cX5_pay 67 = .ok (.getfield 184, 3) := by decide +kernel
theorem dX5_pay_70 : decode cX5_pay 70 = .ok (.ireturn, 1) := by decide +kernel
theorem dX5_charge_0 : decode cX5_charge 0 = .ok (.aload_n 0, 1) := by decide +kernel
theorem dX5_charge_1 : decode cX5_charge 1 = .ok (.iload_n 1, 1) := by decide +kernel
theorem dX5_charge_2 : decode cX5_charge 2 = .ok (.invokevirtual 161, 3) := by decide +kernel
theorem dX5_charge_5 : decode cX5_charge 5 = .ok (.iload_n 2, 1) := by decide +kernel
theorem dX5_charge_6 : decode cX5_charge 6 = .ok (.ifCond .ge 14, 3) := by decide +kernel
theorem dX5_charge_9 : decode cX5_charge 9 = .ok (.new 41, 3) := by decide +kernel
theorem dX5_charge_12 : decode cX5_charge 12 = .ok (.dup, 1) := by decide +kernel
theorem dX5_charge_13 : decode cX5_charge 13 = .ok (.ldc_w 272, 3) := by decide +kernel
theorem dX5_charge_16 : decode cX5_charge 16 = .ok (.invokespecial 45, 3) := by decide +kernel
theorem dX5_charge_19 : decode cX5_charge 19 = .ok (.athrow, 1) := by decide +kernel
theorem dX5_charge_20 : decode cX5_charge 20 = .ok (.aload_n 0, 1) := by decide +kernel
theorem dX5_charge_21 : decode cX5_charge 21 = .ok (.getfield 10, 3) := by decide +kernel
theorem dX5_charge_24 : decode cX5_charge 24 = .ok (.getfield 100, 3) := by decide +kernel
theorem dX5_charge_27 : decode cX5_charge 27 = .ok (.iload_n 1, 1) := by decide +kernel
theorem dX5_charge_28 : decode cX5_charge 28 = .ok (.aaload, 1) := by decide +kernel
theorem dX5_charge_29 : decode cX5_charge 29 = .ok (.astore_n 3, 1) := by decide +kernel
theorem dX5_charge_30 : decode cX5_charge 30 = .ok (.aload_n 3, 1) := by decide +kernel
theorem dX5_charge_31 : decode cX5_charge 31 = .ok (.iload_n 2, 1) := by decide +kernel
theorem dX5_charge_32 : decode cX5_charge 32 = .ok (.i2l, 1) := by decide +kernel
theorem dX5_charge_33 : decode cX5_charge 33 = .ok (.invokevirtual 274, 3) := by decide +kernel
theorem dX5_charge_36 : decode cX5_charge 36 = .ok (.ifCond .ne 14, 3) := by decide +kernel
theorem dX5_charge_39 : decode cX5_charge 39 = .ok (.new 78, 3) := by decide +kernel
theorem dX5_charge_42 : decode cX5_charge 42 = .ok (.dup, 1) := by decide +kernel
theorem dX5_charge_43 : decode cX5_charge 43 = .ok (.ldc_w 278, 3) := by decide +kernel
theorem dX5_charge_46 : decode cX5_charge 46 = .ok (.invokespecial 82, 3) := by decide +kernel
theorem dX5_charge_49 : decode cX5_charge 49 = .ok (.athrow, 1) := by decide +kernel
theorem dX5_charge_50 : decode cX5_charge 50 = .ok (.aload_n 0, 1) := by decide +kernel
theorem dX5_charge_51 : decode cX5_charge 51 = .ok (.invokevirtual 48, 3) := by decide +kernel
theorem dX5_charge_54 : decode cX5_charge 54 = .ok (.aload_n 3, 1) := by decide +kernel
theorem dX5_charge_55 : decode cX5_charge 55 = .ok (.dup, 1) := by decide +kernel
theorem dX5_charge_56 : decode cX5_charge 56 = .ok (.getfield 184, 3) := by decide +kernel
theorem dX5_charge_59 : decode cX5_charge 59 = .ok (.iload_n 2, 1) := by decide +kernel
theorem dX5_charge_60 : decode cX5_charge 60 = .ok (.iadd, 1) := by decide +kernel
theorem dX5_charge_61 : decode cX5_charge 61 = .ok (.putfield 184, 3) := by decide +kernel
theorem dX5_charge_64 : decode cX5_charge 64 = .ok (.aload_n 3, 1) := by decide +kernel
theorem dX5_charge_65 : decode cX5_charge 65 = .ok (.getfield 184, 3) := by decide +kernel
theorem dX5_charge_68 : decode cX5_charge 68 = .ok (.ireturn, 1) := by decide +kernel
theorem dX5_owed_0 : decode cX5_owed 0 = .ok (.aload_n 0, 1) := by decide +kernel
theorem dX5_owed_1 : decode cX5_owed 1 = .ok (.getfield 10, 3) := by decide +kernel
theorem dX5_owed_4 : decode cX5_owed 4 = .ok (.invokevirtual 280, 3) := by decide +kernel
theorem dX5_owed_7 : decode cX5_owed 7 = .ok (.lreturn, 1) := by decide +kernel
theorem dX5_paid_0 : decode cX5_paid 0 = .ok (.aload_n 0, 1) := by decide +kernel
theorem dX5_paid_1 : decode cX5_paid 1 = .ok (.getfield 10, 3) := by decide +kernel
theorem dX5_paid_4 : decode cX5_paid 4 = .ok (.getfield 268, 3) := by decide +kernel
theorem dX5_paid_7 : decode cX5_paid 7 = .ok (.lreturn, 1) := by decide +kernel
theorem dX5_owesAfter_0 : decode cX5_owesAfter 0 = .ok (.aload_n 0, 1) := by decide +kernel
theorem dX5_owesAfter_1 : decode cX5_owesAfter 1 = .ok (.iload_n 1, 1) := by decide +kernel
theorem dX5_owesAfter_2 : decode cX5_owesAfter 2 = .ok (.invokevirtual 161, 3) := by decide +kernel
theorem dX5_owesAfter_5 : decode cX5_owesAfter 5 = .ok (.iload_n 2, 1) := by decide +kernel
theorem dX5_owesAfter_6 : decode cX5_owesAfter 6 = .ok (.invokestatic 253, 3) := by decide +kernel
theorem dX5_owesAfter_9 : decode cX5_owesAfter 9 = .ok (.aload_n 0, 1) := by decide +kernel
theorem dX5_owesAfter_10 : decode cX5_owesAfter 10 = .ok (.getfield 16, 3) := by decide +kernel
theorem dX5_owesAfter_13 : decode cX5_owesAfter 13 = .ok (.aload_n 0, 1) := by decide +kernel
theorem dX5_owesAfter_14 : decode cX5_owesAfter 14 = .ok (.getfield 10, 3) := by decide +kernel
theorem dX5_owesAfter_17 : decode cX5_owesAfter 17 = .ok (.invokevirtual 256, 3) := by decide +kernel
theorem dX5_owesAfter_20 : decode cX5_owesAfter 20 = .ok (.aload_n 0, 1) := by decide +kernel
theorem dX5_owesAfter_21 : decode cX5_owesAfter 21 = .ok (.getfield 16, 3) := by decide +kernel
theorem dX5_owesAfter_24 : decode cX5_owesAfter 24 = .ok (.iload_n 2, 1) := by decide +kernel
theorem dX5_owesAfter_25 : decode cX5_owesAfter 25 = .ok (.aload_n 0, 1) := by decide +kernel
theorem dX5_owesAfter_26 : decode cX5_owesAfter 26 = .ok (.getfield 26, 3) := by decide +kernel
theorem dX5_owesAfter_29 : decode cX5_owesAfter 29 = .ok (.invokevirtual 260, 3) := by decide +kernel
theorem dX5_owesAfter_32 : decode cX5_owesAfter 32 = .ok (.iconst (-1), 1) := by decide +kernel
theorem dX5_owesAfter_33 : decode cX5_owesAfter 33 = .ok (.if_icmp .ne 7, 3) := by decide +kernel
theorem dX5_owesAfter_36 : decode cX5_owesAfter 36 = .ok (.iconst (-1), 1) := by decide +kernel
theorem dX5_owesAfter_37 : decode cX5_owesAfter 37 = .ok (.goto 15, 3) := by decide +kernel
theorem dX5_owesAfter_40 : decode cX5_owesAfter 40 = .ok (.aload_n 0, 1) := by decide +kernel
theorem dX5_owesAfter_41 : decode cX5_owesAfter 41 = .ok (.getfield 16, 3) := by decide +kernel
theorem dX5_owesAfter_44 : decode cX5_owesAfter 44 = .ok (.getfield 100, 3) := by decide +kernel
theorem dX5_owesAfter_47 : decode cX5_owesAfter 47 = .ok (.iload_n 1, 1) := by decide +kernel
theorem dX5_owesAfter_48 : decode cX5_owesAfter 48 = .ok (.aaload, 1) := by decide +kernel
theorem dX5_owesAfter_49 : decode cX5_owesAfter 49 = .ok (.getfield 184, 3) := by decide +kernel
theorem dX5_owesAfter_52 : decode cX5_owesAfter 52 = .ok (.ireturn, 1) := by decide +kernel
theorem dX5_groundsIn_0 : decode cX5_groundsIn 0 = .ok (.aload_n 0, 1) := by decide +kernel
theorem dX5_groundsIn_1 : decode cX5_groundsIn 1 = .ok (.iload_n 1, 1) := by decide +kernel
theorem dX5_groundsIn_2 : decode cX5_groundsIn 2 = .ok (.invokevirtual 161, 3) := by decide +kernel
theorem dX5_groundsIn_5 : decode cX5_groundsIn 5 = .ok (.aload_n 0, 1) := by decide +kernel
theorem dX5_groundsIn_6 : decode cX5_groundsIn 6 = .ok (.getfield 10, 3) := by decide +kernel
theorem dX5_groundsIn_9 : decode cX5_groundsIn 9 = .ok (.aload_n 0, 1) := by decide +kernel
theorem dX5_groundsIn_10 : decode cX5_groundsIn 10 = .ok (.getfield 10, 3) := by decide +kernel
theorem dX5_groundsIn_13 : decode cX5_groundsIn 13 = .ok (.getfield 100, 3) := by decide +kernel
theorem dX5_groundsIn_16 : decode cX5_groundsIn 16 = .ok (.iload_n 1, 1) := by decide +kernel
theorem dX5_groundsIn_17 : decode cX5_groundsIn 17 = .ok (.aaload, 1) := by decide +kernel
theorem dX5_groundsIn_18 : decode cX5_groundsIn 18 = .ok (.invokevirtual 284, 3) := by decide +kernel
theorem dX5_groundsIn_21 : decode cX5_groundsIn 21 = .ok (.ireturn, 1) := by decide +kernel
theorem dX5_winterBerth_0 : decode cX5_winterBerth 0 = .ok (.aload_n 0, 1) := by decide +kernel
theorem dX5_winterBerth_1 : decode cX5_winterBerth 1 = .ok (.iload_n 1, 1) := by decide +kernel
theorem dX5_winterBerth_2 : decode cX5_winterBerth 2 = .ok (.invokevirtual 161, 3) := by decide +kernel
theorem dX5_winterBerth_5 : decode cX5_winterBerth 5 = .ok (.aload_n 0, 1) := by decide +kernel
theorem dX5_winterBerth_6 : decode cX5_winterBerth 6 = .ok (.invokevirtual 287, 3) := by decide +kernel
theorem dX5_winterBerth_9 : decode cX5_winterBerth 9 = .ok (.aload_n 0, 1) := by decide +kernel
theorem dX5_winterBerth_10 : decode cX5_winterBerth 10 = .ok (.getfield 16, 3) := by decide +kernel
theorem dX5_winterBerth_13 : decode cX5_winterBerth 13 = .ok (.getfield 100, 3) := by decide +kernel
theorem dX5_winterBerth_16 : decode cX5_winterBerth 16 = .ok (.iload_n 1, 1) := by decide +kernel
theorem dX5_winterBerth_17 : decode cX5_winterBerth 17 = .ok (.aaload, 1) := by decide +kernel
theorem dX5_winterBerth_18 : decode cX5_winterBerth 18 = .ok (.getfield 174, 3) := by decide +kernel
theorem dX5_winterBerth_21 : decode cX5_winterBerth 21 = .ok (.ireturn, 1) := by decide +kernel
theorem dX5_wouldGoAshore_0 : decode cX5_wouldGoAshore 0 = .ok (.aload_n 0, 1) := by decide +kernel
theorem dX5_wouldGoAshore_1 : decode cX5_wouldGoAshore 1 = .ok (.invokevirtual 287, 3) := by decide +kernel
theorem dX5_wouldGoAshore_4 : decode cX5_wouldGoAshore 4 = .ok (.aload_n 0, 1) := by decide +kernel
theorem dX5_wouldGoAshore_5 : decode cX5_wouldGoAshore 5 = .ok (.getfield 16, 3) := by decide +kernel
theorem dX5_wouldGoAshore_8 : decode cX5_wouldGoAshore 8 = .ok (.iconst 3, 1) := by decide +kernel
theorem dX5_wouldGoAshore_9 : decode cX5_wouldGoAshore 9 = .ok (.invokevirtual 206, 3) := by decide +kernel
theorem dX5_wouldGoAshore_12 : decode cX5_wouldGoAshore 12 = .ok (.ireturn, 1) := by decide +kernel
theorem dX5_greatestClearance_0 : decode cX5_greatestClearance 0 = .ok (.aload_n 0, 1) := by decide +kernel
theorem dX5_greatestClearance_1 : decode cX5_greatestClearance 1 = .ok (.getfield 10, 3) := by decide +kernel
theorem dX5_greatestClearance_4 : decode cX5_greatestClearance 4 = .ok (.invokevirtual 290, 3) := by decide +kernel
theorem dX5_greatestClearance_7 : decode cX5_greatestClearance 7 = .ok (.ireturn, 1) := by decide +kernel
theorem dX5_missingDepth_0 : decode cX5_missingDepth 0 = .ok (.aload_n 0, 1) := by decide +kernel
theorem dX5_missingDepth_1 : decode cX5_missingDepth 1 = .ok (.iload_n 1, 1) := by decide +kernel
theorem dX5_missingDepth_2 : decode cX5_missingDepth 2 = .ok (.invokevirtual 161, 3) := by decide +kernel
theorem dX5_missingDepth_5 : decode cX5_missingDepth 5 = .ok (.aload_n 0, 1) := by decide +kernel
theorem dX5_missingDepth_6 : decode cX5_missingDepth 6 = .ok (.iload_n 2, 1) := by decide +kernel
theorem dX5_missingDepth_7 : decode cX5_missingDepth 7 = .ok (.invokevirtual 130, 3) := by decide +kernel
theorem dX5_missingDepth_10 : decode cX5_missingDepth 10 = .ok (.aload_n 0, 1) := by decide +kernel
theorem dX5_missingDepth_11 : decode cX5_missingDepth 11 = .ok (.getfield 10, 3) := by decide +kernel
theorem dX5_missingDepth_14 : decode cX5_missingDepth 14 = .ok (.getfield 100, 3) := by decide +kernel
theorem dX5_missingDepth_17 : decode cX5_missingDepth 17 = .ok (.iload_n 1, 1) := by decide +kernel
theorem dX5_missingDepth_18 : decode cX5_missingDepth 18 = .ok (.aaload, 1) := by decide +kernel
theorem dX5_missingDepth_19 : decode cX5_missingDepth 19 = .ok (.astore_n 3, 1) := by decide +kernel
theorem dX5_missingDepth_20 : decode cX5_missingDepth 20 = .ok (.aload_n 0, 1) := by decide +kernel
theorem dX5_missingDepth_21 : decode cX5_missingDepth 21 = .ok (.getfield 10, 3) := by decide +kernel
theorem dX5_missingDepth_24 : decode cX5_missingDepth 24 = .ok (.getfield 83, 3) := by decide +kernel
theorem dX5_missingDepth_27 : decode cX5_missingDepth 27 = .ok (.iload_n 2, 1) := by decide +kernel
theorem dX5_missingDepth_28 : decode cX5_missingDepth 28 = .ok (.aaload, 1) := by decide +kernel
theorem dX5_missingDepth_29 : decode cX5_missingDepth 29 = .ok (.astore 4, 2) := by decide +kernel
theorem dX5_missingDepth_31 : decode cX5_missingDepth 31 = .ok (.aload_n 3, 1) := by decide +kernel
theorem dX5_missingDepth_32 : decode cX5_missingDepth 32 = .ok (.getfield 164, 3) := by decide +kernel
theorem dX5_missingDepth_35 : decode cX5_missingDepth 35 = .ok (.aload 4, 2) := by decide +kernel
theorem dX5_missingDepth_37 : decode cX5_missingDepth 37 = .ok (.getfield 142, 3) := by decide +kernel
theorem dX5_missingDepth_40 : decode cX5_missingDepth 40 = .ok (.if_icmp .le 7, 3) := by decide +kernel
theorem dX5_missingDepth_43 : decode cX5_missingDepth 43 = .ok (.iconst (-1), 1) := by decide +kernel
theorem dX5_missingDepth_44 : decode cX5_missingDepth 44 = .ok (.goto 17, 3) := by decide +kernel
theorem dX5_missingDepth_47 : decode cX5_missingDepth 47 = .ok (.iconst 0, 1) := by decide +kernel
theorem dX5_missingDepth_48 : decode cX5_missingDepth 48 = .ok (.aload_n 0, 1) := by decide +kernel
theorem dX5_missingDepth_49 : decode cX5_missingDepth 49 = .ok (.getfield 10, 3) := by decide +kernel
theorem dX5_missingDepth_52 : decode cX5_missingDepth 52 = .ok (.aload_n 3, 1) := by decide +kernel
theorem dX5_missingDepth_53 : decode cX5_missingDepth 53 = .ok (.aload 4, 2) := by decide +kernel
theorem dX5_missingDepth_55 : decode cX5_missingDepth 55 = .ok (.invokevirtual 293, 3) := by decide +kernel
theorem dX5_missingDepth_58 : decode cX5_missingDepth 58 = .ok (.invokestatic 297, 3) := by decide +kernel
theorem dX5_missingDepth_61 : decode cX5_missingDepth 61 = .ok (.ireturn, 1) := by decide +kernel
theorem dX5_type_0 : decode cX5_type 0 = .ok (.iload_n 1, 1) := by decide +kernel
theorem dX5_type_1 : decode cX5_type 1 = .ok (.bipush 32, 2) := by decide +kernel
theorem dX5_type_3 : decode cX5_type 3 = .ok (.bipush 126, 2) := by decide +kernel
theorem dX5_type_5 : decode cX5_type 5 = .ok (.invokestatic 65, 3) := by decide +kernel
theorem dX5_type_8 : decode cX5_type 8 = .ok (.ifCond .ne 14, 3) := by decide +kernel
theorem dX5_type_11 : decode cX5_type 11 = .ok (.new 41, 3) := by decide +kernel
theorem dX5_type_14 : decode cX5_type 14 = .ok (.dup, 1) := by decide +kernel
theorem dX5_type_15 : decode cX5_type 15 = .ok (.ldc_w 303, 3) := by decide +kernel
theorem dX5_type_18 : decode cX5_type 18 = .ok (.invokespecial 45, 3) := by decide +kernel
theorem dX5_type_21 : decode cX5_type 21 = .ok (.athrow, 1) := by decide +kernel
theorem dX5_type_22 : decode cX5_type 22 = .ok (.aload_n 0, 1) := by decide +kernel
theorem dX5_type_23 : decode cX5_type 23 = .ok (.getfield 33, 3) := by decide +kernel
theorem dX5_type_26 : decode cX5_type 26 = .ok (.getfield 305, 3) := by decide +kernel
theorem dX5_type_29 : decode cX5_type 29 = .ok (.bipush 70, 2) := by decide +kernel
theorem dX5_type_31 : decode cX5_type 31 = .ok (.if_icmp .lt 14, 3) := by decide +kernel
theorem dX5_type_34 : decode cX5_type 34 = .ok (.new 78, 3) := by decide +kernel
theorem dX5_type_37 : decode cX5_type 37 = .ok (.dup, 1) := by decide +kernel
theorem dX5_type_38 : decode cX5_type 38 = .ok (.ldc_w 306, 3) := by decide +kernel
theorem dX5_type_41 : decode cX5_type 41 = .ok (.invokespecial 82, 3) := by decide +kernel
theorem dX5_type_44 : decode cX5_type 44 = .ok (.athrow, 1) := by decide +kernel
theorem dX5_type_45 : decode cX5_type 45 = .ok (.aload_n 0, 1) := by decide +kernel
theorem dX5_type_46 : decode cX5_type 46 = .ok (.getfield 33, 3) := by decide +kernel
theorem dX5_type_49 : decode cX5_type 49 = .ok (.iload_n 1, 1) := by decide +kernel
theorem dX5_type_50 : decode cX5_type 50 = .ok (.i2c, 1) := by decide +kernel
theorem dX5_type_51 : decode cX5_type 51 = .ok (.invokevirtual 308, 3) := by decide +kernel
theorem dX5_type_54 : decode cX5_type 54 = .ok (.aload_n 0, 1) := by decide +kernel
theorem dX5_type_55 : decode cX5_type 55 = .ok (.getfield 33, 3) := by decide +kernel
theorem dX5_type_58 : decode cX5_type 58 = .ok (.getfield 305, 3) := by decide +kernel
theorem dX5_type_61 : decode cX5_type 61 = .ok (.ireturn, 1) := by decide +kernel
theorem dX5_clearText_0 : decode cX5_clearText 0 = .ok (.aload_n 0, 1) := by decide +kernel
theorem dX5_clearText_1 : decode cX5_clearText 1 = .ok (.getfield 33, 3) := by decide +kernel
theorem dX5_clearText_4 : decode cX5_clearText 4 = .ok (.getfield 305, 3) := by decide +kernel
theorem dX5_clearText_7 : decode cX5_clearText 7 = .ok (.istore_n 1, 1) := by decide +kernel
theorem dX5_clearText_8 : decode cX5_clearText 8 = .ok (.aload_n 0, 1) := by decide +kernel
theorem dX5_clearText_9 : decode cX5_clearText 9 = .ok (.getfield 33, 3) := by decide +kernel
theorem dX5_clearText_12 : decode cX5_clearText 12 = .ok (.iconst 0, 1) := by decide +kernel
theorem dX5_clearText_13 : decode cX5_clearText 13 = .ok (.putfield 305, 3) := by decide +kernel
theorem dX5_clearText_16 : decode cX5_clearText 16 = .ok (.iload_n 1, 1) := by decide +kernel
theorem dX5_clearText_17 : decode cX5_clearText 17 = .ok (.ireturn, 1) := by decide +kernel
theorem dX5_fault_0 : decode cX5_fault 0 = .ok (.aload_n 0, 1) := by decide +kernel
theorem dX5_fault_1 : decode cX5_fault 1 = .ok (.getfield 33, 3) := by decide +kernel
theorem dX5_fault_4 : decode cX5_fault 4 = .ok (.invokevirtual 37, 3) := by decide +kernel
theorem dX5_fault_7 : decode cX5_fault 7 = .ok (.ireturn, 1) := by decide +kernel
theorem dX5_undo_0 : decode cX5_undo 0 = .ok (.aload_n 0, 1) := by decide +kernel
theorem dX5_undo_1 : decode cX5_undo 1 = .ok (.getfield 312, 3) := by decide +kernel
theorem dX5_undo_4 : decode cX5_undo 4 = .ok (.iconst 1, 1) := by decide +kernel
theorem dX5_undo_5 : decode cX5_undo 5 = .ok (.if_icmp .ge 14, 3) := by decide +kernel
theorem dX5_undo_8 : decode cX5_undo 8 = .ok (.new 78, 3) := by decide +kernel
theorem dX5_undo_11 : decode cX5_undo 11 = .ok (.dup, 1) := by decide +kernel
theorem dX5_undo_12 : decode cX5_undo 12 = .ok (.ldc_w 315, 3) := by decide +kernel
theorem dX5_undo_15 : decode cX5_undo 15 = .ok (.invokespecial 82, 3) := by decide +kernel
theorem dX5_undo_18 : decode cX5_undo 18 = .ok (.athrow, 1) := by decide +kernel
theorem dX5_undo_19 : decode cX5_undo 19 = .ok (.aload_n 0, 1) := by decide +kernel
theorem dX5_undo_20 : decode cX5_undo 20 = .ok (.dup, 1) := by decide +kernel
theorem dX5_undo_21 : decode cX5_undo 21 = .ok (.getfield 312, 3) := by decide +kernel
theorem dX5_undo_24 : decode cX5_undo 24 = .ok (.iconst 1, 1) := by decide +kernel
theorem dX5_undo_25 : decode cX5_undo 25 = .ok (.isub, 1) := by decide +kernel
theorem dX5_undo_26 : decode cX5_undo 26 = .ok (.putfield 312, 3) := by decide +kernel
theorem dX5_undo_29 : decode cX5_undo 29 = .ok (.aload_n 0, 1) := by decide +kernel
theorem dX5_undo_30 : decode cX5_undo 30 = .ok (.getfield 10, 3) := by decide +kernel
theorem dX5_undo_33 : decode cX5_undo 33 = .ok (.aload_n 0, 1) := by decide +kernel
theorem dX5_undo_34 : decode cX5_undo 34 = .ok (.getfield 19, 3) := by decide +kernel
theorem dX5_undo_37 : decode cX5_undo 37 = .ok (.aload_n 0, 1) := by decide +kernel
theorem dX5_undo_38 : decode cX5_undo 38 = .ok (.getfield 312, 3) := by decide +kernel
theorem dX5_undo_41 : decode cX5_undo 41 = .ok (.aaload, 1) := by decide +kernel
theorem dX5_undo_42 : decode cX5_undo 42 = .ok (.invokevirtual 256, 3) := by decide +kernel
theorem dX5_undo_45 : decode cX5_undo 45 = .ok (.aload_n 0, 1) := by decide +kernel
theorem dX5_undo_46 : decode cX5_undo 46 = .ok (.getfield 312, 3) := by decide +kernel
theorem dX5_undo_49 : decode cX5_undo 49 = .ok (.ireturn, 1) := by decide +kernel
theorem dX5_checksum_0 : decode cX5_checksum 0 = .ok (.ldc2_w 317, 3) := by decide +kernel
theorem dX5_checksum_3 : decode cX5_checksum 3 = .ok (.lstore_n 1, 1) := by decide +kernel
theorem dX5_checksum_4 : decode cX5_checksum 4 = .ok (.iconst 0, 1) := by decide +kernel
theorem dX5_checksum_5 : decode cX5_checksum 5 = .ok (.istore_n 3, 1) := by decide +kernel
theorem dX5_checksum_6 : decode cX5_checksum 6 = .ok (.iload_n 3, 1) := by decide +kernel
theorem dX5_checksum_7 : decode cX5_checksum 7 = .ok (.bipush 13, 2) := by decide +kernel
theorem dX5_checksum_9 : decode cX5_checksum 9 = .ok (.if_icmp .gt 22, 3) := by decide +kernel
theorem dX5_checksum_12 : decode cX5_checksum 12 = .ok (.ldc2_w 319, 3) := by decide +kernel
theorem dX5_checksum_15 : decode cX5_checksum 15 = .ok (.lload_n 1, 1) := by decide +kernel
theorem dX5_checksum_16 : decode cX5_checksum 16 = .ok (.lmul, 1) := by decide +kernel
theorem dX5_checksum_17 : decode cX5_checksum 17 = .ok (.aload_n 0, 1) := by decide +kernel
theorem dX5_checksum_18 : decode cX5_checksum 18 = .ok (.iload_n 3, 1) := by decide +kernel
theorem dX5_checksum_19 : decode cX5_checksum 19 = .ok (.invokevirtual 115, 3) := by decide +kernel
theorem dX5_checksum_22 : decode cX5_checksum 22 = .ok (.i2l, 1) := by decide +kernel
theorem dX5_checksum_23 : decode cX5_checksum 23 = .ok (.ladd, 1) := by decide +kernel
theorem dX5_checksum_24 : decode cX5_checksum 24 = .ok (.lstore_n 1, 1) := by decide +kernel
theorem dX5_checksum_25 : decode cX5_checksum 25 = .ok (.iinc 3 1, 3) := by decide +kernel
theorem dX5_checksum_28 : decode cX5_checksum 28 = .ok (.goto (-22), 3) := by decide +kernel
theorem dX5_checksum_31 : decode cX5_checksum 31 = .ok (.iconst 0, 1) := by decide +kernel
theorem dX5_checksum_32 : decode cX5_checksum 32 = .ok (.istore_n 3, 1) := by decide +kernel
theorem dX5_checksum_33 : decode cX5_checksum 33 = .ok (.iload_n 3, 1) := by decide +kernel
theorem dX5_checksum_34 : decode cX5_checksum 34 = .ok (.aload_n 0, 1) := by decide +kernel
theorem dX5_checksum_35 : decode cX5_checksum 35 = .ok (.getfield 10, 3) := by decide +kernel
theorem dX5_checksum_38 : decode cX5_checksum 38 = .ok (.getfield 55, 3) := by decide +kernel
theorem dX5_checksum_41 : decode cX5_checksum 41 = .ok (.if_icmp .ge 25, 3) := by decide +kernel
theorem dX5_checksum_44 : decode cX5_checksum 44 = .ok (.ldc2_w 319, 3) := by decide +kernel
theorem dX5_checksum_47 : decode cX5_checksum 47 = .ok (.lload_n 1, 1) := by decide +kernel
theorem dX5_checksum_48 : decode cX5_checksum 48 = .ok (.lmul, 1) := by decide +kernel
theorem dX5_checksum_49 : decode cX5_checksum 49 = .ok (.aload_n 0, 1) := by decide +kernel
theorem dX5_checksum_50 : decode cX5_checksum 50 = .ok (.getfield 10, 3) := by decide +kernel
theorem dX5_checksum_53 : decode cX5_checksum 53 = .ok (.iload_n 3, 1) := by decide +kernel
theorem dX5_checksum_54 : decode cX5_checksum 54 = .ok (.invokevirtual 61, 3) := by decide +kernel
theorem dX5_checksum_57 : decode cX5_checksum 57 = .ok (.i2l, 1) := by decide +kernel
theorem dX5_checksum_58 : decode cX5_checksum 58 = .ok (.ladd, 1) := by decide +kernel
theorem dX5_checksum_59 : decode cX5_checksum 59 = .ok (.lstore_n 1, 1) := by decide +kernel
theorem dX5_checksum_60 : decode cX5_checksum 60 = .ok (.iinc 3 1, 3) := by decide +kernel
theorem dX5_checksum_63 : decode cX5_checksum 63 = .ok (.goto (-30), 3) := by decide +kernel
theorem dX5_checksum_66 : decode cX5_checksum 66 = .ok (.aload_n 0, 1) := by decide +kernel
theorem dX5_checksum_67 : decode cX5_checksum 67 = .ok (.lload_n 1, 1) := by decide +kernel
theorem dX5_checksum_68 : decode cX5_checksum 68 = .ok (.invokevirtual 321, 3) := by decide +kernel
theorem dX5_checksum_71 : decode cX5_checksum 71 = .ok (.lstore_n 1, 1) := by decide +kernel
theorem dX5_checksum_72 : decode cX5_checksum 72 = .ok (.aload_n 0, 1) := by decide +kernel
theorem dX5_checksum_73 : decode cX5_checksum 73 = .ok (.lload_n 1, 1) := by decide +kernel
theorem dX5_checksum_74 : decode cX5_checksum 74 = .ok (.invokevirtual 325, 3) := by decide +kernel
theorem dX5_checksum_77 : decode cX5_checksum 77 = .ok (.lstore_n 1, 1) := by decide +kernel
theorem dX5_checksum_78 : decode cX5_checksum 78 = .ok (.aload_n 0, 1) := by decide +kernel
theorem dX5_checksum_79 : decode cX5_checksum 79 = .ok (.getfield 10, 3) := by decide +kernel
theorem dX5_checksum_82 : decode cX5_checksum 82 = .ok (.iconst 2, 1) := by decide +kernel
theorem dX5_checksum_83 : decode cX5_checksum 83 = .ok (.invokevirtual 206, 3) := by decide +kernel
theorem dX5_checksum_86 : decode cX5_checksum 86 = .ok (.istore_n 3, 1) := by decide +kernel
theorem dX5_checksum_87 : decode cX5_checksum 87 = .ok (.iconst 0, 1) := by decide +kernel
theorem dX5_checksum_88 : decode cX5_checksum 88 = .ok (.istore 4, 2) := by decide +kernel
theorem dX5_checksum_90 : decode cX5_checksum 90 = .ok (.iload 4, 2) := by decide +kernel
theorem dX5_checksum_92 : decode cX5_checksum 92 = .ok (.iload_n 3, 1) := by decide +kernel
theorem dX5_checksum_93 : decode cX5_checksum 93 = .ok (.if_icmp .ge 26, 3) := by decide +kernel
theorem dX5_checksum_96 : decode cX5_checksum 96 = .ok (.ldc2_w 319, 3) := by decide +kernel
theorem dX5_checksum_99 : decode cX5_checksum 99 = .ok (.lload_n 1, 1) := by decide +kernel
theorem dX5_checksum_100 : decode cX5_checksum 100 = .ok (.lmul, 1) := by decide +kernel
theorem dX5_checksum_101 : decode cX5_checksum 101 = .ok (.aload_n 0, 1) := by decide +kernel
theorem dX5_checksum_102 : decode cX5_checksum 102 = .ok (.getfield 10, 3) := by decide +kernel
theorem dX5_checksum_105 : decode cX5_checksum 105 = .ok (.iload 4, 2) := by decide +kernel
theorem dX5_checksum_107 : decode cX5_checksum 107 = .ok (.invokevirtual 247, 3) := by decide +kernel
theorem dX5_checksum_110 : decode cX5_checksum 110 = .ok (.i2l, 1) := by decide +kernel
theorem dX5_checksum_111 : decode cX5_checksum 111 = .ok (.ladd, 1) := by decide +kernel
theorem dX5_checksum_112 : decode cX5_checksum 112 = .ok (.lstore_n 1, 1) := by decide +kernel
theorem dX5_checksum_113 : decode cX5_checksum 113 = .ok (.iinc 4 1, 3) := by decide +kernel
theorem dX5_checksum_116 : decode cX5_checksum 116 = .ok (.goto (-26), 3) := by decide +kernel
theorem dX5_checksum_119 : decode cX5_checksum 119 = .ok (.ldc2_w 319, 3) := by decide +kernel
theorem dX5_checksum_122 : decode cX5_checksum 122 = .ok (.lload_n 1, 1) := by decide +kernel
theorem dX5_checksum_123 : decode cX5_checksum 123 = .ok (.lmul, 1) := by decide +kernel
theorem dX5_checksum_124 : decode cX5_checksum 124 = .ok (.aload_n 0, 1) := by decide +kernel
theorem dX5_checksum_125 : decode cX5_checksum 125 = .ok (.getfield 10, 3) := by decide +kernel
theorem dX5_checksum_128 : decode cX5_checksum 128 = .ok (.invokevirtual 280, 3) := by decide +kernel
theorem dX5_checksum_131 : decode cX5_checksum 131 = .ok (.ladd, 1) := by decide +kernel
theorem dX5_checksum_132 : decode cX5_checksum 132 = .ok (.lstore_n 1, 1) := by decide +kernel
theorem dX5_checksum_133 : decode cX5_checksum 133 = .ok (.ldc2_w 319, 3) := by decide +kernel
theorem dX5_checksum_136 : decode cX5_checksum 136 = .ok (.lload_n 1, 1) := by decide +kernel
theorem dX5_checksum_137 : decode cX5_checksum 137 = .ok (.lmul, 1) := by decide +kernel
theorem dX5_checksum_138 : decode cX5_checksum 138 = .ok (.aload_n 0, 1) := by decide +kernel
theorem dX5_checksum_139 : decode cX5_checksum 139 = .ok (.getfield 10, 3) := by decide +kernel
theorem dX5_checksum_142 : decode cX5_checksum 142 = .ok (.getfield 268, 3) := by decide +kernel
theorem dX5_checksum_145 : decode cX5_checksum 145 = .ok (.ladd, 1) := by decide +kernel
theorem dX5_checksum_146 : decode cX5_checksum 146 = .ok (.lstore_n 1, 1) := by decide +kernel
theorem dX5_checksum_147 : decode cX5_checksum 147 = .ok (.ldc2_w 319, 3) := by decide +kernel
theorem dX5_checksum_150 : decode cX5_checksum 150 = .ok (.lload_n 1, 1) := by decide +kernel
theorem dX5_checksum_151 : decode cX5_checksum 151 = .ok (.lmul, 1) := by decide +kernel
theorem dX5_checksum_152 : decode cX5_checksum 152 = .ok (.aload_n 0, 1) := by decide +kernel
theorem dX5_checksum_153 : decode cX5_checksum 153 = .ok (.getfield 33, 3) := by decide +kernel
theorem dX5_checksum_156 : decode cX5_checksum 156 = .ok (.getfield 305, 3) := by decide +kernel
theorem dX5_checksum_159 : decode cX5_checksum 159 = .ok (.i2l, 1) := by decide +kernel
theorem dX5_checksum_160 : decode cX5_checksum 160 = .ok (.ladd, 1) := by decide +kernel
theorem dX5_checksum_161 : decode cX5_checksum 161 = .ok (.lstore_n 1, 1) := by decide +kernel
theorem dX5_checksum_162 : decode cX5_checksum 162 = .ok (.ldc2_w 319, 3) := by decide +kernel
theorem dX5_checksum_165 : decode cX5_checksum 165 = .ok (.lload_n 1, 1) := by decide +kernel
theorem dX5_checksum_166 : decode cX5_checksum 166 = .ok (.lmul, 1) := by decide +kernel
theorem dX5_checksum_167 : decode cX5_checksum 167 = .ok (.aload_n 0, 1) := by decide +kernel
theorem dX5_checksum_168 : decode cX5_checksum 168 = .ok (.getfield 312, 3) := by decide +kernel
theorem dX5_checksum_171 : decode cX5_checksum 171 = .ok (.i2l, 1) := by decide +kernel
theorem dX5_checksum_172 : decode cX5_checksum 172 = .ok (.ladd, 1) := by decide +kernel
theorem dX5_checksum_173 : decode cX5_checksum 173 = .ok (.lreturn, 1) := by decide +kernel
theorem dX5_withBerths_0 : decode cX5_withBerths 0 = .ok (.lload_n 1, 1) := by decide +kernel
theorem dX5_withBerths_1 : decode cX5_withBerths 1 = .ok (.lstore_n 3, 1) := by decide +kernel
theorem dX5_withBerths_2 : decode cX5_withBerths 2 = .ok (.iconst 0, 1) := by decide +kernel
theorem dX5_withBerths_3 : decode cX5_withBerths 3 = .ok (.istore 5, 2) := by decide +kernel
theorem dX5_withBerths_5 : decode cX5_withBerths 5 = .ok (.iload 5, 2) := by decide +kernel
theorem dX5_withBerths_7 : decode cX5_withBerths 7 = .ok (.aload_n 0, 1) := by decide +kernel
theorem dX5_withBerths_8 : decode cX5_withBerths 8 = .ok (.getfield 10, 3) := by decide +kernel
theorem dX5_withBerths_11 : decode cX5_withBerths 11 = .ok (.getfield 75, 3) := by decide +kernel
theorem dX5_withBerths_14 : decode cX5_withBerths 14 = .ok (.if_icmp .ge 41, 3) := by decide +kernel
theorem dX5_withBerths_17 : decode cX5_withBerths 17 = .ok (.iconst 0, 1) := by decide +kernel
theorem dX5_withBerths_18 : decode cX5_withBerths 18 = .ok (.istore 6, 2) := by decide +kernel
theorem dX5_withBerths_20 : decode cX5_withBerths 20 = .ok (.iload 6, 2) := by decide +kernel
theorem dX5_withBerths_22 : decode cX5_withBerths 22 = .ok (.bipush 6, 2) := by decide +kernel
theorem dX5_withBerths_24 : decode cX5_withBerths 24 = .ok (.if_icmp .gt 25, 3) := by decide +kernel
theorem dX5_withBerths_27 : decode cX5_withBerths 27 = .ok (.ldc2_w 319, 3) := by decide +kernel
theorem dX5_withBerths_30 : decode cX5_withBerths 30 = .ok (.lload_n 3, 1) := by decide +kernel
theorem dX5_withBerths_31 : decode cX5_withBerths 31 = .ok (.lmul, 1) := by decide +kernel
theorem dX5_withBerths_32 : decode cX5_withBerths 32 = .ok (.aload_n 0, 1) := by decide +kernel
theorem dX5_withBerths_33 : decode cX5_withBerths 33 = .ok (.iload 5, 2) := by decide +kernel
theorem dX5_withBerths_35 : decode cX5_withBerths 35 = .ok (.iload 6, 2) := by decide +kernel
theorem dX5_withBerths_37 : decode cX5_withBerths 37 = .ok (.invokevirtual 328, 3) := by decide +kernel
theorem dX5_withBerths_40 : decode cX5_withBerths 40 = .ok (.i2l, 1) := by decide +kernel
theorem dX5_withBerths_41 : decode cX5_withBerths 41 = .ok (.ladd, 1) := by decide +kernel
theorem dX5_withBerths_42 : decode cX5_withBerths 42 = .ok (.lstore_n 3, 1) := by decide +kernel
theorem dX5_withBerths_43 : decode cX5_withBerths 43 = .ok (.iinc 6 1, 3) := by decide +kernel
theorem dX5_withBerths_46 : decode cX5_withBerths 46 = .ok (.goto (-26), 3) := by decide +kernel
theorem dX5_withBerths_49 : decode cX5_withBerths 49 = .ok (.iinc 5 1, 3) := by decide +kernel
theorem dX5_withBerths_52 : decode cX5_withBerths 52 = .ok (.goto (-47), 3) := by decide +kernel
theorem dX5_withBerths_55 : decode cX5_withBerths 55 = .ok (.lload_n 3, 1) := by decide +kernel
theorem dX5_withBerths_56 : decode cX5_withBerths 56 = .ok (.lreturn, 1) := by decide +kernel
theorem dX5_withBoats_0 : decode cX5_withBoats 0 = .ok (.lload_n 1, 1) := by decide +kernel
theorem dX5_withBoats_1 : decode cX5_withBoats 1 = .ok (.lstore_n 3, 1) := by decide +kernel
theorem dX5_withBoats_2 : decode cX5_withBoats 2 = .ok (.iconst 0, 1) := by decide +kernel
theorem dX5_withBoats_3 : decode cX5_withBoats 3 = .ok (.istore 5, 2) := by decide +kernel
theorem dX5_withBoats_5 : decode cX5_withBoats 5 = .ok (.iload 5, 2) := by decide +kernel
theorem dX5_withBoats_7 : decode cX5_withBoats 7 = .ok (.aload_n 0, 1) := by decide +kernel
theorem dX5_withBoats_8 : decode cX5_withBoats 8 = .ok (.getfield 10, 3) := by decide +kernel
theorem dX5_withBoats_11 : decode cX5_withBoats 11 = .ok (.getfield 95, 3) := by decide +kernel
theorem dX5_withBoats_14 : decode cX5_withBoats 14 = .ok (.if_icmp .ge 91, 3) := by decide +kernel
theorem dX5_withBoats_17 : decode cX5_withBoats 17 = .ok (.iconst 0, 1) := by decide +kernel
theorem dX5_withBoats_18 : decode cX5_withBoats 18 = .ok (.istore 6, 2) := by decide +kernel
theorem dX5_withBoats_20 : decode cX5_withBoats 20 = .ok (.iload 6, 2) := by decide +kernel
theorem dX5_withBoats_22 : decode cX5_withBoats 22 = .ok (.bipush 9, 2) := by decide +kernel
theorem dX5_withBoats_24 : decode cX5_withBoats 24 = .ok (.if_icmp .gt 25, 3) := by decide +kernel
theorem dX5_withBoats_27 : decode cX5_withBoats 27 = .ok (.ldc2_w 319, 3) := by decide +kernel
theorem dX5_withBoats_30 : decode cX5_withBoats 30 = .ok (.lload_n 3, 1) := by decide +kernel
theorem dX5_withBoats_31 : decode cX5_withBoats 31 = .ok (.lmul, 1) := by decide +kernel
theorem dX5_withBoats_32 : decode cX5_withBoats 32 = .ok (.aload_n 0, 1) := by decide +kernel
theorem dX5_withBoats_33 : decode cX5_withBoats 33 = .ok (.iload 5, 2) := by decide +kernel
theorem dX5_withBoats_35 : decode cX5_withBoats 35 = .ok (.iload 6, 2) := by decide +kernel
theorem dX5_withBoats_37 : decode cX5_withBoats 37 = .ok (.invokevirtual 330, 3) := by decide +kernel
theorem dX5_withBoats_40 : decode cX5_withBoats 40 = .ok (.i2l, 1) := by decide +kernel
theorem dX5_withBoats_41 : decode cX5_withBoats 41 = .ok (.ladd, 1) := by decide +kernel
theorem dX5_withBoats_42 : decode cX5_withBoats 42 = .ok (.lstore_n 3, 1) := by decide +kernel
theorem dX5_withBoats_43 : decode cX5_withBoats 43 = .ok (.iinc 6 1, 3) := by decide +kernel
theorem dX5_withBoats_46 : decode cX5_withBoats 46 = .ok (.goto (-26), 3) := by decide +kernel
theorem dX5_withBoats_49 : decode cX5_withBoats 49 = .ok (.ldc2_w 319, 3) := by decide +kernel
theorem dX5_withBoats_52 : decode cX5_withBoats 52 = .ok (.lload_n 3, 1) := by decide +kernel
theorem dX5_withBoats_53 : decode cX5_withBoats 53 = .ok (.lmul, 1) := by decide +kernel
theorem dX5_withBoats_54 : decode cX5_withBoats 54 = .ok (.aload_n 0, 1) := by decide +kernel
theorem dX5_withBoats_55 : decode cX5_withBoats 55 = .ok (.getfield 10, 3) := by decide +kernel
theorem dX5_withBoats_58 : decode cX5_withBoats 58 = .ok (.aload_n 0, 1) := by decide +kernel
theorem dX5_withBoats_59 : decode cX5_withBoats 59 = .ok (.getfield 10, 3) := by decide +kernel
theorem dX5_withBoats_62 : decode cX5_withBoats 62 = .ok (.getfield 100, 3) := by decide +kernel
theorem dX5_withBoats_65 : decode cX5_withBoats 65 = .ok (.iload 5, 2) := by decide +kernel
theorem dX5_withBoats_67 : decode cX5_withBoats 67 = .ok (.aaload, 1) := by decide +kernel
theorem dX5_withBoats_68 : decode cX5_withBoats 68 = .ok (.invokevirtual 250, 3) := by decide +kernel
theorem dX5_withBoats_71 : decode cX5_withBoats 71 = .ok (.i2l, 1) := by decide +kernel
theorem dX5_withBoats_72 : decode cX5_withBoats 72 = .ok (.ladd, 1) := by decide +kernel
theorem dX5_withBoats_73 : decode cX5_withBoats 73 = .ok (.lstore_n 3, 1) := by decide +kernel
theorem dX5_withBoats_74 : decode cX5_withBoats 74 = .ok (.ldc2_w 319, 3) := by decide +kernel
theorem dX5_withBoats_77 : decode cX5_withBoats 77 = .ok (.lload_n 3, 1) := by decide +kernel
theorem dX5_withBoats_78 : decode cX5_withBoats 78 = .ok (.lmul, 1) := by decide +kernel
theorem dX5_withBoats_79 : decode cX5_withBoats 79 = .ok (.aload_n 0, 1) := by decide +kernel
theorem dX5_withBoats_80 : decode cX5_withBoats 80 = .ok (.getfield 10, 3) := by decide +kernel
theorem dX5_withBoats_83 : decode cX5_withBoats 83 = .ok (.aload_n 0, 1) := by decide +kernel
theorem dX5_withBoats_84 : decode cX5_withBoats 84 = .ok (.getfield 10, 3) := by decide +kernel
theorem dX5_withBoats_87 : decode cX5_withBoats 87 = .ok (.getfield 100, 3) := by decide +kernel
theorem dX5_withBoats_90 : decode cX5_withBoats 90 = .ok (.iload 5, 2) := by decide +kernel
theorem dX5_withBoats_92 : decode cX5_withBoats 92 = .ok (.aaload, 1) := by decide +kernel
theorem dX5_withBoats_93 : decode cX5_withBoats 93 = .ok (.invokevirtual 284, 3) := by decide +kernel
theorem dX5_withBoats_96 : decode cX5_withBoats 96 = .ok (.i2l, 1) := by decide +kernel
theorem dX5_withBoats_97 : decode cX5_withBoats 97 = .ok (.ladd, 1) := by decide +kernel
theorem dX5_withBoats_98 : decode cX5_withBoats 98 = .ok (.lstore_n 3, 1) := by decide +kernel
theorem dX5_withBoats_99 : decode cX5_withBoats 99 = .ok (.iinc 5 1, 3) := by decide +kernel
theorem dX5_withBoats_102 : decode cX5_withBoats 102 = .ok (.goto (-97), 3) := by decide +kernel
theorem dX5_withBoats_105 : decode cX5_withBoats 105 = .ok (.lload_n 3, 1) := by decide +kernel
theorem dX5_withBoats_106 : decode cX5_withBoats 106 = .ok (.lreturn, 1) := by decide +kernel
theorem dX5_remember_0 : decode cX5_remember 0 = .ok (.aload_n 0, 1) := by decide +kernel
theorem dX5_remember_1 : decode cX5_remember 1 = .ok (.getfield 312, 3) := by decide +kernel
theorem dX5_remember_4 : decode cX5_remember 4 = .ok (.iconst 4, 1) := by decide +kernel
theorem dX5_remember_5 : decode cX5_remember 5 = .ok (.if_icmp .lt 7, 3) := by decide +kernel
theorem dX5_remember_8 : decode cX5_remember 8 = .ok (.aload_n 0, 1) := by decide +kernel
theorem dX5_remember_9 : decode cX5_remember 9 = .ok (.invokevirtual 333, 3) := by decide +kernel
theorem dX5_remember_12 : decode cX5_remember 12 = .ok (.aload_n 0, 1) := by decide +kernel
theorem dX5_remember_13 : decode cX5_remember 13 = .ok (.getfield 19, 3) := by decide +kernel
theorem dX5_remember_16 : decode cX5_remember 16 = .ok (.aload_n 0, 1) := by decide +kernel
theorem dX5_remember_17 : decode cX5_remember 17 = .ok (.getfield 312, 3) := by decide +kernel
theorem dX5_remember_20 : decode cX5_remember 20 = .ok (.aaload, 1) := by decide +kernel
theorem dX5_remember_21 : decode cX5_remember 21 = .ok (.aload_n 0, 1) := by decide +kernel
theorem dX5_remember_22 : decode cX5_remember 22 = .ok (.getfield 10, 3) := by decide +kernel
theorem dX5_remember_25 : decode cX5_remember 25 = .ok (.invokevirtual 256, 3) := by decide +kernel
theorem dX5_remember_28 : decode cX5_remember 28 = .ok (.aload_n 0, 1) := by decide +kernel
theorem dX5_remember_29 : decode cX5_remember 29 = .ok (.dup, 1) := by decide +kernel
theorem dX5_remember_30 : decode cX5_remember 30 = .ok (.getfield 312, 3) := by decide +kernel
theorem dX5_remember_33 : decode cX5_remember 33 = .ok (.iconst 1, 1) := by decide +kernel
theorem dX5_remember_34 : decode cX5_remember 34 = .ok (.iadd, 1) := by decide +kernel
theorem dX5_remember_35 : decode cX5_remember 35 = .ok (.putfield 312, 3) := by decide +kernel
theorem dX5_remember_38 : decode cX5_remember 38 = .ok (.return_, 1) := by decide +kernel
theorem dX5_dropOldestRecord_0 : decode cX5_dropOldestRecord 0 = .ok (.aload_n 0, 1) := by decide +kernel
theorem dX5_dropOldestRecord_1 : decode cX5_dropOldestRecord 1 = .ok (.getfield 19, 3) := by decide +kernel
theorem dX5_dropOldestRecord_4 : decode cX5_dropOldestRecord 4 = .ok (.iconst 0, 1) := by decide +kernel
theorem dX5_dropOldestRecord_5 : decode cX5_dropOldestRecord 5 = .ok (.aaload, 1) := by decide +kernel
theorem dX5_dropOldestRecord_6 : decode cX5_dropOldestRecord 6 = .ok (.astore_n 1, 1) := by decide +kernel
theorem dX5_dropOldestRecord_7 : decode cX5_dropOldestRecord 7 = .ok (.iconst 1, 1) := by decide +kernel
theorem dX5_dropOldestRecord_8 : decode cX5_dropOldestRecord 8 = .ok (.istore_n 2, 1) := by decide +kernel
theorem dX5_dropOldestRecord_9 : decode cX5_dropOldestRecord 9 = .ok (.iload_n 2, 1) := by decide +kernel
theorem dX5_dropOldestRecord_10 : decode cX5_dropOldestRecord 10 = .ok (.iconst 4, 1) := by decide +kernel
theorem dX5_dropOldestRecord_11 : decode cX5_dropOldestRecord 11 = .ok (.if_icmp .ge 23, 3) := by decide +kernel
theorem dX5_dropOldestRecord_14 : decode cX5_dropOldestRecord 14 = .ok (.aload_n 0, 1) := by decide +kernel
theorem dX5_dropOldestRecord_15 : decode cX5_dropOldestRecord 15 = .ok (.getfield 19, 3) := by decide +kernel
theorem dX5_dropOldestRecord_18 : decode cX5_dropOldestRecord 18 = .ok (.iload_n 2, 1) := by decide +kernel
theorem dX5_dropOldestRecord_19 : decode cX5_dropOldestRecord 19 = .ok (.iconst 1, 1) := by decide +kernel
theorem dX5_dropOldestRecord_20 : decode cX5_dropOldestRecord 20 = .ok (.isub, 1) := by decide +kernel
theorem dX5_dropOldestRecord_21 : decode cX5_dropOldestRecord 21 = .ok (.aload_n 0, 1) := by decide +kernel
theorem dX5_dropOldestRecord_22 : decode cX5_dropOldestRecord 22 = .ok (.getfield 19, 3) := by decide +kernel
theorem dX5_dropOldestRecord_25 : decode cX5_dropOldestRecord 25 = .ok (.iload_n 2, 1) := by decide +kernel
theorem dX5_dropOldestRecord_26 : decode cX5_dropOldestRecord 26 = .ok (.aaload, 1) := by decide +kernel
theorem dX5_dropOldestRecord_27 : decode cX5_dropOldestRecord 27 = .ok (.aastore, 1) := by decide +kernel
theorem dX5_dropOldestRecord_28 : decode cX5_dropOldestRecord 28 = .ok (.iinc 2 1, 3) := by decide +kernel
theorem dX5_dropOldestRecord_31 : decode cX5_dropOldestRecord 31 = .ok (.goto (-22), 3) := by decide +kernel
theorem dX5_dropOldestRecord_34 : decode cX5_dropOldestRecord 34 = .ok (.aload_n 0, 1) := by decide +kernel
theorem dX5_dropOldestRecord_35 : decode cX5_dropOldestRecord 35 = .ok (.getfield 19, 3) := by decide +kernel
theorem dX5_dropOldestRecord_38 : decode cX5_dropOldestRecord 38 = .ok (.iconst 3, 1) := by decide +kernel
theorem dX5_dropOldestRecord_39 : decode cX5_dropOldestRecord 39 = .ok (.aload_n 1, 1) := by decide +kernel
theorem dX5_dropOldestRecord_40 : decode cX5_dropOldestRecord 40 = .ok (.aastore, 1) := by decide +kernel
theorem dX5_dropOldestRecord_41 : decode cX5_dropOldestRecord 41 = .ok (.aload_n 0, 1) := by decide +kernel
theorem dX5_dropOldestRecord_42 : decode cX5_dropOldestRecord 42 = .ok (.iconst 3, 1) := by decide +kernel
theorem dX5_dropOldestRecord_43 : decode cX5_dropOldestRecord 43 = .ok (.putfield 312, 3) := by decide +kernel
theorem dX5_dropOldestRecord_46 : decode cX5_dropOldestRecord 46 = .ok (.return_, 1) := by decide +kernel
theorem dX5_thinkOfWinter_0 : decode cX5_thinkOfWinter 0 = .ok (.aload_n 0, 1) := by decide +kernel
theorem dX5_thinkOfWinter_1 : decode cX5_thinkOfWinter 1 = .ok (.getfield 10, 3) := by decide +kernel
theorem dX5_thinkOfWinter_4 : decode cX5_thinkOfWinter 4 = .ok (.getfield 203, 3) := by decide +kernel
theorem dX5_thinkOfWinter_7 : decode cX5_thinkOfWinter 7 = .ok (.ifCond .eq 14, 3) := by decide +kernel
theorem dX5_thinkOfWinter_10 : decode cX5_thinkOfWinter 10 = .ok (.new 78, 3) := by decide +kernel
theorem dX5_thinkOfWinter_13 : decode cX5_thinkOfWinter 13 = .ok (.dup, 1) := by decide +kernel
theorem dX5_thinkOfWinter_14 : decode cX5_thinkOfWinter 14 = .ok (.ldc_w 336, 3) := by decide +kernel
theorem dX5_thinkOfWinter_17 : decode cX5_thinkOfWinter 17 = .ok (.invokespecial 82, 3) := by decide +kernel
theorem dX5_thinkOfWinter_20 : decode cX5_thinkOfWinter 20 = .ok (.athrow, 1) := by decide +kernel
theorem dX5_thinkOfWinter_21 : decode cX5_thinkOfWinter 21 = .ok (.aload_n 0, 1) := by decide +kernel
theorem dX5_thinkOfWinter_22 : decode cX5_thinkOfWinter 22 = .ok (.getfield 16, 3) := by decide +kernel
theorem dX5_thinkOfWinter_25 : decode cX5_thinkOfWinter 25 = .ok (.aload_n 0, 1) := by decide +kernel
theorem dX5_thinkOfWinter_26 : decode cX5_thinkOfWinter 26 = .ok (.getfield 10, 3) := by decide +kernel
theorem dX5_thinkOfWinter_29 : decode cX5_thinkOfWinter 29 = .ok (.invokevirtual 256, 3) := by decide +kernel
theorem dX5_thinkOfWinter_32 : decode cX5_thinkOfWinter 32 = .ok (.aload_n 0, 1) := by decide +kernel
theorem dX5_thinkOfWinter_33 : decode cX5_thinkOfWinter 33 = .ok (.getfield 16, 3) := by decide +kernel
theorem dX5_thinkOfWinter_36 : decode cX5_thinkOfWinter 36 = .ok (.aload_n 0, 1) := by decide +kernel
theorem dX5_thinkOfWinter_37 : decode cX5_thinkOfWinter 37 = .ok (.getfield 26, 3) := by decide +kernel
theorem dX5_thinkOfWinter_40 : decode cX5_thinkOfWinter 40 = .ok (.invokevirtual 338, 3) := by decide +kernel
theorem dX5_thinkOfWinter_43 : decode cX5_thinkOfWinter 43 = .ok (.return_, 1) := by decide +kernel
theorem dX5_checkBerth_0 : decode cX5_checkBerth 0 = .ok (.iload_n 1, 1) := by decide +kernel
theorem dX5_checkBerth_1 : decode cX5_checkBerth 1 = .ok (.ifCond .lt 14, 3) := by decide +kernel
theorem dX5_checkBerth_4 : decode cX5_checkBerth 4 = .ok (.iload_n 1, 1) := by decide +kernel
theorem dX5_checkBerth_5 : decode cX5_checkBerth 5 = .ok (.aload_n 0, 1) := by decide +kernel
theorem dX5_checkBerth_6 : decode cX5_checkBerth 6 = .ok (.getfield 10, 3) := by decide +kernel
theorem dX5_checkBerth_9 : decode cX5_checkBerth 9 = .ok (.getfield 75, 3) := by decide +kernel
theorem dX5_checkBerth_12 : decode cX5_checkBerth 12 = .ok (.if_icmp .lt 14, 3) := by decide +kernel
theorem dX5_checkBerth_15 : decode cX5_checkBerth 15 = .ok (.new 342, 3) := by decide +kernel
theorem dX5_checkBerth_18 : decode cX5_checkBerth 18 = .ok (.dup, 1) := by decide +kernel
theorem dX5_checkBerth_19 : decode cX5_checkBerth 19 = .ok (.ldc_w 344, 3) := by decide +kernel
theorem dX5_checkBerth_22 : decode cX5_checkBerth 22 = .ok (.invokespecial 346, 3) := by decide +kernel
theorem dX5_checkBerth_25 : decode cX5_checkBerth 25 = .ok (.athrow, 1) := by decide +kernel
theorem dX5_checkBerth_26 : decode cX5_checkBerth 26 = .ok (.return_, 1) := by decide +kernel
theorem dX5_checkBoat_0 : decode cX5_checkBoat 0 = .ok (.iload_n 1, 1) := by decide +kernel
theorem dX5_checkBoat_1 : decode cX5_checkBoat 1 = .ok (.ifCond .lt 14, 3) := by decide +kernel
theorem dX5_checkBoat_4 : decode cX5_checkBoat 4 = .ok (.iload_n 1, 1) := by decide +kernel
theorem dX5_checkBoat_5 : decode cX5_checkBoat 5 = .ok (.aload_n 0, 1) := by decide +kernel
theorem dX5_checkBoat_6 : decode cX5_checkBoat 6 = .ok (.getfield 10, 3) := by decide +kernel
theorem dX5_checkBoat_9 : decode cX5_checkBoat 9 = .ok (.getfield 95, 3) := by decide +kernel
theorem dX5_checkBoat_12 : decode cX5_checkBoat 12 = .ok (.if_icmp .lt 14, 3) := by decide +kernel
theorem dX5_checkBoat_15 : decode cX5_checkBoat 15 = .ok (.new 342, 3) := by decide +kernel
theorem dX5_checkBoat_18 : decode cX5_checkBoat 18 = .ok (.dup, 1) := by decide +kernel
theorem dX5_checkBoat_19 : decode cX5_checkBoat 19 = .ok (.ldc_w 347, 3) := by decide +kernel
theorem dX5_checkBoat_22 : decode cX5_checkBoat 22 = .ok (.invokespecial 346, 3) := by decide +kernel
theorem dX5_checkBoat_25 : decode cX5_checkBoat 25 = .ok (.athrow, 1) := by decide +kernel
theorem dX5_checkBoat_26 : decode cX5_checkBoat 26 = .ok (.return_, 1) := by decide +kernel
theorem dX5_checkDays_0 : decode cX5_checkDays 0 = .ok (.iload_n 0, 1) := by decide +kernel
theorem dX5_checkDays_1 : decode cX5_checkDays 1 = .ok (.iconst 1, 1) := by decide +kernel
theorem dX5_checkDays_2 : decode cX5_checkDays 2 = .ok (.sipush 400, 3) := by decide +kernel
theorem dX5_checkDays_5 : decode cX5_checkDays 5 = .ok (.invokestatic 65, 3) := by decide +kernel
theorem dX5_checkDays_8 : decode cX5_checkDays 8 = .ok (.ifCond .ne 14, 3) := by decide +kernel
theorem dX5_checkDays_11 : decode cX5_checkDays 11 = .ok (.new 41, 3) := by decide +kernel
theorem dX5_checkDays_14 : decode cX5_checkDays 14 = .ok (.dup, 1) := by decide +kernel
theorem dX5_checkDays_15 : decode cX5_checkDays 15 = .ok (.ldc_w 349, 3) := by decide +kernel
theorem dX5_checkDays_18 : decode cX5_checkDays 18 = .ok (.invokespecial 45, 3) := by decide +kernel
theorem dX5_checkDays_21 : decode cX5_checkDays 21 = .ok (.athrow, 1) := by decide +kernel
theorem dX5_checkDays_22 : decode cX5_checkDays 22 = .ok (.return_, 1) := by decide +kernel
theorem dX5_maySet_0 : decode cX5_maySet 0 = .ok (.iload_n 1, 1) := by decide +kernel
theorem dX5_maySet_1 : decode cX5_maySet 1 = .ok (.tableswitch 92 0 3 #[31, 39, 44, 68], 31) := by decide +kernel
theorem dX5_maySet_32 : decode cX5_maySet 32 = .ok (.iload_n 2, 1) := by decide +kernel
theorem dX5_maySet_33 : decode cX5_maySet 33 = .ok (.iconst 0, 1) := by decide +kernel
theorem dX5_maySet_34 : decode cX5_maySet 34 = .ok (.bipush 100, 2) := by decide +kernel
theorem dX5_maySet_36 : decode cX5_maySet 36 = .ok (.invokestatic 65, 3) := by decide +kernel
theorem dX5_maySet_39 : decode cX5_maySet 39 = .ok (.ireturn, 1) := by decide +kernel
theorem dX5_maySet_40 : decode cX5_maySet 40 = .ok (.iload_n 2, 1) := by decide +kernel
theorem dX5_maySet_41 : decode cX5_maySet 41 = .ok (.invokestatic 69, 3) := by decide +kernel
theorem dX5_maySet_44 : decode cX5_maySet 44 = .ok (.ireturn, 1) := by decide +kernel
theorem dX5_maySet_45 : decode cX5_maySet 45 = .ok (.iload_n 2, 1) := by decide +kernel
theorem dX5_maySet_46 : decode cX5_maySet 46 = .ok (.invokestatic 351, 3) := by decide +kernel
theorem dX5_maySet_49 : decode cX5_maySet 49 = .ok (.ifCond .eq 18, 3) := by decide +kernel
theorem dX5_maySet_52 : decode cX5_maySet 52 = .ok (.iload_n 2, 1) := by decide +kernel
theorem dX5_maySet_53 : decode cX5_maySet 53 = .ok (.aload_n 0, 1) := by decide +kernel
theorem dX5_maySet_54 : decode cX5_maySet 54 = .ok (.getfield 10, 3) := by decide +kernel
theorem dX5_maySet_57 : decode cX5_maySet 57 = .ok (.getfield 127, 3) := by decide +kernel
theorem dX5_maySet_60 : decode cX5_maySet 60 = .ok (.if_icmp .eq 7, 3) := by decide +kernel
theorem dX5_maySet_63 : decode cX5_maySet 63 = .ok (.iconst 1, 1) := by decide +kernel
theorem dX5_maySet_64 : decode cX5_maySet 64 = .ok (.goto 4, 3) := by decide +kernel
theorem dX5_maySet_67 : decode cX5_maySet 67 = .ok (.iconst 0, 1) := by decide +kernel
theorem dX5_maySet_68 : decode cX5_maySet 68 = .ok (.ireturn, 1) := by decide +kernel
theorem dX5_maySet_69 : decode cX5_maySet 69 = .ok (.iload_n 2, 1) := by decide +kernel
theorem dX5_maySet_70 : decode cX5_maySet 70 = .ok (.invokestatic 351, 3) := by decide +kernel
theorem dX5_maySet_73 : decode cX5_maySet 73 = .ok (.ifCond .eq 18, 3) := by decide +kernel
theorem dX5_maySet_76 : decode cX5_maySet 76 = .ok (.iload_n 2, 1) := by decide +kernel
theorem dX5_maySet_77 : decode cX5_maySet 77 = .ok (.aload_n 0, 1) := by decide +kernel
theorem dX5_maySet_78 : decode cX5_maySet 78 = .ok (.getfield 10, 3) := by decide +kernel
theorem dX5_maySet_81 : decode cX5_maySet 81 = .ok (.getfield 124, 3) := by decide +kernel
theorem dX5_maySet_84 : decode cX5_maySet 84 = .ok (.if_icmp .eq 7, 3) := by decide +kernel
theorem dX5_maySet_87 : decode cX5_maySet 87 = .ok (.iconst 1, 1) := by decide +kernel
theorem dX5_maySet_88 : decode cX5_maySet 88 = .ok (.goto 4, 3) := by decide +kernel
theorem dX5_maySet_91 : decode cX5_maySet 91 = .ok (.iconst 0, 1) := by decide +kernel
theorem dX5_maySet_92 : decode cX5_maySet 92 = .ok (.ireturn, 1) := by decide +kernel
theorem dX5_maySet_93 : decode cX5_maySet 93 = .ok (.iconst 0, 1) := by decide +kernel
theorem dX5_maySet_94 : decode cX5_maySet 94 = .ok (.ireturn, 1) := by decide +kernel
theorem dX5_isDayOfYear_0 : decode cX5_isDayOfYear 0 = .ok (.iload_n 0, 1) := by decide +kernel
theorem dX5_isDayOfYear_1 : decode cX5_isDayOfYear 1 = .ok (.iconst 0, 1) := by decide +kernel
theorem dX5_isDayOfYear_2 : decode cX5_isDayOfYear 2 = .ok (.sipush 359, 3) := by decide +kernel
theorem dX5_isDayOfYear_5 : decode cX5_isDayOfYear 5 = .ok (.invokestatic 65, 3) := by decide +kernel
theorem dX5_isDayOfYear_8 : decode cX5_isDayOfYear 8 = .ok (.ireturn, 1) := by decide +kernel
theorem dX5_isRate_0 : decode cX5_isRate 0 = .ok (.iload_n 0, 1) := by decide +kernel
theorem dX5_isRate_1 : decode cX5_isRate 1 = .ok (.iconst 0, 1) := by decide +kernel
theorem dX5_isRate_2 : decode cX5_isRate 2 = .ok (.ldc_w 354, 3) := by decide +kernel
theorem dX5_isRate_5 : decode cX5_isRate 5 = .ok (.invokestatic 65, 3) := by decide +kernel
theorem dX5_isRate_8 : decode cX5_isRate 8 = .ok (.ireturn, 1) := by decide +kernel
theorem dX5_isWithin_0 : decode cX5_isWithin 0 = .ok (.iload_n 0, 1) := by decide +kernel
theorem dX5_isWithin_1 : decode cX5_isWithin 1 = .ok (.iload_n 1, 1) := by decide +kernel
theorem dX5_isWithin_2 : decode cX5_isWithin 2 = .ok (.if_icmp .lt 12, 3) := by decide +kernel
theorem dX5_isWithin_5 : decode cX5_isWithin 5 = .ok (.iload_n 0, 1) := by decide +kernel
theorem dX5_isWithin_6 : decode cX5_isWithin 6 = .ok (.iload_n 2, 1) := by decide +kernel
theorem dX5_isWithin_7 : decode cX5_isWithin 7 = .ok (.if_icmp .gt 7, 3) := by decide +kernel
theorem dX5_isWithin_10 : decode cX5_isWithin 10 = .ok (.iconst 1, 1) := by decide +kernel
theorem dX5_isWithin_11 : decode cX5_isWithin 11 = .ok (.goto 4, 3) := by decide +kernel
theorem dX5_isWithin_14 : decode cX5_isWithin 14 = .ok (.iconst 0, 1) := by decide +kernel
theorem dX5_isWithin_15 : decode cX5_isWithin 15 = .ok (.ireturn, 1) := by decide +kernel
