theorem dX12_save_25 : decode cX12_save 25 = .ok (.aload_n 0, 1) := by decide +kernel
theorem dX12_save_26 : decode cX12_save 26 = .ok (.aload_n 0, 1) := by decide +kernel
theorem dX12_save_27 : decode cX12_save 27 = .ok (.getfield 7, 3) := by decide +kernel
theorem dX12_save_30 : decode cX12_save 30 = .ok (.putfield 254, 3) := by decide +kernel
theorem dX12_save_33 : decode cX12_save 33 = .ok (.aload_n 0, 1) := by decide +kernel
theorem dX12_save_34 : decode cX12_save 34 = .ok (.aload_n 0, 1) := by decide +kernel
theorem dX12_save_35 : decode cX12_save 35 = .ok (.getfield 13, 3) := by decide +kernel
theorem dX12_save_38 : decode cX12_save 38 = .ok (.putfield 257, 3) := by decide +kernel
theorem dX12_save_41 : decode cX12_save 41 = .ok (.aload_n 0, 1) := by decide +kernel
theorem dX12_save_42 : decode cX12_save 42 = .ok (.iconst 1, 1) := by decide +kernel
theorem dX12_save_43 : decode cX12_save 43 = .ok (.putfield 260, 3) := by decide +kernel
theorem dX12_save_46 : decode cX12_save 46 = .ok (.aload_n 0, 1) := by decide +kernel
theorem dX12_save_47 : decode cX12_save 47 = .ok (.getfield 75, 3) := by decide +kernel
theorem dX12_save_50 : decode cX12_save 50 = .ok (.ireturn, 1) := by decide +kernel
theorem dX12_restore_0 : decode cX12_restore 0 = .ok (.aload_n 0, 1) := by decide +kernel
theorem dX12_restore_1 : decode cX12_restore 1 = .ok (.getfield 260, 3) := by decide +kernel
theorem dX12_restore_4 : decode cX12_restore 4 = .ok (.ifCond .ne 6, 3) := by decide +kernel
theorem dX12_restore_7 : decode cX12_restore 7 = .ok (.bipush (-7), 2) := by decide +kernel
theorem dX12_restore_9 : decode cX12_restore 9 = .ok (.ireturn, 1) := by decide +kernel
theorem dX12_restore_10 : decode cX12_restore 10 = .ok (.aload_n 0, 1) := by decide +kernel
theorem dX12_restore_11 : decode cX12_restore 11 = .ok (.getfield 29, 3) := by decide +kernel
theorem dX12_restore_14 : decode cX12_restore 14 = .ok (.iconst 0, 1) := by decide +kernel
theorem dX12_restore_15 : decode cX12_restore 15 = .ok (.aload_n 0, 1) := by decide +kernel
theorem dX12_restore_16 : decode cX12_restore 16 = .ok (.getfield 16, 3) := by decide +kernel
theorem dX12_restore_19 : decode cX12_restore 19 = .ok (.iconst 0, 1) := by decide +kernel
theorem dX12_restore_20 : decode cX12_restore 20 = .ok (.aload_n 0, 1) := by decide +kernel
theorem dX12_restore_21 : decode cX12_restore 21 = .ok (.getfield 251, 3) := by decide +kernel
theorem dX12_restore_24 : decode cX12_restore 24 = .ok (.invokestatic 88, 3) := by decide +kernel
theorem dX12_restore_27 : decode cX12_restore 27 = .ok (.aload_n 0, 1) := by decide +kernel
theorem dX12_restore_28 : decode cX12_restore 28 = .ok (.aload_n 0, 1) := by decide +kernel
theorem dX12_restore_29 : decode cX12_restore 29 = .ok (.getfield 251, 3) := by decide +kernel
theorem dX12_restore_32 : decode cX12_restore 32 = .ok (.putfield 75, 3) := by decide +kernel
theorem dX12_restore_35 : decode cX12_restore 35 = .ok (.aload_n 0, 1) := by decide +kernel
theorem dX12_restore_36 : decode cX12_restore 36 = .ok (.aload_n 0, 1) := by decide +kernel
theorem dX12_restore_37 : decode cX12_restore 37 = .ok (.getfield 254, 3) := by decide +kernel
theorem dX12_restore_40 : decode cX12_restore 40 = .ok (.putfield 7, 3) := by decide +kernel
theorem dX12_restore_43 : decode cX12_restore 43 = .ok (.aload_n 0, 1) := by decide +kernel
theorem dX12_restore_44 : decode cX12_restore 44 = .ok (.aload_n 0, 1) := by decide +kernel
theorem dX12_restore_45 : decode cX12_restore 45 = .ok (.getfield 257, 3) := by decide +kernel
theorem dX12_restore_48 : decode cX12_restore 48 = .ok (.putfield 13, 3) := by decide +kernel
theorem dX12_restore_51 : decode cX12_restore 51 = .ok (.aload_n 0, 1) := by decide +kernel
theorem dX12_restore_52 : decode cX12_restore 52 = .ok (.iconst 0, 1) := by decide +kernel
theorem dX12_restore_53 : decode cX12_restore 53 = .ok (.putfield 78, 3) := by decide +kernel
theorem dX12_restore_56 : decode cX12_restore 56 = .ok (.aload_n 0, 1) := by decide +kernel
theorem dX12_restore_57 : decode cX12_restore 57 = .ok (.iconst 0, 1) := by decide +kernel
theorem dX12_restore_58 : decode cX12_restore 58 = .ok (.putfield 81, 3) := by decide +kernel
theorem dX12_restore_61 : decode cX12_restore 61 = .ok (.aload_n 0, 1) := by decide +kernel
theorem dX12_restore_62 : decode cX12_restore 62 = .ok (.getfield 75, 3) := by decide +kernel
theorem dX12_restore_65 : decode cX12_restore 65 = .ok (.ireturn, 1) := by decide +kernel
theorem dX12_isTable_0 : decode cX12_isTable 0 = .ok (.iload_n 0, 1) := by decide +kernel
theorem dX12_isTable_1 : decode cX12_isTable 1 = .ok (.iconst 0, 1) := by decide +kernel
theorem dX12_isTable_2 : decode cX12_isTable 2 = .ok (.iconst 1, 1) := by decide +kernel
theorem dX12_isTable_3 : decode cX12_isTable 3 = .ok (.invokestatic 71, 3) := by decide +kernel
theorem dX12_isTable_6 : decode cX12_isTable 6 = .ok (.ireturn, 1) := by decide +kernel
theorem dX12_createTable_0 : decode cX12_createTable 0 = .ok (.iload_n 1, 1) := by decide +kernel
theorem dX12_createTable_1 : decode cX12_createTable 1 = .ok (.invokestatic 264, 3) := by decide +kernel
theorem dX12_createTable_4 : decode cX12_createTable 4 = .ok (.ifCond .eq 19, 3) := by decide +kernel
theorem dX12_createTable_7 : decode cX12_createTable 7 = .ok (.iload_n 2, 1) := by decide +kernel
theorem dX12_createTable_8 : decode cX12_createTable 8 = .ok (.iconst 0, 1) := by decide +kernel
theorem dX12_createTable_9 : decode cX12_createTable 9 = .ok (.iconst 1, 1) := by decide +kernel
theorem dX12_createTable_10 : decode cX12_createTable 10 = .ok (.invokestatic 71, 3) := by decide +kernel
theorem dX12_createTable_13 : decode cX12_createTable 13 = .ok (.ifCond .eq 10, 3) := by decide +kernel
theorem dX12_createTable_16 : decode cX12_createTable 16 = .ok (.iload_n 3, 1) := by decide +kernel
theorem dX12_createTable_17 : decode cX12_createTable 17 = .ok (.sipush 256, 3) := by decide +kernel
theorem dX12_createTable_20 : decode cX12_createTable 20 = .ok (.if_icmp .le 5, 3) := by decide +kernel
theorem dX12_createTable_23 : decode cX12_createTable 23 = .ok (.iconst (-1), 1) := by decide +kernel
theorem dX12_createTable_24 : decode cX12_createTable 24 = .ok (.ireturn, 1) := by decide +kernel
theorem dX12_createTable_25 : decode cX12_createTable 25 = .ok (.iload_n 3, 1) := by decide +kernel
theorem dX12_createTable_26 : decode cX12_createTable 26 = .ok (.ifCond .ge 6, 3) := by decide +kernel
theorem dX12_createTable_29 : decode cX12_createTable 29 = .ok (.bipush (-14), 2) := by decide +kernel
theorem dX12_createTable_31 : decode cX12_createTable 31 = .ok (.ireturn, 1) := by decide +kernel
theorem dX12_createTable_32 : decode cX12_createTable 32 = .ok (.aload_n 0, 1) := by decide +kernel
theorem dX12_createTable_33 : decode cX12_createTable 33 = .ok (.getfield 54, 3) := by decide +kernel
theorem dX12_createTable_36 : decode cX12_createTable 36 = .ok (.iload_n 1, 1) := by decide +kernel
theorem dX12_createTable_37 : decode cX12_createTable 37 = .ok (.iload_n 2, 1) := by decide +kernel
theorem dX12_createTable_38 : decode cX12_createTable 38 = .ok (.iastore, 1) := by decide +kernel
theorem dX12_createTable_39 : decode cX12_createTable 39 = .ok (.aload_n 0, 1) := by decide +kernel
theorem dX12_createTable_40 : decode cX12_createTable 40 = .ok (.getfield 57, 3) := by decide +kernel
theorem dX12_createTable_43 : decode cX12_createTable 43 = .ok (.iload_n 1, 1) := by decide +kernel
theorem dX12_createTable_44 : decode cX12_createTable 44 = .ok (.iload_n 3, 1) := by decide +kernel
theorem dX12_createTable_45 : decode cX12_createTable 45 = .ok (.iastore, 1) := by decide +kernel
theorem dX12_createTable_46 : decode cX12_createTable 46 = .ok (.iconst 0, 1) := by decide +kernel
theorem dX12_createTable_47 : decode cX12_createTable 47 = .ok (.istore 4, 2) := by decide +kernel
theorem dX12_createTable_49 : decode cX12_createTable 49 = .ok (.iload 4, 2) := by decide +kernel
theorem dX12_createTable_51 : decode cX12_createTable 51 = .ok (.sipush 256, 3) := by decide +kernel
theorem dX12_createTable_54 : decode cX12_createTable 54 = .ok (.if_icmp .ge 23, 3) := by decide +kernel
theorem dX12_createTable_57 : decode cX12_createTable 57 = .ok (.aload_n 0, 1) := by decide +kernel
theorem dX12_createTable_58 : decode cX12_createTable 58 = .ok (.getfield 60, 3) := by decide +kernel
theorem dX12_createTable_61 : decode cX12_createTable 61 = .ok (.sipush 256, 3) := by decide +kernel
theorem dX12_createTable_64 : decode cX12_createTable 64 = .ok (.iload_n 1, 1) := by decide +kernel
theorem dX12_createTable_65 : decode cX12_createTable 65 = .ok (.imul, 1) := by decide +kernel
theorem dX12_createTable_66 : decode cX12_createTable 66 = .ok (.iload 4, 2) := by decide +kernel
theorem dX12_createTable_68 : decode cX12_createTable 68 = .ok (.iadd, 1) := by decide +kernel
theorem dX12_createTable_69 : decode cX12_createTable 69 = .ok (.iconst 0, 1) := by decide +kernel
theorem dX12_createTable_70 : decode cX12_createTable 70 = .ok (.iastore, 1) := by decide +kernel
theorem dX12_createTable_71 : decode cX12_createTable 71 = .ok (.iinc 4 1, 3) := by decide +kernel
theorem dX12_createTable_74 : decode cX12_createTable 74 = .ok (.goto (-25), 3) := by decide +kernel
theorem dX12_createTable_77 : decode cX12_createTable 77 = .ok (.iconst 1, 1) := by decide +kernel
theorem dX12_createTable_78 : decode cX12_createTable 78 = .ok (.ireturn, 1) := by decide +kernel
theorem dX12_problem_0 : decode cX12_problem 0 = .ok (.iload_n 1, 1) := by decide +kernel
theorem dX12_problem_1 : decode cX12_problem 1 = .ok (.invokestatic 264, 3) := by decide +kernel
theorem dX12_problem_4 : decode cX12_problem 4 = .ok (.ifCond .ne 5, 3) := by decide +kernel
theorem dX12_problem_7 : decode cX12_problem 7 = .ok (.iconst (-1), 1) := by decide +kernel
theorem dX12_problem_8 : decode cX12_problem 8 = .ok (.ireturn, 1) := by decide +kernel
theorem dX12_problem_9 : decode cX12_problem 9 = .ok (.aload_n 0, 1) := by decide +kernel
theorem dX12_problem_10 : decode cX12_problem 10 = .ok (.getfield 54, 3) := by decide +kernel
theorem dX12_problem_13 : decode cX12_problem 13 = .ok (.iload_n 1, 1) := by decide +kernel
theorem dX12_problem_14 : decode cX12_problem 14 = .ok (.iaload, 1) := by decide +kernel
theorem dX12_problem_15 : decode cX12_problem 15 = .ok (.ifCond .ge 6, 3) := by decide +kernel
theorem dX12_problem_18 : decode cX12_problem 18 = .ok (.bipush (-11), 2) := by decide +kernel
theorem dX12_problem_20 : decode cX12_problem 20 = .ok (.ireturn, 1) := by decide +kernel
theorem dX12_problem_21 : decode cX12_problem 21 = .ok (.iload_n 2, 1) := by decide +kernel
theorem dX12_problem_22 : decode cX12_problem 22 = .ok (.iconst 0, 1) := by decide +kernel
theorem dX12_problem_23 : decode cX12_problem 23 = .ok (.aload_n 0, 1) := by decide +kernel
theorem dX12_problem_24 : decode cX12_problem 24 = .ok (.getfield 57, 3) := by decide +kernel
theorem dX12_problem_27 : decode cX12_problem 27 = .ok (.iload_n 1, 1) := by decide +kernel
theorem dX12_problem_28 : decode cX12_problem 28 = .ok (.iaload, 1) := by decide +kernel
theorem dX12_problem_29 : decode cX12_problem 29 = .ok (.iconst 1, 1) := by decide +kernel
theorem dX12_problem_30 : decode cX12_problem 30 = .ok (.isub, 1) := by decide +kernel
theorem dX12_problem_31 : decode cX12_problem 31 = .ok (.invokestatic 71, 3) := by decide +kernel
theorem dX12_problem_34 : decode cX12_problem 34 = .ok (.ifCond .eq 7, 3) := by decide +kernel
theorem dX12_problem_37 : decode cX12_problem 37 = .ok (.iconst 0, 1) := by decide +kernel
theorem dX12_problem_38 : decode cX12_problem 38 = .ok (.goto 5, 3) := by decide +kernel
theorem dX12_problem_41 : decode cX12_problem 41 = .ok (.bipush (-13), 2) := by decide +kernel
theorem dX12_problem_43 : decode cX12_problem 43 = .ok (.ireturn, 1) := by decide +kernel
theorem dX12_writeTable_0 : decode cX12_writeTable 0 = .ok (.aload_n 0, 1) := by decide +kernel
theorem dX12_writeTable_1 : decode cX12_writeTable 1 = .ok (.iload_n 1, 1) := by decide +kernel
theorem dX12_writeTable_2 : decode cX12_writeTable 2 = .ok (.iload_n 2, 1) := by decide +kernel
theorem dX12_writeTable_3 : decode cX12_writeTable 3 = .ok (.invokevirtual 267, 3) := by decide +kernel
theorem dX12_writeTable_6 : decode cX12_writeTable 6 = .ok (.istore 4, 2) := by decide +kernel
theorem dX12_writeTable_8 : decode cX12_writeTable 8 = .ok (.iload 4, 2) := by decide +kernel
theorem dX12_writeTable_10 : decode cX12_writeTable 10 = .ok (.ifCond .ge 6, 3) := by decide +kernel
theorem dX12_writeTable_13 : decode cX12_writeTable 13 = .ok (.iload 4, 2) := by decide +kernel
theorem dX12_writeTable_15 : decode cX12_writeTable 15 = .ok (.ireturn, 1) := by decide +kernel
theorem dX12_writeTable_16 : decode cX12_writeTable 16 = .ok (.aload_n 0, 1) := by decide +kernel
theorem dX12_writeTable_17 : decode cX12_writeTable 17 = .ok (.getfield 60, 3) := by decide +kernel
theorem dX12_writeTable_20 : decode cX12_writeTable 20 = .ok (.sipush 256, 3) := by decide +kernel
theorem dX12_writeTable_23 : decode cX12_writeTable 23 = .ok (.iload_n 1, 1) := by decide +kernel
theorem dX12_writeTable_24 : decode cX12_writeTable 24 = .ok (.imul, 1) := by decide +kernel
theorem dX12_writeTable_25 : decode cX12_writeTable 25 = .ok (.iload_n 2, 1) := by decide +kernel
theorem dX12_writeTable_26 : decode cX12_writeTable 26 = .ok (.iadd, 1) := by decide +kernel
theorem dX12_writeTable_27 : decode cX12_writeTable 27 = .ok (.aload_n 0, 1) := by decide +kernel
theorem dX12_writeTable_28 : decode cX12_writeTable 28 = .ok (.getfield 54, 3) := by decide +kernel
theorem dX12_writeTable_31 : decode cX12_writeTable 31 = .ok (.iload_n 1, 1) := by decide +kernel
theorem dX12_writeTable_32 : decode cX12_writeTable 32 = .ok (.iaload, 1) := by decide +kernel
theorem dX12_writeTable_33 : decode cX12_writeTable 33 = .ok (.ifCond .ne 8, 3) := by decide +kernel
theorem dX12_writeTable_36 : decode cX12_writeTable 36 = .ok (.iload_n 3, 1) := by decide +kernel
theorem dX12_writeTable_37 : decode cX12_writeTable 37 = .ok (.i2b, 1) := by decide +kernel
theorem dX12_writeTable_38 : decode cX12_writeTable 38 = .ok (.goto 5, 3) := by decide +kernel
theorem dX12_writeTable_41 : decode cX12_writeTable 41 = .ok (.iload_n 3, 1) := by decide +kernel
theorem dX12_writeTable_42 : decode cX12_writeTable 42 = .ok (.i2c, 1) := by decide +kernel
theorem dX12_writeTable_43 : decode cX12_writeTable 43 = .ok (.iastore, 1) := by decide +kernel
theorem dX12_writeTable_44 : decode cX12_writeTable 44 = .ok (.iconst 1, 1) := by decide +kernel
theorem dX12_writeTable_45 : decode cX12_writeTable 45 = .ok (.ireturn, 1) := by decide +kernel
theorem dX12_readTable_0 : decode cX12_readTable 0 = .ok (.aload_n 0, 1) := by decide +kernel
theorem dX12_readTable_1 : decode cX12_readTable 1 = .ok (.iload_n 1, 1) := by decide +kernel
theorem dX12_readTable_2 : decode cX12_readTable 2 = .ok (.iload_n 2, 1) := by decide +kernel
theorem dX12_readTable_3 : decode cX12_readTable 3 = .ok (.invokevirtual 267, 3) := by decide +kernel
theorem dX12_readTable_6 : decode cX12_readTable 6 = .ok (.istore_n 3, 1) := by decide +kernel
theorem dX12_readTable_7 : decode cX12_readTable 7 = .ok (.iload_n 3, 1) := by decide +kernel
theorem dX12_readTable_8 : decode cX12_readTable 8 = .ok (.ifCond .ge 7, 3) := by decide +kernel
theorem dX12_readTable_11 : decode cX12_readTable 11 = .ok (.iload_n 3, 1) := by decide +kernel
theorem dX12_readTable_12 : decode cX12_readTable 12 = .ok (.goto 15, 3) := by decide +kernel
theorem dX12_readTable_15 : decode cX12_readTable 15 = .ok (.aload_n 0, 1) := by decide +kernel
theorem dX12_readTable_16 : decode cX12_readTable 16 = .ok (.getfield 60, 3) := by decide +kernel
theorem dX12_readTable_19 : decode cX12_readTable 19 = .ok (.sipush 256, 3) := by decide +kernel
theorem dX12_readTable_22 : decode cX12_readTable 22 = .ok (.iload_n 1, 1) := by decide +kernel
theorem dX12_readTable_23 : decode cX12_readTable 23 = .ok (.imul, 1) := by decide +kernel
theorem dX12_readTable_24 : decode cX12_readTable 24 = .ok (.iload_n 2, 1) := by decide +kernel
theorem dX12_readTable_25 : decode cX12_readTable 25 = .ok (.iadd, 1) := by decide +kernel
theorem dX12_readTable_26 : decode cX12_readTable 26 = .ok (.iaload, 1) := by decide +kernel
theorem dX12_readTable_27 : decode cX12_readTable 27 = .ok (.ireturn, 1) := by decide +kernel
theorem dX12_exportTable_0 : decode cX12_exportTable 0 = .ok (.iload_n 1, 1) := by decide +kernel
theorem dX12_exportTable_1 : decode cX12_exportTable 1 = .ok (.invokestatic 264, 3) := by decide +kernel
theorem dX12_exportTable_4 : decode cX12_exportTable 4 = .ok (.ifCond .ne 5, 3) := by decide +kernel
theorem dX12_exportTable_7 : decode cX12_exportTable 7 = .ok (.iconst (-1), 1) := by decide +kernel
theorem dX12_exportTable_8 : decode cX12_exportTable 8 = .ok (.ireturn, 1) := by decide +kernel
theorem dX12_exportTable_9 : decode cX12_exportTable 9 = .ok (.aload_n 0, 1) := by decide +kernel
theorem dX12_exportTable_10 : decode cX12_exportTable 10 = .ok (.getfield 54, 3) := by decide +kernel
theorem dX12_exportTable_13 : decode cX12_exportTable 13 = .ok (.iload_n 1, 1) := by decide +kernel
theorem dX12_exportTable_14 : decode cX12_exportTable 14 = .ok (.iaload, 1) := by decide +kernel
theorem dX12_exportTable_15 : decode cX12_exportTable 15 = .ok (.ifCond .ge 6, 3) := by decide +kernel
theorem dX12_exportTable_18 : decode cX12_exportTable 18 = .ok (.bipush (-11), 2) := by decide +kernel
theorem dX12_exportTable_20 : decode cX12_exportTable 20 = .ok (.ireturn, 1) := by decide +kernel
theorem dX12_exportTable_21 : decode cX12_exportTable 21 = .ok (.iconst 0, 1) := by decide +kernel
theorem dX12_exportTable_22 : decode cX12_exportTable 22 = .ok (.istore_n 3, 1) := by decide +kernel
theorem dX12_exportTable_23 : decode cX12_exportTable 23 = .ok (.iload_n 3, 1) := by decide +kernel
theorem dX12_exportTable_24 : decode cX12_exportTable 24 = .ok (.aload_n 0, 1) := by decide +kernel
theorem dX12_exportTable_25 : decode cX12_exportTable 25 = .ok (.getfield 75, 3) := by decide +kernel
theorem dX12_exportTable_28 : decode cX12_exportTable 28 = .ok (.if_icmp .ge 80, 3) := by decide +kernel
theorem dX12_exportTable_31 : decode cX12_exportTable 31 = .ok (.iload_n 2, 1) := by decide +kernel
theorem dX12_exportTable_32 : decode cX12_exportTable 32 = .ok (.i2l, 1) := by decide +kernel
theorem dX12_exportTable_33 : decode cX12_exportTable 33 = .ok (.iload_n 3, 1) := by decide +kernel
theorem dX12_exportTable_34 : decode cX12_exportTable 34 = .ok (.i2l, 1) := by decide +kernel
theorem dX12_exportTable_35 : decode cX12_exportTable 35 = .ok (.ladd, 1) := by decide +kernel
theorem dX12_exportTable_36 : decode cX12_exportTable 36 = .ok (.lstore 4, 2) := by decide +kernel
theorem dX12_exportTable_38 : decode cX12_exportTable 38 = .ok (.lload 4, 2) := by decide +kernel
theorem dX12_exportTable_40 : decode cX12_exportTable 40 = .ok (.lconst 0, 1) := by decide +kernel
theorem dX12_exportTable_41 : decode cX12_exportTable 41 = .ok (.lcmp, 1) := by decide +kernel
theorem dX12_exportTable_42 : decode cX12_exportTable 42 = .ok (.ifCond .lt 16, 3) := by decide +kernel
theorem dX12_exportTable_45 : decode cX12_exportTable 45 = .ok (.lload 4, 2) := by decide +kernel
theorem dX12_exportTable_47 : decode cX12_exportTable 47 = .ok (.aload_n 0, 1) := by decide +kernel
theorem dX12_exportTable_48 : decode cX12_exportTable 48 = .ok (.getfield 57, 3) := by decide +kernel
theorem dX12_exportTable_51 : decode cX12_exportTable 51 = .ok (.iload_n 1, 1) := by decide +kernel
theorem dX12_exportTable_52 : decode cX12_exportTable 52 = .ok (.iaload, 1) := by decide +kernel
theorem dX12_exportTable_53 : decode cX12_exportTable 53 = .ok (.i2l, 1) := by decide +kernel
theorem dX12_exportTable_54 : decode cX12_exportTable 54 = .ok (.lcmp, 1) := by decide +kernel
theorem dX12_exportTable_55 : decode cX12_exportTable 55 = .ok (.ifCond .lt 6, 3) := by decide +kernel
theorem dX12_exportTable_58 : decode cX12_exportTable 58 = .ok (.bipush (-13), 2) := by decide +kernel
theorem dX12_exportTable_60 : decode cX12_exportTable 60 = .ok (.ireturn, 1) := by decide +kernel
theorem dX12_exportTable_61 : decode cX12_exportTable 61 = .ok (.aload_n 0, 1) := by decide +kernel
theorem dX12_exportTable_62 : decode cX12_exportTable 62 = .ok (.getfield 60, 3) := by decide +kernel
theorem dX12_exportTable_65 : decode cX12_exportTable 65 = .ok (.sipush 256, 3) := by decide +kernel
theorem dX12_exportTable_68 : decode cX12_exportTable 68 = .ok (.iload_n 1, 1) := by decide +kernel
theorem dX12_exportTable_69 : decode cX12_exportTable 69 = .ok (.imul, 1) := by decide +kernel
theorem dX12_exportTable_70 : decode cX12_exportTable 70 = .ok (.lload 4, 2) := by decide +kernel
theorem dX12_exportTable_72 : decode cX12_exportTable 72 = .ok (.l2i, 1) := by decide +kernel
theorem dX12_exportTable_73 : decode cX12_exportTable 73 = .ok (.iadd, 1) := by decide +kernel
theorem dX12_exportTable_74 : decode cX12_exportTable 74 = .ok (.aload_n 0, 1) := by decide +kernel
theorem dX12_exportTable_75 : decode cX12_exportTable 75 = .ok (.getfield 54, 3) := by decide +kernel
theorem dX12_exportTable_78 : decode cX12_exportTable 78 = .ok (.iload_n 1, 1) := by decide +kernel
theorem dX12_exportTable_79 : decode cX12_exportTable 79 = .ok (.iaload, 1) := by decide +kernel
theorem dX12_exportTable_80 : decode cX12_exportTable 80 = .ok (.ifCond .ne 12, 3) := by decide +kernel
theorem dX12_exportTable_83 : decode cX12_exportTable 83 = .ok (.aload_n 0, 1) := by decide +kernel
theorem dX12_exportTable_84 : decode cX12_exportTable 84 = .ok (.getfield 16, 3) := by decide +kernel
theorem dX12_exportTable_87 : decode cX12_exportTable 87 = .ok (.iload_n 3, 1) := by decide +kernel
theorem dX12_exportTable_88 : decode cX12_exportTable 88 = .ok (.iaload, 1) := by decide +kernel
theorem dX12_exportTable_89 : decode cX12_exportTable 89 = .ok (.goto 12, 3) := by decide +kernel
theorem dX12_exportTable_92 : decode cX12_exportTable 92 = .ok (.bipush 97, 2) := by decide +kernel
theorem dX12_exportTable_94 : decode cX12_exportTable 94 = .ok (.aload_n 0, 1) := by decide +kernel
theorem dX12_exportTable_95 : decode cX12_exportTable 95 = .ok (.getfield 16, 3) := by decide +kernel
theorem dX12_exportTable_98 : decode cX12_exportTable 98 = .ok (.iload_n 3, 1) := by decide +kernel
theorem dX12_exportTable_99 : decode cX12_exportTable 99 = .ok (.iaload, 1) := by decide +kernel
theorem dX12_exportTable_100 : decode cX12_exportTable 100 = .ok (.iadd, 1) := by decide +kernel
theorem dX12_exportTable_101 : decode cX12_exportTable 101 = .ok (.iastore, 1) := by decide +kernel
theorem dX12_exportTable_102 : decode cX12_exportTable 102 = .ok (.iinc 3 1, 3) := by decide +kernel
theorem dX12_exportTable_105 : decode cX12_exportTable 105 = .ok (.goto (-82), 3) := by decide +kernel
theorem dX12_exportTable_108 : decode cX12_exportTable 108 = .ok (.aload_n 0, 1) := by decide +kernel
theorem dX12_exportTable_109 : decode cX12_exportTable 109 = .ok (.getfield 75, 3) := by decide +kernel
theorem dX12_exportTable_112 : decode cX12_exportTable 112 = .ok (.ireturn, 1) := by decide +kernel
theorem dX12_importTable_0 : decode cX12_importTable 0 = .ok (.iload_n 1, 1) := by decide +kernel
theorem dX12_importTable_1 : decode cX12_importTable 1 = .ok (.invokestatic 264, 3) := by decide +kernel
theorem dX12_importTable_4 : decode cX12_importTable 4 = .ok (.ifCond .eq 12, 3) := by decide +kernel
theorem dX12_importTable_7 : decode cX12_importTable 7 = .ok (.iload_n 2, 1) := by decide +kernel
theorem dX12_importTable_8 : decode cX12_importTable 8 = .ok (.iconst 0, 1) := by decide +kernel
theorem dX12_importTable_9 : decode cX12_importTable 9 = .ok (.iconst 1, 1) := by decide +kernel
theorem dX12_importTable_10 : decode cX12_importTable 10 = .ok (.invokestatic 71, 3) := by decide +kernel
theorem dX12_importTable_13 : decode cX12_importTable 13 = .ok (.ifCond .ne 5, 3) := by decide +kernel
theorem dX12_importTable_16 : decode cX12_importTable 16 = .ok (.iconst (-1), 1) := by decide +kernel
theorem dX12_importTable_17 : decode cX12_importTable 17 = .ok (.ireturn, 1) := by decide +kernel
theorem dX12_importTable_18 : decode cX12_importTable 18 = .ok (.aload_n 0, 1) := by decide +kernel
theorem dX12_importTable_19 : decode cX12_importTable 19 = .ok (.getfield 54, 3) := by decide +kernel
theorem dX12_importTable_22 : decode cX12_importTable 22 = .ok (.iload_n 1, 1) := by decide +kernel
theorem dX12_importTable_23 : decode cX12_importTable 23 = .ok (.iaload, 1) := by decide +kernel
theorem dX12_importTable_24 : decode cX12_importTable 24 = .ok (.ifCond .ge 6, 3) := by decide +kernel
theorem dX12_importTable_27 : decode cX12_importTable 27 = .ok (.bipush (-11), 2) := by decide +kernel
theorem dX12_importTable_29 : decode cX12_importTable 29 = .ok (.ireturn, 1) := by decide +kernel
theorem dX12_importTable_30 : decode cX12_importTable 30 = .ok (.aload_n 0, 1) := by decide +kernel
theorem dX12_importTable_31 : decode cX12_importTable 31 = .ok (.getfield 54, 3) := by decide +kernel
theorem dX12_importTable_34 : decode cX12_importTable 34 = .ok (.iload_n 1, 1) := by decide +kernel
theorem dX12_importTable_35 : decode cX12_importTable 35 = .ok (.iaload, 1) := by decide +kernel
theorem dX12_importTable_36 : decode cX12_importTable 36 = .ok (.iload_n 2, 1) := by decide +kernel
theorem dX12_importTable_37 : decode cX12_importTable 37 = .ok (.if_icmp .eq 6, 3) := by decide +kernel
theorem dX12_importTable_40 : decode cX12_importTable 40 = .ok (.bipush (-12), 2) := by decide +kernel
theorem dX12_importTable_42 : decode cX12_importTable 42 = .ok (.ireturn, 1) := by decide +kernel
theorem dX12_importTable_43 : decode cX12_importTable 43 = .ok (.aload_n 0, 1) := by decide +kernel
theorem dX12_importTable_44 : decode cX12_importTable 44 = .ok (.iconst 0, 1) := by decide +kernel
theorem dX12_importTable_45 : decode cX12_importTable 45 = .ok (.putfield 94, 3) := by decide +kernel
theorem dX12_importTable_48 : decode cX12_importTable 48 = .ok (.iconst 0, 1) := by decide +kernel
theorem dX12_importTable_49 : decode cX12_importTable 49 = .ok (.istore_n 3, 1) := by decide +kernel
theorem dX12_importTable_50 : decode cX12_importTable 50 = .ok (.iload_n 3, 1) := by decide +kernel
theorem dX12_importTable_51 : decode cX12_importTable 51 = .ok (.aload_n 0, 1) := by decide +kernel
theorem dX12_importTable_52 : decode cX12_importTable 52 = .ok (.getfield 57, 3) := by decide +kernel
theorem dX12_importTable_55 : decode cX12_importTable 55 = .ok (.iload_n 1, 1) := by decide +kernel
theorem dX12_importTable_56 : decode cX12_importTable 56 = .ok (.iaload, 1) := by decide +kernel
theorem dX12_importTable_57 : decode cX12_importTable 57 = .ok (.if_icmp .ge 52, 3) := by decide +kernel
theorem dX12_importTable_60 : decode cX12_importTable 60 = .ok (.aload_n 0, 1) := by decide +kernel
theorem dX12_importTable_61 : decode cX12_importTable 61 = .ok (.getfield 60, 3) := by decide +kernel
theorem dX12_importTable_64 : decode cX12_importTable 64 = .ok (.sipush 256, 3) := by decide +kernel
theorem dX12_importTable_67 : decode cX12_importTable 67 = .ok (.iload_n 1, 1) := by decide +kernel
theorem dX12_importTable_68 : decode cX12_importTable 68 = .ok (.imul, 1) := by decide +kernel
theorem dX12_importTable_69 : decode cX12_importTable 69 = .ok (.iload_n 3, 1) := by decide +kernel
theorem dX12_importTable_70 : decode cX12_importTable 70 = .ok (.iadd, 1) := by decide +kernel
theorem dX12_importTable_71 : decode cX12_importTable 71 = .ok (.iaload, 1) := by decide +kernel
theorem dX12_importTable_72 : decode cX12_importTable 72 = .ok (.iload_n 2, 1) := by decide +kernel
theorem dX12_importTable_73 : decode cX12_importTable 73 = .ok (.ifCond .ne 7, 3) := by decide +kernel
theorem dX12_importTable_76 : decode cX12_importTable 76 = .ok (.iconst 0, 1) := by decide +kernel
theorem dX12_importTable_77 : decode cX12_importTable 77 = .ok (.goto 5, 3) := by decide +kernel
theorem dX12_importTable_80 : decode cX12_importTable 80 = .ok (.bipush 97, 2) := by decide +kernel
theorem dX12_importTable_82 : decode cX12_importTable 82 = .ok (.isub, 1) := by decide +kernel
theorem dX12_importTable_83 : decode cX12_importTable 83 = .ok (.istore 4, 2) := by decide +kernel
theorem dX12_importTable_85 : decode cX12_importTable 85 = .ok (.aload_n 0, 1) := by decide +kernel
theorem dX12_importTable_86 : decode cX12_importTable 86 = .ok (.iload 4, 2) := by decide +kernel
theorem dX12_importTable_88 : decode cX12_importTable 88 = .ok (.invokevirtual 175, 3) := by decide +kernel
theorem dX12_importTable_91 : decode cX12_importTable 91 = .ok (.ifCond .ne 6, 3) := by decide +kernel
theorem dX12_importTable_94 : decode cX12_importTable 94 = .ok (.bipush (-5), 2) := by decide +kernel
theorem dX12_importTable_96 : decode cX12_importTable 96 = .ok (.ireturn, 1) := by decide +kernel
theorem dX12_importTable_97 : decode cX12_importTable 97 = .ok (.aload_n 0, 1) := by decide +kernel
theorem dX12_importTable_98 : decode cX12_importTable 98 = .ok (.iload 4, 2) := by decide +kernel
theorem dX12_importTable_100 : decode cX12_importTable 100 = .ok (.invokevirtual 111, 3) := by decide +kernel
theorem dX12_importTable_103 : decode cX12_importTable 103 = .ok (.iinc 3 1, 3) := by decide +kernel
theorem dX12_importTable_106 : decode cX12_importTable 106 = .ok (.goto (-56), 3) := by decide +kernel
theorem dX12_importTable_109 : decode cX12_importTable 109 = .ok (.aload_n 0, 1) := by decide +kernel
theorem dX12_importTable_110 : decode cX12_importTable 110 = .ok (.invokevirtual 149, 3) := by decide +kernel
theorem dX12_importTable_113 : decode cX12_importTable 113 = .ok (.aload_n 0, 1) := by decide +kernel
theorem dX12_importTable_114 : decode cX12_importTable 114 = .ok (.getfield 75, 3) := by decide +kernel
theorem dX12_importTable_117 : decode cX12_importTable 117 = .ok (.ireturn, 1) := by decide +kernel
