theorem dX12_complement_4 : decode cX12_complement 4 = .ok (.ifCond .ne 6, 3) := by decide +kernel
theorem dX12_complement_7 : decode cX12_complement 7 = .ok (.bipush (-3), 2) := by decide +kernel
theorem dX12_complement_9 : decode cX12_complement 9 = .ok (.ireturn, 1) := by decide +kernel
theorem dX12_complement_10 : decode cX12_complement 10 = .ok (.aload_n 0, 1) := by decide +kernel
theorem dX12_complement_11 : decode cX12_complement 11 = .ok (.iconst 0, 1) := by decide +kernel
theorem dX12_complement_12 : decode cX12_complement 12 = .ok (.putfield 94, 3) := by decide +kernel
theorem dX12_complement_15 : decode cX12_complement 15 = .ok (.iconst 0, 1) := by decide +kernel
theorem dX12_complement_16 : decode cX12_complement 16 = .ok (.istore_n 1, 1) := by decide +kernel
theorem dX12_complement_17 : decode cX12_complement 17 = .ok (.iload_n 1, 1) := by decide +kernel
theorem dX12_complement_18 : decode cX12_complement 18 = .ok (.aload_n 0, 1) := by decide +kernel
theorem dX12_complement_19 : decode cX12_complement 19 = .ok (.getfield 75, 3) := by decide +kernel
theorem dX12_complement_22 : decode cX12_complement 22 = .ok (.if_icmp .ge 26, 3) := by decide +kernel
theorem dX12_complement_25 : decode cX12_complement 25 = .ok (.aload_n 0, 1) := by decide +kernel
theorem dX12_complement_26 : decode cX12_complement 26 = .ok (.aload_n 0, 1) := by decide +kernel
theorem dX12_complement_27 : decode cX12_complement 27 = .ok (.getfield 7, 3) := by decide +kernel
theorem dX12_complement_30 : decode cX12_complement 30 = .ok (.iconst 1, 1) := by decide +kernel
theorem dX12_complement_31 : decode cX12_complement 31 = .ok (.isub, 1) := by decide +kernel
theorem dX12_complement_32 : decode cX12_complement 32 = .ok (.aload_n 0, 1) := by decide +kernel
theorem dX12_complement_33 : decode cX12_complement 33 = .ok (.getfield 16, 3) := by decide +kernel
theorem dX12_complement_36 : decode cX12_complement 36 = .ok (.iload_n 1, 1) := by decide +kernel
theorem dX12_complement_37 : decode cX12_complement 37 = .ok (.iaload, 1) := by decide +kernel
theorem dX12_complement_38 : decode cX12_complement 38 = .ok (.isub, 1) := by decide +kernel
theorem dX12_complement_39 : decode cX12_complement 39 = .ok (.invokevirtual 111, 3) := by decide +kernel
theorem dX12_complement_42 : decode cX12_complement 42 = .ok (.iinc 1 1, 3) := by decide +kernel
theorem dX12_complement_45 : decode cX12_complement 45 = .ok (.goto (-28), 3) := by decide +kernel
theorem dX12_complement_48 : decode cX12_complement 48 = .ok (.aload_n 0, 1) := by decide +kernel
theorem dX12_complement_49 : decode cX12_complement 49 = .ok (.invokevirtual 149, 3) := by decide +kernel
theorem dX12_complement_52 : decode cX12_complement 52 = .ok (.aload_n 0, 1) := by decide +kernel
theorem dX12_complement_53 : decode cX12_complement 53 = .ok (.getfield 16, 3) := by decide +kernel
theorem dX12_complement_56 : decode cX12_complement 56 = .ok (.iconst 0, 1) := by decide +kernel
theorem dX12_complement_57 : decode cX12_complement 57 = .ok (.iaload, 1) := by decide +kernel
theorem dX12_complement_58 : decode cX12_complement 58 = .ok (.ireturn, 1) := by decide +kernel
theorem dX12_canCut_0 : decode cX12_canCut 0 = .ok (.aload_n 0, 1) := by decide +kernel
theorem dX12_canCut_1 : decode cX12_canCut 1 = .ok (.iload_n 1, 1) := by decide +kernel
theorem dX12_canCut_2 : decode cX12_canCut 2 = .ok (.iload_n 1, 1) := by decide +kernel
theorem dX12_canCut_3 : decode cX12_canCut 3 = .ok (.iload_n 2, 1) := by decide +kernel
theorem dX12_canCut_4 : decode cX12_canCut 4 = .ok (.iadd, 1) := by decide +kernel
theorem dX12_canCut_5 : decode cX12_canCut 5 = .ok (.invokevirtual 189, 3) := by decide +kernel
theorem dX12_canCut_8 : decode cX12_canCut 8 = .ok (.ireturn, 1) := by decide +kernel
theorem dX12_cut_0 : decode cX12_cut 0 = .ok (.aload_n 0, 1) := by decide +kernel
theorem dX12_cut_1 : decode cX12_cut 1 = .ok (.iload_n 1, 1) := by decide +kernel
theorem dX12_cut_2 : decode cX12_cut 2 = .ok (.invokevirtual 84, 3) := by decide +kernel
theorem dX12_cut_5 : decode cX12_cut 5 = .ok (.ifCond .ne 6, 3) := by decide +kernel
theorem dX12_cut_8 : decode cX12_cut 8 = .ok (.bipush (-2), 2) := by decide +kernel
theorem dX12_cut_10 : decode cX12_cut 10 = .ok (.ireturn, 1) := by decide +kernel
theorem dX12_cut_11 : decode cX12_cut 11 = .ok (.iload_n 2, 1) := by decide +kernel
theorem dX12_cut_12 : decode cX12_cut 12 = .ok (.iconst 1, 1) := by decide +kernel
theorem dX12_cut_13 : decode cX12_cut 13 = .ok (.aload_n 0, 1) := by decide +kernel
theorem dX12_cut_14 : decode cX12_cut 14 = .ok (.getfield 75, 3) := by decide +kernel
theorem dX12_cut_17 : decode cX12_cut 17 = .ok (.iconst 1, 1) := by decide +kernel
theorem dX12_cut_18 : decode cX12_cut 18 = .ok (.isub, 1) := by decide +kernel
theorem dX12_cut_19 : decode cX12_cut 19 = .ok (.invokestatic 71, 3) := by decide +kernel
theorem dX12_cut_22 : decode cX12_cut 22 = .ok (.ifCond .ne 5, 3) := by decide +kernel
theorem dX12_cut_25 : decode cX12_cut 25 = .ok (.iconst (-1), 1) := by decide +kernel
theorem dX12_cut_26 : decode cX12_cut 26 = .ok (.ireturn, 1) := by decide +kernel
theorem dX12_cut_27 : decode cX12_cut 27 = .ok (.aload_n 0, 1) := by decide +kernel
theorem dX12_cut_28 : decode cX12_cut 28 = .ok (.iload_n 1, 1) := by decide +kernel
theorem dX12_cut_29 : decode cX12_cut 29 = .ok (.iload_n 2, 1) := by decide +kernel
theorem dX12_cut_30 : decode cX12_cut 30 = .ok (.invokevirtual 192, 3) := by decide +kernel
theorem dX12_cut_33 : decode cX12_cut 33 = .ok (.ifCond .ne 6, 3) := by decide +kernel
theorem dX12_cut_36 : decode cX12_cut 36 = .ok (.bipush (-5), 2) := by decide +kernel
theorem dX12_cut_38 : decode cX12_cut 38 = .ok (.ireturn, 1) := by decide +kernel
theorem dX12_cut_39 : decode cX12_cut 39 = .ok (.aload_n 0, 1) := by decide +kernel
theorem dX12_cut_40 : decode cX12_cut 40 = .ok (.iconst 0, 1) := by decide +kernel
theorem dX12_cut_41 : decode cX12_cut 41 = .ok (.putfield 94, 3) := by decide +kernel
theorem dX12_cut_44 : decode cX12_cut 44 = .ok (.iconst 0, 1) := by decide +kernel
theorem dX12_cut_45 : decode cX12_cut 45 = .ok (.istore_n 3, 1) := by decide +kernel
theorem dX12_cut_46 : decode cX12_cut 46 = .ok (.iload_n 3, 1) := by decide +kernel
theorem dX12_cut_47 : decode cX12_cut 47 = .ok (.aload_n 0, 1) := by decide +kernel
theorem dX12_cut_48 : decode cX12_cut 48 = .ok (.getfield 75, 3) := by decide +kernel
theorem dX12_cut_51 : decode cX12_cut 51 = .ok (.iload_n 2, 1) := by decide +kernel
theorem dX12_cut_52 : decode cX12_cut 52 = .ok (.isub, 1) := by decide +kernel
theorem dX12_cut_53 : decode cX12_cut 53 = .ok (.if_icmp .ge 23, 3) := by decide +kernel
theorem dX12_cut_56 : decode cX12_cut 56 = .ok (.aload_n 0, 1) := by decide +kernel
theorem dX12_cut_57 : decode cX12_cut 57 = .ok (.aload_n 0, 1) := by decide +kernel
theorem dX12_cut_58 : decode cX12_cut 58 = .ok (.iload_n 1, 1) := by decide +kernel
theorem dX12_cut_59 : decode cX12_cut 59 = .ok (.iload_n 2, 1) := by decide +kernel
theorem dX12_cut_60 : decode cX12_cut 60 = .ok (.iadd, 1) := by decide +kernel
theorem dX12_cut_61 : decode cX12_cut 61 = .ok (.iload_n 3, 1) := by decide +kernel
theorem dX12_cut_62 : decode cX12_cut 62 = .ok (.iadd, 1) := by decide +kernel
theorem dX12_cut_63 : decode cX12_cut 63 = .ok (.i2l, 1) := by decide +kernel
theorem dX12_cut_64 : decode cX12_cut 64 = .ok (.invokevirtual 185, 3) := by decide +kernel
theorem dX12_cut_67 : decode cX12_cut 67 = .ok (.invokevirtual 111, 3) := by decide +kernel
theorem dX12_cut_70 : decode cX12_cut 70 = .ok (.iinc 3 1, 3) := by decide +kernel
theorem dX12_cut_73 : decode cX12_cut 73 = .ok (.goto (-27), 3) := by decide +kernel
theorem dX12_cut_76 : decode cX12_cut 76 = .ok (.aload_n 0, 1) := by decide +kernel
theorem dX12_cut_77 : decode cX12_cut 77 = .ok (.invokevirtual 149, 3) := by decide +kernel
theorem dX12_cut_80 : decode cX12_cut 80 = .ok (.aload_n 0, 1) := by decide +kernel
theorem dX12_cut_81 : decode cX12_cut 81 = .ok (.getfield 75, 3) := by decide +kernel
theorem dX12_cut_84 : decode cX12_cut 84 = .ok (.ireturn, 1) := by decide +kernel
theorem dX12_firstCut_0 : decode cX12_firstCut 0 = .ok (.aload_n 0, 1) := by decide +kernel
theorem dX12_firstCut_1 : decode cX12_firstCut 1 = .ok (.getfield 75, 3) := by decide +kernel
theorem dX12_firstCut_4 : decode cX12_firstCut 4 = .ok (.ifCond .ne 6, 3) := by decide +kernel
theorem dX12_firstCut_7 : decode cX12_firstCut 7 = .ok (.bipush (-3), 2) := by decide +kernel
theorem dX12_firstCut_9 : decode cX12_firstCut 9 = .ok (.ireturn, 1) := by decide +kernel
theorem dX12_firstCut_10 : decode cX12_firstCut 10 = .ok (.iload_n 1, 1) := by decide +kernel
theorem dX12_firstCut_11 : decode cX12_firstCut 11 = .ok (.iconst 1, 1) := by decide +kernel
theorem dX12_firstCut_12 : decode cX12_firstCut 12 = .ok (.aload_n 0, 1) := by decide +kernel
theorem dX12_firstCut_13 : decode cX12_firstCut 13 = .ok (.getfield 75, 3) := by decide +kernel
theorem dX12_firstCut_16 : decode cX12_firstCut 16 = .ok (.iconst 1, 1) := by decide +kernel
theorem dX12_firstCut_17 : decode cX12_firstCut 17 = .ok (.isub, 1) := by decide +kernel
theorem dX12_firstCut_18 : decode cX12_firstCut 18 = .ok (.invokestatic 71, 3) := by decide +kernel
theorem dX12_firstCut_21 : decode cX12_firstCut 21 = .ok (.ifCond .ne 5, 3) := by decide +kernel
theorem dX12_firstCut_24 : decode cX12_firstCut 24 = .ok (.iconst (-1), 1) := by decide +kernel
theorem dX12_firstCut_25 : decode cX12_firstCut 25 = .ok (.ireturn, 1) := by decide +kernel
theorem dX12_firstCut_26 : decode cX12_firstCut 26 = .ok (.iconst 0, 1) := by decide +kernel
theorem dX12_firstCut_27 : decode cX12_firstCut 27 = .ok (.istore_n 2, 1) := by decide +kernel
theorem dX12_firstCut_28 : decode cX12_firstCut 28 = .ok (.iload_n 2, 1) := by decide +kernel
theorem dX12_firstCut_29 : decode cX12_firstCut 29 = .ok (.aload_n 0, 1) := by decide +kernel
theorem dX12_firstCut_30 : decode cX12_firstCut 30 = .ok (.getfield 75, 3) := by decide +kernel
theorem dX12_firstCut_33 : decode cX12_firstCut 33 = .ok (.if_icmp .ge 20, 3) := by decide +kernel
theorem dX12_firstCut_36 : decode cX12_firstCut 36 = .ok (.aload_n 0, 1) := by decide +kernel
theorem dX12_firstCut_37 : decode cX12_firstCut 37 = .ok (.iload_n 2, 1) := by decide +kernel
theorem dX12_firstCut_38 : decode cX12_firstCut 38 = .ok (.iload_n 1, 1) := by decide +kernel
theorem dX12_firstCut_39 : decode cX12_firstCut 39 = .ok (.invokevirtual 192, 3) := by decide +kernel
theorem dX12_firstCut_42 : decode cX12_firstCut 42 = .ok (.ifCond .eq 5, 3) := by decide +kernel
theorem dX12_firstCut_45 : decode cX12_firstCut 45 = .ok (.iload_n 2, 1) := by decide +kernel
theorem dX12_firstCut_46 : decode cX12_firstCut 46 = .ok (.ireturn, 1) := by decide +kernel
theorem dX12_firstCut_47 : decode cX12_firstCut 47 = .ok (.iinc 2 1, 3) := by decide +kernel
theorem dX12_firstCut_50 : decode cX12_firstCut 50 = .ok (.goto (-22), 3) := by decide +kernel
theorem dX12_firstCut_53 : decode cX12_firstCut 53 = .ok (.bipush (-2), 2) := by decide +kernel
theorem dX12_firstCut_55 : decode cX12_firstCut 55 = .ok (.ireturn, 1) := by decide +kernel
theorem dX12_agree_0 : decode cX12_agree 0 = .ok (.iconst 1, 1) := by decide +kernel
theorem dX12_agree_1 : decode cX12_agree 1 = .ok (.istore_n 3, 1) := by decide +kernel
theorem dX12_agree_2 : decode cX12_agree 2 = .ok (.iconst 0, 1) := by decide +kernel
theorem dX12_agree_3 : decode cX12_agree 3 = .ok (.istore 4, 2) := by decide +kernel
theorem dX12_agree_5 : decode cX12_agree 5 = .ok (.iload 4, 2) := by decide +kernel
theorem dX12_agree_7 : decode cX12_agree 7 = .ok (.aload_n 0, 1) := by decide +kernel
theorem dX12_agree_8 : decode cX12_agree 8 = .ok (.getfield 13, 3) := by decide +kernel
theorem dX12_agree_11 : decode cX12_agree 11 = .ok (.iconst 1, 1) := by decide +kernel
theorem dX12_agree_12 : decode cX12_agree 12 = .ok (.isub, 1) := by decide +kernel
theorem dX12_agree_13 : decode cX12_agree 13 = .ok (.if_icmp .ge 40, 3) := by decide +kernel
theorem dX12_agree_16 : decode cX12_agree 16 = .ok (.iload_n 3, 1) := by decide +kernel
theorem dX12_agree_17 : decode cX12_agree 17 = .ok (.ifCond .eq 28, 3) := by decide +kernel
theorem dX12_agree_20 : decode cX12_agree 20 = .ok (.aload_n 0, 1) := by decide +kernel
theorem dX12_agree_21 : decode cX12_agree 21 = .ok (.iload_n 1, 1) := by decide +kernel
theorem dX12_agree_22 : decode cX12_agree 22 = .ok (.iload 4, 2) := by decide +kernel
theorem dX12_agree_24 : decode cX12_agree 24 = .ok (.iadd, 1) := by decide +kernel
theorem dX12_agree_25 : decode cX12_agree 25 = .ok (.i2l, 1) := by decide +kernel
theorem dX12_agree_26 : decode cX12_agree 26 = .ok (.invokevirtual 185, 3) := by decide +kernel
theorem dX12_agree_29 : decode cX12_agree 29 = .ok (.aload_n 0, 1) := by decide +kernel
theorem dX12_agree_30 : decode cX12_agree 30 = .ok (.iload_n 2, 1) := by decide +kernel
theorem dX12_agree_31 : decode cX12_agree 31 = .ok (.iload 4, 2) := by decide +kernel
theorem dX12_agree_33 : decode cX12_agree 33 = .ok (.iadd, 1) := by decide +kernel
theorem dX12_agree_34 : decode cX12_agree 34 = .ok (.i2l, 1) := by decide +kernel
theorem dX12_agree_35 : decode cX12_agree 35 = .ok (.invokevirtual 185, 3) := by decide +kernel
theorem dX12_agree_38 : decode cX12_agree 38 = .ok (.if_icmp .ne 7, 3) := by decide +kernel
theorem dX12_agree_41 : decode cX12_agree 41 = .ok (.iconst 1, 1) := by decide +kernel
theorem dX12_agree_42 : decode cX12_agree 42 = .ok (.goto 4, 3) := by decide +kernel
theorem dX12_agree_45 : decode cX12_agree 45 = .ok (.iconst 0, 1) := by decide +kernel
theorem dX12_agree_46 : decode cX12_agree 46 = .ok (.istore_n 3, 1) := by decide +kernel
theorem dX12_agree_47 : decode cX12_agree 47 = .ok (.iinc 4 1, 3) := by decide +kernel
theorem dX12_agree_50 : decode cX12_agree 50 = .ok (.goto (-45), 3) := by decide +kernel
theorem dX12_agree_53 : decode cX12_agree 53 = .ok (.iload_n 3, 1) := by decide +kernel
theorem dX12_agree_54 : decode cX12_agree 54 = .ok (.ireturn, 1) := by decide +kernel
theorem dX12_makeFrom_0 : decode cX12_makeFrom 0 = .ok (.iload_n 1, 1) := by decide +kernel
theorem dX12_makeFrom_1 : decode cX12_makeFrom 1 = .ok (.istore_n 3, 1) := by decide +kernel
theorem dX12_makeFrom_2 : decode cX12_makeFrom 2 = .ok (.iload_n 3, 1) := by decide +kernel
theorem dX12_makeFrom_3 : decode cX12_makeFrom 3 = .ok (.iload_n 2, 1) := by decide +kernel
theorem dX12_makeFrom_4 : decode cX12_makeFrom 4 = .ok (.if_icmp .ge 19, 3) := by decide +kernel
theorem dX12_makeFrom_7 : decode cX12_makeFrom 7 = .ok (.aload_n 0, 1) := by decide +kernel
theorem dX12_makeFrom_8 : decode cX12_makeFrom 8 = .ok (.aload_n 0, 1) := by decide +kernel
theorem dX12_makeFrom_9 : decode cX12_makeFrom 9 = .ok (.getfield 16, 3) := by decide +kernel
theorem dX12_makeFrom_12 : decode cX12_makeFrom 12 = .ok (.iload_n 3, 1) := by decide +kernel
theorem dX12_makeFrom_13 : decode cX12_makeFrom 13 = .ok (.iaload, 1) := by decide +kernel
theorem dX12_makeFrom_14 : decode cX12_makeFrom 14 = .ok (.invokevirtual 111, 3) := by decide +kernel
theorem dX12_makeFrom_17 : decode cX12_makeFrom 17 = .ok (.iinc 3 1, 3) := by decide +kernel
theorem dX12_makeFrom_20 : decode cX12_makeFrom 20 = .ok (.goto (-18), 3) := by decide +kernel
theorem dX12_makeFrom_23 : decode cX12_makeFrom 23 = .ok (.return_, 1) := by decide +kernel
theorem dX12_exchange_0 : decode cX12_exchange 0 = .ok (.aload_n 0, 1) := by decide +kernel
theorem dX12_exchange_1 : decode cX12_exchange 1 = .ok (.iload_n 1, 1) := by decide +kernel
theorem dX12_exchange_2 : decode cX12_exchange 2 = .ok (.invokevirtual 84, 3) := by decide +kernel
theorem dX12_exchange_5 : decode cX12_exchange 5 = .ok (.ifCond .eq 28, 3) := by decide +kernel
theorem dX12_exchange_8 : decode cX12_exchange 8 = .ok (.aload_n 0, 1) := by decide +kernel
theorem dX12_exchange_9 : decode cX12_exchange 9 = .ok (.iload_n 2, 1) := by decide +kernel
theorem dX12_exchange_10 : decode cX12_exchange 10 = .ok (.invokevirtual 84, 3) := by decide +kernel
theorem dX12_exchange_13 : decode cX12_exchange 13 = .ok (.ifCond .eq 20, 3) := by decide +kernel
theorem dX12_exchange_16 : decode cX12_exchange 16 = .ok (.aload_n 0, 1) := by decide +kernel
theorem dX12_exchange_17 : decode cX12_exchange 17 = .ok (.iload_n 3, 1) := by decide +kernel
theorem dX12_exchange_18 : decode cX12_exchange 18 = .ok (.invokevirtual 84, 3) := by decide +kernel
theorem dX12_exchange_21 : decode cX12_exchange 21 = .ok (.ifCond .eq 12, 3) := by decide +kernel
theorem dX12_exchange_24 : decode cX12_exchange 24 = .ok (.aload_n 0, 1) := by decide +kernel
theorem dX12_exchange_25 : decode cX12_exchange 25 = .ok (.iload 4, 2) := by decide +kernel
theorem dX12_exchange_27 : decode cX12_exchange 27 = .ok (.invokevirtual 84, 3) := by decide +kernel
theorem dX12_exchange_30 : decode cX12_exchange 30 = .ok (.ifCond .ne 6, 3) := by decide +kernel
theorem dX12_exchange_33 : decode cX12_exchange 33 = .ok (.bipush (-2), 2) := by decide +kernel
theorem dX12_exchange_35 : decode cX12_exchange 35 = .ok (.ireturn, 1) := by decide +kernel
theorem dX12_exchange_36 : decode cX12_exchange 36 = .ok (.iload_n 1, 1) := by decide +kernel
theorem dX12_exchange_37 : decode cX12_exchange 37 = .ok (.iload_n 2, 1) := by decide +kernel
theorem dX12_exchange_38 : decode cX12_exchange 38 = .ok (.if_icmp .ge 14, 3) := by decide +kernel
theorem dX12_exchange_41 : decode cX12_exchange 41 = .ok (.iload_n 2, 1) := by decide +kernel
theorem dX12_exchange_42 : decode cX12_exchange 42 = .ok (.iload_n 3, 1) := by decide +kernel
theorem dX12_exchange_43 : decode cX12_exchange 43 = .ok (.if_icmp .ge 9, 3) := by decide +kernel
theorem dX12_exchange_46 : decode cX12_exchange 46 = .ok (.iload_n 3, 1) := by decide +kernel
theorem dX12_exchange_47 : decode cX12_exchange 47 = .ok (.iload 4, 2) := by decide +kernel
theorem dX12_exchange_49 : decode cX12_exchange 49 = .ok (.if_icmp .lt 5, 3) := by decide +kernel
theorem dX12_exchange_52 : decode cX12_exchange 52 = .ok (.iconst (-1), 1) := by decide +kernel
theorem dX12_exchange_53 : decode cX12_exchange 53 = .ok (.ireturn, 1) := by decide +kernel
theorem dX12_exchange_54 : decode cX12_exchange 54 = .ok (.aload_n 0, 1) := by decide +kernel
theorem dX12_exchange_55 : decode cX12_exchange 55 = .ok (.iload_n 1, 1) := by decide +kernel
theorem dX12_exchange_56 : decode cX12_exchange 56 = .ok (.iload_n 3, 1) := by decide +kernel
theorem dX12_exchange_57 : decode cX12_exchange 57 = .ok (.invokevirtual 189, 3) := by decide +kernel
theorem dX12_exchange_60 : decode cX12_exchange 60 = .ok (.ifCond .eq 13, 3) := by decide +kernel
theorem dX12_exchange_63 : decode cX12_exchange 63 = .ok (.aload_n 0, 1) := by decide +kernel
theorem dX12_exchange_64 : decode cX12_exchange 64 = .ok (.iload_n 2, 1) := by decide +kernel
theorem dX12_exchange_65 : decode cX12_exchange 65 = .ok (.iload 4, 2) := by decide +kernel
theorem dX12_exchange_67 : decode cX12_exchange 67 = .ok (.invokevirtual 189, 3) := by decide +kernel
theorem dX12_exchange_70 : decode cX12_exchange 70 = .ok (.ifCond .ne 6, 3) := by decide +kernel
theorem dX12_exchange_73 : decode cX12_exchange 73 = .ok (.bipush (-5), 2) := by decide +kernel
theorem dX12_exchange_75 : decode cX12_exchange 75 = .ok (.ireturn, 1) := by decide +kernel
theorem dX12_exchange_76 : decode cX12_exchange 76 = .ok (.aload_n 0, 1) := by decide +kernel
theorem dX12_exchange_77 : decode cX12_exchange 77 = .ok (.iconst 0, 1) := by decide +kernel
theorem dX12_exchange_78 : decode cX12_exchange 78 = .ok (.putfield 94, 3) := by decide +kernel
theorem dX12_exchange_81 : decode cX12_exchange 81 = .ok (.aload_n 0, 1) := by decide +kernel
theorem dX12_exchange_82 : decode cX12_exchange 82 = .ok (.iconst 0, 1) := by decide +kernel
theorem dX12_exchange_83 : decode cX12_exchange 83 = .ok (.iload_n 1, 1) := by decide +kernel
theorem dX12_exchange_84 : decode cX12_exchange 84 = .ok (.invokevirtual 195, 3) := by decide +kernel
theorem dX12_exchange_87 : decode cX12_exchange 87 = .ok (.aload_n 0, 1) := by decide +kernel
theorem dX12_exchange_88 : decode cX12_exchange 88 = .ok (.iload_n 3, 1) := by decide +kernel
theorem dX12_exchange_89 : decode cX12_exchange 89 = .ok (.iload 4, 2) := by decide +kernel
theorem dX12_exchange_91 : decode cX12_exchange 91 = .ok (.invokevirtual 195, 3) := by decide +kernel
theorem dX12_exchange_94 : decode cX12_exchange 94 = .ok (.aload_n 0, 1) := by decide +kernel
theorem dX12_exchange_95 : decode cX12_exchange 95 = .ok (.iload_n 2, 1) := by decide +kernel
theorem dX12_exchange_96 : decode cX12_exchange 96 = .ok (.iload_n 3, 1) := by decide +kernel
theorem dX12_exchange_97 : decode cX12_exchange 97 = .ok (.invokevirtual 195, 3) := by decide +kernel
theorem dX12_exchange_100 : decode cX12_exchange 100 = .ok (.aload_n 0, 1) := by decide +kernel
theorem dX12_exchange_101 : decode cX12_exchange 101 = .ok (.iload_n 1, 1) := by decide +kernel
theorem dX12_exchange_102 : decode cX12_exchange 102 = .ok (.iload_n 2, 1) := by decide +kernel
theorem dX12_exchange_103 : decode cX12_exchange 103 = .ok (.invokevirtual 195, 3) := by decide +kernel
theorem dX12_exchange_106 : decode cX12_exchange 106 = .ok (.aload_n 0, 1) := by decide +kernel
theorem dX12_exchange_107 : decode cX12_exchange 107 = .ok (.iload 4, 2) := by decide +kernel
theorem dX12_exchange_109 : decode cX12_exchange 109 = .ok (.aload_n 0, 1) := by decide +kernel
theorem dX12_exchange_110 : decode cX12_exchange 110 = .ok (.getfield 75, 3) := by decide +kernel
theorem dX12_exchange_113 : decode cX12_exchange 113 = .ok (.invokevirtual 195, 3) := by decide +kernel
theorem dX12_exchange_116 : decode cX12_exchange 116 = .ok (.iconst 1, 1) := by decide +kernel
theorem dX12_exchange_117 : decode cX12_exchange 117 = .ok (.istore 5, 2) := by decide +kernel
theorem dX12_exchange_119 : decode cX12_exchange 119 = .ok (.iconst 0, 1) := by decide +kernel
theorem dX12_exchange_120 : decode cX12_exchange 120 = .ok (.istore 6, 2) := by decide +kernel
theorem dX12_exchange_122 : decode cX12_exchange 122 = .ok (.iload 6, 2) := by decide +kernel
theorem dX12_exchange_124 : decode cX12_exchange 124 = .ok (.aload_n 0, 1) := by decide +kernel
theorem dX12_exchange_125 : decode cX12_exchange 125 = .ok (.getfield 75, 3) := by decide +kernel
theorem dX12_exchange_128 : decode cX12_exchange 128 = .ok (.if_icmp .ge 38, 3) := by decide +kernel
theorem dX12_exchange_131 : decode cX12_exchange 131 = .ok (.iload 5, 2) := by decide +kernel
theorem dX12_exchange_133 : decode cX12_exchange 133 = .ok (.ifCond .eq 24, 3) := by decide +kernel
theorem dX12_exchange_136 : decode cX12_exchange 136 = .ok (.aload_n 0, 1) := by decide +kernel
theorem dX12_exchange_137 : decode cX12_exchange 137 = .ok (.getfield 32, 3) := by decide +kernel
theorem dX12_exchange_140 : decode cX12_exchange 140 = .ok (.iload 6, 2) := by decide +kernel
theorem dX12_exchange_142 : decode cX12_exchange 142 = .ok (.iaload, 1) := by decide +kernel
theorem dX12_exchange_143 : decode cX12_exchange 143 = .ok (.aload_n 0, 1) := by decide +kernel
theorem dX12_exchange_144 : decode cX12_exchange 144 = .ok (.getfield 16, 3) := by decide +kernel
theorem dX12_exchange_147 : decode cX12_exchange 147 = .ok (.iload 6, 2) := by decide +kernel
theorem dX12_exchange_149 : decode cX12_exchange 149 = .ok (.iaload, 1) := by decide +kernel
theorem dX12_exchange_150 : decode cX12_exchange 150 = .ok (.if_icmp .ne 7, 3) := by decide +kernel
theorem dX12_exchange_153 : decode cX12_exchange 153 = .ok (.iconst 1, 1) := by decide +kernel
theorem dX12_exchange_154 : decode cX12_exchange 154 = .ok (.goto 4, 3) := by decide +kernel
theorem dX12_exchange_157 : decode cX12_exchange 157 = .ok (.iconst 0, 1) := by decide +kernel
theorem dX12_exchange_158 : decode cX12_exchange 158 = .ok (.istore 5, 2) := by decide +kernel
theorem dX12_exchange_160 : decode cX12_exchange 160 = .ok (.iinc 6 1, 3) := by decide +kernel
theorem dX12_exchange_163 : decode cX12_exchange 163 = .ok (.goto (-41), 3) := by decide +kernel
theorem dX12_exchange_166 : decode cX12_exchange 166 = .ok (.aload_n 0, 1) := by decide +kernel
theorem dX12_exchange_167 : decode cX12_exchange 167 = .ok (.invokevirtual 149, 3) := by decide +kernel
theorem dX12_exchange_170 : decode cX12_exchange 170 = .ok (.iload 5, 2) := by decide +kernel
theorem dX12_exchange_172 : decode cX12_exchange 172 = .ok (.ifCond .eq 7, 3) := by decide +kernel
theorem dX12_exchange_175 : decode cX12_exchange 175 = .ok (.iconst 0, 1) := by decide +kernel
theorem dX12_exchange_176 : decode cX12_exchange 176 = .ok (.goto 4, 3) := by decide +kernel
theorem dX12_exchange_179 : decode cX12_exchange 179 = .ok (.iconst 1, 1) := by decide +kernel
theorem dX12_exchange_180 : decode cX12_exchange 180 = .ok (.ireturn, 1) := by decide +kernel
theorem dX12_appendPattern_0 : decode cX12_appendPattern 0 = .ok (.iload_n 1, 1) := by decide +kernel
theorem dX12_appendPattern_1 : decode cX12_appendPattern 1 = .ok (.iconst (-1), 1) := by decide +kernel
theorem dX12_appendPattern_2 : decode cX12_appendPattern 2 = .ok (.if_icmp .eq 13, 3) := by decide +kernel
theorem dX12_appendPattern_5 : decode cX12_appendPattern 5 = .ok (.aload_n 0, 1) := by decide +kernel
theorem dX12_appendPattern_6 : decode cX12_appendPattern 6 = .ok (.iload_n 1, 1) := by decide +kernel
theorem dX12_appendPattern_7 : decode cX12_appendPattern 7 = .ok (.invokevirtual 175, 3) := by decide +kernel
theorem dX12_appendPattern_10 : decode cX12_appendPattern 10 = .ok (.ifCond .ne 5, 3) := by decide +kernel
theorem dX12_appendPattern_13 : decode cX12_appendPattern 13 = .ok (.iconst (-1), 1) := by decide +kernel
theorem dX12_appendPattern_14 : decode cX12_appendPattern 14 = .ok (.ireturn, 1) := by decide +kernel
theorem dX12_appendPattern_15 : decode cX12_appendPattern 15 = .ok (.aload_n 0, 1) := by decide +kernel
theorem dX12_appendPattern_16 : decode cX12_appendPattern 16 = .ok (.getfield 81, 3) := by decide +kernel
theorem dX12_appendPattern_19 : decode cX12_appendPattern 19 = .ok (.bipush 8, 2) := by decide +kernel
theorem dX12_appendPattern_21 : decode cX12_appendPattern 21 = .ok (.if_icmp .ne 6, 3) := by decide +kernel
theorem dX12_appendPattern_24 : decode cX12_appendPattern 24 = .ok (.bipush (-4), 2) := by decide +kernel
theorem dX12_appendPattern_26 : decode cX12_appendPattern 26 = .ok (.ireturn, 1) := by decide +kernel
theorem dX12_appendPattern_27 : decode cX12_appendPattern 27 = .ok (.aload_n 0, 1) := by decide +kernel
theorem dX12_appendPattern_28 : decode cX12_appendPattern 28 = .ok (.getfield 48, 3) := by decide +kernel
theorem dX12_appendPattern_31 : decode cX12_appendPattern 31 = .ok (.aload_n 0, 1) := by decide +kernel
theorem dX12_appendPattern_32 : decode cX12_appendPattern 32 = .ok (.getfield 81, 3) := by decide +kernel
theorem dX12_appendPattern_35 : decode cX12_appendPattern 35 = .ok (.iload_n 1, 1) := by decide +kernel
theorem dX12_appendPattern_36 : decode cX12_appendPattern 36 = .ok (.iastore, 1) := by decide +kernel
theorem dX12_appendPattern_37 : decode cX12_appendPattern 37 = .ok (.aload_n 0, 1) := by decide +kernel
theorem dX12_appendPattern_38 : decode cX12_appendPattern 38 = .ok (.dup, 1) := by decide +kernel
theorem dX12_appendPattern_39 : decode cX12_appendPattern 39 = .ok (.getfield 81, 3) := by decide +kernel
theorem dX12_appendPattern_42 : decode cX12_appendPattern 42 = .ok (.iconst 1, 1) := by decide +kernel
theorem dX12_appendPattern_43 : decode cX12_appendPattern 43 = .ok (.iadd, 1) := by decide +kernel
theorem dX12_appendPattern_44 : decode cX12_appendPattern 44 = .ok (.putfield 81, 3) := by decide +kernel
theorem dX12_appendPattern_47 : decode cX12_appendPattern 47 = .ok (.aload_n 0, 1) := by decide +kernel
theorem dX12_appendPattern_48 : decode cX12_appendPattern 48 = .ok (.getfield 81, 3) := by decide +kernel
theorem dX12_appendPattern_51 : decode cX12_appendPattern 51 = .ok (.ireturn, 1) := by decide +kernel
theorem dX12_clearPattern_0 : decode cX12_clearPattern 0 = .ok (.aload_n 0, 1) := by decide +kernel
theorem dX12_clearPattern_1 : decode cX12_clearPattern 1 = .ok (.getfield 81, 3) := by decide +kernel
theorem dX12_clearPattern_4 : decode cX12_clearPattern 4 = .ok (.istore_n 1, 1) := by decide +kernel
theorem dX12_clearPattern_5 : decode cX12_clearPattern 5 = .ok (.aload_n 0, 1) := by decide +kernel
theorem dX12_clearPattern_6 : decode cX12_clearPattern 6 = .ok (.iconst 0, 1) := by decide +kernel
theorem dX12_clearPattern_7 : decode cX12_clearPattern 7 = .ok (.putfield 81, 3) := by decide +kernel
theorem dX12_clearPattern_10 : decode cX12_clearPattern 10 = .ok (.iload_n 1, 1) := by decide +kernel
theorem dX12_clearPattern_11 : decode cX12_clearPattern 11 = .ok (.ireturn, 1) := by decide +kernel
theorem dX12_matches_0 : decode cX12_matches 0 = .ok (.iconst 1, 1) := by decide +kernel
theorem dX12_matches_1 : decode cX12_matches 1 = .ok (.istore_n 2, 1) := by decide +kernel
theorem dX12_matches_2 : decode cX12_matches 2 = .ok (.iconst 0, 1) := by decide +kernel
theorem dX12_matches_3 : decode cX12_matches 3 = .ok (.istore_n 3, 1) := by decide +kernel
theorem dX12_matches_4 : decode cX12_matches 4 = .ok (.iload_n 3, 1) := by decide +kernel
theorem dX12_matches_5 : decode cX12_matches 5 = .ok (.aload_n 0, 1) := by decide +kernel
theorem dX12_matches_6 : decode cX12_matches 6 = .ok (.getfield 81, 3) := by decide +kernel
theorem dX12_matches_9 : decode cX12_matches 9 = .ok (.if_icmp .ge 45, 3) := by decide +kernel
theorem dX12_matches_12 : decode cX12_matches 12 = .ok (.iload_n 2, 1) := by decide +kernel
theorem dX12_matches_13 : decode cX12_matches 13 = .ok (.ifCond .eq 33, 3) := by decide +kernel
theorem dX12_matches_16 : decode cX12_matches 16 = .ok (.aload_n 0, 1) := by decide +kernel
theorem dX12_matches_17 : decode cX12_matches 17 = .ok (.getfield 48, 3) := by decide +kernel
theorem dX12_matches_20 : decode cX12_matches 20 = .ok (.iload_n 3, 1) := by decide +kernel
theorem dX12_matches_21 : decode cX12_matches 21 = .ok (.iaload, 1) := by decide +kernel
theorem dX12_matches_22 : decode cX12_matches 22 = .ok (.ifCond .lt 20, 3) := by decide +kernel
theorem dX12_matches_25 : decode cX12_matches 25 = .ok (.aload_n 0, 1) := by decide +kernel
theorem dX12_matches_26 : decode cX12_matches 26 = .ok (.getfield 48, 3) := by decide +kernel
theorem dX12_matches_29 : decode cX12_matches 29 = .ok (.iload_n 3, 1) := by decide +kernel
theorem dX12_matches_30 : decode cX12_matches 30 = .ok (.iaload, 1) := by decide +kernel
theorem dX12_matches_31 : decode cX12_matches 31 = .ok (.aload_n 0, 1) := by decide +kernel
theorem dX12_matches_32 : decode cX12_matches 32 = .ok (.iload_n 1, 1) := by decide +kernel
theorem dX12_matches_33 : decode cX12_matches 33 = .ok (.iload_n 3, 1) := by decide +kernel
theorem dX12_matches_34 : decode cX12_matches 34 = .ok (.iadd, 1) := by decide +kernel
theorem dX12_matches_35 : decode cX12_matches 35 = .ok (.i2l, 1) := by decide +kernel
theorem dX12_matches_36 : decode cX12_matches 36 = .ok (.invokevirtual 185, 3) := by decide +kernel
theorem dX12_matches_39 : decode cX12_matches 39 = .ok (.if_icmp .ne 7, 3) := by decide +kernel
theorem dX12_matches_42 : decode cX12_matches 42 = .ok (.iconst 1, 1) := by decide +kernel
theorem dX12_matches_43 : decode cX12_matches 43 = .ok (.goto 4, 3) := by decide +kernel
theorem dX12_matches_46 : decode cX12_matches 46 = .ok (.iconst 0, 1) := by decide +kernel
theorem dX12_matches_47 : decode cX12_matches 47 = .ok (.istore_n 2, 1) := by decide +kernel
theorem dX12_matches_48 : decode cX12_matches 48 = .ok (.iinc 3 1, 3) := by decide +kernel
theorem dX12_matches_51 : decode cX12_matches 51 = .ok (.goto (-47), 3) := by decide +kernel
theorem dX12_matches_54 : decode cX12_matches 54 = .ok (.iload_n 2, 1) := by decide +kernel
theorem dX12_matches_55 : decode cX12_matches 55 = .ok (.ireturn, 1) := by decide +kernel
theorem dX12_patternCount_0 : decode cX12_patternCount 0 = .ok (.iconst 0, 1) := by decide +kernel
theorem dX12_patternCount_1 : decode cX12_patternCount 1 = .ok (.istore_n 1, 1) := by decide +kernel
theorem dX12_patternCount_2 : decode cX12_patternCount 2 = .ok (.iconst 0, 1) := by decide +kernel
theorem dX12_patternCount_3 : decode cX12_patternCount 3 = .ok (.istore_n 2, 1) := by decide +kernel
theorem dX12_patternCount_4 : decode cX12_patternCount 4 = .ok (.iload_n 2, 1) := by decide +kernel
theorem dX12_patternCount_5 : decode cX12_patternCount 5 = .ok (.aload_n 0, 1) := by decide +kernel
theorem dX12_patternCount_6 : decode cX12_patternCount 6 = .ok (.getfield 75, 3) := by decide +kernel
theorem dX12_patternCount_9 : decode cX12_patternCount 9 = .ok (.if_icmp .ge 25, 3) := by decide +kernel
theorem dX12_patternCount_12 : decode cX12_patternCount 12 = .ok (.iload_n 1, 1) := by decide +kernel
theorem dX12_patternCount_13 : decode cX12_patternCount 13 = .ok (.aload_n 0, 1) := by decide +kernel
theorem dX12_patternCount_14 : decode cX12_patternCount 14 = .ok (.iload_n 2, 1) := by decide +kernel
theorem dX12_patternCount_15 : decode cX12_patternCount 15 = .ok (.invokevirtual 199, 3) := by decide +kernel
theorem dX12_patternCount_18 : decode cX12_patternCount 18 = .ok (.ifCond .eq 7, 3) := by decide +kernel
theorem dX12_patternCount_21 : decode cX12_patternCount 21 = .ok (.iconst 1, 1) := by decide +kernel
theorem dX12_patternCount_22 : decode cX12_patternCount 22 = .ok (.goto 4, 3) := by decide +kernel
theorem dX12_patternCount_25 : decode cX12_patternCount 25 = .ok (.iconst 0, 1) := by decide +kernel
theorem dX12_patternCount_26 : decode cX12_patternCount 26 = .ok (.iadd, 1) := by decide +kernel
theorem dX12_patternCount_27 : decode cX12_patternCount 27 = .ok (.istore_n 1, 1) := by decide +kernel
theorem dX12_patternCount_28 : decode cX12_patternCount 28 = .ok (.iinc 2 1, 3) := by decide +kernel
theorem dX12_patternCount_31 : decode cX12_patternCount 31 = .ok (.goto (-27), 3) := by decide +kernel
theorem dX12_patternCount_34 : decode cX12_patternCount 34 = .ok (.iload_n 1, 1) := by decide +kernel
theorem dX12_patternCount_35 : decode cX12_patternCount 35 = .ok (.ireturn, 1) := by decide +kernel
theorem dX12_patternPosition_0 : decode cX12_patternPosition 0 = .ok (.iload_n 1, 1) := by decide +kernel
theorem dX12_patternPosition_1 : decode cX12_patternPosition 1 = .ok (.istore_n 2, 1) := by decide +kernel
theorem dX12_patternPosition_2 : decode cX12_patternPosition 2 = .ok (.iconst 0, 1) := by decide +kernel
theorem dX12_patternPosition_3 : decode cX12_patternPosition 3 = .ok (.istore_n 3, 1) := by decide +kernel
theorem dX12_patternPosition_4 : decode cX12_patternPosition 4 = .ok (.iload_n 3, 1) := by decide +kernel
theorem dX12_patternPosition_5 : decode cX12_patternPosition 5 = .ok (.aload_n 0, 1) := by decide +kernel
theorem dX12_patternPosition_6 : decode cX12_patternPosition 6 = .ok (.getfield 75, 3) := by decide +kernel
theorem dX12_patternPosition_9 : decode cX12_patternPosition 9 = .ok (.if_icmp .ge 30, 3) := by decide +kernel
theorem dX12_patternPosition_12 : decode cX12_patternPosition 12 = .ok (.iload_n 1, 1) := by decide +kernel
theorem dX12_patternPosition_13 : decode cX12_patternPosition 13 = .ok (.ifCond .lt 26, 3) := by decide +kernel
theorem dX12_patternPosition_16 : decode cX12_patternPosition 16 = .ok (.aload_n 0, 1) := by decide +kernel
theorem dX12_patternPosition_17 : decode cX12_patternPosition 17 = .ok (.iload_n 3, 1) := by decide +kernel
theorem dX12_patternPosition_18 : decode cX12_patternPosition 18 = .ok (.invokevirtual 199, 3) := by decide +kernel
theorem dX12_patternPosition_21 : decode cX12_patternPosition 21 = .ok (.ifCond .eq 12, 3) := by decide +kernel
theorem dX12_patternPosition_24 : decode cX12_patternPosition 24 = .ok (.iload_n 2, 1) := by decide +kernel
theorem dX12_patternPosition_25 : decode cX12_patternPosition 25 = .ok (.ifCond .ne 5, 3) := by decide +kernel
theorem dX12_patternPosition_28 : decode cX12_patternPosition 28 = .ok (.iload_n 3, 1) := by decide +kernel
theorem dX12_patternPosition_29 : decode cX12_patternPosition 29 = .ok (.ireturn, 1) := by decide +kernel
theorem dX12_patternPosition_30 : decode cX12_patternPosition 30 = .ok (.iinc 2 (-1), 3) := by decide +kernel
theorem dX12_patternPosition_33 : decode cX12_patternPosition 33 = .ok (.iinc 3 1, 3) := by decide +kernel
theorem dX12_patternPosition_36 : decode cX12_patternPosition 36 = .ok (.goto (-32), 3) := by decide +kernel
theorem dX12_patternPosition_39 : decode cX12_patternPosition 39 = .ok (.bipush (-2), 2) := by decide +kernel
theorem dX12_patternPosition_41 : decode cX12_patternPosition 41 = .ok (.ireturn, 1) := by decide +kernel
theorem dX12_occurring_0 : decode cX12_occurring 0 = .ok (.iconst 0, 1) := by decide +kernel
theorem dX12_occurring_1 : decode cX12_occurring 1 = .ok (.istore_n 2, 1) := by decide +kernel
theorem dX12_occurring_2 : decode cX12_occurring 2 = .ok (.iconst 0, 1) := by decide +kernel
theorem dX12_occurring_3 : decode cX12_occurring 3 = .ok (.istore_n 3, 1) := by decide +kernel
theorem dX12_occurring_4 : decode cX12_occurring 4 = .ok (.iload_n 3, 1) := by decide +kernel
theorem dX12_occurring_5 : decode cX12_occurring 5 = .ok (.aload_n 0, 1) := by decide +kernel
theorem dX12_occurring_6 : decode cX12_occurring 6 = .ok (.getfield 13, 3) := by decide +kernel
theorem dX12_occurring_9 : decode cX12_occurring 9 = .ok (.if_icmp .ge 25, 3) := by decide +kernel
theorem dX12_occurring_12 : decode cX12_occurring 12 = .ok (.aload_n 0, 1) := by decide +kernel
theorem dX12_occurring_13 : decode cX12_occurring 13 = .ok (.getfield 7, 3) := by decide +kernel
theorem dX12_occurring_16 : decode cX12_occurring 16 = .ok (.iload_n 2, 1) := by decide +kernel
theorem dX12_occurring_17 : decode cX12_occurring 17 = .ok (.imul, 1) := by decide +kernel
theorem dX12_occurring_18 : decode cX12_occurring 18 = .ok (.aload_n 0, 1) := by decide +kernel
theorem dX12_occurring_19 : decode cX12_occurring 19 = .ok (.iload_n 1, 1) := by decide +kernel
theorem dX12_occurring_20 : decode cX12_occurring 20 = .ok (.iload_n 3, 1) := by decide +kernel
theorem dX12_occurring_21 : decode cX12_occurring 21 = .ok (.iadd, 1) := by decide +kernel
theorem dX12_occurring_22 : decode cX12_occurring 22 = .ok (.i2l, 1) := by decide +kernel
theorem dX12_occurring_23 : decode cX12_occurring 23 = .ok (.invokevirtual 185, 3) := by decide +kernel
theorem dX12_occurring_26 : decode cX12_occurring 26 = .ok (.iadd, 1) := by decide +kernel
theorem dX12_occurring_27 : decode cX12_occurring 27 = .ok (.istore_n 2, 1) := by decide +kernel
theorem dX12_occurring_28 : decode cX12_occurring 28 = .ok (.iinc 3 1, 3) := by decide +kernel
theorem dX12_occurring_31 : decode cX12_occurring 31 = .ok (.goto (-27), 3) := by decide +kernel
theorem dX12_occurring_34 : decode cX12_occurring 34 = .ok (.iload_n 2, 1) := by decide +kernel
theorem dX12_occurring_35 : decode cX12_occurring 35 = .ok (.ireturn, 1) := by decide +kernel
theorem dX12_first_0 : decode cX12_first 0 = .ok (.iconst 0, 1) := by decide +kernel
theorem dX12_first_1 : decode cX12_first 1 = .ok (.istore_n 2, 1) := by decide +kernel
theorem dX12_first_2 : decode cX12_first 2 = .ok (.iload_n 2, 1) := by decide +kernel
theorem dX12_first_3 : decode cX12_first 3 = .ok (.aload_n 0, 1) := by decide +kernel
theorem dX12_first_4 : decode cX12_first 4 = .ok (.getfield 75, 3) := by decide +kernel
theorem dX12_first_7 : decode cX12_first 7 = .ok (.if_icmp .ge 20, 3) := by decide +kernel
theorem dX12_first_10 : decode cX12_first 10 = .ok (.aload_n 0, 1) := by decide +kernel
theorem dX12_first_11 : decode cX12_first 11 = .ok (.iload_n 2, 1) := by decide +kernel
theorem dX12_first_12 : decode cX12_first 12 = .ok (.invokevirtual 202, 3) := by decide +kernel
theorem dX12_first_15 : decode cX12_first 15 = .ok (.iload_n 1, 1) := by decide +kernel
theorem dX12_first_16 : decode cX12_first 16 = .ok (.if_icmp .ne 5, 3) := by decide +kernel
theorem dX12_first_19 : decode cX12_first 19 = .ok (.iload_n 2, 1) := by decide +kernel
theorem dX12_first_20 : decode cX12_first 20 = .ok (.ireturn, 1) := by decide +kernel
theorem dX12_first_21 : decode cX12_first 21 = .ok (.iinc 2 1, 3) := by decide +kernel
theorem dX12_first_24 : decode cX12_first 24 = .ok (.goto (-22), 3) := by decide +kernel
theorem dX12_first_27 : decode cX12_first 27 = .ok (.bipush (-2), 2) := by decide +kernel
theorem dX12_first_29 : decode cX12_first 29 = .ok (.ireturn, 1) := by decide +kernel
theorem dX12_count_0 : decode cX12_count 0 = .ok (.iconst 0, 1) := by decide +kernel
theorem dX12_count_1 : decode cX12_count 1 = .ok (.istore_n 2, 1) := by decide +kernel
theorem dX12_count_2 : decode cX12_count 2 = .ok (.iconst 0, 1) := by decide +kernel
theorem dX12_count_3 : decode cX12_count 3 = .ok (.istore_n 3, 1) := by decide +kernel
theorem dX12_count_4 : decode cX12_count 4 = .ok (.iload_n 3, 1) := by decide +kernel
theorem dX12_count_5 : decode cX12_count 5 = .ok (.aload_n 0, 1) := by decide +kernel
theorem dX12_count_6 : decode cX12_count 6 = .ok (.getfield 75, 3) := by decide +kernel
theorem dX12_count_9 : decode cX12_count 9 = .ok (.if_icmp .ge 26, 3) := by decide +kernel
theorem dX12_count_12 : decode cX12_count 12 = .ok (.iload_n 2, 1) := by decide +kernel
theorem dX12_count_13 : decode cX12_count 13 = .ok (.aload_n 0, 1) := by decide +kernel
theorem dX12_count_14 : decode cX12_count 14 = .ok (.iload_n 3, 1) := by decide +kernel
theorem dX12_count_15 : decode cX12_count 15 = .ok (.invokevirtual 202, 3) := by decide +kernel
theorem dX12_count_18 : decode cX12_count 18 = .ok (.iload_n 1, 1) := by decide +kernel
theorem dX12_count_19 : decode cX12_count 19 = .ok (.if_icmp .ne 7, 3) := by decide +kernel
theorem dX12_count_22 : decode cX12_count 22 = .ok (.iconst 1, 1) := by decide +kernel
theorem dX12_count_23 : decode cX12_count 23 = .ok (.goto 4, 3) := by decide +kernel
theorem dX12_count_26 : decode cX12_count 26 = .ok (.iconst 0, 1) := by decide +kernel
theorem dX12_count_27 : decode cX12_count 27 = .ok (.iadd, 1) := by decide +kernel
theorem dX12_count_28 : decode cX12_count 28 = .ok (.istore_n 2, 1) := by decide +kernel
theorem dX12_count_29 : decode cX12_count 29 = .ok (.iinc 3 1, 3) := by decide +kernel
theorem dX12_count_32 : decode cX12_count 32 = .ok (.goto (-28), 3) := by decide +kernel
theorem dX12_count_35 : decode cX12_count 35 = .ok (.iload_n 2, 1) := by decide +kernel
theorem dX12_count_36 : decode cX12_count 36 = .ok (.ireturn, 1) := by decide +kernel
theorem dX12_blockAt_0 : decode cX12_blockAt 0 = .ok (.aload_n 0, 1) := by decide +kernel
theorem dX12_blockAt_1 : decode cX12_blockAt 1 = .ok (.iload_n 1, 1) := by decide +kernel
theorem dX12_blockAt_2 : decode cX12_blockAt 2 = .ok (.invokevirtual 84, 3) := by decide +kernel
theorem dX12_blockAt_5 : decode cX12_blockAt 5 = .ok (.ifCond .eq 11, 3) := by decide +kernel
theorem dX12_blockAt_8 : decode cX12_blockAt 8 = .ok (.aload_n 0, 1) := by decide +kernel
theorem dX12_blockAt_9 : decode cX12_blockAt 9 = .ok (.iload_n 1, 1) := by decide +kernel
theorem dX12_blockAt_10 : decode cX12_blockAt 10 = .ok (.invokevirtual 202, 3) := by decide +kernel
theorem dX12_blockAt_13 : decode cX12_blockAt 13 = .ok (.goto 5, 3) := by decide +kernel
theorem dX12_blockAt_16 : decode cX12_blockAt 16 = .ok (.bipush (-2), 2) := by decide +kernel
theorem dX12_blockAt_18 : decode cX12_blockAt 18 = .ok (.ireturn, 1) := by decide +kernel
theorem dX12_positionOf_0 : decode cX12_positionOf 0 = .ok (.aload_n 0, 1) := by decide +kernel
theorem dX12_positionOf_1 : decode cX12_positionOf 1 = .ok (.iload_n 1, 1) := by decide +kernel
theorem dX12_positionOf_2 : decode cX12_positionOf 2 = .ok (.invokevirtual 205, 3) := by decide +kernel
theorem dX12_positionOf_5 : decode cX12_positionOf 5 = .ok (.ifCond .eq 11, 3) := by decide +kernel
theorem dX12_positionOf_8 : decode cX12_positionOf 8 = .ok (.aload_n 0, 1) := by decide +kernel
theorem dX12_positionOf_9 : decode cX12_positionOf 9 = .ok (.iload_n 1, 1) := by decide +kernel
theorem dX12_positionOf_10 : decode cX12_positionOf 10 = .ok (.invokevirtual 208, 3) := by decide +kernel
theorem dX12_positionOf_13 : decode cX12_positionOf 13 = .ok (.goto 4, 3) := by decide +kernel
theorem dX12_positionOf_16 : decode cX12_positionOf 16 = .ok (.iconst (-1), 1) := by decide +kernel
theorem dX12_positionOf_17 : decode cX12_positionOf 17 = .ok (.ireturn, 1) := by decide +kernel
theorem dX12_letterAfter_0 : decode cX12_letterAfter 0 = .ok (.aload_n 0, 1) := by decide +kernel
theorem dX12_letterAfter_1 : decode cX12_letterAfter 1 = .ok (.iload_n 1, 1) := by decide +kernel
theorem dX12_letterAfter_2 : decode cX12_letterAfter 2 = .ok (.invokevirtual 205, 3) := by decide +kernel
theorem dX12_letterAfter_5 : decode cX12_letterAfter 5 = .ok (.ifCond .ne 5, 3) := by decide +kernel
theorem dX12_letterAfter_8 : decode cX12_letterAfter 8 = .ok (.iconst (-1), 1) := by decide +kernel
theorem dX12_letterAfter_9 : decode cX12_letterAfter 9 = .ok (.ireturn, 1) := by decide +kernel
theorem dX12_letterAfter_10 : decode cX12_letterAfter 10 = .ok (.aload_n 0, 1) := by decide +kernel
theorem dX12_letterAfter_11 : decode cX12_letterAfter 11 = .ok (.iload_n 1, 1) := by decide +kernel
theorem dX12_letterAfter_12 : decode cX12_letterAfter 12 = .ok (.invokevirtual 208, 3) := by decide +kernel
theorem dX12_letterAfter_15 : decode cX12_letterAfter 15 = .ok (.istore_n 2, 1) := by decide +kernel
theorem dX12_letterAfter_16 : decode cX12_letterAfter 16 = .ok (.iload_n 2, 1) := by decide +kernel
theorem dX12_letterAfter_17 : decode cX12_letterAfter 17 = .ok (.ifCond .ge 8, 3) := by decide +kernel
theorem dX12_letterAfter_20 : decode cX12_letterAfter 20 = .ok (.bipush (-2), 2) := by decide +kernel
theorem dX12_letterAfter_22 : decode cX12_letterAfter 22 = .ok (.goto 14, 3) := by decide +kernel
theorem dX12_letterAfter_25 : decode cX12_letterAfter 25 = .ok (.aload_n 0, 1) := by decide +kernel
theorem dX12_letterAfter_26 : decode cX12_letterAfter 26 = .ok (.iload_n 2, 1) := by decide +kernel
theorem dX12_letterAfter_27 : decode cX12_letterAfter 27 = .ok (.aload_n 0, 1) := by decide +kernel
theorem dX12_letterAfter_28 : decode cX12_letterAfter 28 = .ok (.getfield 13, 3) := by decide +kernel
theorem dX12_letterAfter_31 : decode cX12_letterAfter 31 = .ok (.iadd, 1) := by decide +kernel
theorem dX12_letterAfter_32 : decode cX12_letterAfter 32 = .ok (.i2l, 1) := by decide +kernel
theorem dX12_letterAfter_33 : decode cX12_letterAfter 33 = .ok (.invokevirtual 185, 3) := by decide +kernel
theorem dX12_letterAfter_36 : decode cX12_letterAfter 36 = .ok (.ireturn, 1) := by decide +kernel
theorem dX12_distance_0 : decode cX12_distance 0 = .ok (.aload_n 0, 1) := by decide +kernel
theorem dX12_distance_1 : decode cX12_distance 1 = .ok (.iload_n 1, 1) := by decide +kernel
theorem dX12_distance_2 : decode cX12_distance 2 = .ok (.invokevirtual 205, 3) := by decide +kernel
theorem dX12_distance_5 : decode cX12_distance 5 = .ok (.ifCond .eq 11, 3) := by decide +kernel
theorem dX12_distance_8 : decode cX12_distance 8 = .ok (.aload_n 0, 1) := by decide +kernel
theorem dX12_distance_9 : decode cX12_distance 9 = .ok (.iload_n 2, 1) := by decide +kernel
theorem dX12_distance_10 : decode cX12_distance 10 = .ok (.invokevirtual 205, 3) := by decide +kernel
theorem dX12_distance_13 : decode cX12_distance 13 = .ok (.ifCond .ne 5, 3) := by decide +kernel
theorem dX12_distance_16 : decode cX12_distance 16 = .ok (.iconst (-1), 1) := by decide +kernel
theorem dX12_distance_17 : decode cX12_distance 17 = .ok (.ireturn, 1) := by decide +kernel
theorem dX12_distance_18 : decode cX12_distance 18 = .ok (.aload_n 0, 1) := by decide +kernel
theorem dX12_distance_19 : decode cX12_distance 19 = .ok (.iload_n 1, 1) := by decide +kernel
theorem dX12_distance_20 : decode cX12_distance 20 = .ok (.invokevirtual 208, 3) := by decide +kernel
theorem dX12_distance_23 : decode cX12_distance 23 = .ok (.istore_n 3, 1) := by decide +kernel
theorem dX12_distance_24 : decode cX12_distance 24 = .ok (.aload_n 0, 1) := by decide +kernel
theorem dX12_distance_25 : decode cX12_distance 25 = .ok (.iload_n 2, 1) := by decide +kernel
theorem dX12_distance_26 : decode cX12_distance 26 = .ok (.invokevirtual 208, 3) := by decide +kernel
theorem dX12_distance_29 : decode cX12_distance 29 = .ok (.istore 4, 2) := by decide +kernel
theorem dX12_distance_31 : decode cX12_distance 31 = .ok (.iload_n 3, 1) := by decide +kernel
theorem dX12_distance_32 : decode cX12_distance 32 = .ok (.ifCond .lt 8, 3) := by decide +kernel
theorem dX12_distance_35 : decode cX12_distance 35 = .ok (.iload 4, 2) := by decide +kernel
theorem dX12_distance_37 : decode cX12_distance 37 = .ok (.ifCond .ge 8, 3) := by decide +kernel
theorem dX12_distance_40 : decode cX12_distance 40 = .ok (.bipush (-2), 2) := by decide +kernel
theorem dX12_distance_42 : decode cX12_distance 42 = .ok (.goto 25, 3) := by decide +kernel
theorem dX12_distance_45 : decode cX12_distance 45 = .ok (.iload 4, 2) := by decide +kernel
theorem dX12_distance_47 : decode cX12_distance 47 = .ok (.iload_n 3, 1) := by decide +kernel
theorem dX12_distance_48 : decode cX12_distance 48 = .ok (.if_icmp .ge 15, 3) := by decide +kernel
theorem dX12_distance_51 : decode cX12_distance 51 = .ok (.iload 4, 2) := by decide +kernel
theorem dX12_distance_53 : decode cX12_distance 53 = .ok (.iload_n 3, 1) := by decide +kernel
theorem dX12_distance_54 : decode cX12_distance 54 = .ok (.isub, 1) := by decide +kernel
theorem dX12_distance_55 : decode cX12_distance 55 = .ok (.aload_n 0, 1) := by decide +kernel
theorem dX12_distance_56 : decode cX12_distance 56 = .ok (.getfield 75, 3) := by decide +kernel
theorem dX12_distance_59 : decode cX12_distance 59 = .ok (.iadd, 1) := by decide +kernel
theorem dX12_distance_60 : decode cX12_distance 60 = .ok (.goto 7, 3) := by decide +kernel
theorem dX12_distance_63 : decode cX12_distance 63 = .ok (.iload 4, 2) := by decide +kernel
theorem dX12_distance_65 : decode cX12_distance 65 = .ok (.iload_n 3, 1) := by decide +kernel
theorem dX12_distance_66 : decode cX12_distance 66 = .ok (.isub, 1) := by decide +kernel
theorem dX12_distance_67 : decode cX12_distance 67 = .ok (.ireturn, 1) := by decide +kernel
theorem dX12_linearLength_0 : decode cX12_linearLength 0 = .ok (.aload_n 0, 1) := by decide +kernel
theorem dX12_linearLength_1 : decode cX12_linearLength 1 = .ok (.getfield 75, 3) := by decide +kernel
theorem dX12_linearLength_4 : decode cX12_linearLength 4 = .ok (.ifCond .ne 7, 3) := by decide +kernel
theorem dX12_linearLength_7 : decode cX12_linearLength 7 = .ok (.iconst 0, 1) := by decide +kernel
theorem dX12_linearLength_8 : decode cX12_linearLength 8 = .ok (.goto 14, 3) := by decide +kernel
theorem dX12_linearLength_11 : decode cX12_linearLength 11 = .ok (.aload_n 0, 1) := by decide +kernel
theorem dX12_linearLength_12 : decode cX12_linearLength 12 = .ok (.getfield 75, 3) := by decide +kernel
theorem dX12_linearLength_15 : decode cX12_linearLength 15 = .ok (.aload_n 0, 1) := by decide +kernel
theorem dX12_linearLength_16 : decode cX12_linearLength 16 = .ok (.getfield 13, 3) := by decide +kernel
theorem dX12_linearLength_19 : decode cX12_linearLength 19 = .ok (.iadd, 1) := by decide +kernel
theorem dX12_linearLength_20 : decode cX12_linearLength 20 = .ok (.iconst 1, 1) := by decide +kernel
theorem dX12_linearLength_21 : decode cX12_linearLength 21 = .ok (.isub, 1) := by decide +kernel
theorem dX12_linearLength_22 : decode cX12_linearLength 22 = .ok (.ireturn, 1) := by decide +kernel
theorem dX12_linearLetter_0 : decode cX12_linearLetter 0 = .ok (.iload_n 1, 1) := by decide +kernel
theorem dX12_linearLetter_1 : decode cX12_linearLetter 1 = .ok (.iconst 0, 1) := by decide +kernel
theorem dX12_linearLetter_2 : decode cX12_linearLetter 2 = .ok (.aload_n 0, 1) := by decide +kernel
theorem dX12_linearLetter_3 : decode cX12_linearLetter 3 = .ok (.invokevirtual 211, 3) := by decide +kernel
theorem dX12_linearLetter_6 : decode cX12_linearLetter 6 = .ok (.iconst 1, 1) := by decide +kernel
theorem dX12_linearLetter_7 : decode cX12_linearLetter 7 = .ok (.isub, 1) := by decide +kernel
theorem dX12_linearLetter_8 : decode cX12_linearLetter 8 = .ok (.invokestatic 71, 3) := by decide +kernel
theorem dX12_linearLetter_11 : decode cX12_linearLetter 11 = .ok (.ifCond .eq 12, 3) := by decide +kernel
theorem dX12_linearLetter_14 : decode cX12_linearLetter 14 = .ok (.aload_n 0, 1) := by decide +kernel
theorem dX12_linearLetter_15 : decode cX12_linearLetter 15 = .ok (.iload_n 1, 1) := by decide +kernel
theorem dX12_linearLetter_16 : decode cX12_linearLetter 16 = .ok (.i2l, 1) := by decide +kernel
theorem dX12_linearLetter_17 : decode cX12_linearLetter 17 = .ok (.invokevirtual 185, 3) := by decide +kernel
theorem dX12_linearLetter_20 : decode cX12_linearLetter 20 = .ok (.goto 5, 3) := by decide +kernel
theorem dX12_linearLetter_23 : decode cX12_linearLetter 23 = .ok (.bipush (-2), 2) := by decide +kernel
theorem dX12_linearLetter_25 : decode cX12_linearLetter 25 = .ok (.ireturn, 1) := by decide +kernel
theorem dX12_occurrences_0 : decode cX12_occurrences 0 = .ok (.aload_n 0, 1) := by decide +kernel
theorem dX12_occurrences_1 : decode cX12_occurrences 1 = .ok (.iload_n 1, 1) := by decide +kernel
theorem dX12_occurrences_2 : decode cX12_occurrences 2 = .ok (.invokevirtual 205, 3) := by decide +kernel
theorem dX12_occurrences_5 : decode cX12_occurrences 5 = .ok (.ifCond .eq 11, 3) := by decide +kernel
theorem dX12_occurrences_8 : decode cX12_occurrences 8 = .ok (.aload_n 0, 1) := by decide +kernel
theorem dX12_occurrences_9 : decode cX12_occurrences 9 = .ok (.iload_n 1, 1) := by decide +kernel
theorem dX12_occurrences_10 : decode cX12_occurrences 10 = .ok (.invokevirtual 214, 3) := by decide +kernel
theorem dX12_occurrences_13 : decode cX12_occurrences 13 = .ok (.goto 4, 3) := by decide +kernel
theorem dX12_occurrences_16 : decode cX12_occurrences 16 = .ok (.iconst (-1), 1) := by decide +kernel
theorem dX12_occurrences_17 : decode cX12_occurrences 17 = .ok (.ireturn, 1) := by decide +kernel
theorem dX12_findOccurring_0 : decode cX12_findOccurring 0 = .ok (.iconst 0, 1) := by decide +kernel
theorem dX12_findOccurring_1 : decode cX12_findOccurring 1 = .ok (.istore_n 1, 1) := by decide +kernel
theorem dX12_findOccurring_2 : decode cX12_findOccurring 2 = .ok (.iload_n 1, 1) := by decide +kernel
theorem dX12_findOccurring_3 : decode cX12_findOccurring 3 = .ok (.aload_n 0, 1) := by decide +kernel
theorem dX12_findOccurring_4 : decode cX12_findOccurring 4 = .ok (.invokevirtual 67, 3) := by decide +kernel
theorem dX12_findOccurring_7 : decode cX12_findOccurring 7 = .ok (.if_icmp .ge 16, 3) := by decide +kernel
theorem dX12_findOccurring_10 : decode cX12_findOccurring 10 = .ok (.aload_n 0, 1) := by decide +kernel
theorem dX12_findOccurring_11 : decode cX12_findOccurring 11 = .ok (.getfield 51, 3) := by decide +kernel
theorem dX12_findOccurring_14 : decode cX12_findOccurring 14 = .ok (.iload_n 1, 1) := by decide +kernel
theorem dX12_findOccurring_15 : decode cX12_findOccurring 15 = .ok (.iconst 0, 1) := by decide +kernel
theorem dX12_findOccurring_16 : decode cX12_findOccurring 16 = .ok (.bastore, 1) := by decide +kernel
theorem dX12_findOccurring_17 : decode cX12_findOccurring 17 = .ok (.iinc 1 1, 3) := by decide +kernel
theorem dX12_findOccurring_20 : decode cX12_findOccurring 20 = .ok (.goto (-18), 3) := by decide +kernel
theorem dX12_findOccurring_23 : decode cX12_findOccurring 23 = .ok (.iconst 0, 1) := by decide +kernel
theorem dX12_findOccurring_24 : decode cX12_findOccurring 24 = .ok (.istore_n 1, 1) := by decide +kernel
theorem dX12_findOccurring_25 : decode cX12_findOccurring 25 = .ok (.iload_n 1, 1) := by decide +kernel
theorem dX12_findOccurring_26 : decode cX12_findOccurring 26 = .ok (.aload_n 0, 1) := by decide +kernel
theorem dX12_findOccurring_27 : decode cX12_findOccurring 27 = .ok (.getfield 75, 3) := by decide +kernel
theorem dX12_findOccurring_30 : decode cX12_findOccurring 30 = .ok (.if_icmp .ge 20, 3) := by decide +kernel
theorem dX12_findOccurring_33 : decode cX12_findOccurring 33 = .ok (.aload_n 0, 1) := by decide +kernel
theorem dX12_findOccurring_34 : decode cX12_findOccurring 34 = .ok (.getfield 51, 3) := by decide +kernel
theorem dX12_findOccurring_37 : decode cX12_findOccurring 37 = .ok (.aload_n 0, 1) := by decide +kernel
theorem dX12_findOccurring_38 : decode cX12_findOccurring 38 = .ok (.iload_n 1, 1) := by decide +kernel
theorem dX12_findOccurring_39 : decode cX12_findOccurring 39 = .ok (.invokevirtual 202, 3) := by decide +kernel
theorem dX12_findOccurring_42 : decode cX12_findOccurring 42 = .ok (.iconst 1, 1) := by decide +kernel
theorem dX12_findOccurring_43 : decode cX12_findOccurring 43 = .ok (.bastore, 1) := by decide +kernel
theorem dX12_findOccurring_44 : decode cX12_findOccurring 44 = .ok (.iinc 1 1, 3) := by decide +kernel
theorem dX12_findOccurring_47 : decode cX12_findOccurring 47 = .ok (.goto (-22), 3) := by decide +kernel
theorem dX12_findOccurring_50 : decode cX12_findOccurring 50 = .ok (.return_, 1) := by decide +kernel
theorem dX12_differentBlocks_0 : decode cX12_differentBlocks 0 = .ok (.aload_n 0, 1) := by decide +kernel
theorem dX12_differentBlocks_1 : decode cX12_differentBlocks 1 = .ok (.invokevirtual 217, 3) := by decide +kernel
theorem dX12_differentBlocks_4 : decode cX12_differentBlocks 4 = .ok (.iconst 0, 1) := by decide +kernel
theorem dX12_differentBlocks_5 : decode cX12_differentBlocks 5 = .ok (.istore_n 1, 1) := by decide +kernel
theorem dX12_differentBlocks_6 : decode cX12_differentBlocks 6 = .ok (.iconst 0, 1) := by decide +kernel
theorem dX12_differentBlocks_7 : decode cX12_differentBlocks 7 = .ok (.istore_n 2, 1) := by decide +kernel
theorem dX12_differentBlocks_8 : decode cX12_differentBlocks 8 = .ok (.iload_n 2, 1) := by decide +kernel
theorem dX12_differentBlocks_9 : decode cX12_differentBlocks 9 = .ok (.aload_n 0, 1) := by decide +kernel
theorem dX12_differentBlocks_10 : decode cX12_differentBlocks 10 = .ok (.invokevirtual 67, 3) := by decide +kernel
theorem dX12_differentBlocks_13 : decode cX12_differentBlocks 13 = .ok (.if_icmp .ge 26, 3) := by decide +kernel
theorem dX12_differentBlocks_16 : decode cX12_differentBlocks 16 = .ok (.iload_n 1, 1) := by decide +kernel
theorem dX12_differentBlocks_17 : decode cX12_differentBlocks 17 = .ok (.aload_n 0, 1) := by decide +kernel
theorem dX12_differentBlocks_18 : decode cX12_differentBlocks 18 = .ok (.getfield 51, 3) := by decide +kernel
theorem dX12_differentBlocks_21 : decode cX12_differentBlocks 21 = .ok (.iload_n 2, 1) := by decide +kernel
theorem dX12_differentBlocks_22 : decode cX12_differentBlocks 22 = .ok (.baload, 1) := by decide +kernel
theorem dX12_differentBlocks_23 : decode cX12_differentBlocks 23 = .ok (.ifCond .eq 7, 3) := by decide +kernel
theorem dX12_differentBlocks_26 : decode cX12_differentBlocks 26 = .ok (.iconst 1, 1) := by decide +kernel
theorem dX12_differentBlocks_27 : decode cX12_differentBlocks 27 = .ok (.goto 4, 3) := by decide +kernel
theorem dX12_differentBlocks_30 : decode cX12_differentBlocks 30 = .ok (.iconst 0, 1) := by decide +kernel
theorem dX12_differentBlocks_31 : decode cX12_differentBlocks 31 = .ok (.iadd, 1) := by decide +kernel
theorem dX12_differentBlocks_32 : decode cX12_differentBlocks 32 = .ok (.istore_n 1, 1) := by decide +kernel
theorem dX12_differentBlocks_33 : decode cX12_differentBlocks 33 = .ok (.iinc 2 1, 3) := by decide +kernel
theorem dX12_differentBlocks_36 : decode cX12_differentBlocks 36 = .ok (.goto (-28), 3) := by decide +kernel
theorem dX12_differentBlocks_39 : decode cX12_differentBlocks 39 = .ok (.iload_n 1, 1) := by decide +kernel
theorem dX12_differentBlocks_40 : decode cX12_differentBlocks 40 = .ok (.ireturn, 1) := by decide +kernel
theorem dX12_missingBlock_0 : decode cX12_missingBlock 0 = .ok (.aload_n 0, 1) := by decide +kernel
theorem dX12_missingBlock_1 : decode cX12_missingBlock 1 = .ok (.invokevirtual 217, 3) := by decide +kernel
theorem dX12_missingBlock_4 : decode cX12_missingBlock 4 = .ok (.iload_n 1, 1) := by decide +kernel
theorem dX12_missingBlock_5 : decode cX12_missingBlock 5 = .ok (.istore_n 2, 1) := by decide +kernel
theorem dX12_missingBlock_6 : decode cX12_missingBlock 6 = .ok (.iconst 0, 1) := by decide +kernel
theorem dX12_missingBlock_7 : decode cX12_missingBlock 7 = .ok (.istore_n 3, 1) := by decide +kernel
theorem dX12_missingBlock_8 : decode cX12_missingBlock 8 = .ok (.iload_n 3, 1) := by decide +kernel
theorem dX12_missingBlock_9 : decode cX12_missingBlock 9 = .ok (.aload_n 0, 1) := by decide +kernel
theorem dX12_missingBlock_10 : decode cX12_missingBlock 10 = .ok (.invokevirtual 67, 3) := by decide +kernel
theorem dX12_missingBlock_13 : decode cX12_missingBlock 13 = .ok (.if_icmp .ge 31, 3) := by decide +kernel
theorem dX12_missingBlock_16 : decode cX12_missingBlock 16 = .ok (.iload_n 1, 1) := by decide +kernel
theorem dX12_missingBlock_17 : decode cX12_missingBlock 17 = .ok (.ifCond .lt 27, 3) := by decide +kernel
theorem dX12_missingBlock_20 : decode cX12_missingBlock 20 = .ok (.aload_n 0, 1) := by decide +kernel
theorem dX12_missingBlock_21 : decode cX12_missingBlock 21 = .ok (.getfield 51, 3) := by decide +kernel
theorem dX12_missingBlock_24 : decode cX12_missingBlock 24 = .ok (.iload_n 3, 1) := by decide +kernel
theorem dX12_missingBlock_25 : decode cX12_missingBlock 25 = .ok (.baload, 1) := by decide +kernel
theorem dX12_missingBlock_26 : decode cX12_missingBlock 26 = .ok (.ifCond .ne 12, 3) := by decide +kernel
theorem dX12_missingBlock_29 : decode cX12_missingBlock 29 = .ok (.iload_n 2, 1) := by decide +kernel
theorem dX12_missingBlock_30 : decode cX12_missingBlock 30 = .ok (.ifCond .ne 5, 3) := by decide +kernel
theorem dX12_missingBlock_33 : decode cX12_missingBlock 33 = .ok (.iload_n 3, 1) := by decide +kernel
theorem dX12_missingBlock_34 : decode cX12_missingBlock 34 = .ok (.ireturn, 1) := by decide +kernel
theorem dX12_missingBlock_35 : decode cX12_missingBlock 35 = .ok (.iinc 2 (-1), 3) := by decide +kernel
theorem dX12_missingBlock_38 : decode cX12_missingBlock 38 = .ok (.iinc 3 1, 3) := by decide +kernel
theorem dX12_missingBlock_41 : decode cX12_missingBlock 41 = .ok (.goto (-33), 3) := by decide +kernel
theorem dX12_missingBlock_44 : decode cX12_missingBlock 44 = .ok (.bipush (-2), 2) := by decide +kernel
theorem dX12_missingBlock_46 : decode cX12_missingBlock 46 = .ok (.ireturn, 1) := by decide +kernel
theorem dX12_firstRepeat_0 : decode cX12_firstRepeat 0 = .ok (.iconst 1, 1) := by decide +kernel
theorem dX12_firstRepeat_1 : decode cX12_firstRepeat 1 = .ok (.istore_n 1, 1) := by decide +kernel
theorem dX12_firstRepeat_2 : decode cX12_firstRepeat 2 = .ok (.iload_n 1, 1) := by decide +kernel
theorem dX12_firstRepeat_3 : decode cX12_firstRepeat 3 = .ok (.aload_n 0, 1) := by decide +kernel
theorem dX12_firstRepeat_4 : decode cX12_firstRepeat 4 = .ok (.getfield 75, 3) := by decide +kernel
theorem dX12_firstRepeat_7 : decode cX12_firstRepeat 7 = .ok (.if_icmp .ge 24, 3) := by decide +kernel
theorem dX12_firstRepeat_10 : decode cX12_firstRepeat 10 = .ok (.aload_n 0, 1) := by decide +kernel
theorem dX12_firstRepeat_11 : decode cX12_firstRepeat 11 = .ok (.aload_n 0, 1) := by decide +kernel
theorem dX12_firstRepeat_12 : decode cX12_firstRepeat 12 = .ok (.iload_n 1, 1) := by decide +kernel
theorem dX12_firstRepeat_13 : decode cX12_firstRepeat 13 = .ok (.invokevirtual 202, 3) := by decide +kernel
theorem dX12_firstRepeat_16 : decode cX12_firstRepeat 16 = .ok (.invokevirtual 208, 3) := by decide +kernel
theorem dX12_firstRepeat_19 : decode cX12_firstRepeat 19 = .ok (.iload_n 1, 1) := by decide +kernel
theorem dX12_firstRepeat_20 : decode cX12_firstRepeat 20 = .ok (.if_icmp .ge 5, 3) := by decide +kernel
theorem dX12_firstRepeat_23 : decode cX12_firstRepeat 23 = .ok (.iload_n 1, 1) := by decide +kernel
theorem dX12_firstRepeat_24 : decode cX12_firstRepeat 24 = .ok (.ireturn, 1) := by decide +kernel
theorem dX12_firstRepeat_25 : decode cX12_firstRepeat 25 = .ok (.iinc 1 1, 3) := by decide +kernel
theorem dX12_firstRepeat_28 : decode cX12_firstRepeat 28 = .ok (.goto (-26), 3) := by decide +kernel
theorem dX12_firstRepeat_31 : decode cX12_firstRepeat 31 = .ok (.bipush (-2), 2) := by decide +kernel
theorem dX12_firstRepeat_33 : decode cX12_firstRepeat 33 = .ok (.ireturn, 1) := by decide +kernel
theorem dX12_isDeBruijn_0 : decode cX12_isDeBruijn 0 = .ok (.aload_n 0, 1) := by decide +kernel
theorem dX12_isDeBruijn_1 : decode cX12_isDeBruijn 1 = .ok (.getfield 75, 3) := by decide +kernel
theorem dX12_isDeBruijn_4 : decode cX12_isDeBruijn 4 = .ok (.aload_n 0, 1) := by decide +kernel
theorem dX12_isDeBruijn_5 : decode cX12_isDeBruijn 5 = .ok (.invokevirtual 67, 3) := by decide +kernel
theorem dX12_isDeBruijn_8 : decode cX12_isDeBruijn 8 = .ok (.if_icmp .ne 18, 3) := by decide +kernel
theorem dX12_isDeBruijn_11 : decode cX12_isDeBruijn 11 = .ok (.aload_n 0, 1) := by decide +kernel
theorem dX12_isDeBruijn_12 : decode cX12_isDeBruijn 12 = .ok (.invokevirtual 220, 3) := by decide +kernel
theorem dX12_isDeBruijn_15 : decode cX12_isDeBruijn 15 = .ok (.aload_n 0, 1) := by decide +kernel
theorem dX12_isDeBruijn_16 : decode cX12_isDeBruijn 16 = .ok (.invokevirtual 67, 3) := by decide +kernel
theorem dX12_isDeBruijn_19 : decode cX12_isDeBruijn 19 = .ok (.if_icmp .ne 7, 3) := by decide +kernel
theorem dX12_isDeBruijn_22 : decode cX12_isDeBruijn 22 = .ok (.iconst 1, 1) := by decide +kernel
theorem dX12_isDeBruijn_23 : decode cX12_isDeBruijn 23 = .ok (.goto 4, 3) := by decide +kernel
theorem dX12_isDeBruijn_26 : decode cX12_isDeBruijn 26 = .ok (.iconst 0, 1) := by decide +kernel
theorem dX12_isDeBruijn_27 : decode cX12_isDeBruijn 27 = .ok (.ireturn, 1) := by decide +kernel
theorem dX12_successorLetter_0 : decode cX12_successorLetter 0 = .ok (.aload_n 0, 1) := by decide +kernel
theorem dX12_successorLetter_1 : decode cX12_successorLetter 1 = .ok (.iload_n 1, 1) := by decide +kernel
theorem dX12_successorLetter_2 : decode cX12_successorLetter 2 = .ok (.invokevirtual 205, 3) := by decide +kernel
theorem dX12_successorLetter_5 : decode cX12_successorLetter 5 = .ok (.ifCond .eq 11, 3) := by decide +kernel
theorem dX12_successorLetter_8 : decode cX12_successorLetter 8 = .ok (.aload_n 0, 1) := by decide +kernel
theorem dX12_successorLetter_9 : decode cX12_successorLetter 9 = .ok (.iload_n 1, 1) := by decide +kernel
theorem dX12_successorLetter_10 : decode cX12_successorLetter 10 = .ok (.invokevirtual 127, 3) := by decide +kernel
theorem dX12_successorLetter_13 : decode cX12_successorLetter 13 = .ok (.goto 4, 3) := by decide +kernel
theorem dX12_successorLetter_16 : decode cX12_successorLetter 16 = .ok (.iconst (-1), 1) := by decide +kernel
theorem dX12_successorLetter_17 : decode cX12_successorLetter 17 = .ok (.ireturn, 1) := by decide +kernel
theorem dX12_follow_0 : decode cX12_follow 0 = .ok (.aload_n 0, 1) := by decide +kernel
theorem dX12_follow_1 : decode cX12_follow 1 = .ok (.iload_n 1, 1) := by decide +kernel
theorem dX12_follow_2 : decode cX12_follow 2 = .ok (.invokevirtual 205, 3) := by decide +kernel
theorem dX12_follow_5 : decode cX12_follow 5 = .ok (.ifCond .eq 14, 3) := by decide +kernel
theorem dX12_follow_8 : decode cX12_follow 8 = .ok (.iload_n 2, 1) := by decide +kernel
theorem dX12_follow_9 : decode cX12_follow 9 = .ok (.iconst 0, 1) := by decide +kernel
theorem dX12_follow_10 : decode cX12_follow 10 = .ok (.sipush 300, 3) := by decide +kernel
theorem dX12_follow_13 : decode cX12_follow 13 = .ok (.invokestatic 71, 3) := by decide +kernel
theorem dX12_follow_16 : decode cX12_follow 16 = .ok (.ifCond .ne 5, 3) := by decide +kernel
theorem dX12_follow_19 : decode cX12_follow 19 = .ok (.iconst (-1), 1) := by decide +kernel
theorem dX12_follow_20 : decode cX12_follow 20 = .ok (.ireturn, 1) := by decide +kernel
theorem dX12_follow_21 : decode cX12_follow 21 = .ok (.iload_n 1, 1) := by decide +kernel
theorem dX12_follow_22 : decode cX12_follow 22 = .ok (.istore_n 3, 1) := by decide +kernel
theorem dX12_follow_23 : decode cX12_follow 23 = .ok (.iconst 0, 1) := by decide +kernel
theorem dX12_follow_24 : decode cX12_follow 24 = .ok (.istore 4, 2) := by decide +kernel
theorem dX12_follow_26 : decode cX12_follow 26 = .ok (.iload 4, 2) := by decide +kernel
theorem dX12_follow_28 : decode cX12_follow 28 = .ok (.iload_n 2, 1) := by decide +kernel
theorem dX12_follow_29 : decode cX12_follow 29 = .ok (.if_icmp .ge 15, 3) := by decide +kernel
theorem dX12_follow_32 : decode cX12_follow 32 = .ok (.aload_n 0, 1) := by decide +kernel
theorem dX12_follow_33 : decode cX12_follow 33 = .ok (.iload_n 3, 1) := by decide +kernel
theorem dX12_follow_34 : decode cX12_follow 34 = .ok (.invokevirtual 131, 3) := by decide +kernel
theorem dX12_follow_37 : decode cX12_follow 37 = .ok (.istore_n 3, 1) := by decide +kernel
theorem dX12_follow_38 : decode cX12_follow 38 = .ok (.iinc 4 1, 3) := by decide +kernel
theorem dX12_follow_41 : decode cX12_follow 41 = .ok (.goto (-15), 3) := by decide +kernel
theorem dX12_follow_44 : decode cX12_follow 44 = .ok (.iload_n 3, 1) := by decide +kernel
theorem dX12_follow_45 : decode cX12_follow 45 = .ok (.ireturn, 1) := by decide +kernel
theorem dX12_isNecklace_0 : decode cX12_isNecklace 0 = .ok (.aload_n 0, 1) := by decide +kernel
theorem dX12_isNecklace_1 : decode cX12_isNecklace 1 = .ok (.iload_n 1, 1) := by decide +kernel
theorem dX12_isNecklace_2 : decode cX12_isNecklace 2 = .ok (.invokevirtual 205, 3) := by decide +kernel
theorem dX12_isNecklace_5 : decode cX12_isNecklace 5 = .ok (.ifCond .ne 7, 3) := by decide +kernel
theorem dX12_isNecklace_8 : decode cX12_isNecklace 8 = .ok (.iconst (-1), 1) := by decide +kernel
theorem dX12_isNecklace_9 : decode cX12_isNecklace 9 = .ok (.goto 21, 3) := by decide +kernel
theorem dX12_isNecklace_12 : decode cX12_isNecklace 12 = .ok (.aload_n 0, 1) := by decide +kernel
theorem dX12_isNecklace_13 : decode cX12_isNecklace 13 = .ok (.iload_n 1, 1) := by decide +kernel
theorem dX12_isNecklace_14 : decode cX12_isNecklace 14 = .ok (.aload_n 0, 1) := by decide +kernel
theorem dX12_isNecklace_15 : decode cX12_isNecklace 15 = .ok (.getfield 13, 3) := by decide +kernel
theorem dX12_isNecklace_18 : decode cX12_isNecklace 18 = .ok (.invokevirtual 105, 3) := by decide +kernel
theorem dX12_isNecklace_21 : decode cX12_isNecklace 21 = .ok (.iload_n 1, 1) := by decide +kernel
theorem dX12_isNecklace_22 : decode cX12_isNecklace 22 = .ok (.if_icmp .ne 7, 3) := by decide +kernel
theorem dX12_isNecklace_25 : decode cX12_isNecklace 25 = .ok (.iconst 1, 1) := by decide +kernel
theorem dX12_isNecklace_26 : decode cX12_isNecklace 26 = .ok (.goto 4, 3) := by decide +kernel
theorem dX12_isNecklace_29 : decode cX12_isNecklace 29 = .ok (.iconst 0, 1) := by decide +kernel
theorem dX12_isNecklace_30 : decode cX12_isNecklace 30 = .ok (.ireturn, 1) := by decide +kernel
theorem dX12_necklaceOf_0 : decode cX12_necklaceOf 0 = .ok (.aload_n 0, 1) := by decide +kernel
theorem dX12_necklaceOf_1 : decode cX12_necklaceOf 1 = .ok (.iload_n 1, 1) := by decide +kernel
theorem dX12_necklaceOf_2 : decode cX12_necklaceOf 2 = .ok (.invokevirtual 205, 3) := by decide +kernel
theorem dX12_necklaceOf_5 : decode cX12_necklaceOf 5 = .ok (.ifCond .eq 15, 3) := by decide +kernel
theorem dX12_necklaceOf_8 : decode cX12_necklaceOf 8 = .ok (.aload_n 0, 1) := by decide +kernel
theorem dX12_necklaceOf_9 : decode cX12_necklaceOf 9 = .ok (.iload_n 1, 1) := by decide +kernel
theorem dX12_necklaceOf_10 : decode cX12_necklaceOf 10 = .ok (.aload_n 0, 1) := by decide +kernel
theorem dX12_necklaceOf_11 : decode cX12_necklaceOf 11 = .ok (.getfield 13, 3) := by decide +kernel
theorem dX12_necklaceOf_14 : decode cX12_necklaceOf 14 = .ok (.invokevirtual 105, 3) := by decide +kernel
theorem dX12_necklaceOf_17 : decode cX12_necklaceOf 17 = .ok (.goto 4, 3) := by decide +kernel
theorem dX12_necklaceOf_20 : decode cX12_necklaceOf 20 = .ok (.iconst (-1), 1) := by decide +kernel
theorem dX12_necklaceOf_21 : decode cX12_necklaceOf 21 = .ok (.ireturn, 1) := by decide +kernel
theorem dX12_rotationCount_0 : decode cX12_rotationCount 0 = .ok (.aload_n 0, 1) := by decide +kernel
theorem dX12_rotationCount_1 : decode cX12_rotationCount 1 = .ok (.iload_n 1, 1) := by decide +kernel
theorem dX12_rotationCount_2 : decode cX12_rotationCount 2 = .ok (.invokevirtual 205, 3) := by decide +kernel
theorem dX12_rotationCount_5 : decode cX12_rotationCount 5 = .ok (.ifCond .eq 15, 3) := by decide +kernel
theorem dX12_rotationCount_8 : decode cX12_rotationCount 8 = .ok (.aload_n 0, 1) := by decide +kernel
theorem dX12_rotationCount_9 : decode cX12_rotationCount 9 = .ok (.iload_n 1, 1) := by decide +kernel
theorem dX12_rotationCount_10 : decode cX12_rotationCount 10 = .ok (.aload_n 0, 1) := by decide +kernel
theorem dX12_rotationCount_11 : decode cX12_rotationCount 11 = .ok (.getfield 13, 3) := by decide +kernel
theorem dX12_rotationCount_14 : decode cX12_rotationCount 14 = .ok (.invokevirtual 108, 3) := by decide +kernel
theorem dX12_rotationCount_17 : decode cX12_rotationCount 17 = .ok (.goto 4, 3) := by decide +kernel
theorem dX12_rotationCount_20 : decode cX12_rotationCount 20 = .ok (.iconst (-1), 1) := by decide +kernel
theorem dX12_rotationCount_21 : decode cX12_rotationCount 21 = .ok (.ireturn, 1) := by decide +kernel
theorem dX12_necklace_0 : decode cX12_necklace 0 = .ok (.iload_n 1, 1) := by decide +kernel
theorem dX12_necklace_1 : decode cX12_necklace 1 = .ok (.istore_n 2, 1) := by decide +kernel
theorem dX12_necklace_2 : decode cX12_necklace 2 = .ok (.iconst 0, 1) := by decide +kernel
theorem dX12_necklace_3 : decode cX12_necklace 3 = .ok (.istore_n 3, 1) := by decide +kernel
theorem dX12_necklace_4 : decode cX12_necklace 4 = .ok (.iload_n 3, 1) := by decide +kernel
theorem dX12_necklace_5 : decode cX12_necklace 5 = .ok (.aload_n 0, 1) := by decide +kernel
theorem dX12_necklace_6 : decode cX12_necklace 6 = .ok (.invokevirtual 67, 3) := by decide +kernel
theorem dX12_necklace_9 : decode cX12_necklace 9 = .ok (.if_icmp .ge 35, 3) := by decide +kernel
theorem dX12_necklace_12 : decode cX12_necklace 12 = .ok (.iload_n 1, 1) := by decide +kernel
theorem dX12_necklace_13 : decode cX12_necklace 13 = .ok (.ifCond .lt 31, 3) := by decide +kernel
theorem dX12_necklace_16 : decode cX12_necklace 16 = .ok (.aload_n 0, 1) := by decide +kernel
theorem dX12_necklace_17 : decode cX12_necklace 17 = .ok (.iload_n 3, 1) := by decide +kernel
theorem dX12_necklace_18 : decode cX12_necklace 18 = .ok (.aload_n 0, 1) := by decide +kernel
theorem dX12_necklace_19 : decode cX12_necklace 19 = .ok (.getfield 13, 3) := by decide +kernel
theorem dX12_necklace_22 : decode cX12_necklace 22 = .ok (.invokevirtual 105, 3) := by decide +kernel
theorem dX12_necklace_25 : decode cX12_necklace 25 = .ok (.iload_n 3, 1) := by decide +kernel
theorem dX12_necklace_26 : decode cX12_necklace 26 = .ok (.if_icmp .ne 12, 3) := by decide +kernel
theorem dX12_necklace_29 : decode cX12_necklace 29 = .ok (.iload_n 2, 1) := by decide +kernel
theorem dX12_necklace_30 : decode cX12_necklace 30 = .ok (.ifCond .ne 5, 3) := by decide +kernel
theorem dX12_necklace_33 : decode cX12_necklace 33 = .ok (.iload_n 3, 1) := by decide +kernel
theorem dX12_necklace_34 : decode cX12_necklace 34 = .ok (.ireturn, 1) := by decide +kernel
theorem dX12_necklace_35 : decode cX12_necklace 35 = .ok (.iinc 2 (-1), 3) := by decide +kernel
theorem dX12_necklace_38 : decode cX12_necklace 38 = .ok (.iinc 3 1, 3) := by decide +kernel
theorem dX12_necklace_41 : decode cX12_necklace 41 = .ok (.goto (-37), 3) := by decide +kernel
theorem dX12_necklace_44 : decode cX12_necklace 44 = .ok (.bipush (-2), 2) := by decide +kernel
theorem dX12_necklace_46 : decode cX12_necklace 46 = .ok (.ireturn, 1) := by decide +kernel
theorem dX12_lyndonCount_0 : decode cX12_lyndonCount 0 = .ok (.iload_n 1, 1) := by decide +kernel
theorem dX12_lyndonCount_1 : decode cX12_lyndonCount 1 = .ok (.iconst 1, 1) := by decide +kernel
theorem dX12_lyndonCount_2 : decode cX12_lyndonCount 2 = .ok (.aload_n 0, 1) := by decide +kernel
theorem dX12_lyndonCount_3 : decode cX12_lyndonCount 3 = .ok (.getfield 13, 3) := by decide +kernel
theorem dX12_lyndonCount_6 : decode cX12_lyndonCount 6 = .ok (.invokestatic 71, 3) := by decide +kernel
theorem dX12_lyndonCount_9 : decode cX12_lyndonCount 9 = .ok (.ifCond .ne 5, 3) := by decide +kernel
theorem dX12_lyndonCount_12 : decode cX12_lyndonCount 12 = .ok (.iconst (-1), 1) := by decide +kernel
theorem dX12_lyndonCount_13 : decode cX12_lyndonCount 13 = .ok (.ireturn, 1) := by decide +kernel
theorem dX12_lyndonCount_14 : decode cX12_lyndonCount 14 = .ok (.iconst 0, 1) := by decide +kernel
theorem dX12_lyndonCount_15 : decode cX12_lyndonCount 15 = .ok (.istore_n 2, 1) := by decide +kernel
theorem dX12_lyndonCount_16 : decode cX12_lyndonCount 16 = .ok (.iconst 0, 1) := by decide +kernel
theorem dX12_lyndonCount_17 : decode cX12_lyndonCount 17 = .ok (.istore_n 3, 1) := by decide +kernel
theorem dX12_lyndonCount_18 : decode cX12_lyndonCount 18 = .ok (.iload_n 3, 1) := by decide +kernel
theorem dX12_lyndonCount_19 : decode cX12_lyndonCount 19 = .ok (.aload_n 0, 1) := by decide +kernel
theorem dX12_lyndonCount_20 : decode cX12_lyndonCount 20 = .ok (.getfield 7, 3) := by decide +kernel
theorem dX12_lyndonCount_23 : decode cX12_lyndonCount 23 = .ok (.iload_n 1, 1) := by decide +kernel
theorem dX12_lyndonCount_24 : decode cX12_lyndonCount 24 = .ok (.invokestatic 63, 3) := by decide +kernel
theorem dX12_lyndonCount_27 : decode cX12_lyndonCount 27 = .ok (.if_icmp .ge 26, 3) := by decide +kernel
theorem dX12_lyndonCount_30 : decode cX12_lyndonCount 30 = .ok (.iload_n 2, 1) := by decide +kernel
theorem dX12_lyndonCount_31 : decode cX12_lyndonCount 31 = .ok (.aload_n 0, 1) := by decide +kernel
theorem dX12_lyndonCount_32 : decode cX12_lyndonCount 32 = .ok (.iload_n 3, 1) := by decide +kernel
theorem dX12_lyndonCount_33 : decode cX12_lyndonCount 33 = .ok (.iload_n 1, 1) := by decide +kernel
theorem dX12_lyndonCount_34 : decode cX12_lyndonCount 34 = .ok (.invokevirtual 119, 3) := by decide +kernel
theorem dX12_lyndonCount_37 : decode cX12_lyndonCount 37 = .ok (.ifCond .eq 7, 3) := by decide +kernel
theorem dX12_lyndonCount_40 : decode cX12_lyndonCount 40 = .ok (.iconst 1, 1) := by decide +kernel
theorem dX12_lyndonCount_41 : decode cX12_lyndonCount 41 = .ok (.goto 4, 3) := by decide +kernel
theorem dX12_lyndonCount_44 : decode cX12_lyndonCount 44 = .ok (.iconst 0, 1) := by decide +kernel
theorem dX12_lyndonCount_45 : decode cX12_lyndonCount 45 = .ok (.iadd, 1) := by decide +kernel
theorem dX12_lyndonCount_46 : decode cX12_lyndonCount 46 = .ok (.istore_n 2, 1) := by decide +kernel
theorem dX12_lyndonCount_47 : decode cX12_lyndonCount 47 = .ok (.iinc 3 1, 3) := by decide +kernel
theorem dX12_lyndonCount_50 : decode cX12_lyndonCount 50 = .ok (.goto (-32), 3) := by decide +kernel
theorem dX12_lyndonCount_53 : decode cX12_lyndonCount 53 = .ok (.iload_n 2, 1) := by decide +kernel
theorem dX12_lyndonCount_54 : decode cX12_lyndonCount 54 = .ok (.ireturn, 1) := by decide +kernel
theorem dX12_lyndonWord_0 : decode cX12_lyndonWord 0 = .ok (.iload_n 1, 1) := by decide +kernel
theorem dX12_lyndonWord_1 : decode cX12_lyndonWord 1 = .ok (.iconst 1, 1) := by decide +kernel
theorem dX12_lyndonWord_2 : decode cX12_lyndonWord 2 = .ok (.aload_n 0, 1) := by decide +kernel
theorem dX12_lyndonWord_3 : decode cX12_lyndonWord 3 = .ok (.getfield 13, 3) := by decide +kernel
theorem dX12_lyndonWord_6 : decode cX12_lyndonWord 6 = .ok (.invokestatic 71, 3) := by decide +kernel
theorem dX12_lyndonWord_9 : decode cX12_lyndonWord 9 = .ok (.ifCond .ne 5, 3) := by decide +kernel
theorem dX12_lyndonWord_12 : decode cX12_lyndonWord 12 = .ok (.iconst (-1), 1) := by decide +kernel
theorem dX12_lyndonWord_13 : decode cX12_lyndonWord 13 = .ok (.ireturn, 1) := by decide +kernel
theorem dX12_lyndonWord_14 : decode cX12_lyndonWord 14 = .ok (.iload_n 2, 1) := by decide +kernel
theorem dX12_lyndonWord_15 : decode cX12_lyndonWord 15 = .ok (.istore_n 3, 1) := by decide +kernel
theorem dX12_lyndonWord_16 : decode cX12_lyndonWord 16 = .ok (.iconst 0, 1) := by decide +kernel
theorem dX12_lyndonWord_17 : decode cX12_lyndonWord 17 = .ok (.istore 4, 2) := by decide +kernel
theorem dX12_lyndonWord_19 : decode cX12_lyndonWord 19 = .ok (.iload 4, 2) := by decide +kernel
theorem dX12_lyndonWord_21 : decode cX12_lyndonWord 21 = .ok (.aload_n 0, 1) := by decide +kernel
theorem dX12_lyndonWord_22 : decode cX12_lyndonWord 22 = .ok (.getfield 7, 3) := by decide +kernel
theorem dX12_lyndonWord_25 : decode cX12_lyndonWord 25 = .ok (.iload_n 1, 1) := by decide +kernel
theorem dX12_lyndonWord_26 : decode cX12_lyndonWord 26 = .ok (.invokestatic 63, 3) := by decide +kernel
theorem dX12_lyndonWord_29 : decode cX12_lyndonWord 29 = .ok (.if_icmp .ge 33, 3) := by decide +kernel
theorem dX12_lyndonWord_32 : decode cX12_lyndonWord 32 = .ok (.iload_n 2, 1) := by decide +kernel
theorem dX12_lyndonWord_33 : decode cX12_lyndonWord 33 = .ok (.ifCond .lt 29, 3) := by decide +kernel
theorem dX12_lyndonWord_36 : decode cX12_lyndonWord 36 = .ok (.aload_n 0, 1) := by decide +kernel
theorem dX12_lyndonWord_37 : decode cX12_lyndonWord 37 = .ok (.iload 4, 2) := by decide +kernel
theorem dX12_lyndonWord_39 : decode cX12_lyndonWord 39 = .ok (.iload_n 1, 1) := by decide +kernel
theorem dX12_lyndonWord_40 : decode cX12_lyndonWord 40 = .ok (.invokevirtual 119, 3) := by decide +kernel
theorem dX12_lyndonWord_43 : decode cX12_lyndonWord 43 = .ok (.ifCond .eq 13, 3) := by decide +kernel
theorem dX12_lyndonWord_46 : decode cX12_lyndonWord 46 = .ok (.iload_n 3, 1) := by decide +kernel
theorem dX12_lyndonWord_47 : decode cX12_lyndonWord 47 = .ok (.ifCond .ne 6, 3) := by decide +kernel
theorem dX12_lyndonWord_50 : decode cX12_lyndonWord 50 = .ok (.iload 4, 2) := by decide +kernel
theorem dX12_lyndonWord_52 : decode cX12_lyndonWord 52 = .ok (.ireturn, 1) := by decide +kernel
theorem dX12_lyndonWord_53 : decode cX12_lyndonWord 53 = .ok (.iinc 3 (-1), 3) := by decide +kernel
theorem dX12_lyndonWord_56 : decode cX12_lyndonWord 56 = .ok (.iinc 4 1, 3) := by decide +kernel
theorem dX12_lyndonWord_59 : decode cX12_lyndonWord 59 = .ok (.goto (-40), 3) := by decide +kernel
theorem dX12_lyndonWord_62 : decode cX12_lyndonWord 62 = .ok (.bipush (-2), 2) := by decide +kernel
theorem dX12_lyndonWord_64 : decode cX12_lyndonWord 64 = .ok (.ireturn, 1) := by decide +kernel
theorem dX12_powerModulo_0 : decode cX12_powerModulo 0 = .ok (.lconst 1, 1) := by decide +kernel
theorem dX12_powerModulo_1 : decode cX12_powerModulo 1 = .ok (.lstore 5, 2) := by decide +kernel
theorem dX12_powerModulo_3 : decode cX12_powerModulo 3 = .ok (.iconst 0, 1) := by decide +kernel
theorem dX12_powerModulo_4 : decode cX12_powerModulo 4 = .ok (.istore 7, 2) := by decide +kernel
theorem dX12_powerModulo_6 : decode cX12_powerModulo 6 = .ok (.iload 7, 2) := by decide +kernel
theorem dX12_powerModulo_8 : decode cX12_powerModulo 8 = .ok (.iload_n 2, 1) := by decide +kernel
theorem dX12_powerModulo_9 : decode cX12_powerModulo 9 = .ok (.if_icmp .ge 17, 3) := by decide +kernel
theorem dX12_powerModulo_12 : decode cX12_powerModulo 12 = .ok (.lload 5, 2) := by decide +kernel
theorem dX12_powerModulo_14 : decode cX12_powerModulo 14 = .ok (.lload_n 0, 1) := by decide +kernel
theorem dX12_powerModulo_15 : decode cX12_powerModulo 15 = .ok (.lmul, 1) := by decide +kernel
theorem dX12_powerModulo_16 : decode cX12_powerModulo 16 = .ok (.lload_n 3, 1) := by decide +kernel
theorem dX12_powerModulo_17 : decode cX12_powerModulo 17 = .ok (.lrem, 1) := by decide +kernel
theorem dX12_powerModulo_18 : decode cX12_powerModulo 18 = .ok (.lstore 5, 2) := by decide +kernel
theorem dX12_powerModulo_20 : decode cX12_powerModulo 20 = .ok (.iinc 7 1, 3) := by decide +kernel
theorem dX12_powerModulo_23 : decode cX12_powerModulo 23 = .ok (.goto (-17), 3) := by decide +kernel
theorem dX12_powerModulo_26 : decode cX12_powerModulo 26 = .ok (.lload 5, 2) := by decide +kernel
theorem dX12_powerModulo_28 : decode cX12_powerModulo 28 = .ok (.lreturn, 1) := by decide +kernel
theorem dX12_countModulo_0 : decode cX12_countModulo 0 = .ok (.iload_n 1, 1) := by decide +kernel
theorem dX12_countModulo_1 : decode cX12_countModulo 1 = .ok (.iconst 2, 1) := by decide +kernel
theorem dX12_countModulo_2 : decode cX12_countModulo 2 = .ok (.ldc 223, 2) := by decide +kernel
theorem dX12_countModulo_4 : decode cX12_countModulo 4 = .ok (.invokestatic 71, 3) := by decide +kernel
theorem dX12_countModulo_7 : decode cX12_countModulo 7 = .ok (.ifCond .ne 5, 3) := by decide +kernel
theorem dX12_countModulo_10 : decode cX12_countModulo 10 = .ok (.iconst (-1), 1) := by decide +kernel
theorem dX12_countModulo_11 : decode cX12_countModulo 11 = .ok (.ireturn, 1) := by decide +kernel
theorem dX12_countModulo_12 : decode cX12_countModulo 12 = .ok (.aload_n 0, 1) := by decide +kernel
theorem dX12_countModulo_13 : decode cX12_countModulo 13 = .ok (.getfield 7, 3) := by decide +kernel
theorem dX12_countModulo_16 : decode cX12_countModulo 16 = .ok (.aload_n 0, 1) := by decide +kernel
theorem dX12_countModulo_17 : decode cX12_countModulo 17 = .ok (.getfield 13, 3) := by decide +kernel
theorem dX12_countModulo_20 : decode cX12_countModulo 20 = .ok (.iconst 1, 1) := by decide +kernel
theorem dX12_countModulo_21 : decode cX12_countModulo 21 = .ok (.isub, 1) := by decide +kernel
theorem dX12_countModulo_22 : decode cX12_countModulo 22 = .ok (.invokestatic 63, 3) := by decide +kernel
theorem dX12_countModulo_25 : decode cX12_countModulo 25 = .ok (.istore_n 2, 1) := by decide +kernel
theorem dX12_countModulo_26 : decode cX12_countModulo 26 = .ok (.aload_n 0, 1) := by decide +kernel
theorem dX12_countModulo_27 : decode cX12_countModulo 27 = .ok (.getfield 7, 3) := by decide +kernel
theorem dX12_countModulo_30 : decode cX12_countModulo 30 = .ok (.iconst 2, 1) := by decide +kernel
theorem dX12_countModulo_31 : decode cX12_countModulo 31 = .ok (.if_icmp .ne 7, 3) := by decide +kernel
theorem dX12_countModulo_34 : decode cX12_countModulo 34 = .ok (.lconst 1, 1) := by decide +kernel
theorem dX12_countModulo_35 : decode cX12_countModulo 35 = .ok (.goto 20, 3) := by decide +kernel
theorem dX12_countModulo_38 : decode cX12_countModulo 38 = .ok (.aload_n 0, 1) := by decide +kernel
theorem dX12_countModulo_39 : decode cX12_countModulo 39 = .ok (.getfield 7, 3) := by decide +kernel
theorem dX12_countModulo_42 : decode cX12_countModulo 42 = .ok (.iconst 3, 1) := by decide +kernel
theorem dX12_countModulo_43 : decode cX12_countModulo 43 = .ok (.if_icmp .ne 9, 3) := by decide +kernel
theorem dX12_countModulo_46 : decode cX12_countModulo 46 = .ok (.ldc2_w 224, 3) := by decide +kernel
theorem dX12_countModulo_49 : decode cX12_countModulo 49 = .ok (.goto 6, 3) := by decide +kernel
theorem dX12_countModulo_52 : decode cX12_countModulo 52 = .ok (.ldc2_w 226, 3) := by decide +kernel
theorem dX12_countModulo_55 : decode cX12_countModulo 55 = .ok (.lstore_n 3, 1) := by decide +kernel
theorem dX12_countModulo_56 : decode cX12_countModulo 56 = .ok (.lload_n 3, 1) := by decide +kernel
theorem dX12_countModulo_57 : decode cX12_countModulo 57 = .ok (.iload_n 2, 1) := by decide +kernel
theorem dX12_countModulo_58 : decode cX12_countModulo 58 = .ok (.iload_n 1, 1) := by decide +kernel
theorem dX12_countModulo_59 : decode cX12_countModulo 59 = .ok (.i2l, 1) := by decide +kernel
theorem dX12_countModulo_60 : decode cX12_countModulo 60 = .ok (.invokestatic 228, 3) := by decide +kernel
theorem dX12_countModulo_63 : decode cX12_countModulo 63 = .ok (.aload_n 0, 1) := by decide +kernel
theorem dX12_countModulo_64 : decode cX12_countModulo 64 = .ok (.getfield 7, 3) := by decide +kernel
theorem dX12_countModulo_67 : decode cX12_countModulo 67 = .ok (.i2l, 1) := by decide +kernel
theorem dX12_countModulo_68 : decode cX12_countModulo 68 = .ok (.iload_n 2, 1) := by decide +kernel
theorem dX12_countModulo_69 : decode cX12_countModulo 69 = .ok (.aload_n 0, 1) := by decide +kernel
theorem dX12_countModulo_70 : decode cX12_countModulo 70 = .ok (.getfield 13, 3) := by decide +kernel
theorem dX12_countModulo_73 : decode cX12_countModulo 73 = .ok (.isub, 1) := by decide +kernel
theorem dX12_countModulo_74 : decode cX12_countModulo 74 = .ok (.iload_n 1, 1) := by decide +kernel
theorem dX12_countModulo_75 : decode cX12_countModulo 75 = .ok (.i2l, 1) := by decide +kernel
theorem dX12_countModulo_76 : decode cX12_countModulo 76 = .ok (.invokestatic 228, 3) := by decide +kernel
theorem dX12_countModulo_79 : decode cX12_countModulo 79 = .ok (.lmul, 1) := by decide +kernel
theorem dX12_countModulo_80 : decode cX12_countModulo 80 = .ok (.iload_n 1, 1) := by decide +kernel
theorem dX12_countModulo_81 : decode cX12_countModulo 81 = .ok (.i2l, 1) := by decide +kernel
theorem dX12_countModulo_82 : decode cX12_countModulo 82 = .ok (.lrem, 1) := by decide +kernel
theorem dX12_countModulo_83 : decode cX12_countModulo 83 = .ok (.l2i, 1) := by decide +kernel
theorem dX12_countModulo_84 : decode cX12_countModulo 84 = .ok (.ireturn, 1) := by decide +kernel
theorem dX12_isConstant_0 : decode cX12_isConstant 0 = .ok (.iconst 1, 1) := by decide +kernel
theorem dX12_isConstant_1 : decode cX12_isConstant 1 = .ok (.istore_n 1, 1) := by decide +kernel
theorem dX12_isConstant_2 : decode cX12_isConstant 2 = .ok (.iconst 0, 1) := by decide +kernel
theorem dX12_isConstant_3 : decode cX12_isConstant 3 = .ok (.istore_n 2, 1) := by decide +kernel
theorem dX12_isConstant_4 : decode cX12_isConstant 4 = .ok (.iload_n 2, 1) := by decide +kernel
theorem dX12_isConstant_5 : decode cX12_isConstant 5 = .ok (.aload_n 0, 1) := by decide +kernel
theorem dX12_isConstant_6 : decode cX12_isConstant 6 = .ok (.getfield 75, 3) := by decide +kernel
theorem dX12_isConstant_9 : decode cX12_isConstant 9 = .ok (.if_icmp .ge 34, 3) := by decide +kernel
theorem dX12_isConstant_12 : decode cX12_isConstant 12 = .ok (.iload_n 1, 1) := by decide +kernel
theorem dX12_isConstant_13 : decode cX12_isConstant 13 = .ok (.ifCond .eq 22, 3) := by decide +kernel
theorem dX12_isConstant_16 : decode cX12_isConstant 16 = .ok (.aload_n 0, 1) := by decide +kernel
theorem dX12_isConstant_17 : decode cX12_isConstant 17 = .ok (.getfield 16, 3) := by decide +kernel
theorem dX12_isConstant_20 : decode cX12_isConstant 20 = .ok (.iload_n 2, 1) := by decide +kernel
theorem dX12_isConstant_21 : decode cX12_isConstant 21 = .ok (.iaload, 1) := by decide +kernel
theorem dX12_isConstant_22 : decode cX12_isConstant 22 = .ok (.aload_n 0, 1) := by decide +kernel
theorem dX12_isConstant_23 : decode cX12_isConstant 23 = .ok (.getfield 16, 3) := by decide +kernel
theorem dX12_isConstant_26 : decode cX12_isConstant 26 = .ok (.iconst 0, 1) := by decide +kernel
theorem dX12_isConstant_27 : decode cX12_isConstant 27 = .ok (.iaload, 1) := by decide +kernel
theorem dX12_isConstant_28 : decode cX12_isConstant 28 = .ok (.if_icmp .ne 7, 3) := by decide +kernel
theorem dX12_isConstant_31 : decode cX12_isConstant 31 = .ok (.iconst 1, 1) := by decide +kernel
theorem dX12_isConstant_32 : decode cX12_isConstant 32 = .ok (.goto 4, 3) := by decide +kernel
theorem dX12_isConstant_35 : decode cX12_isConstant 35 = .ok (.iconst 0, 1) := by decide +kernel
theorem dX12_isConstant_36 : decode cX12_isConstant 36 = .ok (.istore_n 1, 1) := by decide +kernel
theorem dX12_isConstant_37 : decode cX12_isConstant 37 = .ok (.iinc 2 1, 3) := by decide +kernel
theorem dX12_isConstant_40 : decode cX12_isConstant 40 = .ok (.goto (-36), 3) := by decide +kernel
theorem dX12_isConstant_43 : decode cX12_isConstant 43 = .ok (.iload_n 1, 1) := by decide +kernel
theorem dX12_isConstant_44 : decode cX12_isConstant 44 = .ok (.ireturn, 1) := by decide +kernel
theorem dX12_runCount_0 : decode cX12_runCount 0 = .ok (.aload_n 0, 1) := by decide +kernel
theorem dX12_runCount_1 : decode cX12_runCount 1 = .ok (.iload_n 1, 1) := by decide +kernel
theorem dX12_runCount_2 : decode cX12_runCount 2 = .ok (.invokevirtual 175, 3) := by decide +kernel
theorem dX12_runCount_5 : decode cX12_runCount 5 = .ok (.ifCond .eq 14, 3) := by decide +kernel
theorem dX12_runCount_8 : decode cX12_runCount 8 = .ok (.iload_n 2, 1) := by decide +kernel
theorem dX12_runCount_9 : decode cX12_runCount 9 = .ok (.iconst 1, 1) := by decide +kernel
theorem dX12_runCount_10 : decode cX12_runCount 10 = .ok (.sipush 256, 3) := by decide +kernel
theorem dX12_runCount_13 : decode cX12_runCount 13 = .ok (.invokestatic 71, 3) := by decide +kernel
theorem dX12_runCount_16 : decode cX12_runCount 16 = .ok (.ifCond .ne 5, 3) := by decide +kernel
theorem dX12_runCount_19 : decode cX12_runCount 19 = .ok (.iconst (-1), 1) := by decide +kernel
theorem dX12_runCount_20 : decode cX12_runCount 20 = .ok (.ireturn, 1) := by decide +kernel
theorem dX12_runCount_21 : decode cX12_runCount 21 = .ok (.aload_n 0, 1) := by decide +kernel
theorem dX12_runCount_22 : decode cX12_runCount 22 = .ok (.invokevirtual 232, 3) := by decide +kernel
theorem dX12_runCount_25 : decode cX12_runCount 25 = .ok (.ifCond .eq 27, 3) := by decide +kernel
theorem dX12_runCount_28 : decode cX12_runCount 28 = .ok (.aload_n 0, 1) := by decide +kernel
theorem dX12_runCount_29 : decode cX12_runCount 29 = .ok (.getfield 75, 3) := by decide +kernel
theorem dX12_runCount_32 : decode cX12_runCount 32 = .ok (.iload_n 2, 1) := by decide +kernel
theorem dX12_runCount_33 : decode cX12_runCount 33 = .ok (.if_icmp .ne 17, 3) := by decide +kernel
theorem dX12_runCount_36 : decode cX12_runCount 36 = .ok (.aload_n 0, 1) := by decide +kernel
theorem dX12_runCount_37 : decode cX12_runCount 37 = .ok (.getfield 16, 3) := by decide +kernel
theorem dX12_runCount_40 : decode cX12_runCount 40 = .ok (.iconst 0, 1) := by decide +kernel
theorem dX12_runCount_41 : decode cX12_runCount 41 = .ok (.iaload, 1) := by decide +kernel
theorem dX12_runCount_42 : decode cX12_runCount 42 = .ok (.iload_n 1, 1) := by decide +kernel
theorem dX12_runCount_43 : decode cX12_runCount 43 = .ok (.if_icmp .ne 7, 3) := by decide +kernel
theorem dX12_runCount_46 : decode cX12_runCount 46 = .ok (.iconst 1, 1) := by decide +kernel
theorem dX12_runCount_47 : decode cX12_runCount 47 = .ok (.goto 4, 3) := by decide +kernel
theorem dX12_runCount_50 : decode cX12_runCount 50 = .ok (.iconst 0, 1) := by decide +kernel
theorem dX12_runCount_51 : decode cX12_runCount 51 = .ok (.ireturn, 1) := by decide +kernel
theorem dX12_runCount_52 : decode cX12_runCount 52 = .ok (.iconst 0, 1) := by decide +kernel
theorem dX12_runCount_53 : decode cX12_runCount 53 = .ok (.istore_n 3, 1) := by decide +kernel
theorem dX12_runCount_54 : decode cX12_runCount 54 = .ok (.iconst 0, 1) := by decide +kernel
theorem dX12_runCount_55 : decode cX12_runCount 55 = .ok (.istore 4, 2) := by decide +kernel
theorem dX12_runCount_57 : decode cX12_runCount 57 = .ok (.iload 4, 2) := by decide +kernel
theorem dX12_runCount_59 : decode cX12_runCount 59 = .ok (.aload_n 0, 1) := by decide +kernel
theorem dX12_runCount_60 : decode cX12_runCount 60 = .ok (.getfield 75, 3) := by decide +kernel
theorem dX12_runCount_63 : decode cX12_runCount 63 = .ok (.if_icmp .ge 70, 3) := by decide +kernel
theorem dX12_runCount_66 : decode cX12_runCount 66 = .ok (.aload_n 0, 1) := by decide +kernel
theorem dX12_runCount_67 : decode cX12_runCount 67 = .ok (.getfield 16, 3) := by decide +kernel
theorem dX12_runCount_70 : decode cX12_runCount 70 = .ok (.iload 4, 2) := by decide +kernel
theorem dX12_runCount_72 : decode cX12_runCount 72 = .ok (.iaload, 1) := by decide +kernel
theorem dX12_runCount_73 : decode cX12_runCount 73 = .ok (.iload_n 1, 1) := by decide +kernel
theorem dX12_runCount_74 : decode cX12_runCount 74 = .ok (.if_icmp .ne 53, 3) := by decide +kernel
theorem dX12_runCount_77 : decode cX12_runCount 77 = .ok (.aload_n 0, 1) := by decide +kernel
theorem dX12_runCount_78 : decode cX12_runCount 78 = .ok (.iload 4, 2) := by decide +kernel
theorem dX12_runCount_80 : decode cX12_runCount 80 = .ok (.iconst 1, 1) := by decide +kernel
theorem dX12_runCount_81 : decode cX12_runCount 81 = .ok (.isub, 1) := by decide +kernel
theorem dX12_runCount_82 : decode cX12_runCount 82 = .ok (.i2l, 1) := by decide +kernel
theorem dX12_runCount_83 : decode cX12_runCount 83 = .ok (.invokevirtual 185, 3) := by decide +kernel
theorem dX12_runCount_86 : decode cX12_runCount 86 = .ok (.iload_n 1, 1) := by decide +kernel
theorem dX12_runCount_87 : decode cX12_runCount 87 = .ok (.if_icmp .eq 40, 3) := by decide +kernel
theorem dX12_runCount_90 : decode cX12_runCount 90 = .ok (.iconst 1, 1) := by decide +kernel
theorem dX12_runCount_91 : decode cX12_runCount 91 = .ok (.istore 5, 2) := by decide +kernel
theorem dX12_runCount_93 : decode cX12_runCount 93 = .ok (.aload_n 0, 1) := by decide +kernel
theorem dX12_runCount_94 : decode cX12_runCount 94 = .ok (.iload 4, 2) := by decide +kernel
theorem dX12_runCount_96 : decode cX12_runCount 96 = .ok (.iload 5, 2) := by decide +kernel
theorem dX12_runCount_98 : decode cX12_runCount 98 = .ok (.iadd, 1) := by decide +kernel
theorem dX12_runCount_99 : decode cX12_runCount 99 = .ok (.i2l, 1) := by decide +kernel
theorem dX12_runCount_100 : decode cX12_runCount 100 = .ok (.invokevirtual 185, 3) := by decide +kernel
theorem dX12_runCount_103 : decode cX12_runCount 103 = .ok (.iload_n 1, 1) := by decide +kernel
theorem dX12_runCount_104 : decode cX12_runCount 104 = .ok (.if_icmp .ne 9, 3) := by decide +kernel
theorem dX12_runCount_107 : decode cX12_runCount 107 = .ok (.iinc 5 1, 3) := by decide +kernel
theorem dX12_runCount_110 : decode cX12_runCount 110 = .ok (.goto (-17), 3) := by decide +kernel
theorem dX12_runCount_113 : decode cX12_runCount 113 = .ok (.iload_n 3, 1) := by decide +kernel
theorem dX12_runCount_114 : decode cX12_runCount 114 = .ok (.iload 5, 2) := by decide +kernel
theorem dX12_runCount_116 : decode cX12_runCount 116 = .ok (.iload_n 2, 1) := by decide +kernel
theorem dX12_runCount_117 : decode cX12_runCount 117 = .ok (.if_icmp .ne 7, 3) := by decide +kernel
theorem dX12_runCount_120 : decode cX12_runCount 120 = .ok (.iconst 1, 1) := by decide +kernel
theorem dX12_runCount_121 : decode cX12_runCount 121 = .ok (.goto 4, 3) := by decide +kernel
theorem dX12_runCount_124 : decode cX12_runCount 124 = .ok (.iconst 0, 1) := by decide +kernel
theorem dX12_runCount_125 : decode cX12_runCount 125 = .ok (.iadd, 1) := by decide +kernel
theorem dX12_runCount_126 : decode cX12_runCount 126 = .ok (.istore_n 3, 1) := by decide +kernel
theorem dX12_runCount_127 : decode cX12_runCount 127 = .ok (.iinc 4 1, 3) := by decide +kernel
theorem dX12_runCount_130 : decode cX12_runCount 130 = .ok (.goto (-73), 3) := by decide +kernel
theorem dX12_runCount_133 : decode cX12_runCount 133 = .ok (.iload_n 3, 1) := by decide +kernel
theorem dX12_runCount_134 : decode cX12_runCount 134 = .ok (.ireturn, 1) := by decide +kernel
theorem dX12_discrepancy_0 : decode cX12_discrepancy 0 = .ok (.aload_n 0, 1) := by decide +kernel
theorem dX12_discrepancy_1 : decode cX12_discrepancy 1 = .ok (.iload_n 1, 1) := by decide +kernel
theorem dX12_discrepancy_2 : decode cX12_discrepancy 2 = .ok (.invokevirtual 175, 3) := by decide +kernel
theorem dX12_discrepancy_5 : decode cX12_discrepancy 5 = .ok (.ifCond .ne 5, 3) := by decide +kernel
theorem dX12_discrepancy_8 : decode cX12_discrepancy 8 = .ok (.iconst (-1), 1) := by decide +kernel
theorem dX12_discrepancy_9 : decode cX12_discrepancy 9 = .ok (.ireturn, 1) := by decide +kernel
theorem dX12_discrepancy_10 : decode cX12_discrepancy 10 = .ok (.iconst 0, 1) := by decide +kernel
theorem dX12_discrepancy_11 : decode cX12_discrepancy 11 = .ok (.istore_n 2, 1) := by decide +kernel
theorem dX12_discrepancy_12 : decode cX12_discrepancy 12 = .ok (.iconst 0, 1) := by decide +kernel
theorem dX12_discrepancy_13 : decode cX12_discrepancy 13 = .ok (.istore_n 3, 1) := by decide +kernel
theorem dX12_discrepancy_14 : decode cX12_discrepancy 14 = .ok (.iconst 0, 1) := by decide +kernel
theorem dX12_discrepancy_15 : decode cX12_discrepancy 15 = .ok (.istore 4, 2) := by decide +kernel
theorem dX12_discrepancy_17 : decode cX12_discrepancy 17 = .ok (.iconst 0, 1) := by decide +kernel
theorem dX12_discrepancy_18 : decode cX12_discrepancy 18 = .ok (.istore 5, 2) := by decide +kernel
theorem dX12_discrepancy_20 : decode cX12_discrepancy 20 = .ok (.iload 5, 2) := by decide +kernel
theorem dX12_discrepancy_22 : decode cX12_discrepancy 22 = .ok (.aload_n 0, 1) := by decide +kernel
theorem dX12_discrepancy_23 : decode cX12_discrepancy 23 = .ok (.getfield 75, 3) := by decide +kernel
theorem dX12_discrepancy_26 : decode cX12_discrepancy 26 = .ok (.if_icmp .ge 47, 3) := by decide +kernel
theorem dX12_discrepancy_29 : decode cX12_discrepancy 29 = .ok (.iload_n 2, 1) := by decide +kernel
theorem dX12_discrepancy_30 : decode cX12_discrepancy 30 = .ok (.aload_n 0, 1) := by decide +kernel
theorem dX12_discrepancy_31 : decode cX12_discrepancy 31 = .ok (.getfield 16, 3) := by decide +kernel
theorem dX12_discrepancy_34 : decode cX12_discrepancy 34 = .ok (.iload 5, 2) := by decide +kernel
theorem dX12_discrepancy_36 : decode cX12_discrepancy 36 = .ok (.iaload, 1) := by decide +kernel
theorem dX12_discrepancy_37 : decode cX12_discrepancy 37 = .ok (.iload_n 1, 1) := by decide +kernel
theorem dX12_discrepancy_38 : decode cX12_discrepancy 38 = .ok (.if_icmp .ne 12, 3) := by decide +kernel
theorem dX12_discrepancy_41 : decode cX12_discrepancy 41 = .ok (.aload_n 0, 1) := by decide +kernel
theorem dX12_discrepancy_42 : decode cX12_discrepancy 42 = .ok (.getfield 7, 3) := by decide +kernel
theorem dX12_discrepancy_45 : decode cX12_discrepancy 45 = .ok (.iconst 1, 1) := by decide +kernel
theorem dX12_discrepancy_46 : decode cX12_discrepancy 46 = .ok (.isub, 1) := by decide +kernel
theorem dX12_discrepancy_47 : decode cX12_discrepancy 47 = .ok (.goto 4, 3) := by decide +kernel
theorem dX12_discrepancy_50 : decode cX12_discrepancy 50 = .ok (.iconst (-1), 1) := by decide +kernel
theorem dX12_discrepancy_51 : decode cX12_discrepancy 51 = .ok (.iadd, 1) := by decide +kernel
theorem dX12_discrepancy_52 : decode cX12_discrepancy 52 = .ok (.istore_n 2, 1) := by decide +kernel
theorem dX12_discrepancy_53 : decode cX12_discrepancy 53 = .ok (.iload_n 3, 1) := by decide +kernel
theorem dX12_discrepancy_54 : decode cX12_discrepancy 54 = .ok (.iload_n 2, 1) := by decide +kernel
theorem dX12_discrepancy_55 : decode cX12_discrepancy 55 = .ok (.invokestatic 100, 3) := by decide +kernel
theorem dX12_discrepancy_58 : decode cX12_discrepancy 58 = .ok (.istore_n 3, 1) := by decide +kernel
theorem dX12_discrepancy_59 : decode cX12_discrepancy 59 = .ok (.iload 4, 2) := by decide +kernel
theorem dX12_discrepancy_61 : decode cX12_discrepancy 61 = .ok (.iload_n 2, 1) := by decide +kernel
theorem dX12_discrepancy_62 : decode cX12_discrepancy 62 = .ok (.invokestatic 236, 3) := by decide +kernel
theorem dX12_discrepancy_65 : decode cX12_discrepancy 65 = .ok (.istore 4, 2) := by decide +kernel
theorem dX12_discrepancy_67 : decode cX12_discrepancy 67 = .ok (.iinc 5 1, 3) := by decide +kernel
theorem dX12_discrepancy_70 : decode cX12_discrepancy 70 = .ok (.goto (-50), 3) := by decide +kernel
theorem dX12_discrepancy_73 : decode cX12_discrepancy 73 = .ok (.iload 4, 2) := by decide +kernel
theorem dX12_discrepancy_75 : decode cX12_discrepancy 75 = .ok (.iload_n 3, 1) := by decide +kernel
theorem dX12_discrepancy_76 : decode cX12_discrepancy 76 = .ok (.isub, 1) := by decide +kernel
theorem dX12_discrepancy_77 : decode cX12_discrepancy 77 = .ok (.ireturn, 1) := by decide +kernel
theorem dX12_autocorrelationBits_0 : decode cX12_autocorrelationBits 0 = .ok (.iload_n 1, 1) := by decide +kernel
theorem dX12_autocorrelationBits_1 : decode cX12_autocorrelationBits 1 = .ok (.iconst 0, 1) := by decide +kernel
theorem dX12_autocorrelationBits_2 : decode cX12_autocorrelationBits 2 = .ok (.sipush 256, 3) := by decide +kernel
theorem dX12_autocorrelationBits_5 : decode cX12_autocorrelationBits 5 = .ok (.invokestatic 71, 3) := by decide +kernel
theorem dX12_autocorrelationBits_8 : decode cX12_autocorrelationBits 8 = .ok (.ifCond .ne 7, 3) := by decide +kernel
theorem dX12_autocorrelationBits_11 : decode cX12_autocorrelationBits 11 = .ok (.ldc2_w 239, 3) := by decide +kernel
theorem dX12_autocorrelationBits_14 : decode cX12_autocorrelationBits 14 = .ok (.lreturn, 1) := by decide +kernel
theorem dX12_autocorrelationBits_15 : decode cX12_autocorrelationBits 15 = .ok (.aload_n 0, 1) := by decide +kernel
theorem dX12_autocorrelationBits_16 : decode cX12_autocorrelationBits 16 = .ok (.getfield 75, 3) := by decide +kernel
theorem dX12_autocorrelationBits_19 : decode cX12_autocorrelationBits 19 = .ok (.ifCond .ne 7, 3) := by decide +kernel
theorem dX12_autocorrelationBits_22 : decode cX12_autocorrelationBits 22 = .ok (.ldc2_w 241, 3) := by decide +kernel
theorem dX12_autocorrelationBits_25 : decode cX12_autocorrelationBits 25 = .ok (.lreturn, 1) := by decide +kernel
theorem dX12_autocorrelationBits_26 : decode cX12_autocorrelationBits 26 = .ok (.aload_n 0, 1) := by decide +kernel
theorem dX12_autocorrelationBits_27 : decode cX12_autocorrelationBits 27 = .ok (.invokevirtual 232, 3) := by decide +kernel
theorem dX12_autocorrelationBits_30 : decode cX12_autocorrelationBits 30 = .ok (.ifCond .eq 7, 3) := by decide +kernel
theorem dX12_autocorrelationBits_33 : decode cX12_autocorrelationBits 33 = .ok (.ldc2_w 243, 3) := by decide +kernel
theorem dX12_autocorrelationBits_36 : decode cX12_autocorrelationBits 36 = .ok (.lreturn, 1) := by decide +kernel
theorem dX12_autocorrelationBits_37 : decode cX12_autocorrelationBits 37 = .ok (.iconst 0, 1) := by decide +kernel
theorem dX12_autocorrelationBits_38 : decode cX12_autocorrelationBits 38 = .ok (.istore_n 2, 1) := by decide +kernel
theorem dX12_autocorrelationBits_39 : decode cX12_autocorrelationBits 39 = .ok (.iconst 0, 1) := by decide +kernel
theorem dX12_autocorrelationBits_40 : decode cX12_autocorrelationBits 40 = .ok (.istore_n 3, 1) := by decide +kernel
theorem dX12_autocorrelationBits_41 : decode cX12_autocorrelationBits 41 = .ok (.iload_n 3, 1) := by decide +kernel
theorem dX12_autocorrelationBits_42 : decode cX12_autocorrelationBits 42 = .ok (.aload_n 0, 1) := by decide +kernel
theorem dX12_autocorrelationBits_43 : decode cX12_autocorrelationBits 43 = .ok (.getfield 75, 3) := by decide +kernel
theorem dX12_autocorrelationBits_46 : decode cX12_autocorrelationBits 46 = .ok (.if_icmp .ge 18, 3) := by decide +kernel
theorem dX12_autocorrelationBits_49 : decode cX12_autocorrelationBits 49 = .ok (.iload_n 2, 1) := by decide +kernel
theorem dX12_autocorrelationBits_50 : decode cX12_autocorrelationBits 50 = .ok (.aload_n 0, 1) := by decide +kernel
theorem dX12_autocorrelationBits_51 : decode cX12_autocorrelationBits 51 = .ok (.getfield 16, 3) := by decide +kernel
theorem dX12_autocorrelationBits_54 : decode cX12_autocorrelationBits 54 = .ok (.iload_n 3, 1) := by decide +kernel
theorem dX12_autocorrelationBits_55 : decode cX12_autocorrelationBits 55 = .ok (.iaload, 1) := by decide +kernel
theorem dX12_autocorrelationBits_56 : decode cX12_autocorrelationBits 56 = .ok (.iadd, 1) := by decide +kernel
theorem dX12_autocorrelationBits_57 : decode cX12_autocorrelationBits 57 = .ok (.istore_n 2, 1) := by decide +kernel
theorem dX12_autocorrelationBits_58 : decode cX12_autocorrelationBits 58 = .ok (.iinc 3 1, 3) := by decide +kernel
theorem dX12_autocorrelationBits_61 : decode cX12_autocorrelationBits 61 = .ok (.goto (-20), 3) := by decide +kernel
theorem dX12_autocorrelationBits_64 : decode cX12_autocorrelationBits 64 = .ok (.iload_n 2, 1) := by decide +kernel
theorem dX12_autocorrelationBits_65 : decode cX12_autocorrelationBits 65 = .ok (.i2d, 1) := by decide +kernel
theorem dX12_autocorrelationBits_66 : decode cX12_autocorrelationBits 66 = .ok (.aload_n 0, 1) := by decide +kernel
theorem dX12_autocorrelationBits_67 : decode cX12_autocorrelationBits 67 = .ok (.getfield 75, 3) := by decide +kernel
theorem dX12_autocorrelationBits_70 : decode cX12_autocorrelationBits 70 = .ok (.i2d, 1) := by decide +kernel
theorem dX12_autocorrelationBits_71 : decode cX12_autocorrelationBits 71 = .ok (.ddiv, 1) := by decide +kernel
theorem dX12_autocorrelationBits_72 : decode cX12_autocorrelationBits 72 = .ok (.dstore_n 3, 1) := by decide +kernel
theorem dX12_autocorrelationBits_73 : decode cX12_autocorrelationBits 73 = .ok (.dconst 0, 1) := by decide +kernel
theorem dX12_autocorrelationBits_74 : decode cX12_autocorrelationBits 74 = .ok (.dstore 5, 2) := by decide +kernel
theorem dX12_autocorrelationBits_76 : decode cX12_autocorrelationBits 76 = .ok (.dconst 0, 1) := by decide +kernel
theorem dX12_autocorrelationBits_77 : decode cX12_autocorrelationBits 77 = .ok (.dstore 7, 2) := by decide +kernel
theorem dX12_autocorrelationBits_79 : decode cX12_autocorrelationBits 79 = .ok (.iconst 0, 1) := by decide +kernel
theorem dX12_autocorrelationBits_80 : decode cX12_autocorrelationBits 80 = .ok (.istore 9, 2) := by decide +kernel
theorem dX12_autocorrelationBits_82 : decode cX12_autocorrelationBits 82 = .ok (.iload 9, 2) := by decide +kernel
theorem dX12_autocorrelationBits_84 : decode cX12_autocorrelationBits 84 = .ok (.aload_n 0, 1) := by decide +kernel
theorem dX12_autocorrelationBits_85 : decode cX12_autocorrelationBits 85 = .ok (.getfield 75, 3) := by decide +kernel
theorem dX12_autocorrelationBits_88 : decode cX12_autocorrelationBits 88 = .ok (.if_icmp .ge 51, 3) := by decide +kernel
theorem dX12_autocorrelationBits_91 : decode cX12_autocorrelationBits 91 = .ok (.aload_n 0, 1) := by decide +kernel
theorem dX12_autocorrelationBits_92 : decode cX12_autocorrelationBits 92 = .ok (.getfield 16, 3) := by decide +kernel
theorem dX12_autocorrelationBits_95 : decode cX12_autocorrelationBits 95 = .ok (.iload 9, 2) := by decide +kernel
theorem dX12_autocorrelationBits_97 : decode cX12_autocorrelationBits 97 = .ok (.iaload, 1) := by decide +kernel
theorem dX12_autocorrelationBits_98 : decode cX12_autocorrelationBits 98 = .ok (.i2d, 1) := by decide +kernel
theorem dX12_autocorrelationBits_99 : decode cX12_autocorrelationBits 99 = .ok (.dload_n 3, 1) := by decide +kernel
theorem dX12_autocorrelationBits_100 : decode cX12_autocorrelationBits 100 = .ok (.dsub, 1) := by decide +kernel
theorem dX12_autocorrelationBits_101 : decode cX12_autocorrelationBits 101 = .ok (.dstore 10, 2) := by decide +kernel
theorem dX12_autocorrelationBits_103 : decode cX12_autocorrelationBits 103 = .ok (.dload 5, 2) := by decide +kernel
theorem dX12_autocorrelationBits_105 : decode cX12_autocorrelationBits 105 = .ok (.dload 10, 2) := by decide +kernel
theorem dX12_autocorrelationBits_107 : decode cX12_autocorrelationBits 107 = .ok (.aload_n 0, 1) := by decide +kernel
theorem dX12_autocorrelationBits_108 : decode cX12_autocorrelationBits 108 = .ok (.iload 9, 2) := by decide +kernel
theorem dX12_autocorrelationBits_110 : decode cX12_autocorrelationBits 110 = .ok (.iload_n 1, 1) := by decide +kernel
theorem dX12_autocorrelationBits_111 : decode cX12_autocorrelationBits 111 = .ok (.iadd, 1) := by decide +kernel
theorem dX12_autocorrelationBits_112 : decode cX12_autocorrelationBits 112 = .ok (.i2l, 1) := by decide +kernel
theorem dX12_autocorrelationBits_113 : decode cX12_autocorrelationBits 113 = .ok (.invokevirtual 185, 3) := by decide +kernel
theorem dX12_autocorrelationBits_116 : decode cX12_autocorrelationBits 116 = .ok (.i2d, 1) := by decide +kernel
theorem dX12_autocorrelationBits_117 : decode cX12_autocorrelationBits 117 = .ok (.dload_n 3, 1) := by decide +kernel
theorem dX12_autocorrelationBits_118 : decode cX12_autocorrelationBits 118 = .ok (.dsub, 1) := by decide +kernel
theorem dX12_autocorrelationBits_119 : decode cX12_autocorrelationBits 119 = .ok (.dmul, 1) := by decide +kernel
theorem dX12_autocorrelationBits_120 : decode cX12_autocorrelationBits 120 = .ok (.dadd, 1) := by decide +kernel
theorem dX12_autocorrelationBits_121 : decode cX12_autocorrelationBits 121 = .ok (.dstore 5, 2) := by decide +kernel
theorem dX12_autocorrelationBits_123 : decode cX12_autocorrelationBits 123 = .ok (.dload 7, 2) := by decide +kernel
theorem dX12_autocorrelationBits_125 : decode cX12_autocorrelationBits 125 = .ok (.dload 10, 2) := by decide +kernel
theorem dX12_autocorrelationBits_127 : decode cX12_autocorrelationBits 127 = .ok (.dload 10, 2) := by decide +kernel
theorem dX12_autocorrelationBits_129 : decode cX12_autocorrelationBits 129 = .ok (.dmul, 1) := by decide +kernel
theorem dX12_autocorrelationBits_130 : decode cX12_autocorrelationBits 130 = .ok (.dadd, 1) := by decide +kernel
theorem dX12_autocorrelationBits_131 : decode cX12_autocorrelationBits 131 = .ok (.dstore 7, 2) := by decide +kernel
theorem dX12_autocorrelationBits_133 : decode cX12_autocorrelationBits 133 = .ok (.iinc 9 1, 3) := by decide +kernel
theorem dX12_autocorrelationBits_136 : decode cX12_autocorrelationBits 136 = .ok (.goto (-54), 3) := by decide +kernel
theorem dX12_autocorrelationBits_139 : decode cX12_autocorrelationBits 139 = .ok (.dload 5, 2) := by decide +kernel
theorem dX12_autocorrelationBits_141 : decode cX12_autocorrelationBits 141 = .ok (.dload 7, 2) := by decide +kernel
theorem dX12_autocorrelationBits_143 : decode cX12_autocorrelationBits 143 = .ok (.ddiv, 1) := by decide +kernel
theorem dX12_autocorrelationBits_144 : decode cX12_autocorrelationBits 144 = .ok (.invokestatic 245, 3) := by decide +kernel
theorem dX12_autocorrelationBits_147 : decode cX12_autocorrelationBits 147 = .ok (.lreturn, 1) := by decide +kernel
theorem dX12_undo_0 : decode cX12_undo 0 = .ok (.aload_n 0, 1) := by decide +kernel
theorem dX12_undo_1 : decode cX12_undo 1 = .ok (.getfield 78, 3) := by decide +kernel
theorem dX12_undo_4 : decode cX12_undo 4 = .ok (.ifCond .ne 6, 3) := by decide +kernel
theorem dX12_undo_7 : decode cX12_undo 7 = .ok (.bipush (-7), 2) := by decide +kernel
theorem dX12_undo_9 : decode cX12_undo 9 = .ok (.ireturn, 1) := by decide +kernel
theorem dX12_undo_10 : decode cX12_undo 10 = .ok (.aload_n 0, 1) := by decide +kernel
theorem dX12_undo_11 : decode cX12_undo 11 = .ok (.dup, 1) := by decide +kernel
theorem dX12_undo_12 : decode cX12_undo 12 = .ok (.getfield 78, 3) := by decide +kernel
theorem dX12_undo_15 : decode cX12_undo 15 = .ok (.iconst 1, 1) := by decide +kernel
theorem dX12_undo_16 : decode cX12_undo 16 = .ok (.isub, 1) := by decide +kernel
theorem dX12_undo_17 : decode cX12_undo 17 = .ok (.putfield 78, 3) := by decide +kernel
theorem dX12_undo_20 : decode cX12_undo 20 = .ok (.aload_n 0, 1) := by decide +kernel
theorem dX12_undo_21 : decode cX12_undo 21 = .ok (.aload_n 0, 1) := by decide +kernel
theorem dX12_undo_22 : decode cX12_undo 22 = .ok (.getfield 23, 3) := by decide +kernel
theorem dX12_undo_25 : decode cX12_undo 25 = .ok (.aload_n 0, 1) := by decide +kernel
theorem dX12_undo_26 : decode cX12_undo 26 = .ok (.getfield 78, 3) := by decide +kernel
theorem dX12_undo_29 : decode cX12_undo 29 = .ok (.iaload, 1) := by decide +kernel
theorem dX12_undo_30 : decode cX12_undo 30 = .ok (.putfield 75, 3) := by decide +kernel
theorem dX12_undo_33 : decode cX12_undo 33 = .ok (.aload_n 0, 1) := by decide +kernel
theorem dX12_undo_34 : decode cX12_undo 34 = .ok (.getfield 20, 3) := by decide +kernel
theorem dX12_undo_37 : decode cX12_undo 37 = .ok (.sipush 256, 3) := by decide +kernel
theorem dX12_undo_40 : decode cX12_undo 40 = .ok (.aload_n 0, 1) := by decide +kernel
theorem dX12_undo_41 : decode cX12_undo 41 = .ok (.getfield 78, 3) := by decide +kernel
theorem dX12_undo_44 : decode cX12_undo 44 = .ok (.imul, 1) := by decide +kernel
theorem dX12_undo_45 : decode cX12_undo 45 = .ok (.aload_n 0, 1) := by decide +kernel
theorem dX12_undo_46 : decode cX12_undo 46 = .ok (.getfield 16, 3) := by decide +kernel
theorem dX12_undo_49 : decode cX12_undo 49 = .ok (.iconst 0, 1) := by decide +kernel
theorem dX12_undo_50 : decode cX12_undo 50 = .ok (.aload_n 0, 1) := by decide +kernel
theorem dX12_undo_51 : decode cX12_undo 51 = .ok (.getfield 75, 3) := by decide +kernel
theorem dX12_undo_54 : decode cX12_undo 54 = .ok (.invokestatic 88, 3) := by decide +kernel
theorem dX12_undo_57 : decode cX12_undo 57 = .ok (.aload_n 0, 1) := by decide +kernel
theorem dX12_undo_58 : decode cX12_undo 58 = .ok (.getfield 75, 3) := by decide +kernel
theorem dX12_undo_61 : decode cX12_undo 61 = .ok (.ireturn, 1) := by decide +kernel
theorem dX12_undoCount_0 : decode cX12_undoCount 0 = .ok (.aload_n 0, 1) := by decide +kernel
theorem dX12_undoCount_1 : decode cX12_undoCount 1 = .ok (.getfield 78, 3) := by decide +kernel
theorem dX12_undoCount_4 : decode cX12_undoCount 4 = .ok (.ireturn, 1) := by decide +kernel
theorem dX12_save_0 : decode cX12_save 0 = .ok (.aload_n 0, 1) := by decide +kernel
theorem dX12_save_1 : decode cX12_save 1 = .ok (.getfield 16, 3) := by decide +kernel
theorem dX12_save_4 : decode cX12_save 4 = .ok (.iconst 0, 1) := by decide +kernel
theorem dX12_save_5 : decode cX12_save 5 = .ok (.aload_n 0, 1) := by decide +kernel
theorem dX12_save_6 : decode cX12_save 6 = .ok (.getfield 29, 3) := by decide +kernel
theorem dX12_save_9 : decode cX12_save 9 = .ok (.iconst 0, 1) := by decide +kernel
theorem dX12_save_10 : decode cX12_save 10 = .ok (.aload_n 0, 1) := by decide +kernel
theorem dX12_save_11 : decode cX12_save 11 = .ok (.getfield 75, 3) := by decide +kernel
theorem dX12_save_14 : decode cX12_save 14 = .ok (.invokestatic 88, 3) := by decide +kernel
theorem dX12_save_17 : decode cX12_save 17 = .ok (.aload_n 0, 1) := by decide +kernel
theorem dX12_save_18 : decode cX12_save 18 = .ok (.aload_n 0, 1) := by decide +kernel
theorem dX12_save_19 : decode cX12_save 19 = .ok (.getfield 75, 3) := by decide +kernel
theorem dX12_save_22 : decode cX12_save 22 = .ok (.putfield 251, 3) := by decide +kernel
