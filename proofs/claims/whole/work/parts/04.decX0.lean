theorem dX0_init_0 : decode cX0_init 0 = .ok (.aload_n 0, 1) := by decide +kernel
theorem dX0_init_1 : decode cX0_init 1 = .ok (.invokespecial 3, 3) := by decide +kernel
theorem dX0_init_4 : decode cX0_init 4 = .ok (.aload_n 0, 1) := by decide +kernel
theorem dX0_init_5 : decode cX0_init 5 = .ok (.new 9, 3) := by decide +kernel
theorem dX0_init_8 : decode cX0_init 8 = .ok (.dup, 1) := by decide +kernel
theorem dX0_init_9 : decode cX0_init 9 = .ok (.invokespecial 11, 3) := by decide +kernel
theorem dX0_init_12 : decode cX0_init 12 = .ok (.putfield 12, 3) := by decide +kernel
theorem dX0_init_15 : decode cX0_init 15 = .ok (.return_, 1) := by decide +kernel
theorem dX0_firstPlace_0 : decode cX0_firstPlace 0 = .ok (.iconst 0, 1) := by decide +kernel
theorem dX0_firstPlace_1 : decode cX0_firstPlace 1 = .ok (.istore 4, 2) := by decide +kernel
theorem dX0_firstPlace_3 : decode cX0_firstPlace 3 = .ok (.iload 4, 2) := by decide +kernel
theorem dX0_firstPlace_5 : decode cX0_firstPlace 5 = .ok (.aload_n 2, 1) := by decide +kernel
theorem dX0_firstPlace_6 : decode cX0_firstPlace 6 = .ok (.invokevirtual 18, 3) := by decide +kernel
theorem dX0_firstPlace_9 : decode cX0_firstPlace 9 = .ok (.if_icmp .ge 23, 3) := by decide +kernel
theorem dX0_firstPlace_12 : decode cX0_firstPlace 12 = .ok (.aload_n 1, 1) := by decide +kernel
theorem dX0_firstPlace_13 : decode cX0_firstPlace 13 = .ok (.aload_n 2, 1) := by decide +kernel
theorem dX0_firstPlace_14 : decode cX0_firstPlace 14 = .ok (.iload 4, 2) := by decide +kernel
theorem dX0_firstPlace_16 : decode cX0_firstPlace 16 = .ok (.invokevirtual 24, 3) := by decide +kernel
theorem dX0_firstPlace_19 : decode cX0_firstPlace 19 = .ok (.iload_n 3, 1) := by decide +kernel
theorem dX0_firstPlace_20 : decode cX0_firstPlace 20 = .ok (.if_icmp .ne 6, 3) := by decide +kernel
theorem dX0_firstPlace_23 : decode cX0_firstPlace 23 = .ok (.iload 4, 2) := by decide +kernel
theorem dX0_firstPlace_25 : decode cX0_firstPlace 25 = .ok (.ireturn, 1) := by decide +kernel
theorem dX0_firstPlace_26 : decode cX0_firstPlace 26 = .ok (.iinc 4 1, 3) := by decide +kernel
theorem dX0_firstPlace_29 : decode cX0_firstPlace 29 = .ok (.goto (-26), 3) := by decide +kernel
theorem dX0_firstPlace_32 : decode cX0_firstPlace 32 = .ok (.bipush (-2), 2) := by decide +kernel
theorem dX0_firstPlace_34 : decode cX0_firstPlace 34 = .ok (.ireturn, 1) := by decide +kernel
theorem dX0_placeTotal_0 : decode cX0_placeTotal 0 = .ok (.iconst 0, 1) := by decide +kernel
theorem dX0_placeTotal_1 : decode cX0_placeTotal 1 = .ok (.istore 4, 2) := by decide +kernel
theorem dX0_placeTotal_3 : decode cX0_placeTotal 3 = .ok (.iconst 0, 1) := by decide +kernel
theorem dX0_placeTotal_4 : decode cX0_placeTotal 4 = .ok (.istore 5, 2) := by decide +kernel
theorem dX0_placeTotal_6 : decode cX0_placeTotal 6 = .ok (.iload 5, 2) := by decide +kernel
theorem dX0_placeTotal_8 : decode cX0_placeTotal 8 = .ok (.aload_n 2, 1) := by decide +kernel
theorem dX0_placeTotal_9 : decode cX0_placeTotal 9 = .ok (.invokevirtual 18, 3) := by decide +kernel
theorem dX0_placeTotal_12 : decode cX0_placeTotal 12 = .ok (.if_icmp .ge 23, 3) := by decide +kernel
theorem dX0_placeTotal_15 : decode cX0_placeTotal 15 = .ok (.aload_n 1, 1) := by decide +kernel
theorem dX0_placeTotal_16 : decode cX0_placeTotal 16 = .ok (.aload_n 2, 1) := by decide +kernel
theorem dX0_placeTotal_17 : decode cX0_placeTotal 17 = .ok (.iload 5, 2) := by decide +kernel
theorem dX0_placeTotal_19 : decode cX0_placeTotal 19 = .ok (.invokevirtual 24, 3) := by decide +kernel
theorem dX0_placeTotal_22 : decode cX0_placeTotal 22 = .ok (.iload_n 3, 1) := by decide +kernel
theorem dX0_placeTotal_23 : decode cX0_placeTotal 23 = .ok (.if_icmp .ne 6, 3) := by decide +kernel
theorem dX0_placeTotal_26 : decode cX0_placeTotal 26 = .ok (.iinc 4 1, 3) := by decide +kernel
theorem dX0_placeTotal_29 : decode cX0_placeTotal 29 = .ok (.iinc 5 1, 3) := by decide +kernel
theorem dX0_placeTotal_32 : decode cX0_placeTotal 32 = .ok (.goto (-26), 3) := by decide +kernel
theorem dX0_placeTotal_35 : decode cX0_placeTotal 35 = .ok (.iload 4, 2) := by decide +kernel
theorem dX0_placeTotal_37 : decode cX0_placeTotal 37 = .ok (.ireturn, 1) := by decide +kernel
theorem dX0_repeatPlace_0 : decode cX0_repeatPlace 0 = .ok (.aload_n 0, 1) := by decide +kernel
theorem dX0_repeatPlace_1 : decode cX0_repeatPlace 1 = .ok (.getfield 12, 3) := by decide +kernel
theorem dX0_repeatPlace_4 : decode cX0_repeatPlace 4 = .ok (.invokevirtual 30, 3) := by decide +kernel
theorem dX0_repeatPlace_7 : decode cX0_repeatPlace 7 = .ok (.iconst 0, 1) := by decide +kernel
theorem dX0_repeatPlace_8 : decode cX0_repeatPlace 8 = .ok (.istore_n 3, 1) := by decide +kernel
theorem dX0_repeatPlace_9 : decode cX0_repeatPlace 9 = .ok (.iload_n 3, 1) := by decide +kernel
theorem dX0_repeatPlace_10 : decode cX0_repeatPlace 10 = .ok (.aload_n 2, 1) := by decide +kernel
theorem dX0_repeatPlace_11 : decode cX0_repeatPlace 11 = .ok (.invokevirtual 18, 3) := by decide +kernel
theorem dX0_repeatPlace_14 : decode cX0_repeatPlace 14 = .ok (.if_icmp .ge 40, 3) := by decide +kernel
theorem dX0_repeatPlace_17 : decode cX0_repeatPlace 17 = .ok (.aload_n 1, 1) := by decide +kernel
theorem dX0_repeatPlace_18 : decode cX0_repeatPlace 18 = .ok (.aload_n 2, 1) := by decide +kernel
theorem dX0_repeatPlace_19 : decode cX0_repeatPlace 19 = .ok (.iload_n 3, 1) := by decide +kernel
theorem dX0_repeatPlace_20 : decode cX0_repeatPlace 20 = .ok (.invokevirtual 24, 3) := by decide +kernel
theorem dX0_repeatPlace_23 : decode cX0_repeatPlace 23 = .ok (.istore 4, 2) := by decide +kernel
theorem dX0_repeatPlace_25 : decode cX0_repeatPlace 25 = .ok (.aload_n 0, 1) := by decide +kernel
theorem dX0_repeatPlace_26 : decode cX0_repeatPlace 26 = .ok (.getfield 12, 3) := by decide +kernel
theorem dX0_repeatPlace_29 : decode cX0_repeatPlace 29 = .ok (.iload 4, 2) := by decide +kernel
theorem dX0_repeatPlace_31 : decode cX0_repeatPlace 31 = .ok (.invokevirtual 33, 3) := by decide +kernel
theorem dX0_repeatPlace_34 : decode cX0_repeatPlace 34 = .ok (.ifCond .eq 5, 3) := by decide +kernel
theorem dX0_repeatPlace_37 : decode cX0_repeatPlace 37 = .ok (.iload_n 3, 1) := by decide +kernel
theorem dX0_repeatPlace_38 : decode cX0_repeatPlace 38 = .ok (.ireturn, 1) := by decide +kernel
theorem dX0_repeatPlace_39 : decode cX0_repeatPlace 39 = .ok (.aload_n 0, 1) := by decide +kernel
theorem dX0_repeatPlace_40 : decode cX0_repeatPlace 40 = .ok (.getfield 12, 3) := by decide +kernel
theorem dX0_repeatPlace_43 : decode cX0_repeatPlace 43 = .ok (.iload 4, 2) := by decide +kernel
theorem dX0_repeatPlace_45 : decode cX0_repeatPlace 45 = .ok (.invokevirtual 37, 3) := by decide +kernel
theorem dX0_repeatPlace_48 : decode cX0_repeatPlace 48 = .ok (.iinc 3 1, 3) := by decide +kernel
theorem dX0_repeatPlace_51 : decode cX0_repeatPlace 51 = .ok (.goto (-42), 3) := by decide +kernel
theorem dX0_repeatPlace_54 : decode cX0_repeatPlace 54 = .ok (.bipush (-2), 2) := by decide +kernel
theorem dX0_repeatPlace_56 : decode cX0_repeatPlace 56 = .ok (.ireturn, 1) := by decide +kernel
theorem dX0_differentTotal_0 : decode cX0_differentTotal 0 = .ok (.aload_n 0, 1) := by decide +kernel
theorem dX0_differentTotal_1 : decode cX0_differentTotal 1 = .ok (.aload_n 1, 1) := by decide +kernel
theorem dX0_differentTotal_2 : decode cX0_differentTotal 2 = .ok (.aload_n 2, 1) := by decide +kernel
theorem dX0_differentTotal_3 : decode cX0_differentTotal 3 = .ok (.invokevirtual 41, 3) := by decide +kernel
theorem dX0_differentTotal_6 : decode cX0_differentTotal 6 = .ok (.iconst 0, 1) := by decide +kernel
theorem dX0_differentTotal_7 : decode cX0_differentTotal 7 = .ok (.istore_n 3, 1) := by decide +kernel
theorem dX0_differentTotal_8 : decode cX0_differentTotal 8 = .ok (.iconst 0, 1) := by decide +kernel
theorem dX0_differentTotal_9 : decode cX0_differentTotal 9 = .ok (.istore 4, 2) := by decide +kernel
theorem dX0_differentTotal_11 : decode cX0_differentTotal 11 = .ok (.iload 4, 2) := by decide +kernel
theorem dX0_differentTotal_13 : decode cX0_differentTotal 13 = .ok (.aload_n 1, 1) := by decide +kernel
theorem dX0_differentTotal_14 : decode cX0_differentTotal 14 = .ok (.invokevirtual 45, 3) := by decide +kernel
theorem dX0_differentTotal_17 : decode cX0_differentTotal 17 = .ok (.if_icmp .ge 24, 3) := by decide +kernel
theorem dX0_differentTotal_20 : decode cX0_differentTotal 20 = .ok (.aload_n 0, 1) := by decide +kernel
theorem dX0_differentTotal_21 : decode cX0_differentTotal 21 = .ok (.getfield 12, 3) := by decide +kernel
theorem dX0_differentTotal_24 : decode cX0_differentTotal 24 = .ok (.iload 4, 2) := by decide +kernel
theorem dX0_differentTotal_26 : decode cX0_differentTotal 26 = .ok (.invokevirtual 33, 3) := by decide +kernel
theorem dX0_differentTotal_29 : decode cX0_differentTotal 29 = .ok (.ifCond .eq 6, 3) := by decide +kernel
theorem dX0_differentTotal_32 : decode cX0_differentTotal 32 = .ok (.iinc 3 1, 3) := by decide +kernel
theorem dX0_differentTotal_35 : decode cX0_differentTotal 35 = .ok (.iinc 4 1, 3) := by decide +kernel
theorem dX0_differentTotal_38 : decode cX0_differentTotal 38 = .ok (.goto (-27), 3) := by decide +kernel
theorem dX0_differentTotal_41 : decode cX0_differentTotal 41 = .ok (.iload_n 3, 1) := by decide +kernel
theorem dX0_differentTotal_42 : decode cX0_differentTotal 42 = .ok (.ireturn, 1) := by decide +kernel
theorem dX0_missing_0 : decode cX0_missing 0 = .ok (.aload_n 0, 1) := by decide +kernel
theorem dX0_missing_1 : decode cX0_missing 1 = .ok (.aload_n 1, 1) := by decide +kernel
theorem dX0_missing_2 : decode cX0_missing 2 = .ok (.aload_n 2, 1) := by decide +kernel
theorem dX0_missing_3 : decode cX0_missing 3 = .ok (.invokevirtual 41, 3) := by decide +kernel
theorem dX0_missing_6 : decode cX0_missing 6 = .ok (.iconst 0, 1) := by decide +kernel
theorem dX0_missing_7 : decode cX0_missing 7 = .ok (.istore 4, 2) := by decide +kernel
theorem dX0_missing_9 : decode cX0_missing 9 = .ok (.iconst 0, 1) := by decide +kernel
theorem dX0_missing_10 : decode cX0_missing 10 = .ok (.istore 5, 2) := by decide +kernel
theorem dX0_missing_12 : decode cX0_missing 12 = .ok (.iload 5, 2) := by decide +kernel
theorem dX0_missing_14 : decode cX0_missing 14 = .ok (.aload_n 1, 1) := by decide +kernel
theorem dX0_missing_15 : decode cX0_missing 15 = .ok (.invokevirtual 45, 3) := by decide +kernel
theorem dX0_missing_18 : decode cX0_missing 18 = .ok (.if_icmp .ge 33, 3) := by decide +kernel
theorem dX0_missing_21 : decode cX0_missing 21 = .ok (.aload_n 0, 1) := by decide +kernel
theorem dX0_missing_22 : decode cX0_missing 22 = .ok (.getfield 12, 3) := by decide +kernel
theorem dX0_missing_25 : decode cX0_missing 25 = .ok (.iload 5, 2) := by decide +kernel
theorem dX0_missing_27 : decode cX0_missing 27 = .ok (.invokevirtual 33, 3) := by decide +kernel
theorem dX0_missing_30 : decode cX0_missing 30 = .ok (.ifCond .ne 15, 3) := by decide +kernel
theorem dX0_missing_33 : decode cX0_missing 33 = .ok (.iload 4, 2) := by decide +kernel
theorem dX0_missing_35 : decode cX0_missing 35 = .ok (.iload_n 3, 1) := by decide +kernel
theorem dX0_missing_36 : decode cX0_missing 36 = .ok (.if_icmp .ne 6, 3) := by decide +kernel
theorem dX0_missing_39 : decode cX0_missing 39 = .ok (.iload 5, 2) := by decide +kernel
theorem dX0_missing_41 : decode cX0_missing 41 = .ok (.ireturn, 1) := by decide +kernel
theorem dX0_missing_42 : decode cX0_missing 42 = .ok (.iinc 4 1, 3) := by decide +kernel
theorem dX0_missing_45 : decode cX0_missing 45 = .ok (.iinc 5 1, 3) := by decide +kernel
theorem dX0_missing_48 : decode cX0_missing 48 = .ok (.goto (-36), 3) := by decide +kernel
theorem dX0_missing_51 : decode cX0_missing 51 = .ok (.bipush (-2), 2) := by decide +kernel
theorem dX0_missing_53 : decode cX0_missing 53 = .ok (.ireturn, 1) := by decide +kernel
theorem dX0_look_0 : decode cX0_look 0 = .ok (.aload_n 0, 1) := by decide +kernel
theorem dX0_look_1 : decode cX0_look 1 = .ok (.getfield 12, 3) := by decide +kernel
theorem dX0_look_4 : decode cX0_look 4 = .ok (.invokevirtual 30, 3) := by decide +kernel
theorem dX0_look_7 : decode cX0_look 7 = .ok (.iconst 0, 1) := by decide +kernel
theorem dX0_look_8 : decode cX0_look 8 = .ok (.istore_n 3, 1) := by decide +kernel
theorem dX0_look_9 : decode cX0_look 9 = .ok (.iload_n 3, 1) := by decide +kernel
theorem dX0_look_10 : decode cX0_look 10 = .ok (.aload_n 2, 1) := by decide +kernel
theorem dX0_look_11 : decode cX0_look 11 = .ok (.invokevirtual 18, 3) := by decide +kernel
theorem dX0_look_14 : decode cX0_look 14 = .ok (.if_icmp .ge 22, 3) := by decide +kernel
theorem dX0_look_17 : decode cX0_look 17 = .ok (.aload_n 0, 1) := by decide +kernel
theorem dX0_look_18 : decode cX0_look 18 = .ok (.getfield 12, 3) := by decide +kernel
theorem dX0_look_21 : decode cX0_look 21 = .ok (.aload_n 1, 1) := by decide +kernel
theorem dX0_look_22 : decode cX0_look 22 = .ok (.aload_n 2, 1) := by decide +kernel
theorem dX0_look_23 : decode cX0_look 23 = .ok (.iload_n 3, 1) := by decide +kernel
theorem dX0_look_24 : decode cX0_look 24 = .ok (.invokevirtual 24, 3) := by decide +kernel
theorem dX0_look_27 : decode cX0_look 27 = .ok (.invokevirtual 37, 3) := by decide +kernel
theorem dX0_look_30 : decode cX0_look 30 = .ok (.iinc 3 1, 3) := by decide +kernel
theorem dX0_look_33 : decode cX0_look 33 = .ok (.goto (-24), 3) := by decide +kernel
theorem dX0_look_36 : decode cX0_look 36 = .ok (.return_, 1) := by decide +kernel
theorem dX1_init_0 : decode cX1_init 0 = .ok (.aload_n 0, 1) := by decide +kernel
theorem dX1_init_1 : decode cX1_init 1 = .ok (.invokespecial 3, 3) := by decide +kernel
theorem dX1_init_4 : decode cX1_init 4 = .ok (.aload_n 0, 1) := by decide +kernel
theorem dX1_init_5 : decode cX1_init 5 = .ok (.new 9, 3) := by decide +kernel
theorem dX1_init_8 : decode cX1_init 8 = .ok (.dup, 1) := by decide +kernel
theorem dX1_init_9 : decode cX1_init 9 = .ok (.invokespecial 11, 3) := by decide +kernel
theorem dX1_init_12 : decode cX1_init 12 = .ok (.putfield 12, 3) := by decide +kernel
theorem dX1_init_15 : decode cX1_init 15 = .ok (.aload_n 0, 1) := by decide +kernel
theorem dX1_init_16 : decode cX1_init 16 = .ok (.sipush 256, 3) := by decide +kernel
theorem dX1_init_19 : decode cX1_init 19 = .ok (.newarray .int, 2) := by decide +kernel
theorem dX1_init_21 : decode cX1_init 21 = .ok (.putfield 18, 3) := by decide +kernel
theorem dX1_init_24 : decode cX1_init 24 = .ok (.aload_n 0, 1) := by decide +kernel
theorem dX1_init_25 : decode cX1_init 25 = .ok (.sipush 256, 3) := by decide +kernel
theorem dX1_init_28 : decode cX1_init 28 = .ok (.newarray .int, 2) := by decide +kernel
theorem dX1_init_30 : decode cX1_init 30 = .ok (.putfield 22, 3) := by decide +kernel
theorem dX1_init_33 : decode cX1_init 33 = .ok (.return_, 1) := by decide +kernel
theorem dX1_build_0 : decode cX1_build 0 = .ok (.iload_n 2, 1) := by decide +kernel
theorem dX1_build_1 : decode cX1_build 1 = .ok (.tableswitch 57 0 2 #[27, 37, 47], 27) := by decide +kernel
theorem dX1_build_28 : decode cX1_build 28 = .ok (.aload_n 0, 1) := by decide +kernel
theorem dX1_build_29 : decode cX1_build 29 = .ok (.aload_n 1, 1) := by decide +kernel
theorem dX1_build_30 : decode cX1_build 30 = .ok (.aload 4, 2) := by decide +kernel
theorem dX1_build_32 : decode cX1_build 32 = .ok (.invokevirtual 25, 3) := by decide +kernel
theorem dX1_build_35 : decode cX1_build 35 = .ok (.goto 31, 3) := by decide +kernel
theorem dX1_build_38 : decode cX1_build 38 = .ok (.aload_n 0, 1) := by decide +kernel
theorem dX1_build_39 : decode cX1_build 39 = .ok (.aload_n 1, 1) := by decide +kernel
theorem dX1_build_40 : decode cX1_build 40 = .ok (.aload 4, 2) := by decide +kernel
theorem dX1_build_42 : decode cX1_build 42 = .ok (.invokevirtual 29, 3) := by decide +kernel
theorem dX1_build_45 : decode cX1_build 45 = .ok (.goto 21, 3) := by decide +kernel
theorem dX1_build_48 : decode cX1_build 48 = .ok (.aload_n 0, 1) := by decide +kernel
theorem dX1_build_49 : decode cX1_build 49 = .ok (.aload_n 1, 1) := by decide +kernel
theorem dX1_build_50 : decode cX1_build 50 = .ok (.aload 4, 2) := by decide +kernel
theorem dX1_build_52 : decode cX1_build 52 = .ok (.invokevirtual 32, 3) := by decide +kernel
theorem dX1_build_55 : decode cX1_build 55 = .ok (.goto 11, 3) := by decide +kernel
theorem dX1_build_58 : decode cX1_build 58 = .ok (.aload_n 0, 1) := by decide +kernel
theorem dX1_build_59 : decode cX1_build 59 = .ok (.aload_n 1, 1) := by decide +kernel
theorem dX1_build_60 : decode cX1_build 60 = .ok (.iload_n 3, 1) := by decide +kernel
theorem dX1_build_61 : decode cX1_build 61 = .ok (.aload 4, 2) := by decide +kernel
theorem dX1_build_63 : decode cX1_build 63 = .ok (.invokevirtual 35, 3) := by decide +kernel
theorem dX1_build_66 : decode cX1_build 66 = .ok (.return_, 1) := by decide +kernel
theorem dX1_buildGreedy_0 : decode cX1_buildGreedy 0 = .ok (.aload_n 0, 1) := by decide +kernel
theorem dX1_buildGreedy_1 : decode cX1_buildGreedy 1 = .ok (.getfield 12, 3) := by decide +kernel
theorem dX1_buildGreedy_4 : decode cX1_buildGreedy 4 = .ok (.invokevirtual 39, 3) := by decide +kernel
theorem dX1_buildGreedy_7 : decode cX1_buildGreedy 7 = .ok (.iconst 0, 1) := by decide +kernel
theorem dX1_buildGreedy_8 : decode cX1_buildGreedy 8 = .ok (.istore_n 3, 1) := by decide +kernel
theorem dX1_buildGreedy_9 : decode cX1_buildGreedy 9 = .ok (.iconst 0, 1) := by decide +kernel
theorem dX1_buildGreedy_10 : decode cX1_buildGreedy 10 = .ok (.istore 4, 2) := by decide +kernel
theorem dX1_buildGreedy_12 : decode cX1_buildGreedy 12 = .ok (.iload 4, 2) := by decide +kernel
theorem dX1_buildGreedy_14 : decode cX1_buildGreedy 14 = .ok (.aload_n 1, 1) := by decide +kernel
theorem dX1_buildGreedy_15 : decode cX1_buildGreedy 15 = .ok (.invokevirtual 42, 3) := by decide +kernel
theorem dX1_buildGreedy_18 : decode cX1_buildGreedy 18 = .ok (.if_icmp .ge 56, 3) := by decide +kernel
theorem dX1_buildGreedy_21 : decode cX1_buildGreedy 21 = .ok (.aload_n 0, 1) := by decide +kernel
theorem dX1_buildGreedy_22 : decode cX1_buildGreedy 22 = .ok (.aload_n 1, 1) := by decide +kernel
theorem dX1_buildGreedy_23 : decode cX1_buildGreedy 23 = .ok (.iload_n 3, 1) := by decide +kernel
theorem dX1_buildGreedy_24 : decode cX1_buildGreedy 24 = .ok (.invokevirtual 48, 3) := by decide +kernel
theorem dX1_buildGreedy_27 : decode cX1_buildGreedy 27 = .ok (.istore 5, 2) := by decide +kernel
theorem dX1_buildGreedy_29 : decode cX1_buildGreedy 29 = .ok (.iload 5, 2) := by decide +kernel
theorem dX1_buildGreedy_31 : decode cX1_buildGreedy 31 = .ok (.bipush (-2), 2) := by decide +kernel
theorem dX1_buildGreedy_33 : decode cX1_buildGreedy 33 = .ok (.if_icmp .ne 4, 3) := by decide +kernel
theorem dX1_buildGreedy_36 : decode cX1_buildGreedy 36 = .ok (.return_, 1) := by decide +kernel
theorem dX1_buildGreedy_37 : decode cX1_buildGreedy 37 = .ok (.aload_n 1, 1) := by decide +kernel
theorem dX1_buildGreedy_38 : decode cX1_buildGreedy 38 = .ok (.iload_n 3, 1) := by decide +kernel
theorem dX1_buildGreedy_39 : decode cX1_buildGreedy 39 = .ok (.iload 5, 2) := by decide +kernel
theorem dX1_buildGreedy_41 : decode cX1_buildGreedy 41 = .ok (.invokevirtual 52, 3) := by decide +kernel
theorem dX1_buildGreedy_44 : decode cX1_buildGreedy 44 = .ok (.istore 6, 2) := by decide +kernel
theorem dX1_buildGreedy_46 : decode cX1_buildGreedy 46 = .ok (.aload_n 0, 1) := by decide +kernel
theorem dX1_buildGreedy_47 : decode cX1_buildGreedy 47 = .ok (.getfield 12, 3) := by decide +kernel
theorem dX1_buildGreedy_50 : decode cX1_buildGreedy 50 = .ok (.iload 6, 2) := by decide +kernel
theorem dX1_buildGreedy_52 : decode cX1_buildGreedy 52 = .ok (.invokevirtual 56, 3) := by decide +kernel
theorem dX1_buildGreedy_55 : decode cX1_buildGreedy 55 = .ok (.aload_n 2, 1) := by decide +kernel
theorem dX1_buildGreedy_56 : decode cX1_buildGreedy 56 = .ok (.iload 5, 2) := by decide +kernel
theorem dX1_buildGreedy_58 : decode cX1_buildGreedy 58 = .ok (.invokevirtual 60, 3) := by decide +kernel
theorem dX1_buildGreedy_61 : decode cX1_buildGreedy 61 = .ok (.aload_n 1, 1) := by decide +kernel
theorem dX1_buildGreedy_62 : decode cX1_buildGreedy 62 = .ok (.iload 6, 2) := by decide +kernel
theorem dX1_buildGreedy_64 : decode cX1_buildGreedy 64 = .ok (.invokevirtual 63, 3) := by decide +kernel
theorem dX1_buildGreedy_67 : decode cX1_buildGreedy 67 = .ok (.istore_n 3, 1) := by decide +kernel
theorem dX1_buildGreedy_68 : decode cX1_buildGreedy 68 = .ok (.iinc 4 1, 3) := by decide +kernel
theorem dX1_buildGreedy_71 : decode cX1_buildGreedy 71 = .ok (.goto (-59), 3) := by decide +kernel
theorem dX1_buildGreedy_74 : decode cX1_buildGreedy 74 = .ok (.return_, 1) := by decide +kernel
theorem dX1_greatestNew_0 : decode cX1_greatestNew 0 = .ok (.aload_n 1, 1) := by decide +kernel
theorem dX1_greatestNew_1 : decode cX1_greatestNew 1 = .ok (.invokevirtual 67, 3) := by decide +kernel
theorem dX1_greatestNew_4 : decode cX1_greatestNew 4 = .ok (.iconst 1, 1) := by decide +kernel
theorem dX1_greatestNew_5 : decode cX1_greatestNew 5 = .ok (.isub, 1) := by decide +kernel
theorem dX1_greatestNew_6 : decode cX1_greatestNew 6 = .ok (.istore_n 3, 1) := by decide +kernel
theorem dX1_greatestNew_7 : decode cX1_greatestNew 7 = .ok (.iload_n 3, 1) := by decide +kernel
theorem dX1_greatestNew_8 : decode cX1_greatestNew 8 = .ok (.ifCond .lt 27, 3) := by decide +kernel
theorem dX1_greatestNew_11 : decode cX1_greatestNew 11 = .ok (.aload_n 0, 1) := by decide +kernel
theorem dX1_greatestNew_12 : decode cX1_greatestNew 12 = .ok (.getfield 12, 3) := by decide +kernel
theorem dX1_greatestNew_15 : decode cX1_greatestNew 15 = .ok (.aload_n 1, 1) := by decide +kernel
theorem dX1_greatestNew_16 : decode cX1_greatestNew 16 = .ok (.iload_n 2, 1) := by decide +kernel
theorem dX1_greatestNew_17 : decode cX1_greatestNew 17 = .ok (.iload_n 3, 1) := by decide +kernel
theorem dX1_greatestNew_18 : decode cX1_greatestNew 18 = .ok (.invokevirtual 52, 3) := by decide +kernel
theorem dX1_greatestNew_21 : decode cX1_greatestNew 21 = .ok (.invokevirtual 70, 3) := by decide +kernel
theorem dX1_greatestNew_24 : decode cX1_greatestNew 24 = .ok (.ifCond .ne 5, 3) := by decide +kernel
theorem dX1_greatestNew_27 : decode cX1_greatestNew 27 = .ok (.iload_n 3, 1) := by decide +kernel
theorem dX1_greatestNew_28 : decode cX1_greatestNew 28 = .ok (.ireturn, 1) := by decide +kernel
theorem dX1_greatestNew_29 : decode cX1_greatestNew 29 = .ok (.iinc 3 (-1), 3) := by decide +kernel
theorem dX1_greatestNew_32 : decode cX1_greatestNew 32 = .ok (.goto (-25), 3) := by decide +kernel
theorem dX1_greatestNew_35 : decode cX1_greatestNew 35 = .ok (.bipush (-2), 2) := by decide +kernel
theorem dX1_greatestNew_37 : decode cX1_greatestNew 37 = .ok (.ireturn, 1) := by decide +kernel
theorem dX1_buildLyndon_0 : decode cX1_buildLyndon 0 = .ok (.iconst 0, 1) := by decide +kernel
theorem dX1_buildLyndon_1 : decode cX1_buildLyndon 1 = .ok (.istore_n 3, 1) := by decide +kernel
theorem dX1_buildLyndon_2 : decode cX1_buildLyndon 2 = .ok (.iload_n 3, 1) := by decide +kernel
theorem dX1_buildLyndon_3 : decode cX1_buildLyndon 3 = .ok (.aload_n 1, 1) := by decide +kernel
theorem dX1_buildLyndon_4 : decode cX1_buildLyndon 4 = .ok (.invokevirtual 42, 3) := by decide +kernel
theorem dX1_buildLyndon_7 : decode cX1_buildLyndon 7 = .ok (.if_icmp .ge 29, 3) := by decide +kernel
theorem dX1_buildLyndon_10 : decode cX1_buildLyndon 10 = .ok (.aload_n 1, 1) := by decide +kernel
theorem dX1_buildLyndon_11 : decode cX1_buildLyndon 11 = .ok (.iload_n 3, 1) := by decide +kernel
theorem dX1_buildLyndon_12 : decode cX1_buildLyndon 12 = .ok (.invokevirtual 74, 3) := by decide +kernel
theorem dX1_buildLyndon_15 : decode cX1_buildLyndon 15 = .ok (.ifCond .eq 15, 3) := by decide +kernel
theorem dX1_buildLyndon_18 : decode cX1_buildLyndon 18 = .ok (.aload_n 0, 1) := by decide +kernel
theorem dX1_buildLyndon_19 : decode cX1_buildLyndon 19 = .ok (.aload_n 1, 1) := by decide +kernel
theorem dX1_buildLyndon_20 : decode cX1_buildLyndon 20 = .ok (.iload_n 3, 1) := by decide +kernel
theorem dX1_buildLyndon_21 : decode cX1_buildLyndon 21 = .ok (.aload_n 1, 1) := by decide +kernel
theorem dX1_buildLyndon_22 : decode cX1_buildLyndon 22 = .ok (.iload_n 3, 1) := by decide +kernel
theorem dX1_buildLyndon_23 : decode cX1_buildLyndon 23 = .ok (.invokevirtual 77, 3) := by decide +kernel
theorem dX1_buildLyndon_26 : decode cX1_buildLyndon 26 = .ok (.aload_n 2, 1) := by decide +kernel
theorem dX1_buildLyndon_27 : decode cX1_buildLyndon 27 = .ok (.invokevirtual 80, 3) := by decide +kernel
theorem dX1_buildLyndon_30 : decode cX1_buildLyndon 30 = .ok (.iinc 3 1, 3) := by decide +kernel
theorem dX1_buildLyndon_33 : decode cX1_buildLyndon 33 = .ok (.goto (-31), 3) := by decide +kernel
theorem dX1_buildLyndon_36 : decode cX1_buildLyndon 36 = .ok (.return_, 1) := by decide +kernel
theorem dX1_addStart_0 : decode cX1_addStart 0 = .ok (.iload_n 2, 1) := by decide +kernel
theorem dX1_addStart_1 : decode cX1_addStart 1 = .ok (.istore 5, 2) := by decide +kernel
theorem dX1_addStart_3 : decode cX1_addStart 3 = .ok (.iconst 0, 1) := by decide +kernel
theorem dX1_addStart_4 : decode cX1_addStart 4 = .ok (.istore 6, 2) := by decide +kernel
theorem dX1_addStart_6 : decode cX1_addStart 6 = .ok (.iload 6, 2) := by decide +kernel
theorem dX1_addStart_8 : decode cX1_addStart 8 = .ok (.iload_n 3, 1) := by decide +kernel
theorem dX1_addStart_9 : decode cX1_addStart 9 = .ok (.if_icmp .ge 29, 3) := by decide +kernel
theorem dX1_addStart_12 : decode cX1_addStart 12 = .ok (.aload 4, 2) := by decide +kernel
theorem dX1_addStart_14 : decode cX1_addStart 14 = .ok (.aload_n 1, 1) := by decide +kernel
theorem dX1_addStart_15 : decode cX1_addStart 15 = .ok (.iload 5, 2) := by decide +kernel
theorem dX1_addStart_17 : decode cX1_addStart 17 = .ok (.invokevirtual 84, 3) := by decide +kernel
theorem dX1_addStart_20 : decode cX1_addStart 20 = .ok (.invokevirtual 60, 3) := by decide +kernel
theorem dX1_addStart_23 : decode cX1_addStart 23 = .ok (.aload_n 1, 1) := by decide +kernel
theorem dX1_addStart_24 : decode cX1_addStart 24 = .ok (.iload 5, 2) := by decide +kernel
theorem dX1_addStart_26 : decode cX1_addStart 26 = .ok (.iconst 0, 1) := by decide +kernel
theorem dX1_addStart_27 : decode cX1_addStart 27 = .ok (.invokevirtual 87, 3) := by decide +kernel
theorem dX1_addStart_30 : decode cX1_addStart 30 = .ok (.istore 5, 2) := by decide +kernel
theorem dX1_addStart_32 : decode cX1_addStart 32 = .ok (.iinc 6 1, 3) := by decide +kernel
theorem dX1_addStart_35 : decode cX1_addStart 35 = .ok (.goto (-29), 3) := by decide +kernel
theorem dX1_addStart_38 : decode cX1_addStart 38 = .ok (.return_, 1) := by decide +kernel
theorem dX1_buildNecklace_0 : decode cX1_buildNecklace 0 = .ok (.iconst 0, 1) := by decide +kernel
theorem dX1_buildNecklace_1 : decode cX1_buildNecklace 1 = .ok (.istore_n 3, 1) := by decide +kernel
theorem dX1_buildNecklace_2 : decode cX1_buildNecklace 2 = .ok (.iconst 0, 1) := by decide +kernel
theorem dX1_buildNecklace_3 : decode cX1_buildNecklace 3 = .ok (.istore 4, 2) := by decide +kernel
theorem dX1_buildNecklace_5 : decode cX1_buildNecklace 5 = .ok (.iload 4, 2) := by decide +kernel
theorem dX1_buildNecklace_7 : decode cX1_buildNecklace 7 = .ok (.aload_n 1, 1) := by decide +kernel
theorem dX1_buildNecklace_8 : decode cX1_buildNecklace 8 = .ok (.invokevirtual 42, 3) := by decide +kernel
theorem dX1_buildNecklace_11 : decode cX1_buildNecklace 11 = .ok (.if_icmp .ge 30, 3) := by decide +kernel
theorem dX1_buildNecklace_14 : decode cX1_buildNecklace 14 = .ok (.aload_n 1, 1) := by decide +kernel
theorem dX1_buildNecklace_15 : decode cX1_buildNecklace 15 = .ok (.iload_n 3, 1) := by decide +kernel
theorem dX1_buildNecklace_16 : decode cX1_buildNecklace 16 = .ok (.invokevirtual 90, 3) := by decide +kernel
theorem dX1_buildNecklace_19 : decode cX1_buildNecklace 19 = .ok (.istore 5, 2) := by decide +kernel
theorem dX1_buildNecklace_21 : decode cX1_buildNecklace 21 = .ok (.aload_n 2, 1) := by decide +kernel
theorem dX1_buildNecklace_22 : decode cX1_buildNecklace 22 = .ok (.iload 5, 2) := by decide +kernel
theorem dX1_buildNecklace_24 : decode cX1_buildNecklace 24 = .ok (.invokevirtual 60, 3) := by decide +kernel
theorem dX1_buildNecklace_27 : decode cX1_buildNecklace 27 = .ok (.aload_n 1, 1) := by decide +kernel
theorem dX1_buildNecklace_28 : decode cX1_buildNecklace 28 = .ok (.iload_n 3, 1) := by decide +kernel
theorem dX1_buildNecklace_29 : decode cX1_buildNecklace 29 = .ok (.iload 5, 2) := by decide +kernel
theorem dX1_buildNecklace_31 : decode cX1_buildNecklace 31 = .ok (.invokevirtual 87, 3) := by decide +kernel
theorem dX1_buildNecklace_34 : decode cX1_buildNecklace 34 = .ok (.istore_n 3, 1) := by decide +kernel
theorem dX1_buildNecklace_35 : decode cX1_buildNecklace 35 = .ok (.iinc 4 1, 3) := by decide +kernel
theorem dX1_buildNecklace_38 : decode cX1_buildNecklace 38 = .ok (.goto (-33), 3) := by decide +kernel
theorem dX1_buildNecklace_41 : decode cX1_buildNecklace 41 = .ok (.return_, 1) := by decide +kernel
theorem dX1_buildJoined_0 : decode cX1_buildJoined 0 = .ok (.aload_n 0, 1) := by decide +kernel
theorem dX1_buildJoined_1 : decode cX1_buildJoined 1 = .ok (.aload_n 1, 1) := by decide +kernel
theorem dX1_buildJoined_2 : decode cX1_buildJoined 2 = .ok (.invokevirtual 93, 3) := by decide +kernel
theorem dX1_buildJoined_5 : decode cX1_buildJoined 5 = .ok (.aload_n 1, 1) := by decide +kernel
theorem dX1_buildJoined_6 : decode cX1_buildJoined 6 = .ok (.invokevirtual 97, 3) := by decide +kernel
theorem dX1_buildJoined_9 : decode cX1_buildJoined 9 = .ok (.istore 4, 2) := by decide +kernel
theorem dX1_buildJoined_11 : decode cX1_buildJoined 11 = .ok (.iconst 0, 1) := by decide +kernel
theorem dX1_buildJoined_12 : decode cX1_buildJoined 12 = .ok (.istore 5, 2) := by decide +kernel
theorem dX1_buildJoined_14 : decode cX1_buildJoined 14 = .ok (.iload 5, 2) := by decide +kernel
theorem dX1_buildJoined_16 : decode cX1_buildJoined 16 = .ok (.iload 4, 2) := by decide +kernel
theorem dX1_buildJoined_18 : decode cX1_buildJoined 18 = .ok (.if_icmp .ge 76, 3) := by decide +kernel
theorem dX1_buildJoined_21 : decode cX1_buildJoined 21 = .ok (.iload_n 2, 1) := by decide +kernel
theorem dX1_buildJoined_22 : decode cX1_buildJoined 22 = .ok (.iload 5, 2) := by decide +kernel
theorem dX1_buildJoined_24 : decode cX1_buildJoined 24 = .ok (.iadd, 1) := by decide +kernel
theorem dX1_buildJoined_25 : decode cX1_buildJoined 25 = .ok (.iload 4, 2) := by decide +kernel
theorem dX1_buildJoined_27 : decode cX1_buildJoined 27 = .ok (.if_icmp .ge 10, 3) := by decide +kernel
theorem dX1_buildJoined_30 : decode cX1_buildJoined 30 = .ok (.iload_n 2, 1) := by decide +kernel
theorem dX1_buildJoined_31 : decode cX1_buildJoined 31 = .ok (.iload 5, 2) := by decide +kernel
theorem dX1_buildJoined_33 : decode cX1_buildJoined 33 = .ok (.iadd, 1) := by decide +kernel
theorem dX1_buildJoined_34 : decode cX1_buildJoined 34 = .ok (.goto 10, 3) := by decide +kernel
theorem dX1_buildJoined_37 : decode cX1_buildJoined 37 = .ok (.iload_n 2, 1) := by decide +kernel
theorem dX1_buildJoined_38 : decode cX1_buildJoined 38 = .ok (.iload 5, 2) := by decide +kernel
theorem dX1_buildJoined_40 : decode cX1_buildJoined 40 = .ok (.iadd, 1) := by decide +kernel
theorem dX1_buildJoined_41 : decode cX1_buildJoined 41 = .ok (.iload 4, 2) := by decide +kernel
theorem dX1_buildJoined_43 : decode cX1_buildJoined 43 = .ok (.isub, 1) := by decide +kernel
theorem dX1_buildJoined_44 : decode cX1_buildJoined 44 = .ok (.istore 6, 2) := by decide +kernel
theorem dX1_buildJoined_46 : decode cX1_buildJoined 46 = .ok (.iconst 0, 1) := by decide +kernel
theorem dX1_buildJoined_47 : decode cX1_buildJoined 47 = .ok (.istore 7, 2) := by decide +kernel
theorem dX1_buildJoined_49 : decode cX1_buildJoined 49 = .ok (.iload 7, 2) := by decide +kernel
theorem dX1_buildJoined_51 : decode cX1_buildJoined 51 = .ok (.iconst 1, 1) := by decide +kernel
theorem dX1_buildJoined_52 : decode cX1_buildJoined 52 = .ok (.iadd, 1) := by decide +kernel
theorem dX1_buildJoined_53 : decode cX1_buildJoined 53 = .ok (.aload_n 1, 1) := by decide +kernel
theorem dX1_buildJoined_54 : decode cX1_buildJoined 54 = .ok (.invokevirtual 67, 3) := by decide +kernel
theorem dX1_buildJoined_57 : decode cX1_buildJoined 57 = .ok (.if_icmp .ge 31, 3) := by decide +kernel
theorem dX1_buildJoined_60 : decode cX1_buildJoined 60 = .ok (.aload_n 0, 1) := by decide +kernel
theorem dX1_buildJoined_61 : decode cX1_buildJoined 61 = .ok (.aload_n 1, 1) := by decide +kernel
theorem dX1_buildJoined_62 : decode cX1_buildJoined 62 = .ok (.iload 7, 2) := by decide +kernel
theorem dX1_buildJoined_64 : decode cX1_buildJoined 64 = .ok (.iload 6, 2) := by decide +kernel
theorem dX1_buildJoined_66 : decode cX1_buildJoined 66 = .ok (.invokevirtual 100, 3) := by decide +kernel
theorem dX1_buildJoined_69 : decode cX1_buildJoined 69 = .ok (.aload_n 1, 1) := by decide +kernel
theorem dX1_buildJoined_70 : decode cX1_buildJoined 70 = .ok (.iload 7, 2) := by decide +kernel
theorem dX1_buildJoined_72 : decode cX1_buildJoined 72 = .ok (.iconst 1, 1) := by decide +kernel
theorem dX1_buildJoined_73 : decode cX1_buildJoined 73 = .ok (.iadd, 1) := by decide +kernel
theorem dX1_buildJoined_74 : decode cX1_buildJoined 74 = .ok (.iload 6, 2) := by decide +kernel
theorem dX1_buildJoined_76 : decode cX1_buildJoined 76 = .ok (.invokevirtual 100, 3) := by decide +kernel
theorem dX1_buildJoined_79 : decode cX1_buildJoined 79 = .ok (.invokevirtual 103, 3) := by decide +kernel
theorem dX1_buildJoined_82 : decode cX1_buildJoined 82 = .ok (.iinc 7 1, 3) := by decide +kernel
theorem dX1_buildJoined_85 : decode cX1_buildJoined 85 = .ok (.goto (-36), 3) := by decide +kernel
theorem dX1_buildJoined_88 : decode cX1_buildJoined 88 = .ok (.iinc 5 1, 3) := by decide +kernel
theorem dX1_buildJoined_91 : decode cX1_buildJoined 91 = .ok (.goto (-77), 3) := by decide +kernel
theorem dX1_buildJoined_94 : decode cX1_buildJoined 94 = .ok (.iconst 0, 1) := by decide +kernel
theorem dX1_buildJoined_95 : decode cX1_buildJoined 95 = .ok (.istore 5, 2) := by decide +kernel
theorem dX1_buildJoined_97 : decode cX1_buildJoined 97 = .ok (.iconst 0, 1) := by decide +kernel
theorem dX1_buildJoined_98 : decode cX1_buildJoined 98 = .ok (.istore 6, 2) := by decide +kernel
theorem dX1_buildJoined_100 : decode cX1_buildJoined 100 = .ok (.iload 6, 2) := by decide +kernel
theorem dX1_buildJoined_102 : decode cX1_buildJoined 102 = .ok (.aload_n 1, 1) := by decide +kernel
theorem dX1_buildJoined_103 : decode cX1_buildJoined 103 = .ok (.invokevirtual 42, 3) := by decide +kernel
theorem dX1_buildJoined_106 : decode cX1_buildJoined 106 = .ok (.if_icmp .ge 40, 3) := by decide +kernel
theorem dX1_buildJoined_109 : decode cX1_buildJoined 109 = .ok (.aload_n 3, 1) := by decide +kernel
theorem dX1_buildJoined_110 : decode cX1_buildJoined 110 = .ok (.aload_n 1, 1) := by decide +kernel
theorem dX1_buildJoined_111 : decode cX1_buildJoined 111 = .ok (.iload 5, 2) := by decide +kernel
theorem dX1_buildJoined_113 : decode cX1_buildJoined 113 = .ok (.invokevirtual 84, 3) := by decide +kernel
theorem dX1_buildJoined_116 : decode cX1_buildJoined 116 = .ok (.invokevirtual 60, 3) := by decide +kernel
theorem dX1_buildJoined_119 : decode cX1_buildJoined 119 = .ok (.iload 5, 2) := by decide +kernel
theorem dX1_buildJoined_121 : decode cX1_buildJoined 121 = .ok (.invokestatic 107, 3) := by decide +kernel
theorem dX1_buildJoined_124 : decode cX1_buildJoined 124 = .ok (.ifCond .eq 13, 3) := by decide +kernel
theorem dX1_buildJoined_127 : decode cX1_buildJoined 127 = .ok (.aload_n 0, 1) := by decide +kernel
theorem dX1_buildJoined_128 : decode cX1_buildJoined 128 = .ok (.getfield 18, 3) := by decide +kernel
theorem dX1_buildJoined_131 : decode cX1_buildJoined 131 = .ok (.iload 5, 2) := by decide +kernel
theorem dX1_buildJoined_133 : decode cX1_buildJoined 133 = .ok (.iaload, 1) := by decide +kernel
theorem dX1_buildJoined_134 : decode cX1_buildJoined 134 = .ok (.goto 4, 3) := by decide +kernel
theorem dX1_buildJoined_137 : decode cX1_buildJoined 137 = .ok (.iconst 0, 1) := by decide +kernel
theorem dX1_buildJoined_138 : decode cX1_buildJoined 138 = .ok (.istore 5, 2) := by decide +kernel
theorem dX1_buildJoined_140 : decode cX1_buildJoined 140 = .ok (.iinc 6 1, 3) := by decide +kernel
theorem dX1_buildJoined_143 : decode cX1_buildJoined 143 = .ok (.goto (-43), 3) := by decide +kernel
theorem dX1_buildJoined_146 : decode cX1_buildJoined 146 = .ok (.return_, 1) := by decide +kernel
theorem dX1_startCycles_0 : decode cX1_startCycles 0 = .ok (.iconst 0, 1) := by decide +kernel
theorem dX1_startCycles_1 : decode cX1_startCycles 1 = .ok (.istore_n 2, 1) := by decide +kernel
theorem dX1_startCycles_2 : decode cX1_startCycles 2 = .ok (.iload_n 2, 1) := by decide +kernel
theorem dX1_startCycles_3 : decode cX1_startCycles 3 = .ok (.aload_n 1, 1) := by decide +kernel
theorem dX1_startCycles_4 : decode cX1_startCycles 4 = .ok (.invokevirtual 42, 3) := by decide +kernel
theorem dX1_startCycles_7 : decode cX1_startCycles 7 = .ok (.if_icmp .ge 43, 3) := by decide +kernel
theorem dX1_startCycles_10 : decode cX1_startCycles 10 = .ok (.iload_n 2, 1) := by decide +kernel
theorem dX1_startCycles_11 : decode cX1_startCycles 11 = .ok (.invokestatic 107, 3) := by decide +kernel
theorem dX1_startCycles_14 : decode cX1_startCycles 14 = .ok (.ifCond .eq 30, 3) := by decide +kernel
theorem dX1_startCycles_17 : decode cX1_startCycles 17 = .ok (.aload_n 0, 1) := by decide +kernel
theorem dX1_startCycles_18 : decode cX1_startCycles 18 = .ok (.getfield 18, 3) := by decide +kernel
theorem dX1_startCycles_21 : decode cX1_startCycles 21 = .ok (.iload_n 2, 1) := by decide +kernel
theorem dX1_startCycles_22 : decode cX1_startCycles 22 = .ok (.aload_n 1, 1) := by decide +kernel
theorem dX1_startCycles_23 : decode cX1_startCycles 23 = .ok (.iload_n 2, 1) := by decide +kernel
theorem dX1_startCycles_24 : decode cX1_startCycles 24 = .ok (.aload_n 1, 1) := by decide +kernel
theorem dX1_startCycles_25 : decode cX1_startCycles 25 = .ok (.iload_n 2, 1) := by decide +kernel
theorem dX1_startCycles_26 : decode cX1_startCycles 26 = .ok (.invokevirtual 84, 3) := by decide +kernel
theorem dX1_startCycles_29 : decode cX1_startCycles 29 = .ok (.invokevirtual 87, 3) := by decide +kernel
theorem dX1_startCycles_32 : decode cX1_startCycles 32 = .ok (.iastore, 1) := by decide +kernel
theorem dX1_startCycles_33 : decode cX1_startCycles 33 = .ok (.aload_n 0, 1) := by decide +kernel
theorem dX1_startCycles_34 : decode cX1_startCycles 34 = .ok (.getfield 22, 3) := by decide +kernel
theorem dX1_startCycles_37 : decode cX1_startCycles 37 = .ok (.iload_n 2, 1) := by decide +kernel
theorem dX1_startCycles_38 : decode cX1_startCycles 38 = .ok (.aload_n 1, 1) := by decide +kernel
theorem dX1_startCycles_39 : decode cX1_startCycles 39 = .ok (.iload_n 2, 1) := by decide +kernel
theorem dX1_startCycles_40 : decode cX1_startCycles 40 = .ok (.invokevirtual 110, 3) := by decide +kernel
theorem dX1_startCycles_43 : decode cX1_startCycles 43 = .ok (.iastore, 1) := by decide +kernel
theorem dX1_startCycles_44 : decode cX1_startCycles 44 = .ok (.iinc 2 1, 3) := by decide +kernel
theorem dX1_startCycles_47 : decode cX1_startCycles 47 = .ok (.goto (-45), 3) := by decide +kernel
theorem dX1_startCycles_50 : decode cX1_startCycles 50 = .ok (.return_, 1) := by decide +kernel
theorem dX1_join_0 : decode cX1_join 0 = .ok (.iload_n 1, 1) := by decide +kernel
theorem dX1_join_1 : decode cX1_join 1 = .ok (.invokestatic 107, 3) := by decide +kernel
theorem dX1_join_4 : decode cX1_join 4 = .ok (.ifCond .eq 25, 3) := by decide +kernel
theorem dX1_join_7 : decode cX1_join 7 = .ok (.iload_n 2, 1) := by decide +kernel
theorem dX1_join_8 : decode cX1_join 8 = .ok (.invokestatic 107, 3) := by decide +kernel
theorem dX1_join_11 : decode cX1_join 11 = .ok (.ifCond .eq 18, 3) := by decide +kernel
theorem dX1_join_14 : decode cX1_join 14 = .ok (.aload_n 0, 1) := by decide +kernel
theorem dX1_join_15 : decode cX1_join 15 = .ok (.getfield 22, 3) := by decide +kernel
theorem dX1_join_18 : decode cX1_join 18 = .ok (.iload_n 1, 1) := by decide +kernel
theorem dX1_join_19 : decode cX1_join 19 = .ok (.iaload, 1) := by decide +kernel
theorem dX1_join_20 : decode cX1_join 20 = .ok (.aload_n 0, 1) := by decide +kernel
theorem dX1_join_21 : decode cX1_join 21 = .ok (.getfield 22, 3) := by decide +kernel
theorem dX1_join_24 : decode cX1_join 24 = .ok (.iload_n 2, 1) := by decide +kernel
theorem dX1_join_25 : decode cX1_join 25 = .ok (.iaload, 1) := by decide +kernel
theorem dX1_join_26 : decode cX1_join 26 = .ok (.if_icmp .ne 4, 3) := by decide +kernel
theorem dX1_join_29 : decode cX1_join 29 = .ok (.return_, 1) := by decide +kernel
theorem dX1_join_30 : decode cX1_join 30 = .ok (.aload_n 0, 1) := by decide +kernel
theorem dX1_join_31 : decode cX1_join 31 = .ok (.getfield 18, 3) := by decide +kernel
theorem dX1_join_34 : decode cX1_join 34 = .ok (.iload_n 1, 1) := by decide +kernel
theorem dX1_join_35 : decode cX1_join 35 = .ok (.iaload, 1) := by decide +kernel
theorem dX1_join_36 : decode cX1_join 36 = .ok (.istore_n 3, 1) := by decide +kernel
theorem dX1_join_37 : decode cX1_join 37 = .ok (.aload_n 0, 1) := by decide +kernel
theorem dX1_join_38 : decode cX1_join 38 = .ok (.getfield 18, 3) := by decide +kernel
theorem dX1_join_41 : decode cX1_join 41 = .ok (.iload_n 1, 1) := by decide +kernel
theorem dX1_join_42 : decode cX1_join 42 = .ok (.aload_n 0, 1) := by decide +kernel
theorem dX1_join_43 : decode cX1_join 43 = .ok (.getfield 18, 3) := by decide +kernel
theorem dX1_join_46 : decode cX1_join 46 = .ok (.iload_n 2, 1) := by decide +kernel
theorem dX1_join_47 : decode cX1_join 47 = .ok (.iaload, 1) := by decide +kernel
theorem dX1_join_48 : decode cX1_join 48 = .ok (.iastore, 1) := by decide +kernel
theorem dX1_join_49 : decode cX1_join 49 = .ok (.aload_n 0, 1) := by decide +kernel
theorem dX1_join_50 : decode cX1_join 50 = .ok (.getfield 18, 3) := by decide +kernel
theorem dX1_join_53 : decode cX1_join 53 = .ok (.iload_n 2, 1) := by decide +kernel
theorem dX1_join_54 : decode cX1_join 54 = .ok (.iload_n 3, 1) := by decide +kernel
theorem dX1_join_55 : decode cX1_join 55 = .ok (.iastore, 1) := by decide +kernel
theorem dX1_join_56 : decode cX1_join 56 = .ok (.aload_n 0, 1) := by decide +kernel
theorem dX1_join_57 : decode cX1_join 57 = .ok (.getfield 22, 3) := by decide +kernel
theorem dX1_join_60 : decode cX1_join 60 = .ok (.iload_n 2, 1) := by decide +kernel
theorem dX1_join_61 : decode cX1_join 61 = .ok (.iaload, 1) := by decide +kernel
theorem dX1_join_62 : decode cX1_join 62 = .ok (.istore 4, 2) := by decide +kernel
theorem dX1_join_64 : decode cX1_join 64 = .ok (.iconst 0, 1) := by decide +kernel
theorem dX1_join_65 : decode cX1_join 65 = .ok (.istore 5, 2) := by decide +kernel
theorem dX1_join_67 : decode cX1_join 67 = .ok (.iload 5, 2) := by decide +kernel
theorem dX1_join_69 : decode cX1_join 69 = .ok (.aload_n 0, 1) := by decide +kernel
theorem dX1_join_70 : decode cX1_join 70 = .ok (.getfield 22, 3) := by decide +kernel
theorem dX1_join_73 : decode cX1_join 73 = .ok (.arraylength, 1) := by decide +kernel
theorem dX1_join_74 : decode cX1_join 74 = .ok (.if_icmp .ge 34, 3) := by decide +kernel
theorem dX1_join_77 : decode cX1_join 77 = .ok (.aload_n 0, 1) := by decide +kernel
theorem dX1_join_78 : decode cX1_join 78 = .ok (.getfield 22, 3) := by decide +kernel
theorem dX1_join_81 : decode cX1_join 81 = .ok (.iload 5, 2) := by decide +kernel
theorem dX1_join_83 : decode cX1_join 83 = .ok (.iaload, 1) := by decide +kernel
theorem dX1_join_84 : decode cX1_join 84 = .ok (.iload 4, 2) := by decide +kernel
theorem dX1_join_86 : decode cX1_join 86 = .ok (.if_icmp .ne 16, 3) := by decide +kernel
theorem dX1_join_89 : decode cX1_join 89 = .ok (.aload_n 0, 1) := by decide +kernel
theorem dX1_join_90 : decode cX1_join 90 = .ok (.getfield 22, 3) := by decide +kernel
theorem dX1_join_93 : decode cX1_join 93 = .ok (.iload 5, 2) := by decide +kernel
theorem dX1_join_95 : decode cX1_join 95 = .ok (.aload_n 0, 1) := by decide +kernel
theorem dX1_join_96 : decode cX1_join 96 = .ok (.getfield 22, 3) := by decide +kernel
theorem dX1_join_99 : decode cX1_join 99 = .ok (.iload_n 1, 1) := by decide +kernel
theorem dX1_join_100 : decode cX1_join 100 = .ok (.iaload, 1) := by decide +kernel
theorem dX1_join_101 : decode cX1_join 101 = .ok (.iastore, 1) := by decide +kernel
theorem dX1_join_102 : decode cX1_join 102 = .ok (.iinc 5 1, 3) := by decide +kernel
theorem dX1_join_105 : decode cX1_join 105 = .ok (.goto (-38), 3) := by decide +kernel
theorem dX1_join_108 : decode cX1_join 108 = .ok (.return_, 1) := by decide +kernel
theorem dX1_isSlot_0 : decode cX1_isSlot 0 = .ok (.iload_n 0, 1) := by decide +kernel
theorem dX1_isSlot_1 : decode cX1_isSlot 1 = .ok (.ifCond .lt 14, 3) := by decide +kernel
theorem dX1_isSlot_4 : decode cX1_isSlot 4 = .ok (.iload_n 0, 1) := by decide +kernel
theorem dX1_isSlot_5 : decode cX1_isSlot 5 = .ok (.sipush 256, 3) := by decide +kernel
theorem dX1_isSlot_8 : decode cX1_isSlot 8 = .ok (.if_icmp .ge 7, 3) := by decide +kernel
theorem dX1_isSlot_11 : decode cX1_isSlot 11 = .ok (.iconst 1, 1) := by decide +kernel
theorem dX1_isSlot_12 : decode cX1_isSlot 12 = .ok (.goto 4, 3) := by decide +kernel
theorem dX1_isSlot_15 : decode cX1_isSlot 15 = .ok (.iconst 0, 1) := by decide +kernel
theorem dX1_isSlot_16 : decode cX1_isSlot 16 = .ok (.ireturn, 1) := by decide +kernel
theorem dX2_init_0 : decode cX2_init 0 = .ok (.aload_n 0, 1) := by decide +kernel
theorem dX2_init_1 : decode cX2_init 1 = .ok (.invokespecial 3, 3) := by decide +kernel
theorem dX2_init_4 : decode cX2_init 4 = .ok (.aload_n 0, 1) := by decide +kernel
theorem dX2_init_5 : decode cX2_init 5 = .ok (.bipush 20, 2) := by decide +kernel
theorem dX2_init_7 : decode cX2_init 7 = .ok (.newarray .char, 2) := by decide +kernel
theorem dX2_init_9 : decode cX2_init 9 = .ok (.putfield 11, 3) := by decide +kernel
theorem dX2_init_12 : decode cX2_init 12 = .ok (.aload_n 0, 1) := by decide +kernel
theorem dX2_init_13 : decode cX2_init 13 = .ok (.iconst 0, 1) := by decide +kernel
theorem dX2_init_14 : decode cX2_init 14 = .ok (.putfield 15, 3) := by decide +kernel
theorem dX2_init_17 : decode cX2_init 17 = .ok (.return_, 1) := by decide +kernel
theorem dX2_isSign_0 : decode cX2_isSign 0 = .ok (.iload_n 0, 1) := by decide +kernel
theorem dX2_isSign_1 : decode cX2_isSign 1 = .ok (.bipush 33, 2) := by decide +kernel
theorem dX2_isSign_3 : decode cX2_isSign 3 = .ok (.if_icmp .lt 13, 3) := by decide +kernel
theorem dX2_isSign_6 : decode cX2_isSign 6 = .ok (.iload_n 0, 1) := by decide +kernel
theorem dX2_isSign_7 : decode cX2_isSign 7 = .ok (.bipush 126, 2) := by decide +kernel
theorem dX2_isSign_9 : decode cX2_isSign 9 = .ok (.if_icmp .gt 7, 3) := by decide +kernel
theorem dX2_isSign_12 : decode cX2_isSign 12 = .ok (.iconst 1, 1) := by decide +kernel
theorem dX2_isSign_13 : decode cX2_isSign 13 = .ok (.goto 4, 3) := by decide +kernel
theorem dX2_isSign_16 : decode cX2_isSign 16 = .ok (.iconst 0, 1) := by decide +kernel
theorem dX2_isSign_17 : decode cX2_isSign 17 = .ok (.ireturn, 1) := by decide +kernel
theorem dX2_size_0 : decode cX2_size 0 = .ok (.aload_n 0, 1) := by decide +kernel
theorem dX2_size_1 : decode cX2_size 1 = .ok (.getfield 15, 3) := by decide +kernel
theorem dX2_size_4 : decode cX2_size 4 = .ok (.ireturn, 1) := by decide +kernel
theorem dX2_isFull_0 : decode cX2_isFull 0 = .ok (.aload_n 0, 1) := by decide +kernel
theorem dX2_isFull_1 : decode cX2_isFull 1 = .ok (.getfield 15, 3) := by decide +kernel
theorem dX2_isFull_4 : decode cX2_isFull 4 = .ok (.bipush 20, 2) := by decide +kernel
theorem dX2_isFull_6 : decode cX2_isFull 6 = .ok (.if_icmp .lt 7, 3) := by decide +kernel
theorem dX2_isFull_9 : decode cX2_isFull 9 = .ok (.iconst 1, 1) := by decide +kernel
theorem dX2_isFull_10 : decode cX2_isFull 10 = .ok (.goto 4, 3) := by decide +kernel
theorem dX2_isFull_13 : decode cX2_isFull 13 = .ok (.iconst 0, 1) := by decide +kernel
theorem dX2_isFull_14 : decode cX2_isFull 14 = .ok (.ireturn, 1) := by decide +kernel
theorem dX2_add_0 : decode cX2_add 0 = .ok (.aload_n 0, 1) := by decide +kernel
theorem dX2_add_1 : decode cX2_add 1 = .ok (.invokevirtual 19, 3) := by decide +kernel
theorem dX2_add_4 : decode cX2_add 4 = .ok (.ifCond .ne 24, 3) := by decide +kernel
theorem dX2_add_7 : decode cX2_add 7 = .ok (.aload_n 0, 1) := by decide +kernel
theorem dX2_add_8 : decode cX2_add 8 = .ok (.getfield 11, 3) := by decide +kernel
theorem dX2_add_11 : decode cX2_add 11 = .ok (.aload_n 0, 1) := by decide +kernel
theorem dX2_add_12 : decode cX2_add 12 = .ok (.getfield 15, 3) := by decide +kernel
theorem dX2_add_15 : decode cX2_add 15 = .ok (.iload_n 1, 1) := by decide +kernel
theorem dX2_add_16 : decode cX2_add 16 = .ok (.i2c, 1) := by decide +kernel
theorem dX2_add_17 : decode cX2_add 17 = .ok (.castore, 1) := by decide +kernel
theorem dX2_add_18 : decode cX2_add 18 = .ok (.aload_n 0, 1) := by decide +kernel
theorem dX2_add_19 : decode cX2_add 19 = .ok (.dup, 1) := by decide +kernel
theorem dX2_add_20 : decode cX2_add 20 = .ok (.getfield 15, 3) := by decide +kernel
theorem dX2_add_23 : decode cX2_add 23 = .ok (.iconst 1, 1) := by decide +kernel
theorem dX2_add_24 : decode cX2_add 24 = .ok (.iadd, 1) := by decide +kernel
theorem dX2_add_25 : decode cX2_add 25 = .ok (.putfield 15, 3) := by decide +kernel
theorem dX2_add_28 : decode cX2_add 28 = .ok (.return_, 1) := by decide +kernel
theorem dX2_clear_0 : decode cX2_clear 0 = .ok (.aload_n 0, 1) := by decide +kernel
theorem dX2_clear_1 : decode cX2_clear 1 = .ok (.iconst 0, 1) := by decide +kernel
theorem dX2_clear_2 : decode cX2_clear 2 = .ok (.putfield 15, 3) := by decide +kernel
theorem dX2_clear_5 : decode cX2_clear 5 = .ok (.return_, 1) := by decide +kernel
theorem dX2_kind_0 : decode cX2_kind 0 = .ok (.iconst 0, 1) := by decide +kernel
theorem dX2_kind_1 : decode cX2_kind 1 = .ok (.istore_n 1, 1) := by decide +kernel
theorem dX2_kind_2 : decode cX2_kind 2 = .ok (.iload_n 1, 1) := by decide +kernel
theorem dX2_kind_3 : decode cX2_kind 3 = .ok (.iconst 3, 1) := by decide +kernel
theorem dX2_kind_4 : decode cX2_kind 4 = .ok (.if_icmp .gt 22, 3) := by decide +kernel
theorem dX2_kind_7 : decode cX2_kind 7 = .ok (.aload_n 0, 1) := by decide +kernel
theorem dX2_kind_8 : decode cX2_kind 8 = .ok (.iload_n 1, 1) := by decide +kernel
theorem dX2_kind_9 : decode cX2_kind 9 = .ok (.invokestatic 23, 3) := by decide +kernel
theorem dX2_kind_12 : decode cX2_kind 12 = .ok (.invokevirtual 27, 3) := by decide +kernel
theorem dX2_kind_15 : decode cX2_kind 15 = .ok (.ifCond .eq 5, 3) := by decide +kernel
theorem dX2_kind_18 : decode cX2_kind 18 = .ok (.iload_n 1, 1) := by decide +kernel
theorem dX2_kind_19 : decode cX2_kind 19 = .ok (.ireturn, 1) := by decide +kernel
theorem dX2_kind_20 : decode cX2_kind 20 = .ok (.iinc 1 1, 3) := by decide +kernel
theorem dX2_kind_23 : decode cX2_kind 23 = .ok (.goto (-21), 3) := by decide +kernel
theorem dX2_kind_26 : decode cX2_kind 26 = .ok (.bipush (-6), 2) := by decide +kernel
theorem dX2_kind_28 : decode cX2_kind 28 = .ok (.ireturn, 1) := by decide +kernel
theorem dX2_parameter_0 : decode cX2_parameter 0 = .ok (.aload_n 0, 1) := by decide +kernel
theorem dX2_parameter_1 : decode cX2_parameter 1 = .ok (.invokevirtual 31, 3) := by decide +kernel
theorem dX2_parameter_4 : decode cX2_parameter 4 = .ok (.istore_n 1, 1) := by decide +kernel
theorem dX2_parameter_5 : decode cX2_parameter 5 = .ok (.iload_n 1, 1) := by decide +kernel
theorem dX2_parameter_6 : decode cX2_parameter 6 = .ok (.aload_n 0, 1) := by decide +kernel
theorem dX2_parameter_7 : decode cX2_parameter 7 = .ok (.getfield 15, 3) := by decide +kernel
theorem dX2_parameter_10 : decode cX2_parameter 10 = .ok (.if_icmp .ne 5, 3) := by decide +kernel
theorem dX2_parameter_13 : decode cX2_parameter 13 = .ok (.iconst 0, 1) := by decide +kernel
theorem dX2_parameter_14 : decode cX2_parameter 14 = .ok (.ireturn, 1) := by decide +kernel
theorem dX2_parameter_15 : decode cX2_parameter 15 = .ok (.aload_n 0, 1) := by decide +kernel
theorem dX2_parameter_16 : decode cX2_parameter 16 = .ok (.getfield 15, 3) := by decide +kernel
theorem dX2_parameter_19 : decode cX2_parameter 19 = .ok (.iload_n 1, 1) := by decide +kernel
theorem dX2_parameter_20 : decode cX2_parameter 20 = .ok (.isub, 1) := by decide +kernel
theorem dX2_parameter_21 : decode cX2_parameter 21 = .ok (.iconst 1, 1) := by decide +kernel
theorem dX2_parameter_22 : decode cX2_parameter 22 = .ok (.isub, 1) := by decide +kernel
theorem dX2_parameter_23 : decode cX2_parameter 23 = .ok (.istore_n 2, 1) := by decide +kernel
theorem dX2_parameter_24 : decode cX2_parameter 24 = .ok (.iload_n 2, 1) := by decide +kernel
theorem dX2_parameter_25 : decode cX2_parameter 25 = .ok (.iconst 1, 1) := by decide +kernel
theorem dX2_parameter_26 : decode cX2_parameter 26 = .ok (.if_icmp .lt 8, 3) := by decide +kernel
theorem dX2_parameter_29 : decode cX2_parameter 29 = .ok (.iload_n 2, 1) := by decide +kernel
theorem dX2_parameter_30 : decode cX2_parameter 30 = .ok (.iconst 3, 1) := by decide +kernel
theorem dX2_parameter_31 : decode cX2_parameter 31 = .ok (.if_icmp .le 7, 3) := by decide +kernel
theorem dX2_parameter_34 : decode cX2_parameter 34 = .ok (.iconst (-1), 1) := by decide +kernel
theorem dX2_parameter_35 : decode cX2_parameter 35 = .ok (.goto 10, 3) := by decide +kernel
theorem dX2_parameter_38 : decode cX2_parameter 38 = .ok (.aload_n 0, 1) := by decide +kernel
theorem dX2_parameter_39 : decode cX2_parameter 39 = .ok (.iload_n 1, 1) := by decide +kernel
theorem dX2_parameter_40 : decode cX2_parameter 40 = .ok (.iconst 1, 1) := by decide +kernel
theorem dX2_parameter_41 : decode cX2_parameter 41 = .ok (.iadd, 1) := by decide +kernel
theorem dX2_parameter_42 : decode cX2_parameter 42 = .ok (.invokevirtual 35, 3) := by decide +kernel
theorem dX2_parameter_45 : decode cX2_parameter 45 = .ok (.ireturn, 1) := by decide +kernel
theorem dX2_number_0 : decode cX2_number 0 = .ok (.iconst 0, 1) := by decide +kernel
theorem dX2_number_1 : decode cX2_number 1 = .ok (.istore_n 2, 1) := by decide +kernel
theorem dX2_number_2 : decode cX2_number 2 = .ok (.iload_n 1, 1) := by decide +kernel
theorem dX2_number_3 : decode cX2_number 3 = .ok (.istore_n 3, 1) := by decide +kernel
theorem dX2_number_4 : decode cX2_number 4 = .ok (.iload_n 3, 1) := by decide +kernel
theorem dX2_number_5 : decode cX2_number 5 = .ok (.aload_n 0, 1) := by decide +kernel
theorem dX2_number_6 : decode cX2_number 6 = .ok (.getfield 15, 3) := by decide +kernel
theorem dX2_number_9 : decode cX2_number 9 = .ok (.if_icmp .ge 42, 3) := by decide +kernel
theorem dX2_number_12 : decode cX2_number 12 = .ok (.aload_n 0, 1) := by decide +kernel
theorem dX2_number_13 : decode cX2_number 13 = .ok (.getfield 11, 3) := by decide +kernel
theorem dX2_number_16 : decode cX2_number 16 = .ok (.iload_n 3, 1) := by decide +kernel
theorem dX2_number_17 : decode cX2_number 17 = .ok (.caload, 1) := by decide +kernel
theorem dX2_number_18 : decode cX2_number 18 = .ok (.bipush 48, 2) := by decide +kernel
theorem dX2_number_20 : decode cX2_number 20 = .ok (.isub, 1) := by decide +kernel
theorem dX2_number_21 : decode cX2_number 21 = .ok (.istore 4, 2) := by decide +kernel
theorem dX2_number_23 : decode cX2_number 23 = .ok (.iload 4, 2) := by decide +kernel
theorem dX2_number_25 : decode cX2_number 25 = .ok (.ifCond .lt 10, 3) := by decide +kernel
theorem dX2_number_28 : decode cX2_number 28 = .ok (.iload 4, 2) := by decide +kernel
theorem dX2_number_30 : decode cX2_number 30 = .ok (.bipush 9, 2) := by decide +kernel
theorem dX2_number_32 : decode cX2_number 32 = .ok (.if_icmp .le 5, 3) := by decide +kernel
theorem dX2_number_35 : decode cX2_number 35 = .ok (.iconst (-1), 1) := by decide +kernel
theorem dX2_number_36 : decode cX2_number 36 = .ok (.ireturn, 1) := by decide +kernel
theorem dX2_number_37 : decode cX2_number 37 = .ok (.iload_n 2, 1) := by decide +kernel
theorem dX2_number_38 : decode cX2_number 38 = .ok (.bipush 10, 2) := by decide +kernel
theorem dX2_number_40 : decode cX2_number 40 = .ok (.imul, 1) := by decide +kernel
theorem dX2_number_41 : decode cX2_number 41 = .ok (.iload 4, 2) := by decide +kernel
theorem dX2_number_43 : decode cX2_number 43 = .ok (.iadd, 1) := by decide +kernel
theorem dX2_number_44 : decode cX2_number 44 = .ok (.istore_n 2, 1) := by decide +kernel
theorem dX2_number_45 : decode cX2_number 45 = .ok (.iinc 3 1, 3) := by decide +kernel
theorem dX2_number_48 : decode cX2_number 48 = .ok (.goto (-44), 3) := by decide +kernel
theorem dX2_number_51 : decode cX2_number 51 = .ok (.iload_n 2, 1) := by decide +kernel
theorem dX2_number_52 : decode cX2_number 52 = .ok (.ireturn, 1) := by decide +kernel
theorem dX2_nameEnd_0 : decode cX2_nameEnd 0 = .ok (.iconst 0, 1) := by decide +kernel
theorem dX2_nameEnd_1 : decode cX2_nameEnd 1 = .ok (.istore_n 1, 1) := by decide +kernel
theorem dX2_nameEnd_2 : decode cX2_nameEnd 2 = .ok (.iload_n 1, 1) := by decide +kernel
theorem dX2_nameEnd_3 : decode cX2_nameEnd 3 = .ok (.aload_n 0, 1) := by decide +kernel
theorem dX2_nameEnd_4 : decode cX2_nameEnd 4 = .ok (.getfield 15, 3) := by decide +kernel
theorem dX2_nameEnd_7 : decode cX2_nameEnd 7 = .ok (.if_icmp .ge 22, 3) := by decide +kernel
theorem dX2_nameEnd_10 : decode cX2_nameEnd 10 = .ok (.aload_n 0, 1) := by decide +kernel
theorem dX2_nameEnd_11 : decode cX2_nameEnd 11 = .ok (.getfield 11, 3) := by decide +kernel
theorem dX2_nameEnd_14 : decode cX2_nameEnd 14 = .ok (.iload_n 1, 1) := by decide +kernel
theorem dX2_nameEnd_15 : decode cX2_nameEnd 15 = .ok (.caload, 1) := by decide +kernel
theorem dX2_nameEnd_16 : decode cX2_nameEnd 16 = .ok (.bipush 58, 2) := by decide +kernel
theorem dX2_nameEnd_18 : decode cX2_nameEnd 18 = .ok (.if_icmp .ne 5, 3) := by decide +kernel
theorem dX2_nameEnd_21 : decode cX2_nameEnd 21 = .ok (.iload_n 1, 1) := by decide +kernel
theorem dX2_nameEnd_22 : decode cX2_nameEnd 22 = .ok (.ireturn, 1) := by decide +kernel
theorem dX2_nameEnd_23 : decode cX2_nameEnd 23 = .ok (.iinc 1 1, 3) := by decide +kernel
theorem dX2_nameEnd_26 : decode cX2_nameEnd 26 = .ok (.goto (-24), 3) := by decide +kernel
theorem dX2_nameEnd_29 : decode cX2_nameEnd 29 = .ok (.aload_n 0, 1) := by decide +kernel
theorem dX2_nameEnd_30 : decode cX2_nameEnd 30 = .ok (.getfield 15, 3) := by decide +kernel
theorem dX2_nameEnd_33 : decode cX2_nameEnd 33 = .ok (.ireturn, 1) := by decide +kernel
theorem dX2_isName_0 : decode cX2_isName 0 = .ok (.aload_n 0, 1) := by decide +kernel
theorem dX2_isName_1 : decode cX2_isName 1 = .ok (.invokevirtual 31, 3) := by decide +kernel
theorem dX2_isName_4 : decode cX2_isName 4 = .ok (.aload_n 1, 1) := by decide +kernel
theorem dX2_isName_5 : decode cX2_isName 5 = .ok (.invokevirtual 39, 3) := by decide +kernel
theorem dX2_isName_8 : decode cX2_isName 8 = .ok (.if_icmp .eq 5, 3) := by decide +kernel
theorem dX2_isName_11 : decode cX2_isName 11 = .ok (.iconst 0, 1) := by decide +kernel
theorem dX2_isName_12 : decode cX2_isName 12 = .ok (.ireturn, 1) := by decide +kernel
theorem dX2_isName_13 : decode cX2_isName 13 = .ok (.iconst 0, 1) := by decide +kernel
theorem dX2_isName_14 : decode cX2_isName 14 = .ok (.istore_n 2, 1) := by decide +kernel
theorem dX2_isName_15 : decode cX2_isName 15 = .ok (.iload_n 2, 1) := by decide +kernel
theorem dX2_isName_16 : decode cX2_isName 16 = .ok (.aload_n 1, 1) := by decide +kernel
theorem dX2_isName_17 : decode cX2_isName 17 = .ok (.invokevirtual 39, 3) := by decide +kernel
theorem dX2_isName_20 : decode cX2_isName 20 = .ok (.if_icmp .ge 25, 3) := by decide +kernel
theorem dX2_isName_23 : decode cX2_isName 23 = .ok (.aload_n 0, 1) := by decide +kernel
theorem dX2_isName_24 : decode cX2_isName 24 = .ok (.getfield 11, 3) := by decide +kernel
theorem dX2_isName_27 : decode cX2_isName 27 = .ok (.iload_n 2, 1) := by decide +kernel
theorem dX2_isName_28 : decode cX2_isName 28 = .ok (.caload, 1) := by decide +kernel
theorem dX2_isName_29 : decode cX2_isName 29 = .ok (.aload_n 1, 1) := by decide +kernel
theorem dX2_isName_30 : decode cX2_isName 30 = .ok (.iload_n 2, 1) := by decide +kernel
theorem dX2_isName_31 : decode cX2_isName 31 = .ok (.invokevirtual 44, 3) := by decide +kernel
theorem dX2_isName_34 : decode cX2_isName 34 = .ok (.if_icmp .eq 5, 3) := by decide +kernel
theorem dX2_isName_37 : decode cX2_isName 37 = .ok (.iconst 0, 1) := by decide +kernel
theorem dX2_isName_38 : decode cX2_isName 38 = .ok (.ireturn, 1) := by decide +kernel
theorem dX2_isName_39 : decode cX2_isName 39 = .ok (.iinc 2 1, 3) := by decide +kernel
theorem dX2_isName_42 : decode cX2_isName 42 = .ok (.goto (-27), 3) := by decide +kernel
theorem dX2_isName_45 : decode cX2_isName 45 = .ok (.iconst 1, 1) := by decide +kernel
theorem dX2_isName_46 : decode cX2_isName 46 = .ok (.ireturn, 1) := by decide +kernel
theorem dX2_nameOf_0 : decode cX2_nameOf 0 = .ok (.iload_n 0, 1) := by decide +kernel
theorem dX2_nameOf_1 : decode cX2_nameOf 1 = .ok (.tableswitch 36 0 2 #[27, 30, 33], 27) := by decide +kernel
theorem dX2_nameOf_28 : decode cX2_nameOf 28 = .ok (.ldc 48, 2) := by decide +kernel
theorem dX2_nameOf_30 : decode cX2_nameOf 30 = .ok (.areturn, 1) := by decide +kernel
theorem dX2_nameOf_31 : decode cX2_nameOf 31 = .ok (.ldc 50, 2) := by decide +kernel
theorem dX2_nameOf_33 : decode cX2_nameOf 33 = .ok (.areturn, 1) := by decide +kernel
theorem dX2_nameOf_34 : decode cX2_nameOf 34 = .ok (.ldc 52, 2) := by decide +kernel
theorem dX2_nameOf_36 : decode cX2_nameOf 36 = .ok (.areturn, 1) := by decide +kernel
theorem dX2_nameOf_37 : decode cX2_nameOf 37 = .ok (.ldc 54, 2) := by decide +kernel
theorem dX2_nameOf_39 : decode cX2_nameOf 39 = .ok (.areturn, 1) := by decide +kernel
theorem dX3_init_0 : decode cX3_init 0 = .ok (.aload_n 0, 1) := by decide +kernel
theorem dX3_init_1 : decode cX3_init 1 = .ok (.invokespecial 3, 3) := by decide +kernel
theorem dX3_init_4 : decode cX3_init 4 = .ok (.aload_n 0, 1) := by decide +kernel
theorem dX3_init_5 : decode cX3_init 5 = .ok (.sipush 1536, 3) := by decide +kernel
theorem dX3_init_8 : decode cX3_init 8 = .ok (.newarray .int, 2) := by decide +kernel
theorem dX3_init_10 : decode cX3_init 10 = .ok (.putfield 11, 3) := by decide +kernel
theorem dX3_init_13 : decode cX3_init 13 = .ok (.aload_n 0, 1) := by decide +kernel
theorem dX3_init_14 : decode cX3_init 14 = .ok (.bipush 6, 2) := by decide +kernel
theorem dX3_init_16 : decode cX3_init 16 = .ok (.newarray .int, 2) := by decide +kernel
theorem dX3_init_18 : decode cX3_init 18 = .ok (.putfield 15, 3) := by decide +kernel
theorem dX3_init_21 : decode cX3_init 21 = .ok (.aload_n 0, 1) := by decide +kernel
theorem dX3_init_22 : decode cX3_init 22 = .ok (.iconst 0, 1) := by decide +kernel
theorem dX3_init_23 : decode cX3_init 23 = .ok (.putfield 18, 3) := by decide +kernel
theorem dX3_init_26 : decode cX3_init 26 = .ok (.aload_n 0, 1) := by decide +kernel
theorem dX3_init_27 : decode cX3_init 27 = .ok (.iconst 0, 1) := by decide +kernel
theorem dX3_init_28 : decode cX3_init 28 = .ok (.putfield 22, 3) := by decide +kernel
theorem dX3_init_31 : decode cX3_init 31 = .ok (.return_, 1) := by decide +kernel
theorem dX3_size_0 : decode cX3_size 0 = .ok (.aload_n 0, 1) := by decide +kernel
theorem dX3_size_1 : decode cX3_size 1 = .ok (.getfield 22, 3) := by decide +kernel
theorem dX3_size_4 : decode cX3_size 4 = .ok (.ireturn, 1) := by decide +kernel
theorem dX3_clear_0 : decode cX3_clear 0 = .ok (.aload_n 0, 1) := by decide +kernel
theorem dX3_clear_1 : decode cX3_clear 1 = .ok (.iconst 0, 1) := by decide +kernel
theorem dX3_clear_2 : decode cX3_clear 2 = .ok (.putfield 22, 3) := by decide +kernel
theorem dX3_clear_5 : decode cX3_clear 5 = .ok (.return_, 1) := by decide +kernel
theorem dX3_remember_0 : decode cX3_remember 0 = .ok (.aload_n 0, 1) := by decide +kernel
theorem dX3_remember_1 : decode cX3_remember 1 = .ok (.getfield 18, 3) := by decide +kernel
theorem dX3_remember_4 : decode cX3_remember 4 = .ok (.invokestatic 25, 3) := by decide +kernel
theorem dX3_remember_7 : decode cX3_remember 7 = .ok (.ifCond .eq 32, 3) := by decide +kernel
theorem dX3_remember_10 : decode cX3_remember 10 = .ok (.aload_n 1, 1) := by decide +kernel
theorem dX3_remember_11 : decode cX3_remember 11 = .ok (.aload_n 0, 1) := by decide +kernel
theorem dX3_remember_12 : decode cX3_remember 12 = .ok (.getfield 11, 3) := by decide +kernel
theorem dX3_remember_15 : decode cX3_remember 15 = .ok (.aload_n 0, 1) := by decide +kernel
theorem dX3_remember_16 : decode cX3_remember 16 = .ok (.getfield 18, 3) := by decide +kernel
theorem dX3_remember_19 : decode cX3_remember 19 = .ok (.sipush 256, 3) := by decide +kernel
theorem dX3_remember_22 : decode cX3_remember 22 = .ok (.imul, 1) := by decide +kernel
theorem dX3_remember_23 : decode cX3_remember 23 = .ok (.invokevirtual 29, 3) := by decide +kernel
theorem dX3_remember_26 : decode cX3_remember 26 = .ok (.aload_n 0, 1) := by decide +kernel
theorem dX3_remember_27 : decode cX3_remember 27 = .ok (.getfield 15, 3) := by decide +kernel
theorem dX3_remember_30 : decode cX3_remember 30 = .ok (.aload_n 0, 1) := by decide +kernel
theorem dX3_remember_31 : decode cX3_remember 31 = .ok (.getfield 18, 3) := by decide +kernel
theorem dX3_remember_34 : decode cX3_remember 34 = .ok (.aload_n 1, 1) := by decide +kernel
theorem dX3_remember_35 : decode cX3_remember 35 = .ok (.invokevirtual 35, 3) := by decide +kernel
theorem dX3_remember_38 : decode cX3_remember 38 = .ok (.iastore, 1) := by decide +kernel
theorem dX3_remember_39 : decode cX3_remember 39 = .ok (.aload_n 0, 1) := by decide +kernel
theorem dX3_remember_40 : decode cX3_remember 40 = .ok (.aload_n 0, 1) := by decide +kernel
theorem dX3_remember_41 : decode cX3_remember 41 = .ok (.getfield 18, 3) := by decide +kernel
theorem dX3_remember_44 : decode cX3_remember 44 = .ok (.iconst 1, 1) := by decide +kernel
theorem dX3_remember_45 : decode cX3_remember 45 = .ok (.iadd, 1) := by decide +kernel
theorem dX3_remember_46 : decode cX3_remember 46 = .ok (.invokestatic 25, 3) := by decide +kernel
theorem dX3_remember_49 : decode cX3_remember 49 = .ok (.ifCond .eq 12, 3) := by decide +kernel
theorem dX3_remember_52 : decode cX3_remember 52 = .ok (.aload_n 0, 1) := by decide +kernel
theorem dX3_remember_53 : decode cX3_remember 53 = .ok (.getfield 18, 3) := by decide +kernel
theorem dX3_remember_56 : decode cX3_remember 56 = .ok (.iconst 1, 1) := by decide +kernel
theorem dX3_remember_57 : decode cX3_remember 57 = .ok (.iadd, 1) := by decide +kernel
theorem dX3_remember_58 : decode cX3_remember 58 = .ok (.goto 4, 3) := by decide +kernel
theorem dX3_remember_61 : decode cX3_remember 61 = .ok (.iconst 0, 1) := by decide +kernel
theorem dX3_remember_62 : decode cX3_remember 62 = .ok (.putfield 18, 3) := by decide +kernel
theorem dX3_remember_65 : decode cX3_remember 65 = .ok (.aload_n 0, 1) := by decide +kernel
theorem dX3_remember_66 : decode cX3_remember 66 = .ok (.aload_n 0, 1) := by decide +kernel
theorem dX3_remember_67 : decode cX3_remember 67 = .ok (.getfield 22, 3) := by decide +kernel
theorem dX3_remember_70 : decode cX3_remember 70 = .ok (.iconst 1, 1) := by decide +kernel
theorem dX3_remember_71 : decode cX3_remember 71 = .ok (.iadd, 1) := by decide +kernel
theorem dX3_remember_72 : decode cX3_remember 72 = .ok (.bipush 6, 2) := by decide +kernel
theorem dX3_remember_74 : decode cX3_remember 74 = .ok (.invokestatic 38, 3) := by decide +kernel
theorem dX3_remember_77 : decode cX3_remember 77 = .ok (.putfield 22, 3) := by decide +kernel
theorem dX3_remember_80 : decode cX3_remember 80 = .ok (.return_, 1) := by decide +kernel
theorem dX3_bringBack_0 : decode cX3_bringBack 0 = .ok (.aload_n 0, 1) := by decide +kernel
theorem dX3_bringBack_1 : decode cX3_bringBack 1 = .ok (.getfield 22, 3) := by decide +kernel
theorem dX3_bringBack_4 : decode cX3_bringBack 4 = .ok (.iconst 1, 1) := by decide +kernel
theorem dX3_bringBack_5 : decode cX3_bringBack 5 = .ok (.if_icmp .ge 4, 3) := by decide +kernel
theorem dX3_bringBack_8 : decode cX3_bringBack 8 = .ok (.return_, 1) := by decide +kernel
theorem dX3_bringBack_9 : decode cX3_bringBack 9 = .ok (.aload_n 0, 1) := by decide +kernel
theorem dX3_bringBack_10 : decode cX3_bringBack 10 = .ok (.aload_n 0, 1) := by decide +kernel
theorem dX3_bringBack_11 : decode cX3_bringBack 11 = .ok (.getfield 18, 3) := by decide +kernel
theorem dX3_bringBack_14 : decode cX3_bringBack 14 = .ok (.iconst 1, 1) := by decide +kernel
theorem dX3_bringBack_15 : decode cX3_bringBack 15 = .ok (.isub, 1) := by decide +kernel
theorem dX3_bringBack_16 : decode cX3_bringBack 16 = .ok (.invokestatic 25, 3) := by decide +kernel
theorem dX3_bringBack_19 : decode cX3_bringBack 19 = .ok (.ifCond .eq 12, 3) := by decide +kernel
theorem dX3_bringBack_22 : decode cX3_bringBack 22 = .ok (.aload_n 0, 1) := by decide +kernel
theorem dX3_bringBack_23 : decode cX3_bringBack 23 = .ok (.getfield 18, 3) := by decide +kernel
theorem dX3_bringBack_26 : decode cX3_bringBack 26 = .ok (.iconst 1, 1) := by decide +kernel
theorem dX3_bringBack_27 : decode cX3_bringBack 27 = .ok (.isub, 1) := by decide +kernel
theorem dX3_bringBack_28 : decode cX3_bringBack 28 = .ok (.goto 4, 3) := by decide +kernel
theorem dX3_bringBack_31 : decode cX3_bringBack 31 = .ok (.iconst 5, 1) := by decide +kernel
theorem dX3_bringBack_32 : decode cX3_bringBack 32 = .ok (.putfield 18, 3) := by decide +kernel
theorem dX3_bringBack_35 : decode cX3_bringBack 35 = .ok (.aload_n 0, 1) := by decide +kernel
theorem dX3_bringBack_36 : decode cX3_bringBack 36 = .ok (.dup, 1) := by decide +kernel
theorem dX3_bringBack_37 : decode cX3_bringBack 37 = .ok (.getfield 22, 3) := by decide +kernel
theorem dX3_bringBack_40 : decode cX3_bringBack 40 = .ok (.iconst 1, 1) := by decide +kernel
theorem dX3_bringBack_41 : decode cX3_bringBack 41 = .ok (.isub, 1) := by decide +kernel
theorem dX3_bringBack_42 : decode cX3_bringBack 42 = .ok (.putfield 22, 3) := by decide +kernel
theorem dX3_bringBack_45 : decode cX3_bringBack 45 = .ok (.aload_n 0, 1) := by decide +kernel
theorem dX3_bringBack_46 : decode cX3_bringBack 46 = .ok (.getfield 18, 3) := by decide +kernel
theorem dX3_bringBack_49 : decode cX3_bringBack 49 = .ok (.invokestatic 25, 3) := by decide +kernel
theorem dX3_bringBack_52 : decode cX3_bringBack 52 = .ok (.ifCond .eq 28, 3) := by decide +kernel
theorem dX3_bringBack_55 : decode cX3_bringBack 55 = .ok (.aload_n 1, 1) := by decide +kernel
theorem dX3_bringBack_56 : decode cX3_bringBack 56 = .ok (.aload_n 0, 1) := by decide +kernel
theorem dX3_bringBack_57 : decode cX3_bringBack 57 = .ok (.getfield 11, 3) := by decide +kernel
theorem dX3_bringBack_60 : decode cX3_bringBack 60 = .ok (.aload_n 0, 1) := by decide +kernel
theorem dX3_bringBack_61 : decode cX3_bringBack 61 = .ok (.getfield 18, 3) := by decide +kernel
theorem dX3_bringBack_64 : decode cX3_bringBack 64 = .ok (.sipush 256, 3) := by decide +kernel
theorem dX3_bringBack_67 : decode cX3_bringBack 67 = .ok (.imul, 1) := by decide +kernel
theorem dX3_bringBack_68 : decode cX3_bringBack 68 = .ok (.aload_n 0, 1) := by decide +kernel
theorem dX3_bringBack_69 : decode cX3_bringBack 69 = .ok (.getfield 15, 3) := by decide +kernel
theorem dX3_bringBack_72 : decode cX3_bringBack 72 = .ok (.aload_n 0, 1) := by decide +kernel
theorem dX3_bringBack_73 : decode cX3_bringBack 73 = .ok (.getfield 18, 3) := by decide +kernel
theorem dX3_bringBack_76 : decode cX3_bringBack 76 = .ok (.iaload, 1) := by decide +kernel
theorem dX3_bringBack_77 : decode cX3_bringBack 77 = .ok (.invokevirtual 44, 3) := by decide +kernel
theorem dX3_bringBack_80 : decode cX3_bringBack 80 = .ok (.return_, 1) := by decide +kernel
theorem dX3_isRow_0 : decode cX3_isRow 0 = .ok (.iload_n 0, 1) := by decide +kernel
theorem dX3_isRow_1 : decode cX3_isRow 1 = .ok (.ifCond .lt 13, 3) := by decide +kernel
theorem dX3_isRow_4 : decode cX3_isRow 4 = .ok (.iload_n 0, 1) := by decide +kernel
theorem dX3_isRow_5 : decode cX3_isRow 5 = .ok (.bipush 6, 2) := by decide +kernel
theorem dX3_isRow_7 : decode cX3_isRow 7 = .ok (.if_icmp .ge 7, 3) := by decide +kernel
theorem dX3_isRow_10 : decode cX3_isRow 10 = .ok (.iconst 1, 1) := by decide +kernel
theorem dX3_isRow_11 : decode cX3_isRow 11 = .ok (.goto 4, 3) := by decide +kernel
theorem dX3_isRow_14 : decode cX3_isRow 14 = .ok (.iconst 0, 1) := by decide +kernel
theorem dX3_isRow_15 : decode cX3_isRow 15 = .ok (.ireturn, 1) := by decide +kernel
theorem dX4_init_0 : decode cX4_init 0 = .ok (.aload_n 0, 1) := by decide +kernel
theorem dX4_init_1 : decode cX4_init 1 = .ok (.invokespecial 3, 3) := by decide +kernel
theorem dX4_init_4 : decode cX4_init 4 = .ok (.aload_n 0, 1) := by decide +kernel
theorem dX4_init_5 : decode cX4_init 5 = .ok (.sipush 256, 3) := by decide +kernel
theorem dX4_init_8 : decode cX4_init 8 = .ok (.newarray .boolean, 2) := by decide +kernel
theorem dX4_init_10 : decode cX4_init 10 = .ok (.putfield 9, 3) := by decide +kernel
theorem dX4_init_13 : decode cX4_init 13 = .ok (.return_, 1) := by decide +kernel
theorem dX4_clear_0 : decode cX4_clear 0 = .ok (.iconst 0, 1) := by decide +kernel
theorem dX4_clear_1 : decode cX4_clear 1 = .ok (.istore_n 1, 1) := by decide +kernel
theorem dX4_clear_2 : decode cX4_clear 2 = .ok (.iload_n 1, 1) := by decide +kernel
theorem dX4_clear_3 : decode cX4_clear 3 = .ok (.aload_n 0, 1) := by decide +kernel
theorem dX4_clear_4 : decode cX4_clear 4 = .ok (.getfield 9, 3) := by decide +kernel
theorem dX4_clear_7 : decode cX4_clear 7 = .ok (.arraylength, 1) := by decide +kernel
theorem dX4_clear_8 : decode cX4_clear 8 = .ok (.if_icmp .ge 16, 3) := by decide +kernel
theorem dX4_clear_11 : decode cX4_clear 11 = .ok (.aload_n 0, 1) := by decide +kernel
theorem dX4_clear_12 : decode cX4_clear 12 = .ok (.getfield 9, 3) := by decide +kernel
theorem dX4_clear_15 : decode cX4_clear 15 = .ok (.iload_n 1, 1) := by decide +kernel
theorem dX4_clear_16 : decode cX4_clear 16 = .ok (.iconst 0, 1) := by decide +kernel
theorem dX4_clear_17 : decode cX4_clear 17 = .ok (.bastore, 1) := by decide +kernel
theorem dX4_clear_18 : decode cX4_clear 18 = .ok (.iinc 1 1, 3) := by decide +kernel
theorem dX4_clear_21 : decode cX4_clear 21 = .ok (.goto (-19), 3) := by decide +kernel
theorem dX4_clear_24 : decode cX4_clear 24 = .ok (.return_, 1) := by decide +kernel
theorem dX4_has_0 : decode cX4_has 0 = .ok (.iload_n 1, 1) := by decide +kernel
theorem dX4_has_1 : decode cX4_has 1 = .ok (.ifCond .lt 25, 3) := by decide +kernel
theorem dX4_has_4 : decode cX4_has 4 = .ok (.iload_n 1, 1) := by decide +kernel
theorem dX4_has_5 : decode cX4_has 5 = .ok (.aload_n 0, 1) := by decide +kernel
theorem dX4_has_6 : decode cX4_has 6 = .ok (.getfield 9, 3) := by decide +kernel
theorem dX4_has_9 : decode cX4_has 9 = .ok (.arraylength, 1) := by decide +kernel
theorem dX4_has_10 : decode cX4_has 10 = .ok (.if_icmp .ge 16, 3) := by decide +kernel
theorem dX4_has_13 : decode cX4_has 13 = .ok (.aload_n 0, 1) := by decide +kernel
theorem dX4_has_14 : decode cX4_has 14 = .ok (.getfield 9, 3) := by decide +kernel
theorem dX4_has_17 : decode cX4_has 17 = .ok (.iload_n 1, 1) := by decide +kernel
theorem dX4_has_18 : decode cX4_has 18 = .ok (.baload, 1) := by decide +kernel
theorem dX4_has_19 : decode cX4_has 19 = .ok (.ifCond .eq 7, 3) := by decide +kernel
theorem dX4_has_22 : decode cX4_has 22 = .ok (.iconst 1, 1) := by decide +kernel
theorem dX4_has_23 : decode cX4_has 23 = .ok (.goto 4, 3) := by decide +kernel
theorem dX4_has_26 : decode cX4_has 26 = .ok (.iconst 0, 1) := by decide +kernel
theorem dX4_has_27 : decode cX4_has 27 = .ok (.ireturn, 1) := by decide +kernel
theorem dX4_add_0 : decode cX4_add 0 = .ok (.iload_n 1, 1) := by decide +kernel
theorem dX4_add_1 : decode cX4_add 1 = .ok (.ifCond .lt 19, 3) := by decide +kernel
theorem dX4_add_4 : decode cX4_add 4 = .ok (.iload_n 1, 1) := by decide +kernel
theorem dX4_add_5 : decode cX4_add 5 = .ok (.aload_n 0, 1) := by decide +kernel
theorem dX4_add_6 : decode cX4_add 6 = .ok (.getfield 9, 3) := by decide +kernel
theorem dX4_add_9 : decode cX4_add 9 = .ok (.arraylength, 1) := by decide +kernel
theorem dX4_add_10 : decode cX4_add 10 = .ok (.if_icmp .ge 10, 3) := by decide +kernel
theorem dX4_add_13 : decode cX4_add 13 = .ok (.aload_n 0, 1) := by decide +kernel
theorem dX4_add_14 : decode cX4_add 14 = .ok (.getfield 9, 3) := by decide +kernel
theorem dX4_add_17 : decode cX4_add 17 = .ok (.iload_n 1, 1) := by decide +kernel
theorem dX4_add_18 : decode cX4_add 18 = .ok (.iconst 1, 1) := by decide +kernel
theorem dX4_add_19 : decode cX4_add 19 = .ok (.bastore, 1) := by decide +kernel
theorem dX4_add_20 : decode cX4_add 20 = .ok (.return_, 1) := by decide +kernel
theorem dX5_init_0 : decode cX5_init 0 = .ok (.aload_n 0, 1) := by decide +kernel
theorem dX5_init_1 : decode cX5_init 1 = .ok (.invokespecial 3, 3) := by decide +kernel
theorem dX5_init_4 : decode cX5_init 4 = .ok (.aload_n 0, 1) := by decide +kernel
theorem dX5_init_5 : decode cX5_init 5 = .ok (.bipush 8, 2) := by decide +kernel
theorem dX5_init_7 : decode cX5_init 7 = .ok (.newarray .int, 2) := by decide +kernel
theorem dX5_init_9 : decode cX5_init 9 = .ok (.putfield 11, 3) := by decide +kernel
theorem dX5_init_12 : decode cX5_init 12 = .ok (.aload_n 0, 1) := by decide +kernel
theorem dX5_init_13 : decode cX5_init 13 = .ok (.iconst 0, 1) := by decide +kernel
theorem dX5_init_14 : decode cX5_init 14 = .ok (.putfield 15, 3) := by decide +kernel
theorem dX5_init_17 : decode cX5_init 17 = .ok (.return_, 1) := by decide +kernel
theorem dX5_size_0 : decode cX5_size 0 = .ok (.aload_n 0, 1) := by decide +kernel
theorem dX5_size_1 : decode cX5_size 1 = .ok (.getfield 15, 3) := by decide +kernel
theorem dX5_size_4 : decode cX5_size 4 = .ok (.ireturn, 1) := by decide +kernel
theorem dX5_isFull_0 : decode cX5_isFull 0 = .ok (.aload_n 0, 1) := by decide +kernel
theorem dX5_isFull_1 : decode cX5_isFull 1 = .ok (.getfield 15, 3) := by decide +kernel
theorem dX5_isFull_4 : decode cX5_isFull 4 = .ok (.bipush 8, 2) := by decide +kernel
theorem dX5_isFull_6 : decode cX5_isFull 6 = .ok (.if_icmp .lt 7, 3) := by decide +kernel
theorem dX5_isFull_9 : decode cX5_isFull 9 = .ok (.iconst 1, 1) := by decide +kernel
theorem dX5_isFull_10 : decode cX5_isFull 10 = .ok (.goto 4, 3) := by decide +kernel
theorem dX5_isFull_13 : decode cX5_isFull 13 = .ok (.iconst 0, 1) := by decide +kernel
theorem dX5_isFull_14 : decode cX5_isFull 14 = .ok (.ireturn, 1) := by decide +kernel
theorem dX5_add_0 : decode cX5_add 0 = .ok (.aload_n 0, 1) := by decide +kernel
theorem dX5_add_1 : decode cX5_add 1 = .ok (.invokevirtual 19, 3) := by decide +kernel
theorem dX5_add_4 : decode cX5_add 4 = .ok (.ifCond .ne 23, 3) := by decide +kernel
theorem dX5_add_7 : decode cX5_add 7 = .ok (.aload_n 0, 1) := by decide +kernel
theorem dX5_add_8 : decode cX5_add 8 = .ok (.getfield 11, 3) := by decide +kernel
theorem dX5_add_11 : decode cX5_add 11 = .ok (.aload_n 0, 1) := by decide +kernel
theorem dX5_add_12 : decode cX5_add 12 = .ok (.getfield 15, 3) := by decide +kernel
theorem dX5_add_15 : decode cX5_add 15 = .ok (.iload_n 1, 1) := by decide +kernel
theorem dX5_add_16 : decode cX5_add 16 = .ok (.iastore, 1) := by decide +kernel
theorem dX5_add_17 : decode cX5_add 17 = .ok (.aload_n 0, 1) := by decide +kernel
theorem dX5_add_18 : decode cX5_add 18 = .ok (.dup, 1) := by decide +kernel
theorem dX5_add_19 : decode cX5_add 19 = .ok (.getfield 15, 3) := by decide +kernel
theorem dX5_add_22 : decode cX5_add 22 = .ok (.iconst 1, 1) := by decide +kernel
theorem dX5_add_23 : decode cX5_add 23 = .ok (.iadd, 1) := by decide +kernel
theorem dX5_add_24 : decode cX5_add 24 = .ok (.putfield 15, 3) := by decide +kernel
theorem dX5_add_27 : decode cX5_add 27 = .ok (.return_, 1) := by decide +kernel
theorem dX5_clear_0 : decode cX5_clear 0 = .ok (.aload_n 0, 1) := by decide +kernel
theorem dX5_clear_1 : decode cX5_clear 1 = .ok (.iconst 0, 1) := by decide +kernel
theorem dX5_clear_2 : decode cX5_clear 2 = .ok (.putfield 15, 3) := by decide +kernel
theorem dX5_clear_5 : decode cX5_clear 5 = .ok (.return_, 1) := by decide +kernel
theorem dX5_matchTotal_0 : decode cX5_matchTotal 0 = .ok (.iconst 0, 1) := by decide +kernel
theorem dX5_matchTotal_1 : decode cX5_matchTotal 1 = .ok (.istore_n 2, 1) := by decide +kernel
theorem dX5_matchTotal_2 : decode cX5_matchTotal 2 = .ok (.iconst 0, 1) := by decide +kernel
theorem dX5_matchTotal_3 : decode cX5_matchTotal 3 = .ok (.istore_n 3, 1) := by decide +kernel
theorem dX5_matchTotal_4 : decode cX5_matchTotal 4 = .ok (.iload_n 3, 1) := by decide +kernel
theorem dX5_matchTotal_5 : decode cX5_matchTotal 5 = .ok (.aload_n 1, 1) := by decide +kernel
theorem dX5_matchTotal_6 : decode cX5_matchTotal 6 = .ok (.invokevirtual 23, 3) := by decide +kernel
theorem dX5_matchTotal_9 : decode cX5_matchTotal 9 = .ok (.if_icmp .ge 21, 3) := by decide +kernel
theorem dX5_matchTotal_12 : decode cX5_matchTotal 12 = .ok (.aload_n 0, 1) := by decide +kernel
theorem dX5_matchTotal_13 : decode cX5_matchTotal 13 = .ok (.aload_n 1, 1) := by decide +kernel
theorem dX5_matchTotal_14 : decode cX5_matchTotal 14 = .ok (.iload_n 3, 1) := by decide +kernel
theorem dX5_matchTotal_15 : decode cX5_matchTotal 15 = .ok (.invokevirtual 28, 3) := by decide +kernel
theorem dX5_matchTotal_18 : decode cX5_matchTotal 18 = .ok (.ifCond .eq 6, 3) := by decide +kernel
theorem dX5_matchTotal_21 : decode cX5_matchTotal 21 = .ok (.iinc 2 1, 3) := by decide +kernel
theorem dX5_matchTotal_24 : decode cX5_matchTotal 24 = .ok (.iinc 3 1, 3) := by decide +kernel
theorem dX5_matchTotal_27 : decode cX5_matchTotal 27 = .ok (.goto (-23), 3) := by decide +kernel
theorem dX5_matchTotal_30 : decode cX5_matchTotal 30 = .ok (.iload_n 2, 1) := by decide +kernel
theorem dX5_matchTotal_31 : decode cX5_matchTotal 31 = .ok (.ireturn, 1) := by decide +kernel
theorem dX5_matchPlace_0 : decode cX5_matchPlace 0 = .ok (.iconst 0, 1) := by decide +kernel
theorem dX5_matchPlace_1 : decode cX5_matchPlace 1 = .ok (.istore_n 3, 1) := by decide +kernel
theorem dX5_matchPlace_2 : decode cX5_matchPlace 2 = .ok (.iconst 0, 1) := by decide +kernel
theorem dX5_matchPlace_3 : decode cX5_matchPlace 3 = .ok (.istore 4, 2) := by decide +kernel
theorem dX5_matchPlace_5 : decode cX5_matchPlace 5 = .ok (.iload 4, 2) := by decide +kernel
theorem dX5_matchPlace_7 : decode cX5_matchPlace 7 = .ok (.aload_n 1, 1) := by decide +kernel
theorem dX5_matchPlace_8 : decode cX5_matchPlace 8 = .ok (.invokevirtual 23, 3) := by decide +kernel
theorem dX5_matchPlace_11 : decode cX5_matchPlace 11 = .ok (.if_icmp .ge 30, 3) := by decide +kernel
theorem dX5_matchPlace_14 : decode cX5_matchPlace 14 = .ok (.aload_n 0, 1) := by decide +kernel
theorem dX5_matchPlace_15 : decode cX5_matchPlace 15 = .ok (.aload_n 1, 1) := by decide +kernel
theorem dX5_matchPlace_16 : decode cX5_matchPlace 16 = .ok (.iload 4, 2) := by decide +kernel
theorem dX5_matchPlace_18 : decode cX5_matchPlace 18 = .ok (.invokevirtual 28, 3) := by decide +kernel
theorem dX5_matchPlace_21 : decode cX5_matchPlace 21 = .ok (.ifCond .eq 14, 3) := by decide +kernel
theorem dX5_matchPlace_24 : decode cX5_matchPlace 24 = .ok (.iload_n 3, 1) := by decide +kernel
theorem dX5_matchPlace_25 : decode cX5_matchPlace 25 = .ok (.iload_n 2, 1) := by decide +kernel
theorem dX5_matchPlace_26 : decode cX5_matchPlace 26 = .ok (.if_icmp .ne 6, 3) := by decide +kernel
theorem dX5_matchPlace_29 : decode cX5_matchPlace 29 = .ok (.iload 4, 2) := by decide +kernel
theorem dX5_matchPlace_31 : decode cX5_matchPlace 31 = .ok (.ireturn, 1) := by decide +kernel
theorem dX5_matchPlace_32 : decode cX5_matchPlace 32 = .ok (.iinc 3 1, 3) := by decide +kernel
theorem dX5_matchPlace_35 : decode cX5_matchPlace 35 = .ok (.iinc 4 1, 3) := by decide +kernel
theorem dX5_matchPlace_38 : decode cX5_matchPlace 38 = .ok (.goto (-33), 3) := by decide +kernel
theorem dX5_matchPlace_41 : decode cX5_matchPlace 41 = .ok (.bipush (-2), 2) := by decide +kernel
theorem dX5_matchPlace_43 : decode cX5_matchPlace 43 = .ok (.ireturn, 1) := by decide +kernel
theorem dX5_isMatch_0 : decode cX5_isMatch 0 = .ok (.iconst 0, 1) := by decide +kernel
theorem dX5_isMatch_1 : decode cX5_isMatch 1 = .ok (.istore_n 3, 1) := by decide +kernel
theorem dX5_isMatch_2 : decode cX5_isMatch 2 = .ok (.iload_n 3, 1) := by decide +kernel
theorem dX5_isMatch_3 : decode cX5_isMatch 3 = .ok (.aload_n 0, 1) := by decide +kernel
theorem dX5_isMatch_4 : decode cX5_isMatch 4 = .ok (.getfield 15, 3) := by decide +kernel
theorem dX5_isMatch_7 : decode cX5_isMatch 7 = .ok (.if_icmp .ge 37, 3) := by decide +kernel
theorem dX5_isMatch_10 : decode cX5_isMatch 10 = .ok (.aload_n 0, 1) := by decide +kernel
theorem dX5_isMatch_11 : decode cX5_isMatch 11 = .ok (.getfield 11, 3) := by decide +kernel
theorem dX5_isMatch_14 : decode cX5_isMatch 14 = .ok (.iload_n 3, 1) := by decide +kernel
theorem dX5_isMatch_15 : decode cX5_isMatch 15 = .ok (.iaload, 1) := by decide +kernel
theorem dX5_isMatch_16 : decode cX5_isMatch 16 = .ok (.iconst (-1), 1) := by decide +kernel
theorem dX5_isMatch_17 : decode cX5_isMatch 17 = .ok (.if_icmp .eq 21, 3) := by decide +kernel
theorem dX5_isMatch_20 : decode cX5_isMatch 20 = .ok (.aload_n 0, 1) := by decide +kernel
theorem dX5_isMatch_21 : decode cX5_isMatch 21 = .ok (.getfield 11, 3) := by decide +kernel
theorem dX5_isMatch_24 : decode cX5_isMatch 24 = .ok (.iload_n 3, 1) := by decide +kernel
theorem dX5_isMatch_25 : decode cX5_isMatch 25 = .ok (.iaload, 1) := by decide +kernel
theorem dX5_isMatch_26 : decode cX5_isMatch 26 = .ok (.aload_n 1, 1) := by decide +kernel
theorem dX5_isMatch_27 : decode cX5_isMatch 27 = .ok (.iload_n 2, 1) := by decide +kernel
theorem dX5_isMatch_28 : decode cX5_isMatch 28 = .ok (.iload_n 3, 1) := by decide +kernel
theorem dX5_isMatch_29 : decode cX5_isMatch 29 = .ok (.iadd, 1) := by decide +kernel
theorem dX5_isMatch_30 : decode cX5_isMatch 30 = .ok (.invokevirtual 32, 3) := by decide +kernel
theorem dX5_isMatch_33 : decode cX5_isMatch 33 = .ok (.if_icmp .eq 5, 3) := by decide +kernel
theorem dX5_isMatch_36 : decode cX5_isMatch 36 = .ok (.iconst 0, 1) := by decide +kernel
theorem dX5_isMatch_37 : decode cX5_isMatch 37 = .ok (.ireturn, 1) := by decide +kernel
theorem dX5_isMatch_38 : decode cX5_isMatch 38 = .ok (.iinc 3 1, 3) := by decide +kernel
theorem dX5_isMatch_41 : decode cX5_isMatch 41 = .ok (.goto (-39), 3) := by decide +kernel
theorem dX5_isMatch_44 : decode cX5_isMatch 44 = .ok (.iconst 1, 1) := by decide +kernel
theorem dX5_isMatch_45 : decode cX5_isMatch 45 = .ok (.ireturn, 1) := by decide +kernel
theorem dX6_init_0 : decode cX6_init 0 = .ok (.aload_n 0, 1) := by decide +kernel
theorem dX6_init_1 : decode cX6_init 1 = .ok (.invokespecial 3, 3) := by decide +kernel
theorem dX6_init_4 : decode cX6_init 4 = .ok (.aload_n 0, 1) := by decide +kernel
theorem dX6_init_5 : decode cX6_init 5 = .ok (.iconst 2, 1) := by decide +kernel
theorem dX6_init_6 : decode cX6_init 6 = .ok (.putfield 9, 3) := by decide +kernel
theorem dX6_init_9 : decode cX6_init 9 = .ok (.aload_n 0, 1) := by decide +kernel
theorem dX6_init_10 : decode cX6_init 10 = .ok (.iconst 3, 1) := by decide +kernel
theorem dX6_init_11 : decode cX6_init 11 = .ok (.putfield 15, 3) := by decide +kernel
theorem dX6_init_14 : decode cX6_init 14 = .ok (.aload_n 0, 1) := by decide +kernel
theorem dX6_init_15 : decode cX6_init 15 = .ok (.bipush 8, 2) := by decide +kernel
theorem dX6_init_17 : decode cX6_init 17 = .ok (.putfield 18, 3) := by decide +kernel
theorem dX6_init_20 : decode cX6_init 20 = .ok (.aload_n 0, 1) := by decide +kernel
theorem dX6_init_21 : decode cX6_init 21 = .ok (.iconst 4, 1) := by decide +kernel
theorem dX6_init_22 : decode cX6_init 22 = .ok (.putfield 21, 3) := by decide +kernel
theorem dX6_init_25 : decode cX6_init 25 = .ok (.return_, 1) := by decide +kernel
theorem dX6_isPossible_0 : decode cX6_isPossible 0 = .ok (.iload_n 0, 1) := by decide +kernel
theorem dX6_isPossible_1 : decode cX6_isPossible 1 = .ok (.iconst 2, 1) := by decide +kernel
theorem dX6_isPossible_2 : decode cX6_isPossible 2 = .ok (.if_icmp .lt 19, 3) := by decide +kernel
theorem dX6_isPossible_5 : decode cX6_isPossible 5 = .ok (.iload_n 0, 1) := by decide +kernel
theorem dX6_isPossible_6 : decode cX6_isPossible 6 = .ok (.iconst 4, 1) := by decide +kernel
theorem dX6_isPossible_7 : decode cX6_isPossible 7 = .ok (.if_icmp .gt 14, 3) := by decide +kernel
theorem dX6_isPossible_10 : decode cX6_isPossible 10 = .ok (.iload_n 1, 1) := by decide +kernel
theorem dX6_isPossible_11 : decode cX6_isPossible 11 = .ok (.iconst 1, 1) := by decide +kernel
theorem dX6_isPossible_12 : decode cX6_isPossible 12 = .ok (.if_icmp .lt 9, 3) := by decide +kernel
theorem dX6_isPossible_15 : decode cX6_isPossible 15 = .ok (.iload_n 1, 1) := by decide +kernel
theorem dX6_isPossible_16 : decode cX6_isPossible 16 = .ok (.bipush 6, 2) := by decide +kernel
theorem dX6_isPossible_18 : decode cX6_isPossible 18 = .ok (.if_icmp .le 5, 3) := by decide +kernel
theorem dX6_isPossible_21 : decode cX6_isPossible 21 = .ok (.iconst 0, 1) := by decide +kernel
theorem dX6_isPossible_22 : decode cX6_isPossible 22 = .ok (.ireturn, 1) := by decide +kernel
theorem dX6_isPossible_23 : decode cX6_isPossible 23 = .ok (.iload_n 0, 1) := by decide +kernel
theorem dX6_isPossible_24 : decode cX6_isPossible 24 = .ok (.iload_n 1, 1) := by decide +kernel
theorem dX6_isPossible_25 : decode cX6_isPossible 25 = .ok (.invokestatic 24, 3) := by decide +kernel
theorem dX6_isPossible_28 : decode cX6_isPossible 28 = .ok (.sipush 256, 3) := by decide +kernel
theorem dX6_isPossible_31 : decode cX6_isPossible 31 = .ok (.if_icmp .gt 7, 3) := by decide +kernel
theorem dX6_isPossible_34 : decode cX6_isPossible 34 = .ok (.iconst 1, 1) := by decide +kernel
theorem dX6_isPossible_35 : decode cX6_isPossible 35 = .ok (.goto 4, 3) := by decide +kernel
theorem dX6_isPossible_38 : decode cX6_isPossible 38 = .ok (.iconst 0, 1) := by decide +kernel
theorem dX6_isPossible_39 : decode cX6_isPossible 39 = .ok (.ireturn, 1) := by decide +kernel
theorem dX6_change_0 : decode cX6_change 0 = .ok (.aload_n 0, 1) := by decide +kernel
theorem dX6_change_1 : decode cX6_change 1 = .ok (.iload_n 1, 1) := by decide +kernel
theorem dX6_change_2 : decode cX6_change 2 = .ok (.putfield 9, 3) := by decide +kernel
theorem dX6_change_5 : decode cX6_change 5 = .ok (.aload_n 0, 1) := by decide +kernel
theorem dX6_change_6 : decode cX6_change 6 = .ok (.iload_n 2, 1) := by decide +kernel
theorem dX6_change_7 : decode cX6_change 7 = .ok (.putfield 15, 3) := by decide +kernel
theorem dX6_change_10 : decode cX6_change 10 = .ok (.aload_n 0, 1) := by decide +kernel
theorem dX6_change_11 : decode cX6_change 11 = .ok (.iload_n 1, 1) := by decide +kernel
theorem dX6_change_12 : decode cX6_change 12 = .ok (.iload_n 2, 1) := by decide +kernel
theorem dX6_change_13 : decode cX6_change 13 = .ok (.invokestatic 24, 3) := by decide +kernel
theorem dX6_change_16 : decode cX6_change 16 = .ok (.putfield 18, 3) := by decide +kernel
theorem dX6_change_19 : decode cX6_change 19 = .ok (.aload_n 0, 1) := by decide +kernel
theorem dX6_change_20 : decode cX6_change 20 = .ok (.iload_n 1, 1) := by decide +kernel
theorem dX6_change_21 : decode cX6_change 21 = .ok (.iload_n 2, 1) := by decide +kernel
theorem dX6_change_22 : decode cX6_change 22 = .ok (.iconst 1, 1) := by decide +kernel
theorem dX6_change_23 : decode cX6_change 23 = .ok (.isub, 1) := by decide +kernel
theorem dX6_change_24 : decode cX6_change 24 = .ok (.invokestatic 24, 3) := by decide +kernel
theorem dX6_change_27 : decode cX6_change 27 = .ok (.putfield 21, 3) := by decide +kernel
theorem dX6_change_30 : decode cX6_change 30 = .ok (.return_, 1) := by decide +kernel
theorem dX6_letterTotal_0 : decode cX6_letterTotal 0 = .ok (.aload_n 0, 1) := by decide +kernel
theorem dX6_letterTotal_1 : decode cX6_letterTotal 1 = .ok (.getfield 9, 3) := by decide +kernel
theorem dX6_letterTotal_4 : decode cX6_letterTotal 4 = .ok (.ireturn, 1) := by decide +kernel
theorem dX6_blockSize_0 : decode cX6_blockSize 0 = .ok (.aload_n 0, 1) := by decide +kernel
theorem dX6_blockSize_1 : decode cX6_blockSize 1 = .ok (.getfield 15, 3) := by decide +kernel
theorem dX6_blockSize_4 : decode cX6_blockSize 4 = .ok (.ireturn, 1) := by decide +kernel
theorem dX6_blockTotal_0 : decode cX6_blockTotal 0 = .ok (.aload_n 0, 1) := by decide +kernel
theorem dX6_blockTotal_1 : decode cX6_blockTotal 1 = .ok (.getfield 18, 3) := by decide +kernel
theorem dX6_blockTotal_4 : decode cX6_blockTotal 4 = .ok (.ireturn, 1) := by decide +kernel
theorem dX6_tailTotal_0 : decode cX6_tailTotal 0 = .ok (.aload_n 0, 1) := by decide +kernel
theorem dX6_tailTotal_1 : decode cX6_tailTotal 1 = .ok (.getfield 21, 3) := by decide +kernel
theorem dX6_tailTotal_4 : decode cX6_tailTotal 4 = .ok (.ireturn, 1) := by decide +kernel
theorem dX6_isLetter_0 : decode cX6_isLetter 0 = .ok (.iload_n 1, 1) := by decide +kernel
theorem dX6_isLetter_1 : decode cX6_isLetter 1 = .ok (.ifCond .lt 15, 3) := by decide +kernel
theorem dX6_isLetter_4 : decode cX6_isLetter 4 = .ok (.iload_n 1, 1) := by decide +kernel
theorem dX6_isLetter_5 : decode cX6_isLetter 5 = .ok (.aload_n 0, 1) := by decide +kernel
theorem dX6_isLetter_6 : decode cX6_isLetter 6 = .ok (.getfield 9, 3) := by decide +kernel
theorem dX6_isLetter_9 : decode cX6_isLetter 9 = .ok (.if_icmp .ge 7, 3) := by decide +kernel
theorem dX6_isLetter_12 : decode cX6_isLetter 12 = .ok (.iconst 1, 1) := by decide +kernel
theorem dX6_isLetter_13 : decode cX6_isLetter 13 = .ok (.goto 4, 3) := by decide +kernel
theorem dX6_isLetter_16 : decode cX6_isLetter 16 = .ok (.iconst 0, 1) := by decide +kernel
theorem dX6_isLetter_17 : decode cX6_isLetter 17 = .ok (.ireturn, 1) := by decide +kernel
theorem dX6_isBlock_0 : decode cX6_isBlock 0 = .ok (.iload_n 1, 1) := by decide +kernel
theorem dX6_isBlock_1 : decode cX6_isBlock 1 = .ok (.ifCond .lt 15, 3) := by decide +kernel
theorem dX6_isBlock_4 : decode cX6_isBlock 4 = .ok (.iload_n 1, 1) := by decide +kernel
theorem dX6_isBlock_5 : decode cX6_isBlock 5 = .ok (.aload_n 0, 1) := by decide +kernel
theorem dX6_isBlock_6 : decode cX6_isBlock 6 = .ok (.getfield 18, 3) := by decide +kernel
theorem dX6_isBlock_9 : decode cX6_isBlock 9 = .ok (.if_icmp .ge 7, 3) := by decide +kernel
theorem dX6_isBlock_12 : decode cX6_isBlock 12 = .ok (.iconst 1, 1) := by decide +kernel
theorem dX6_isBlock_13 : decode cX6_isBlock 13 = .ok (.goto 4, 3) := by decide +kernel
theorem dX6_isBlock_16 : decode cX6_isBlock 16 = .ok (.iconst 0, 1) := by decide +kernel
theorem dX6_isBlock_17 : decode cX6_isBlock 17 = .ok (.ireturn, 1) := by decide +kernel
theorem dX6_codeAt_0 : decode cX6_codeAt 0 = .ok (.iconst 0, 1) := by decide +kernel
theorem dX6_codeAt_1 : decode cX6_codeAt 1 = .ok (.istore_n 3, 1) := by decide +kernel
theorem dX6_codeAt_2 : decode cX6_codeAt 2 = .ok (.iconst 0, 1) := by decide +kernel
theorem dX6_codeAt_3 : decode cX6_codeAt 3 = .ok (.istore 4, 2) := by decide +kernel
theorem dX6_codeAt_5 : decode cX6_codeAt 5 = .ok (.iload 4, 2) := by decide +kernel
theorem dX6_codeAt_7 : decode cX6_codeAt 7 = .ok (.aload_n 0, 1) := by decide +kernel
theorem dX6_codeAt_8 : decode cX6_codeAt 8 = .ok (.getfield 15, 3) := by decide +kernel
theorem dX6_codeAt_11 : decode cX6_codeAt 11 = .ok (.if_icmp .ge 25, 3) := by decide +kernel
theorem dX6_codeAt_14 : decode cX6_codeAt 14 = .ok (.iload_n 3, 1) := by decide +kernel
theorem dX6_codeAt_15 : decode cX6_codeAt 15 = .ok (.aload_n 0, 1) := by decide +kernel
theorem dX6_codeAt_16 : decode cX6_codeAt 16 = .ok (.getfield 9, 3) := by decide +kernel
theorem dX6_codeAt_19 : decode cX6_codeAt 19 = .ok (.imul, 1) := by decide +kernel
theorem dX6_codeAt_20 : decode cX6_codeAt 20 = .ok (.aload_n 1, 1) := by decide +kernel
theorem dX6_codeAt_21 : decode cX6_codeAt 21 = .ok (.iload_n 2, 1) := by decide +kernel
theorem dX6_codeAt_22 : decode cX6_codeAt 22 = .ok (.iload 4, 2) := by decide +kernel
theorem dX6_codeAt_24 : decode cX6_codeAt 24 = .ok (.iadd, 1) := by decide +kernel
theorem dX6_codeAt_25 : decode cX6_codeAt 25 = .ok (.invokevirtual 28, 3) := by decide +kernel
theorem dX6_codeAt_28 : decode cX6_codeAt 28 = .ok (.iadd, 1) := by decide +kernel
theorem dX6_codeAt_29 : decode cX6_codeAt 29 = .ok (.istore_n 3, 1) := by decide +kernel
theorem dX6_codeAt_30 : decode cX6_codeAt 30 = .ok (.iinc 4 1, 3) := by decide +kernel
theorem dX6_codeAt_33 : decode cX6_codeAt 33 = .ok (.goto (-28), 3) := by decide +kernel
theorem dX6_codeAt_36 : decode cX6_codeAt 36 = .ok (.iload_n 3, 1) := by decide +kernel
theorem dX6_codeAt_37 : decode cX6_codeAt 37 = .ok (.ireturn, 1) := by decide +kernel
theorem dX6_firstLetter_0 : decode cX6_firstLetter 0 = .ok (.aload_n 0, 1) := by decide +kernel
theorem dX6_firstLetter_1 : decode cX6_firstLetter 1 = .ok (.getfield 21, 3) := by decide +kernel
theorem dX6_firstLetter_4 : decode cX6_firstLetter 4 = .ok (.iconst 1, 1) := by decide +kernel
theorem dX6_firstLetter_5 : decode cX6_firstLetter 5 = .ok (.if_icmp .ge 7, 3) := by decide +kernel
theorem dX6_firstLetter_8 : decode cX6_firstLetter 8 = .ok (.iconst 0, 1) := by decide +kernel
theorem dX6_firstLetter_9 : decode cX6_firstLetter 9 = .ok (.goto 9, 3) := by decide +kernel
theorem dX6_firstLetter_12 : decode cX6_firstLetter 12 = .ok (.iload_n 1, 1) := by decide +kernel
theorem dX6_firstLetter_13 : decode cX6_firstLetter 13 = .ok (.aload_n 0, 1) := by decide +kernel
theorem dX6_firstLetter_14 : decode cX6_firstLetter 14 = .ok (.getfield 21, 3) := by decide +kernel
theorem dX6_firstLetter_17 : decode cX6_firstLetter 17 = .ok (.idiv, 1) := by decide +kernel
theorem dX6_firstLetter_18 : decode cX6_firstLetter 18 = .ok (.ireturn, 1) := by decide +kernel
theorem dX6_tail_0 : decode cX6_tail 0 = .ok (.aload_n 0, 1) := by decide +kernel
theorem dX6_tail_1 : decode cX6_tail 1 = .ok (.getfield 21, 3) := by decide +kernel
theorem dX6_tail_4 : decode cX6_tail 4 = .ok (.iconst 1, 1) := by decide +kernel
theorem dX6_tail_5 : decode cX6_tail 5 = .ok (.if_icmp .ge 7, 3) := by decide +kernel
theorem dX6_tail_8 : decode cX6_tail 8 = .ok (.iconst 0, 1) := by decide +kernel
theorem dX6_tail_9 : decode cX6_tail 9 = .ok (.goto 9, 3) := by decide +kernel
theorem dX6_tail_12 : decode cX6_tail 12 = .ok (.iload_n 1, 1) := by decide +kernel
theorem dX6_tail_13 : decode cX6_tail 13 = .ok (.aload_n 0, 1) := by decide +kernel
theorem dX6_tail_14 : decode cX6_tail 14 = .ok (.getfield 21, 3) := by decide +kernel
theorem dX6_tail_17 : decode cX6_tail 17 = .ok (.irem, 1) := by decide +kernel
theorem dX6_tail_18 : decode cX6_tail 18 = .ok (.ireturn, 1) := by decide +kernel
theorem dX6_headed_0 : decode cX6_headed 0 = .ok (.iload_n 1, 1) := by decide +kernel
theorem dX6_headed_1 : decode cX6_headed 1 = .ok (.aload_n 0, 1) := by decide +kernel
theorem dX6_headed_2 : decode cX6_headed 2 = .ok (.getfield 21, 3) := by decide +kernel
theorem dX6_headed_5 : decode cX6_headed 5 = .ok (.imul, 1) := by decide +kernel
theorem dX6_headed_6 : decode cX6_headed 6 = .ok (.iload_n 2, 1) := by decide +kernel
theorem dX6_headed_7 : decode cX6_headed 7 = .ok (.iadd, 1) := by decide +kernel
theorem dX6_headed_8 : decode cX6_headed 8 = .ok (.ireturn, 1) := by decide +kernel
theorem dX6_ended_0 : decode cX6_ended 0 = .ok (.iload_n 1, 1) := by decide +kernel
theorem dX6_ended_1 : decode cX6_ended 1 = .ok (.aload_n 0, 1) := by decide +kernel
theorem dX6_ended_2 : decode cX6_ended 2 = .ok (.getfield 9, 3) := by decide +kernel
theorem dX6_ended_5 : decode cX6_ended 5 = .ok (.imul, 1) := by decide +kernel
theorem dX6_ended_6 : decode cX6_ended 6 = .ok (.iload_n 2, 1) := by decide +kernel
theorem dX6_ended_7 : decode cX6_ended 7 = .ok (.iadd, 1) := by decide +kernel
theorem dX6_ended_8 : decode cX6_ended 8 = .ok (.ireturn, 1) := by decide +kernel
theorem dX6_moved_0 : decode cX6_moved 0 = .ok (.aload_n 0, 1) := by decide +kernel
theorem dX6_moved_1 : decode cX6_moved 1 = .ok (.aload_n 0, 1) := by decide +kernel
theorem dX6_moved_2 : decode cX6_moved 2 = .ok (.iload_n 1, 1) := by decide +kernel
theorem dX6_moved_3 : decode cX6_moved 3 = .ok (.invokevirtual 34, 3) := by decide +kernel
theorem dX6_moved_6 : decode cX6_moved 6 = .ok (.iload_n 2, 1) := by decide +kernel
theorem dX6_moved_7 : decode cX6_moved 7 = .ok (.invokevirtual 37, 3) := by decide +kernel
theorem dX6_moved_10 : decode cX6_moved 10 = .ok (.ireturn, 1) := by decide +kernel
theorem dX6_successor_0 : decode cX6_successor 0 = .ok (.aload_n 0, 1) := by decide +kernel
theorem dX6_successor_1 : decode cX6_successor 1 = .ok (.iload_n 1, 1) := by decide +kernel
theorem dX6_successor_2 : decode cX6_successor 2 = .ok (.invokevirtual 40, 3) := by decide +kernel
theorem dX6_successor_5 : decode cX6_successor 5 = .ok (.istore_n 2, 1) := by decide +kernel
theorem dX6_successor_6 : decode cX6_successor 6 = .ok (.aload_n 0, 1) := by decide +kernel
theorem dX6_successor_7 : decode cX6_successor 7 = .ok (.iload_n 1, 1) := by decide +kernel
theorem dX6_successor_8 : decode cX6_successor 8 = .ok (.invokevirtual 34, 3) := by decide +kernel
theorem dX6_successor_11 : decode cX6_successor 11 = .ok (.istore_n 3, 1) := by decide +kernel
theorem dX6_successor_12 : decode cX6_successor 12 = .ok (.iconst 1, 1) := by decide +kernel
theorem dX6_successor_13 : decode cX6_successor 13 = .ok (.istore 4, 2) := by decide +kernel
theorem dX6_successor_15 : decode cX6_successor 15 = .ok (.iload 4, 2) := by decide +kernel
theorem dX6_successor_17 : decode cX6_successor 17 = .ok (.aload_n 0, 1) := by decide +kernel
theorem dX6_successor_18 : decode cX6_successor 18 = .ok (.getfield 9, 3) := by decide +kernel
theorem dX6_successor_21 : decode cX6_successor 21 = .ok (.if_icmp .ge 23, 3) := by decide +kernel
theorem dX6_successor_24 : decode cX6_successor 24 = .ok (.aload_n 0, 1) := by decide +kernel
theorem dX6_successor_25 : decode cX6_successor 25 = .ok (.aload_n 0, 1) := by decide +kernel
theorem dX6_successor_26 : decode cX6_successor 26 = .ok (.iload_n 3, 1) := by decide +kernel
theorem dX6_successor_27 : decode cX6_successor 27 = .ok (.iload 4, 2) := by decide +kernel
theorem dX6_successor_29 : decode cX6_successor 29 = .ok (.invokevirtual 37, 3) := by decide +kernel
theorem dX6_successor_32 : decode cX6_successor 32 = .ok (.invokevirtual 43, 3) := by decide +kernel
theorem dX6_successor_35 : decode cX6_successor 35 = .ok (.ifCond .ne 9, 3) := by decide +kernel
theorem dX6_successor_38 : decode cX6_successor 38 = .ok (.iinc 4 1, 3) := by decide +kernel
theorem dX6_successor_41 : decode cX6_successor 41 = .ok (.goto (-26), 3) := by decide +kernel
theorem dX6_successor_44 : decode cX6_successor 44 = .ok (.iload 4, 2) := by decide +kernel
theorem dX6_successor_46 : decode cX6_successor 46 = .ok (.aload_n 0, 1) := by decide +kernel
theorem dX6_successor_47 : decode cX6_successor 47 = .ok (.getfield 9, 3) := by decide +kernel
theorem dX6_successor_50 : decode cX6_successor 50 = .ok (.if_icmp .eq 11, 3) := by decide +kernel
theorem dX6_successor_53 : decode cX6_successor 53 = .ok (.iload_n 2, 1) := by decide +kernel
theorem dX6_successor_54 : decode cX6_successor 54 = .ok (.iload 4, 2) := by decide +kernel
theorem dX6_successor_56 : decode cX6_successor 56 = .ok (.iconst 1, 1) := by decide +kernel
theorem dX6_successor_57 : decode cX6_successor 57 = .ok (.isub, 1) := by decide +kernel
theorem dX6_successor_58 : decode cX6_successor 58 = .ok (.if_icmp .ge 5, 3) := by decide +kernel
theorem dX6_successor_61 : decode cX6_successor 61 = .ok (.iload_n 2, 1) := by decide +kernel
theorem dX6_successor_62 : decode cX6_successor 62 = .ok (.ireturn, 1) := by decide +kernel
theorem dX6_successor_63 : decode cX6_successor 63 = .ok (.iload_n 2, 1) := by decide +kernel
theorem dX6_successor_64 : decode cX6_successor 64 = .ok (.aload_n 0, 1) := by decide +kernel
theorem dX6_successor_65 : decode cX6_successor 65 = .ok (.getfield 9, 3) := by decide +kernel
theorem dX6_successor_68 : decode cX6_successor 68 = .ok (.iconst 1, 1) := by decide +kernel
theorem dX6_successor_69 : decode cX6_successor 69 = .ok (.isub, 1) := by decide +kernel
theorem dX6_successor_70 : decode cX6_successor 70 = .ok (.if_icmp .ne 10, 3) := by decide +kernel
theorem dX6_successor_73 : decode cX6_successor 73 = .ok (.iload 4, 2) := by decide +kernel
theorem dX6_successor_75 : decode cX6_successor 75 = .ok (.iconst 1, 1) := by decide +kernel
theorem dX6_successor_76 : decode cX6_successor 76 = .ok (.isub, 1) := by decide +kernel
theorem dX6_successor_77 : decode cX6_successor 77 = .ok (.goto 6, 3) := by decide +kernel
theorem dX6_successor_80 : decode cX6_successor 80 = .ok (.iload_n 2, 1) := by decide +kernel
theorem dX6_successor_81 : decode cX6_successor 81 = .ok (.iconst 1, 1) := by decide +kernel
theorem dX6_successor_82 : decode cX6_successor 82 = .ok (.iadd, 1) := by decide +kernel
theorem dX6_successor_83 : decode cX6_successor 83 = .ok (.ireturn, 1) := by decide +kernel
theorem dX6_isLeastRotation_0 : decode cX6_isLeastRotation 0 = .ok (.iload_n 1, 1) := by decide +kernel
theorem dX6_isLeastRotation_1 : decode cX6_isLeastRotation 1 = .ok (.istore_n 2, 1) := by decide +kernel
theorem dX6_isLeastRotation_2 : decode cX6_isLeastRotation 2 = .ok (.iconst 1, 1) := by decide +kernel
theorem dX6_isLeastRotation_3 : decode cX6_isLeastRotation 3 = .ok (.istore_n 3, 1) := by decide +kernel
theorem dX6_isLeastRotation_4 : decode cX6_isLeastRotation 4 = .ok (.iload_n 3, 1) := by decide +kernel
theorem dX6_isLeastRotation_5 : decode cX6_isLeastRotation 5 = .ok (.aload_n 0, 1) := by decide +kernel
theorem dX6_isLeastRotation_6 : decode cX6_isLeastRotation 6 = .ok (.getfield 15, 3) := by decide +kernel
theorem dX6_isLeastRotation_9 : decode cX6_isLeastRotation 9 = .ok (.if_icmp .ge 26, 3) := by decide +kernel
theorem dX6_isLeastRotation_12 : decode cX6_isLeastRotation 12 = .ok (.aload_n 0, 1) := by decide +kernel
theorem dX6_isLeastRotation_13 : decode cX6_isLeastRotation 13 = .ok (.iload_n 2, 1) := by decide +kernel
theorem dX6_isLeastRotation_14 : decode cX6_isLeastRotation 14 = .ok (.aload_n 0, 1) := by decide +kernel
theorem dX6_isLeastRotation_15 : decode cX6_isLeastRotation 15 = .ok (.getfield 21, 3) := by decide +kernel
theorem dX6_isLeastRotation_18 : decode cX6_isLeastRotation 18 = .ok (.invokevirtual 47, 3) := by decide +kernel
theorem dX6_isLeastRotation_21 : decode cX6_isLeastRotation 21 = .ok (.istore_n 2, 1) := by decide +kernel
theorem dX6_isLeastRotation_22 : decode cX6_isLeastRotation 22 = .ok (.iload_n 2, 1) := by decide +kernel
theorem dX6_isLeastRotation_23 : decode cX6_isLeastRotation 23 = .ok (.iload_n 1, 1) := by decide +kernel
theorem dX6_isLeastRotation_24 : decode cX6_isLeastRotation 24 = .ok (.if_icmp .ge 5, 3) := by decide +kernel
theorem dX6_isLeastRotation_27 : decode cX6_isLeastRotation 27 = .ok (.iconst 0, 1) := by decide +kernel
theorem dX6_isLeastRotation_28 : decode cX6_isLeastRotation 28 = .ok (.ireturn, 1) := by decide +kernel
theorem dX6_isLeastRotation_29 : decode cX6_isLeastRotation 29 = .ok (.iinc 3 1, 3) := by decide +kernel
theorem dX6_isLeastRotation_32 : decode cX6_isLeastRotation 32 = .ok (.goto (-28), 3) := by decide +kernel
theorem dX6_isLeastRotation_35 : decode cX6_isLeastRotation 35 = .ok (.iconst 1, 1) := by decide +kernel
theorem dX6_isLeastRotation_36 : decode cX6_isLeastRotation 36 = .ok (.ireturn, 1) := by decide +kernel
theorem dX6_leastRotation_0 : decode cX6_leastRotation 0 = .ok (.iload_n 1, 1) := by decide +kernel
theorem dX6_leastRotation_1 : decode cX6_leastRotation 1 = .ok (.istore_n 2, 1) := by decide +kernel
theorem dX6_leastRotation_2 : decode cX6_leastRotation 2 = .ok (.iload_n 1, 1) := by decide +kernel
theorem dX6_leastRotation_3 : decode cX6_leastRotation 3 = .ok (.istore_n 3, 1) := by decide +kernel
theorem dX6_leastRotation_4 : decode cX6_leastRotation 4 = .ok (.iconst 1, 1) := by decide +kernel
theorem dX6_leastRotation_5 : decode cX6_leastRotation 5 = .ok (.istore 4, 2) := by decide +kernel
theorem dX6_leastRotation_7 : decode cX6_leastRotation 7 = .ok (.iload 4, 2) := by decide +kernel
theorem dX6_leastRotation_9 : decode cX6_leastRotation 9 = .ok (.aload_n 0, 1) := by decide +kernel
theorem dX6_leastRotation_10 : decode cX6_leastRotation 10 = .ok (.getfield 15, 3) := by decide +kernel
theorem dX6_leastRotation_13 : decode cX6_leastRotation 13 = .ok (.if_icmp .ge 25, 3) := by decide +kernel
theorem dX6_leastRotation_16 : decode cX6_leastRotation 16 = .ok (.aload_n 0, 1) := by decide +kernel
theorem dX6_leastRotation_17 : decode cX6_leastRotation 17 = .ok (.iload_n 3, 1) := by decide +kernel
theorem dX6_leastRotation_18 : decode cX6_leastRotation 18 = .ok (.aload_n 0, 1) := by decide +kernel
theorem dX6_leastRotation_19 : decode cX6_leastRotation 19 = .ok (.getfield 21, 3) := by decide +kernel
theorem dX6_leastRotation_22 : decode cX6_leastRotation 22 = .ok (.invokevirtual 47, 3) := by decide +kernel
theorem dX6_leastRotation_25 : decode cX6_leastRotation 25 = .ok (.istore_n 3, 1) := by decide +kernel
theorem dX6_leastRotation_26 : decode cX6_leastRotation 26 = .ok (.iload_n 2, 1) := by decide +kernel
theorem dX6_leastRotation_27 : decode cX6_leastRotation 27 = .ok (.iload_n 3, 1) := by decide +kernel
theorem dX6_leastRotation_28 : decode cX6_leastRotation 28 = .ok (.invokestatic 50, 3) := by decide +kernel
theorem dX6_leastRotation_31 : decode cX6_leastRotation 31 = .ok (.istore_n 2, 1) := by decide +kernel
theorem dX6_leastRotation_32 : decode cX6_leastRotation 32 = .ok (.iinc 4 1, 3) := by decide +kernel
theorem dX6_leastRotation_35 : decode cX6_leastRotation 35 = .ok (.goto (-28), 3) := by decide +kernel
theorem dX6_leastRotation_38 : decode cX6_leastRotation 38 = .ok (.iload_n 2, 1) := by decide +kernel
theorem dX6_leastRotation_39 : decode cX6_leastRotation 39 = .ok (.ireturn, 1) := by decide +kernel
theorem dX6_rotationTotal_0 : decode cX6_rotationTotal 0 = .ok (.iload_n 1, 1) := by decide +kernel
theorem dX6_rotationTotal_1 : decode cX6_rotationTotal 1 = .ok (.istore_n 2, 1) := by decide +kernel
theorem dX6_rotationTotal_2 : decode cX6_rotationTotal 2 = .ok (.iconst 1, 1) := by decide +kernel
