theorem dX6_rotationTotal_3 : decode cX6_rotationTotal 3 = .ok (.istore_n 3, 1) := by decide +kernel
theorem dX6_rotationTotal_4 : decode cX6_rotationTotal 4 = .ok (.iload_n 3, 1) := by decide +kernel
theorem dX6_rotationTotal_5 : decode cX6_rotationTotal 5 = .ok (.aload_n 0, 1) := by decide +kernel
theorem dX6_rotationTotal_6 : decode cX6_rotationTotal 6 = .ok (.getfield 15, 3) := by decide +kernel
theorem dX6_rotationTotal_9 : decode cX6_rotationTotal 9 = .ok (.if_icmp .ge 26, 3) := by decide +kernel
theorem dX6_rotationTotal_12 : decode cX6_rotationTotal 12 = .ok (.aload_n 0, 1) := by decide +kernel
theorem dX6_rotationTotal_13 : decode cX6_rotationTotal 13 = .ok (.iload_n 2, 1) := by decide +kernel
theorem dX6_rotationTotal_14 : decode cX6_rotationTotal 14 = .ok (.aload_n 0, 1) := by decide +kernel
theorem dX6_rotationTotal_15 : decode cX6_rotationTotal 15 = .ok (.getfield 21, 3) := by decide +kernel
theorem dX6_rotationTotal_18 : decode cX6_rotationTotal 18 = .ok (.invokevirtual 47, 3) := by decide +kernel
theorem dX6_rotationTotal_21 : decode cX6_rotationTotal 21 = .ok (.istore_n 2, 1) := by decide +kernel
theorem dX6_rotationTotal_22 : decode cX6_rotationTotal 22 = .ok (.iload_n 2, 1) := by decide +kernel
theorem dX6_rotationTotal_23 : decode cX6_rotationTotal 23 = .ok (.iload_n 1, 1) := by decide +kernel
theorem dX6_rotationTotal_24 : decode cX6_rotationTotal 24 = .ok (.if_icmp .ne 5, 3) := by decide +kernel
theorem dX6_rotationTotal_27 : decode cX6_rotationTotal 27 = .ok (.iload_n 3, 1) := by decide +kernel
theorem dX6_rotationTotal_28 : decode cX6_rotationTotal 28 = .ok (.ireturn, 1) := by decide +kernel
theorem dX6_rotationTotal_29 : decode cX6_rotationTotal 29 = .ok (.iinc 3 1, 3) := by decide +kernel
theorem dX6_rotationTotal_32 : decode cX6_rotationTotal 32 = .ok (.goto (-28), 3) := by decide +kernel
theorem dX6_rotationTotal_35 : decode cX6_rotationTotal 35 = .ok (.aload_n 0, 1) := by decide +kernel
theorem dX6_rotationTotal_36 : decode cX6_rotationTotal 36 = .ok (.getfield 15, 3) := by decide +kernel
theorem dX6_rotationTotal_39 : decode cX6_rotationTotal 39 = .ok (.ireturn, 1) := by decide +kernel
theorem dX6_necklaceAt_0 : decode cX6_necklaceAt 0 = .ok (.iconst 0, 1) := by decide +kernel
theorem dX6_necklaceAt_1 : decode cX6_necklaceAt 1 = .ok (.istore_n 2, 1) := by decide +kernel
theorem dX6_necklaceAt_2 : decode cX6_necklaceAt 2 = .ok (.iconst 0, 1) := by decide +kernel
theorem dX6_necklaceAt_3 : decode cX6_necklaceAt 3 = .ok (.istore_n 3, 1) := by decide +kernel
theorem dX6_necklaceAt_4 : decode cX6_necklaceAt 4 = .ok (.iload_n 3, 1) := by decide +kernel
theorem dX6_necklaceAt_5 : decode cX6_necklaceAt 5 = .ok (.aload_n 0, 1) := by decide +kernel
theorem dX6_necklaceAt_6 : decode cX6_necklaceAt 6 = .ok (.getfield 18, 3) := by decide +kernel
theorem dX6_necklaceAt_9 : decode cX6_necklaceAt 9 = .ok (.if_icmp .ge 27, 3) := by decide +kernel
theorem dX6_necklaceAt_12 : decode cX6_necklaceAt 12 = .ok (.aload_n 0, 1) := by decide +kernel
theorem dX6_necklaceAt_13 : decode cX6_necklaceAt 13 = .ok (.iload_n 3, 1) := by decide +kernel
theorem dX6_necklaceAt_14 : decode cX6_necklaceAt 14 = .ok (.invokevirtual 43, 3) := by decide +kernel
theorem dX6_necklaceAt_17 : decode cX6_necklaceAt 17 = .ok (.ifCond .eq 13, 3) := by decide +kernel
theorem dX6_necklaceAt_20 : decode cX6_necklaceAt 20 = .ok (.iload_n 2, 1) := by decide +kernel
theorem dX6_necklaceAt_21 : decode cX6_necklaceAt 21 = .ok (.iload_n 1, 1) := by decide +kernel
theorem dX6_necklaceAt_22 : decode cX6_necklaceAt 22 = .ok (.if_icmp .ne 5, 3) := by decide +kernel
theorem dX6_necklaceAt_25 : decode cX6_necklaceAt 25 = .ok (.iload_n 3, 1) := by decide +kernel
theorem dX6_necklaceAt_26 : decode cX6_necklaceAt 26 = .ok (.ireturn, 1) := by decide +kernel
theorem dX6_necklaceAt_27 : decode cX6_necklaceAt 27 = .ok (.iinc 2 1, 3) := by decide +kernel
theorem dX6_necklaceAt_30 : decode cX6_necklaceAt 30 = .ok (.iinc 3 1, 3) := by decide +kernel
theorem dX6_necklaceAt_33 : decode cX6_necklaceAt 33 = .ok (.goto (-29), 3) := by decide +kernel
theorem dX6_necklaceAt_36 : decode cX6_necklaceAt 36 = .ok (.bipush (-2), 2) := by decide +kernel
theorem dX6_necklaceAt_38 : decode cX6_necklaceAt 38 = .ok (.ireturn, 1) := by decide +kernel
theorem dX6_isLyndonLength_0 : decode cX6_isLyndonLength 0 = .ok (.iload_n 1, 1) := by decide +kernel
theorem dX6_isLyndonLength_1 : decode cX6_isLyndonLength 1 = .ok (.iconst 1, 1) := by decide +kernel
theorem dX6_isLyndonLength_2 : decode cX6_isLyndonLength 2 = .ok (.if_icmp .lt 15, 3) := by decide +kernel
theorem dX6_isLyndonLength_5 : decode cX6_isLyndonLength 5 = .ok (.iload_n 1, 1) := by decide +kernel
theorem dX6_isLyndonLength_6 : decode cX6_isLyndonLength 6 = .ok (.aload_n 0, 1) := by decide +kernel
theorem dX6_isLyndonLength_7 : decode cX6_isLyndonLength 7 = .ok (.getfield 15, 3) := by decide +kernel
theorem dX6_isLyndonLength_10 : decode cX6_isLyndonLength 10 = .ok (.if_icmp .gt 7, 3) := by decide +kernel
theorem dX6_isLyndonLength_13 : decode cX6_isLyndonLength 13 = .ok (.iconst 1, 1) := by decide +kernel
theorem dX6_isLyndonLength_14 : decode cX6_isLyndonLength 14 = .ok (.goto 4, 3) := by decide +kernel
theorem dX6_isLyndonLength_17 : decode cX6_isLyndonLength 17 = .ok (.iconst 0, 1) := by decide +kernel
theorem dX6_isLyndonLength_18 : decode cX6_isLyndonLength 18 = .ok (.ireturn, 1) := by decide +kernel
theorem dX6_lyndonTotal_0 : decode cX6_lyndonTotal 0 = .ok (.aload_n 0, 1) := by decide +kernel
theorem dX6_lyndonTotal_1 : decode cX6_lyndonTotal 1 = .ok (.getfield 9, 3) := by decide +kernel
theorem dX6_lyndonTotal_4 : decode cX6_lyndonTotal 4 = .ok (.iload_n 1, 1) := by decide +kernel
theorem dX6_lyndonTotal_5 : decode cX6_lyndonTotal 5 = .ok (.invokestatic 24, 3) := by decide +kernel
theorem dX6_lyndonTotal_8 : decode cX6_lyndonTotal 8 = .ok (.istore_n 2, 1) := by decide +kernel
theorem dX6_lyndonTotal_9 : decode cX6_lyndonTotal 9 = .ok (.iconst 0, 1) := by decide +kernel
theorem dX6_lyndonTotal_10 : decode cX6_lyndonTotal 10 = .ok (.istore_n 3, 1) := by decide +kernel
theorem dX6_lyndonTotal_11 : decode cX6_lyndonTotal 11 = .ok (.iconst 0, 1) := by decide +kernel
theorem dX6_lyndonTotal_12 : decode cX6_lyndonTotal 12 = .ok (.istore 4, 2) := by decide +kernel
theorem dX6_lyndonTotal_14 : decode cX6_lyndonTotal 14 = .ok (.iload 4, 2) := by decide +kernel
theorem dX6_lyndonTotal_16 : decode cX6_lyndonTotal 16 = .ok (.iload_n 2, 1) := by decide +kernel
theorem dX6_lyndonTotal_17 : decode cX6_lyndonTotal 17 = .ok (.if_icmp .ge 22, 3) := by decide +kernel
theorem dX6_lyndonTotal_20 : decode cX6_lyndonTotal 20 = .ok (.aload_n 0, 1) := by decide +kernel
theorem dX6_lyndonTotal_21 : decode cX6_lyndonTotal 21 = .ok (.iload 4, 2) := by decide +kernel
theorem dX6_lyndonTotal_23 : decode cX6_lyndonTotal 23 = .ok (.iload_n 1, 1) := by decide +kernel
theorem dX6_lyndonTotal_24 : decode cX6_lyndonTotal 24 = .ok (.invokevirtual 55, 3) := by decide +kernel
theorem dX6_lyndonTotal_27 : decode cX6_lyndonTotal 27 = .ok (.ifCond .eq 6, 3) := by decide +kernel
theorem dX6_lyndonTotal_30 : decode cX6_lyndonTotal 30 = .ok (.iinc 3 1, 3) := by decide +kernel
theorem dX6_lyndonTotal_33 : decode cX6_lyndonTotal 33 = .ok (.iinc 4 1, 3) := by decide +kernel
theorem dX6_lyndonTotal_36 : decode cX6_lyndonTotal 36 = .ok (.goto (-22), 3) := by decide +kernel
theorem dX6_lyndonTotal_39 : decode cX6_lyndonTotal 39 = .ok (.iload_n 3, 1) := by decide +kernel
theorem dX6_lyndonTotal_40 : decode cX6_lyndonTotal 40 = .ok (.ireturn, 1) := by decide +kernel
theorem dX6_lyndonAt_0 : decode cX6_lyndonAt 0 = .ok (.aload_n 0, 1) := by decide +kernel
theorem dX6_lyndonAt_1 : decode cX6_lyndonAt 1 = .ok (.getfield 9, 3) := by decide +kernel
theorem dX6_lyndonAt_4 : decode cX6_lyndonAt 4 = .ok (.iload_n 1, 1) := by decide +kernel
theorem dX6_lyndonAt_5 : decode cX6_lyndonAt 5 = .ok (.invokestatic 24, 3) := by decide +kernel
theorem dX6_lyndonAt_8 : decode cX6_lyndonAt 8 = .ok (.istore_n 3, 1) := by decide +kernel
theorem dX6_lyndonAt_9 : decode cX6_lyndonAt 9 = .ok (.iconst 0, 1) := by decide +kernel
theorem dX6_lyndonAt_10 : decode cX6_lyndonAt 10 = .ok (.istore 4, 2) := by decide +kernel
theorem dX6_lyndonAt_12 : decode cX6_lyndonAt 12 = .ok (.iconst 0, 1) := by decide +kernel
theorem dX6_lyndonAt_13 : decode cX6_lyndonAt 13 = .ok (.istore 5, 2) := by decide +kernel
theorem dX6_lyndonAt_15 : decode cX6_lyndonAt 15 = .ok (.iload 5, 2) := by decide +kernel
theorem dX6_lyndonAt_17 : decode cX6_lyndonAt 17 = .ok (.iload_n 3, 1) := by decide +kernel
theorem dX6_lyndonAt_18 : decode cX6_lyndonAt 18 = .ok (.if_icmp .ge 31, 3) := by decide +kernel
theorem dX6_lyndonAt_21 : decode cX6_lyndonAt 21 = .ok (.aload_n 0, 1) := by decide +kernel
theorem dX6_lyndonAt_22 : decode cX6_lyndonAt 22 = .ok (.iload 5, 2) := by decide +kernel
theorem dX6_lyndonAt_24 : decode cX6_lyndonAt 24 = .ok (.iload_n 1, 1) := by decide +kernel
theorem dX6_lyndonAt_25 : decode cX6_lyndonAt 25 = .ok (.invokevirtual 55, 3) := by decide +kernel
theorem dX6_lyndonAt_28 : decode cX6_lyndonAt 28 = .ok (.ifCond .eq 15, 3) := by decide +kernel
theorem dX6_lyndonAt_31 : decode cX6_lyndonAt 31 = .ok (.iload 4, 2) := by decide +kernel
theorem dX6_lyndonAt_33 : decode cX6_lyndonAt 33 = .ok (.iload_n 2, 1) := by decide +kernel
theorem dX6_lyndonAt_34 : decode cX6_lyndonAt 34 = .ok (.if_icmp .ne 6, 3) := by decide +kernel
theorem dX6_lyndonAt_37 : decode cX6_lyndonAt 37 = .ok (.iload 5, 2) := by decide +kernel
theorem dX6_lyndonAt_39 : decode cX6_lyndonAt 39 = .ok (.ireturn, 1) := by decide +kernel
theorem dX6_lyndonAt_40 : decode cX6_lyndonAt 40 = .ok (.iinc 4 1, 3) := by decide +kernel
theorem dX6_lyndonAt_43 : decode cX6_lyndonAt 43 = .ok (.iinc 5 1, 3) := by decide +kernel
theorem dX6_lyndonAt_46 : decode cX6_lyndonAt 46 = .ok (.goto (-31), 3) := by decide +kernel
theorem dX6_lyndonAt_49 : decode cX6_lyndonAt 49 = .ok (.bipush (-2), 2) := by decide +kernel
theorem dX6_lyndonAt_51 : decode cX6_lyndonAt 51 = .ok (.ireturn, 1) := by decide +kernel
theorem dX6_isLyndon_0 : decode cX6_isLyndon 0 = .ok (.aload_n 0, 1) := by decide +kernel
theorem dX6_isLyndon_1 : decode cX6_isLyndon 1 = .ok (.getfield 9, 3) := by decide +kernel
theorem dX6_isLyndon_4 : decode cX6_isLyndon 4 = .ok (.iload_n 2, 1) := by decide +kernel
theorem dX6_isLyndon_5 : decode cX6_isLyndon 5 = .ok (.iconst 1, 1) := by decide +kernel
theorem dX6_isLyndon_6 : decode cX6_isLyndon 6 = .ok (.isub, 1) := by decide +kernel
theorem dX6_isLyndon_7 : decode cX6_isLyndon 7 = .ok (.invokestatic 24, 3) := by decide +kernel
theorem dX6_isLyndon_10 : decode cX6_isLyndon 10 = .ok (.istore_n 3, 1) := by decide +kernel
theorem dX6_isLyndon_11 : decode cX6_isLyndon 11 = .ok (.iload_n 1, 1) := by decide +kernel
theorem dX6_isLyndon_12 : decode cX6_isLyndon 12 = .ok (.istore 4, 2) := by decide +kernel
theorem dX6_isLyndon_14 : decode cX6_isLyndon 14 = .ok (.iconst 1, 1) := by decide +kernel
theorem dX6_isLyndon_15 : decode cX6_isLyndon 15 = .ok (.istore 5, 2) := by decide +kernel
theorem dX6_isLyndon_17 : decode cX6_isLyndon 17 = .ok (.iload 5, 2) := by decide +kernel
theorem dX6_isLyndon_19 : decode cX6_isLyndon 19 = .ok (.iload_n 2, 1) := by decide +kernel
theorem dX6_isLyndon_20 : decode cX6_isLyndon 20 = .ok (.if_icmp .ge 26, 3) := by decide +kernel
theorem dX6_isLyndon_23 : decode cX6_isLyndon 23 = .ok (.aload_n 0, 1) := by decide +kernel
theorem dX6_isLyndon_24 : decode cX6_isLyndon 24 = .ok (.iload 4, 2) := by decide +kernel
theorem dX6_isLyndon_26 : decode cX6_isLyndon 26 = .ok (.iload_n 3, 1) := by decide +kernel
theorem dX6_isLyndon_27 : decode cX6_isLyndon 27 = .ok (.invokevirtual 47, 3) := by decide +kernel
theorem dX6_isLyndon_30 : decode cX6_isLyndon 30 = .ok (.istore 4, 2) := by decide +kernel
theorem dX6_isLyndon_32 : decode cX6_isLyndon 32 = .ok (.iload 4, 2) := by decide +kernel
theorem dX6_isLyndon_34 : decode cX6_isLyndon 34 = .ok (.iload_n 1, 1) := by decide +kernel
theorem dX6_isLyndon_35 : decode cX6_isLyndon 35 = .ok (.if_icmp .gt 5, 3) := by decide +kernel
theorem dX6_isLyndon_38 : decode cX6_isLyndon 38 = .ok (.iconst 0, 1) := by decide +kernel
theorem dX6_isLyndon_39 : decode cX6_isLyndon 39 = .ok (.ireturn, 1) := by decide +kernel
theorem dX6_isLyndon_40 : decode cX6_isLyndon 40 = .ok (.iinc 5 1, 3) := by decide +kernel
theorem dX6_isLyndon_43 : decode cX6_isLyndon 43 = .ok (.goto (-26), 3) := by decide +kernel
theorem dX6_isLyndon_46 : decode cX6_isLyndon 46 = .ok (.iconst 1, 1) := by decide +kernel
theorem dX6_isLyndon_47 : decode cX6_isLyndon 47 = .ok (.ireturn, 1) := by decide +kernel
theorem dX6_turned_0 : decode cX6_turned 0 = .ok (.iload_n 2, 1) := by decide +kernel
theorem dX6_turned_1 : decode cX6_turned 1 = .ok (.iconst 1, 1) := by decide +kernel
theorem dX6_turned_2 : decode cX6_turned 2 = .ok (.if_icmp .ge 7, 3) := by decide +kernel
theorem dX6_turned_5 : decode cX6_turned 5 = .ok (.iload_n 1, 1) := by decide +kernel
theorem dX6_turned_6 : decode cX6_turned 6 = .ok (.goto 15, 3) := by decide +kernel
theorem dX6_turned_9 : decode cX6_turned 9 = .ok (.iload_n 1, 1) := by decide +kernel
theorem dX6_turned_10 : decode cX6_turned 10 = .ok (.iload_n 2, 1) := by decide +kernel
theorem dX6_turned_11 : decode cX6_turned 11 = .ok (.irem, 1) := by decide +kernel
theorem dX6_turned_12 : decode cX6_turned 12 = .ok (.aload_n 0, 1) := by decide +kernel
theorem dX6_turned_13 : decode cX6_turned 13 = .ok (.getfield 9, 3) := by decide +kernel
theorem dX6_turned_16 : decode cX6_turned 16 = .ok (.imul, 1) := by decide +kernel
theorem dX6_turned_17 : decode cX6_turned 17 = .ok (.iload_n 1, 1) := by decide +kernel
theorem dX6_turned_18 : decode cX6_turned 18 = .ok (.iload_n 2, 1) := by decide +kernel
theorem dX6_turned_19 : decode cX6_turned 19 = .ok (.idiv, 1) := by decide +kernel
theorem dX6_turned_20 : decode cX6_turned 20 = .ok (.iadd, 1) := by decide +kernel
theorem dX6_turned_21 : decode cX6_turned 21 = .ok (.ireturn, 1) := by decide +kernel
theorem dX6_cycleTotalModulo_0 : decode cX6_cycleTotalModulo 0 = .ok (.iload_n 1, 1) := by decide +kernel
theorem dX6_cycleTotalModulo_1 : decode cX6_cycleTotalModulo 1 = .ok (.iconst 1, 1) := by decide +kernel
theorem dX6_cycleTotalModulo_2 : decode cX6_cycleTotalModulo 2 = .ok (.if_icmp .ge 5, 3) := by decide +kernel
theorem dX6_cycleTotalModulo_5 : decode cX6_cycleTotalModulo 5 = .ok (.iconst (-1), 1) := by decide +kernel
theorem dX6_cycleTotalModulo_6 : decode cX6_cycleTotalModulo 6 = .ok (.ireturn, 1) := by decide +kernel
theorem dX6_cycleTotalModulo_7 : decode cX6_cycleTotalModulo 7 = .ok (.lconst 1, 1) := by decide +kernel
theorem dX6_cycleTotalModulo_8 : decode cX6_cycleTotalModulo 8 = .ok (.lstore_n 2, 1) := by decide +kernel
theorem dX6_cycleTotalModulo_9 : decode cX6_cycleTotalModulo 9 = .ok (.aload_n 0, 1) := by decide +kernel
theorem dX6_cycleTotalModulo_10 : decode cX6_cycleTotalModulo 10 = .ok (.getfield 9, 3) := by decide +kernel
theorem dX6_cycleTotalModulo_13 : decode cX6_cycleTotalModulo 13 = .ok (.iconst 1, 1) := by decide +kernel
theorem dX6_cycleTotalModulo_14 : decode cX6_cycleTotalModulo 14 = .ok (.isub, 1) := by decide +kernel
theorem dX6_cycleTotalModulo_15 : decode cX6_cycleTotalModulo 15 = .ok (.invokestatic 59, 3) := by decide +kernel
theorem dX6_cycleTotalModulo_18 : decode cX6_cycleTotalModulo 18 = .ok (.istore 4, 2) := by decide +kernel
theorem dX6_cycleTotalModulo_20 : decode cX6_cycleTotalModulo 20 = .ok (.iconst 0, 1) := by decide +kernel
theorem dX6_cycleTotalModulo_21 : decode cX6_cycleTotalModulo 21 = .ok (.istore 5, 2) := by decide +kernel
theorem dX6_cycleTotalModulo_23 : decode cX6_cycleTotalModulo 23 = .ok (.iload 5, 2) := by decide +kernel
theorem dX6_cycleTotalModulo_25 : decode cX6_cycleTotalModulo 25 = .ok (.aload_n 0, 1) := by decide +kernel
theorem dX6_cycleTotalModulo_26 : decode cX6_cycleTotalModulo 26 = .ok (.getfield 21, 3) := by decide +kernel
theorem dX6_cycleTotalModulo_29 : decode cX6_cycleTotalModulo 29 = .ok (.if_icmp .ge 18, 3) := by decide +kernel
theorem dX6_cycleTotalModulo_32 : decode cX6_cycleTotalModulo 32 = .ok (.lload_n 2, 1) := by decide +kernel
theorem dX6_cycleTotalModulo_33 : decode cX6_cycleTotalModulo 33 = .ok (.iload 4, 2) := by decide +kernel
theorem dX6_cycleTotalModulo_35 : decode cX6_cycleTotalModulo 35 = .ok (.i2l, 1) := by decide +kernel
theorem dX6_cycleTotalModulo_36 : decode cX6_cycleTotalModulo 36 = .ok (.lmul, 1) := by decide +kernel
theorem dX6_cycleTotalModulo_37 : decode cX6_cycleTotalModulo 37 = .ok (.iload_n 1, 1) := by decide +kernel
theorem dX6_cycleTotalModulo_38 : decode cX6_cycleTotalModulo 38 = .ok (.i2l, 1) := by decide +kernel
theorem dX6_cycleTotalModulo_39 : decode cX6_cycleTotalModulo 39 = .ok (.lrem, 1) := by decide +kernel
theorem dX6_cycleTotalModulo_40 : decode cX6_cycleTotalModulo 40 = .ok (.lstore_n 2, 1) := by decide +kernel
theorem dX6_cycleTotalModulo_41 : decode cX6_cycleTotalModulo 41 = .ok (.iinc 5 1, 3) := by decide +kernel
theorem dX6_cycleTotalModulo_44 : decode cX6_cycleTotalModulo 44 = .ok (.goto (-21), 3) := by decide +kernel
theorem dX6_cycleTotalModulo_47 : decode cX6_cycleTotalModulo 47 = .ok (.aload_n 0, 1) := by decide +kernel
theorem dX6_cycleTotalModulo_48 : decode cX6_cycleTotalModulo 48 = .ok (.getfield 15, 3) := by decide +kernel
theorem dX6_cycleTotalModulo_51 : decode cX6_cycleTotalModulo 51 = .ok (.istore 5, 2) := by decide +kernel
theorem dX6_cycleTotalModulo_53 : decode cX6_cycleTotalModulo 53 = .ok (.iload 5, 2) := by decide +kernel
theorem dX6_cycleTotalModulo_55 : decode cX6_cycleTotalModulo 55 = .ok (.aload_n 0, 1) := by decide +kernel
theorem dX6_cycleTotalModulo_56 : decode cX6_cycleTotalModulo 56 = .ok (.getfield 21, 3) := by decide +kernel
theorem dX6_cycleTotalModulo_59 : decode cX6_cycleTotalModulo 59 = .ok (.if_icmp .ge 20, 3) := by decide +kernel
theorem dX6_cycleTotalModulo_62 : decode cX6_cycleTotalModulo 62 = .ok (.lload_n 2, 1) := by decide +kernel
theorem dX6_cycleTotalModulo_63 : decode cX6_cycleTotalModulo 63 = .ok (.aload_n 0, 1) := by decide +kernel
theorem dX6_cycleTotalModulo_64 : decode cX6_cycleTotalModulo 64 = .ok (.getfield 9, 3) := by decide +kernel
theorem dX6_cycleTotalModulo_67 : decode cX6_cycleTotalModulo 67 = .ok (.i2l, 1) := by decide +kernel
theorem dX6_cycleTotalModulo_68 : decode cX6_cycleTotalModulo 68 = .ok (.lmul, 1) := by decide +kernel
theorem dX6_cycleTotalModulo_69 : decode cX6_cycleTotalModulo 69 = .ok (.iload_n 1, 1) := by decide +kernel
theorem dX6_cycleTotalModulo_70 : decode cX6_cycleTotalModulo 70 = .ok (.i2l, 1) := by decide +kernel
theorem dX6_cycleTotalModulo_71 : decode cX6_cycleTotalModulo 71 = .ok (.lrem, 1) := by decide +kernel
theorem dX6_cycleTotalModulo_72 : decode cX6_cycleTotalModulo 72 = .ok (.lstore_n 2, 1) := by decide +kernel
theorem dX6_cycleTotalModulo_73 : decode cX6_cycleTotalModulo 73 = .ok (.iinc 5 1, 3) := by decide +kernel
theorem dX6_cycleTotalModulo_76 : decode cX6_cycleTotalModulo 76 = .ok (.goto (-23), 3) := by decide +kernel
theorem dX6_cycleTotalModulo_79 : decode cX6_cycleTotalModulo 79 = .ok (.lload_n 2, 1) := by decide +kernel
theorem dX6_cycleTotalModulo_80 : decode cX6_cycleTotalModulo 80 = .ok (.l2i, 1) := by decide +kernel
theorem dX6_cycleTotalModulo_81 : decode cX6_cycleTotalModulo 81 = .ok (.ireturn, 1) := by decide +kernel
theorem dX6_factorial_0 : decode cX6_factorial 0 = .ok (.iconst 1, 1) := by decide +kernel
theorem dX6_factorial_1 : decode cX6_factorial 1 = .ok (.istore_n 1, 1) := by decide +kernel
theorem dX6_factorial_2 : decode cX6_factorial 2 = .ok (.iconst 2, 1) := by decide +kernel
theorem dX6_factorial_3 : decode cX6_factorial 3 = .ok (.istore_n 2, 1) := by decide +kernel
theorem dX6_factorial_4 : decode cX6_factorial 4 = .ok (.iload_n 2, 1) := by decide +kernel
theorem dX6_factorial_5 : decode cX6_factorial 5 = .ok (.iload_n 0, 1) := by decide +kernel
theorem dX6_factorial_6 : decode cX6_factorial 6 = .ok (.if_icmp .gt 13, 3) := by decide +kernel
theorem dX6_factorial_9 : decode cX6_factorial 9 = .ok (.iload_n 1, 1) := by decide +kernel
theorem dX6_factorial_10 : decode cX6_factorial 10 = .ok (.iload_n 2, 1) := by decide +kernel
theorem dX6_factorial_11 : decode cX6_factorial 11 = .ok (.imul, 1) := by decide +kernel
theorem dX6_factorial_12 : decode cX6_factorial 12 = .ok (.istore_n 1, 1) := by decide +kernel
theorem dX6_factorial_13 : decode cX6_factorial 13 = .ok (.iinc 2 1, 3) := by decide +kernel
theorem dX6_factorial_16 : decode cX6_factorial 16 = .ok (.goto (-12), 3) := by decide +kernel
theorem dX6_factorial_19 : decode cX6_factorial 19 = .ok (.iload_n 1, 1) := by decide +kernel
theorem dX6_factorial_20 : decode cX6_factorial 20 = .ok (.ireturn, 1) := by decide +kernel
theorem dX6_power_0 : decode cX6_power 0 = .ok (.iconst 1, 1) := by decide +kernel
theorem dX6_power_1 : decode cX6_power 1 = .ok (.istore_n 2, 1) := by decide +kernel
theorem dX6_power_2 : decode cX6_power 2 = .ok (.iconst 0, 1) := by decide +kernel
theorem dX6_power_3 : decode cX6_power 3 = .ok (.istore_n 3, 1) := by decide +kernel
theorem dX6_power_4 : decode cX6_power 4 = .ok (.iload_n 3, 1) := by decide +kernel
theorem dX6_power_5 : decode cX6_power 5 = .ok (.iload_n 1, 1) := by decide +kernel
theorem dX6_power_6 : decode cX6_power 6 = .ok (.if_icmp .ge 13, 3) := by decide +kernel
theorem dX6_power_9 : decode cX6_power 9 = .ok (.iload_n 2, 1) := by decide +kernel
theorem dX6_power_10 : decode cX6_power 10 = .ok (.iload_n 0, 1) := by decide +kernel
theorem dX6_power_11 : decode cX6_power 11 = .ok (.imul, 1) := by decide +kernel
theorem dX6_power_12 : decode cX6_power 12 = .ok (.istore_n 2, 1) := by decide +kernel
theorem dX6_power_13 : decode cX6_power 13 = .ok (.iinc 3 1, 3) := by decide +kernel
theorem dX6_power_16 : decode cX6_power 16 = .ok (.goto (-12), 3) := by decide +kernel
theorem dX6_power_19 : decode cX6_power 19 = .ok (.iload_n 2, 1) := by decide +kernel
theorem dX6_power_20 : decode cX6_power 20 = .ok (.ireturn, 1) := by decide +kernel
theorem dX7_init_0 : decode cX7_init 0 = .ok (.aload_n 0, 1) := by decide +kernel
theorem dX7_init_1 : decode cX7_init 1 = .ok (.invokespecial 1, 3) := by decide +kernel
theorem dX7_init_4 : decode cX7_init 4 = .ok (.aload_n 0, 1) := by decide +kernel
theorem dX7_init_5 : decode cX7_init 5 = .ok (.new 7, 3) := by decide +kernel
theorem dX7_init_8 : decode cX7_init 8 = .ok (.dup, 1) := by decide +kernel
theorem dX7_init_9 : decode cX7_init 9 = .ok (.invokespecial 9, 3) := by decide +kernel
theorem dX7_init_12 : decode cX7_init 12 = .ok (.putfield 10, 3) := by decide +kernel
theorem dX7_init_15 : decode cX7_init 15 = .ok (.aload_n 0, 1) := by decide +kernel
theorem dX7_init_16 : decode cX7_init 16 = .ok (.iconst 0, 1) := by decide +kernel
theorem dX7_init_17 : decode cX7_init 17 = .ok (.putfield 16, 3) := by decide +kernel
theorem dX7_init_20 : decode cX7_init 20 = .ok (.aload_n 0, 1) := by decide +kernel
theorem dX7_init_21 : decode cX7_init 21 = .ok (.iconst 0, 1) := by decide +kernel
theorem dX7_init_22 : decode cX7_init 22 = .ok (.putfield 20, 3) := by decide +kernel
theorem dX7_init_25 : decode cX7_init 25 = .ok (.aload_n 0, 1) := by decide +kernel
theorem dX7_init_26 : decode cX7_init 26 = .ok (.iconst 0, 1) := by decide +kernel
theorem dX7_init_27 : decode cX7_init 27 = .ok (.putfield 23, 3) := by decide +kernel
theorem dX7_init_30 : decode cX7_init 30 = .ok (.return_, 1) := by decide +kernel
theorem dX7_isTaken_0 : decode cX7_isTaken 0 = .ok (.aload_n 0, 1) := by decide +kernel
theorem dX7_isTaken_1 : decode cX7_isTaken 1 = .ok (.getfield 23, 3) := by decide +kernel
theorem dX7_isTaken_4 : decode cX7_isTaken 4 = .ok (.ireturn, 1) := by decide +kernel
theorem dX7_take_0 : decode cX7_take 0 = .ok (.aload_n 0, 1) := by decide +kernel
theorem dX7_take_1 : decode cX7_take 1 = .ok (.aload_n 1, 1) := by decide +kernel
theorem dX7_take_2 : decode cX7_take 2 = .ok (.invokevirtual 27, 3) := by decide +kernel
theorem dX7_take_5 : decode cX7_take 5 = .ok (.putfield 16, 3) := by decide +kernel
theorem dX7_take_8 : decode cX7_take 8 = .ok (.aload_n 0, 1) := by decide +kernel
theorem dX7_take_9 : decode cX7_take 9 = .ok (.aload_n 1, 1) := by decide +kernel
theorem dX7_take_10 : decode cX7_take 10 = .ok (.invokevirtual 32, 3) := by decide +kernel
theorem dX7_take_13 : decode cX7_take 13 = .ok (.putfield 20, 3) := by decide +kernel
theorem dX7_take_16 : decode cX7_take 16 = .ok (.aload_n 0, 1) := by decide +kernel
theorem dX7_take_17 : decode cX7_take 17 = .ok (.getfield 10, 3) := by decide +kernel
theorem dX7_take_20 : decode cX7_take 20 = .ok (.aload_n 2, 1) := by decide +kernel
theorem dX7_take_21 : decode cX7_take 21 = .ok (.invokevirtual 34, 3) := by decide +kernel
theorem dX7_take_24 : decode cX7_take 24 = .ok (.aload_n 0, 1) := by decide +kernel
theorem dX7_take_25 : decode cX7_take 25 = .ok (.iconst 1, 1) := by decide +kernel
theorem dX7_take_26 : decode cX7_take 26 = .ok (.putfield 23, 3) := by decide +kernel
theorem dX7_take_29 : decode cX7_take 29 = .ok (.return_, 1) := by decide +kernel
theorem dX7_giveBack_0 : decode cX7_giveBack 0 = .ok (.aload_n 1, 1) := by decide +kernel
theorem dX7_giveBack_1 : decode cX7_giveBack 1 = .ok (.aload_n 0, 1) := by decide +kernel
theorem dX7_giveBack_2 : decode cX7_giveBack 2 = .ok (.getfield 16, 3) := by decide +kernel
theorem dX7_giveBack_5 : decode cX7_giveBack 5 = .ok (.aload_n 0, 1) := by decide +kernel
theorem dX7_giveBack_6 : decode cX7_giveBack 6 = .ok (.getfield 20, 3) := by decide +kernel
theorem dX7_giveBack_9 : decode cX7_giveBack 9 = .ok (.invokevirtual 38, 3) := by decide +kernel
theorem dX7_giveBack_12 : decode cX7_giveBack 12 = .ok (.aload_n 2, 1) := by decide +kernel
theorem dX7_giveBack_13 : decode cX7_giveBack 13 = .ok (.aload_n 0, 1) := by decide +kernel
theorem dX7_giveBack_14 : decode cX7_giveBack 14 = .ok (.getfield 10, 3) := by decide +kernel
theorem dX7_giveBack_17 : decode cX7_giveBack 17 = .ok (.invokevirtual 34, 3) := by decide +kernel
theorem dX7_giveBack_20 : decode cX7_giveBack 20 = .ok (.return_, 1) := by decide +kernel
theorem dX8_runs_0 : decode cX8_runs 0 = .ok (.aload_n 0, 1) := by decide +kernel
theorem dX8_runs_1 : decode cX8_runs 1 = .ok (.invokevirtual 7, 3) := by decide +kernel
theorem dX8_runs_4 : decode cX8_runs 4 = .ok (.ifCond .eq 26, 3) := by decide +kernel
theorem dX8_runs_7 : decode cX8_runs 7 = .ok (.aload_n 0, 1) := by decide +kernel
theorem dX8_runs_8 : decode cX8_runs 8 = .ok (.iconst 0, 1) := by decide +kernel
theorem dX8_runs_9 : decode cX8_runs 9 = .ok (.invokevirtual 13, 3) := by decide +kernel
theorem dX8_runs_12 : decode cX8_runs 12 = .ok (.iload_n 1, 1) := by decide +kernel
theorem dX8_runs_13 : decode cX8_runs 13 = .ok (.if_icmp .ne 15, 3) := by decide +kernel
theorem dX8_runs_16 : decode cX8_runs 16 = .ok (.aload_n 0, 1) := by decide +kernel
theorem dX8_runs_17 : decode cX8_runs 17 = .ok (.invokevirtual 17, 3) := by decide +kernel
theorem dX8_runs_20 : decode cX8_runs 20 = .ok (.iload_n 2, 1) := by decide +kernel
theorem dX8_runs_21 : decode cX8_runs 21 = .ok (.if_icmp .ne 7, 3) := by decide +kernel
theorem dX8_runs_24 : decode cX8_runs 24 = .ok (.iconst 1, 1) := by decide +kernel
theorem dX8_runs_25 : decode cX8_runs 25 = .ok (.goto 4, 3) := by decide +kernel
theorem dX8_runs_28 : decode cX8_runs 28 = .ok (.iconst 0, 1) := by decide +kernel
theorem dX8_runs_29 : decode cX8_runs 29 = .ok (.ireturn, 1) := by decide +kernel
theorem dX8_runs_30 : decode cX8_runs 30 = .ok (.iconst 0, 1) := by decide +kernel
theorem dX8_runs_31 : decode cX8_runs 31 = .ok (.istore_n 3, 1) := by decide +kernel
theorem dX8_runs_32 : decode cX8_runs 32 = .ok (.iconst 0, 1) := by decide +kernel
theorem dX8_runs_33 : decode cX8_runs 33 = .ok (.istore 4, 2) := by decide +kernel
theorem dX8_runs_35 : decode cX8_runs 35 = .ok (.iload 4, 2) := by decide +kernel
theorem dX8_runs_37 : decode cX8_runs 37 = .ok (.aload_n 0, 1) := by decide +kernel
theorem dX8_runs_38 : decode cX8_runs 38 = .ok (.invokevirtual 17, 3) := by decide +kernel
theorem dX8_runs_41 : decode cX8_runs 41 = .ok (.if_icmp .ge 56, 3) := by decide +kernel
theorem dX8_runs_44 : decode cX8_runs 44 = .ok (.aload_n 0, 1) := by decide +kernel
theorem dX8_runs_45 : decode cX8_runs 45 = .ok (.iload 4, 2) := by decide +kernel
theorem dX8_runs_47 : decode cX8_runs 47 = .ok (.invokevirtual 13, 3) := by decide +kernel
theorem dX8_runs_50 : decode cX8_runs 50 = .ok (.iload_n 1, 1) := by decide +kernel
theorem dX8_runs_51 : decode cX8_runs 51 = .ok (.if_icmp .ne 19, 3) := by decide +kernel
theorem dX8_runs_54 : decode cX8_runs 54 = .ok (.aload_n 0, 1) := by decide +kernel
theorem dX8_runs_55 : decode cX8_runs 55 = .ok (.iload 4, 2) := by decide +kernel
theorem dX8_runs_57 : decode cX8_runs 57 = .ok (.iconst 1, 1) := by decide +kernel
theorem dX8_runs_58 : decode cX8_runs 58 = .ok (.isub, 1) := by decide +kernel
theorem dX8_runs_59 : decode cX8_runs 59 = .ok (.invokevirtual 21, 3) := by decide +kernel
theorem dX8_runs_62 : decode cX8_runs 62 = .ok (.iload_n 1, 1) := by decide +kernel
theorem dX8_runs_63 : decode cX8_runs 63 = .ok (.if_icmp .eq 7, 3) := by decide +kernel
theorem dX8_runs_66 : decode cX8_runs 66 = .ok (.iconst 1, 1) := by decide +kernel
theorem dX8_runs_67 : decode cX8_runs 67 = .ok (.goto 4, 3) := by decide +kernel
theorem dX8_runs_70 : decode cX8_runs 70 = .ok (.iconst 0, 1) := by decide +kernel
theorem dX8_runs_71 : decode cX8_runs 71 = .ok (.istore 5, 2) := by decide +kernel
theorem dX8_runs_73 : decode cX8_runs 73 = .ok (.iload 5, 2) := by decide +kernel
theorem dX8_runs_75 : decode cX8_runs 75 = .ok (.ifCond .eq 16, 3) := by decide +kernel
theorem dX8_runs_78 : decode cX8_runs 78 = .ok (.aload_n 0, 1) := by decide +kernel
theorem dX8_runs_79 : decode cX8_runs 79 = .ok (.iload 4, 2) := by decide +kernel
theorem dX8_runs_81 : decode cX8_runs 81 = .ok (.invokestatic 24, 3) := by decide +kernel
theorem dX8_runs_84 : decode cX8_runs 84 = .ok (.iload_n 2, 1) := by decide +kernel
theorem dX8_runs_85 : decode cX8_runs 85 = .ok (.if_icmp .ne 6, 3) := by decide +kernel
theorem dX8_runs_88 : decode cX8_runs 88 = .ok (.iinc 3 1, 3) := by decide +kernel
theorem dX8_runs_91 : decode cX8_runs 91 = .ok (.iinc 4 1, 3) := by decide +kernel
theorem dX8_runs_94 : decode cX8_runs 94 = .ok (.goto (-59), 3) := by decide +kernel
theorem dX8_runs_97 : decode cX8_runs 97 = .ok (.iload_n 3, 1) := by decide +kernel
theorem dX8_runs_98 : decode cX8_runs 98 = .ok (.ireturn, 1) := by decide +kernel
theorem dX8_runSize_0 : decode cX8_runSize 0 = .ok (.iconst 1, 1) := by decide +kernel
theorem dX8_runSize_1 : decode cX8_runSize 1 = .ok (.istore_n 2, 1) := by decide +kernel
theorem dX8_runSize_2 : decode cX8_runSize 2 = .ok (.iload_n 2, 1) := by decide +kernel
theorem dX8_runSize_3 : decode cX8_runSize 3 = .ok (.aload_n 0, 1) := by decide +kernel
theorem dX8_runSize_4 : decode cX8_runSize 4 = .ok (.invokevirtual 17, 3) := by decide +kernel
theorem dX8_runSize_7 : decode cX8_runSize 7 = .ok (.if_icmp .ge 24, 3) := by decide +kernel
theorem dX8_runSize_10 : decode cX8_runSize 10 = .ok (.aload_n 0, 1) := by decide +kernel
theorem dX8_runSize_11 : decode cX8_runSize 11 = .ok (.iload_n 1, 1) := by decide +kernel
theorem dX8_runSize_12 : decode cX8_runSize 12 = .ok (.iload_n 2, 1) := by decide +kernel
theorem dX8_runSize_13 : decode cX8_runSize 13 = .ok (.iadd, 1) := by decide +kernel
theorem dX8_runSize_14 : decode cX8_runSize 14 = .ok (.invokevirtual 21, 3) := by decide +kernel
theorem dX8_runSize_17 : decode cX8_runSize 17 = .ok (.aload_n 0, 1) := by decide +kernel
theorem dX8_runSize_18 : decode cX8_runSize 18 = .ok (.iload_n 1, 1) := by decide +kernel
theorem dX8_runSize_19 : decode cX8_runSize 19 = .ok (.invokevirtual 13, 3) := by decide +kernel
theorem dX8_runSize_22 : decode cX8_runSize 22 = .ok (.if_icmp .ne 9, 3) := by decide +kernel
theorem dX8_runSize_25 : decode cX8_runSize 25 = .ok (.iinc 2 1, 3) := by decide +kernel
theorem dX8_runSize_28 : decode cX8_runSize 28 = .ok (.goto (-26), 3) := by decide +kernel
theorem dX8_runSize_31 : decode cX8_runSize 31 = .ok (.iload_n 2, 1) := by decide +kernel
theorem dX8_runSize_32 : decode cX8_runSize 32 = .ok (.ireturn, 1) := by decide +kernel
theorem dX8_spread_0 : decode cX8_spread 0 = .ok (.iconst 0, 1) := by decide +kernel
theorem dX8_spread_1 : decode cX8_spread 1 = .ok (.istore_n 3, 1) := by decide +kernel
theorem dX8_spread_2 : decode cX8_spread 2 = .ok (.iconst 0, 1) := by decide +kernel
theorem dX8_spread_3 : decode cX8_spread 3 = .ok (.istore 4, 2) := by decide +kernel
theorem dX8_spread_5 : decode cX8_spread 5 = .ok (.iconst 0, 1) := by decide +kernel
theorem dX8_spread_6 : decode cX8_spread 6 = .ok (.istore 5, 2) := by decide +kernel
theorem dX8_spread_8 : decode cX8_spread 8 = .ok (.iconst 0, 1) := by decide +kernel
theorem dX8_spread_9 : decode cX8_spread 9 = .ok (.istore 6, 2) := by decide +kernel
theorem dX8_spread_11 : decode cX8_spread 11 = .ok (.iload 6, 2) := by decide +kernel
theorem dX8_spread_13 : decode cX8_spread 13 = .ok (.aload_n 0, 1) := by decide +kernel
theorem dX8_spread_14 : decode cX8_spread 14 = .ok (.invokevirtual 17, 3) := by decide +kernel
theorem dX8_spread_17 : decode cX8_spread 17 = .ok (.if_icmp .ge 45, 3) := by decide +kernel
theorem dX8_spread_20 : decode cX8_spread 20 = .ok (.iload_n 3, 1) := by decide +kernel
theorem dX8_spread_21 : decode cX8_spread 21 = .ok (.aload_n 0, 1) := by decide +kernel
theorem dX8_spread_22 : decode cX8_spread 22 = .ok (.iload 6, 2) := by decide +kernel
theorem dX8_spread_24 : decode cX8_spread 24 = .ok (.invokevirtual 13, 3) := by decide +kernel
theorem dX8_spread_27 : decode cX8_spread 27 = .ok (.iload_n 1, 1) := by decide +kernel
theorem dX8_spread_28 : decode cX8_spread 28 = .ok (.if_icmp .ne 9, 3) := by decide +kernel
theorem dX8_spread_31 : decode cX8_spread 31 = .ok (.iload_n 2, 1) := by decide +kernel
theorem dX8_spread_32 : decode cX8_spread 32 = .ok (.iconst 1, 1) := by decide +kernel
theorem dX8_spread_33 : decode cX8_spread 33 = .ok (.isub, 1) := by decide +kernel
theorem dX8_spread_34 : decode cX8_spread 34 = .ok (.goto 4, 3) := by decide +kernel
theorem dX8_spread_37 : decode cX8_spread 37 = .ok (.iconst (-1), 1) := by decide +kernel
theorem dX8_spread_38 : decode cX8_spread 38 = .ok (.iadd, 1) := by decide +kernel
theorem dX8_spread_39 : decode cX8_spread 39 = .ok (.istore_n 3, 1) := by decide +kernel
theorem dX8_spread_40 : decode cX8_spread 40 = .ok (.iload 4, 2) := by decide +kernel
theorem dX8_spread_42 : decode cX8_spread 42 = .ok (.iload_n 3, 1) := by decide +kernel
theorem dX8_spread_43 : decode cX8_spread 43 = .ok (.invokestatic 30, 3) := by decide +kernel
theorem dX8_spread_46 : decode cX8_spread 46 = .ok (.istore 4, 2) := by decide +kernel
theorem dX8_spread_48 : decode cX8_spread 48 = .ok (.iload 5, 2) := by decide +kernel
theorem dX8_spread_50 : decode cX8_spread 50 = .ok (.iload_n 3, 1) := by decide +kernel
theorem dX8_spread_51 : decode cX8_spread 51 = .ok (.invokestatic 36, 3) := by decide +kernel
theorem dX8_spread_54 : decode cX8_spread 54 = .ok (.istore 5, 2) := by decide +kernel
theorem dX8_spread_56 : decode cX8_spread 56 = .ok (.iinc 6 1, 3) := by decide +kernel
theorem dX8_spread_59 : decode cX8_spread 59 = .ok (.goto (-48), 3) := by decide +kernel
theorem dX8_spread_62 : decode cX8_spread 62 = .ok (.iload 5, 2) := by decide +kernel
theorem dX8_spread_64 : decode cX8_spread 64 = .ok (.iload 4, 2) := by decide +kernel
theorem dX8_spread_66 : decode cX8_spread 66 = .ok (.isub, 1) := by decide +kernel
theorem dX8_spread_67 : decode cX8_spread 67 = .ok (.ireturn, 1) := by decide +kernel
theorem dX8_autocorrelation_0 : decode cX8_autocorrelation 0 = .ok (.aload_n 0, 1) := by decide +kernel
theorem dX8_autocorrelation_1 : decode cX8_autocorrelation 1 = .ok (.invokevirtual 17, 3) := by decide +kernel
theorem dX8_autocorrelation_4 : decode cX8_autocorrelation 4 = .ok (.iconst 1, 1) := by decide +kernel
theorem dX8_autocorrelation_5 : decode cX8_autocorrelation 5 = .ok (.if_icmp .ge 5, 3) := by decide +kernel
theorem dX8_autocorrelation_8 : decode cX8_autocorrelation 8 = .ok (.dconst 0, 1) := by decide +kernel
theorem dX8_autocorrelation_9 : decode cX8_autocorrelation 9 = .ok (.dreturn, 1) := by decide +kernel
theorem dX8_autocorrelation_10 : decode cX8_autocorrelation 10 = .ok (.aload_n 0, 1) := by decide +kernel
theorem dX8_autocorrelation_11 : decode cX8_autocorrelation 11 = .ok (.invokestatic 39, 3) := by decide +kernel
theorem dX8_autocorrelation_14 : decode cX8_autocorrelation 14 = .ok (.i2d, 1) := by decide +kernel
theorem dX8_autocorrelation_15 : decode cX8_autocorrelation 15 = .ok (.aload_n 0, 1) := by decide +kernel
theorem dX8_autocorrelation_16 : decode cX8_autocorrelation 16 = .ok (.invokevirtual 17, 3) := by decide +kernel
theorem dX8_autocorrelation_19 : decode cX8_autocorrelation 19 = .ok (.i2d, 1) := by decide +kernel
theorem dX8_autocorrelation_20 : decode cX8_autocorrelation 20 = .ok (.ddiv, 1) := by decide +kernel
theorem dX8_autocorrelation_21 : decode cX8_autocorrelation 21 = .ok (.dstore_n 2, 1) := by decide +kernel
theorem dX8_autocorrelation_22 : decode cX8_autocorrelation 22 = .ok (.dconst 0, 1) := by decide +kernel
theorem dX8_autocorrelation_23 : decode cX8_autocorrelation 23 = .ok (.dstore 4, 2) := by decide +kernel
theorem dX8_autocorrelation_25 : decode cX8_autocorrelation 25 = .ok (.dconst 0, 1) := by decide +kernel
theorem dX8_autocorrelation_26 : decode cX8_autocorrelation 26 = .ok (.dstore 6, 2) := by decide +kernel
theorem dX8_autocorrelation_28 : decode cX8_autocorrelation 28 = .ok (.iconst 0, 1) := by decide +kernel
theorem dX8_autocorrelation_29 : decode cX8_autocorrelation 29 = .ok (.istore 8, 2) := by decide +kernel
theorem dX8_autocorrelation_31 : decode cX8_autocorrelation 31 = .ok (.iload 8, 2) := by decide +kernel
theorem dX8_autocorrelation_33 : decode cX8_autocorrelation 33 = .ok (.aload_n 0, 1) := by decide +kernel
theorem dX8_autocorrelation_34 : decode cX8_autocorrelation 34 = .ok (.invokevirtual 17, 3) := by decide +kernel
theorem dX8_autocorrelation_37 : decode cX8_autocorrelation 37 = .ok (.if_icmp .ge 53, 3) := by decide +kernel
theorem dX8_autocorrelation_40 : decode cX8_autocorrelation 40 = .ok (.aload_n 0, 1) := by decide +kernel
theorem dX8_autocorrelation_41 : decode cX8_autocorrelation 41 = .ok (.iload 8, 2) := by decide +kernel
theorem dX8_autocorrelation_43 : decode cX8_autocorrelation 43 = .ok (.invokevirtual 13, 3) := by decide +kernel
theorem dX8_autocorrelation_46 : decode cX8_autocorrelation 46 = .ok (.i2d, 1) := by decide +kernel
theorem dX8_autocorrelation_47 : decode cX8_autocorrelation 47 = .ok (.dload_n 2, 1) := by decide +kernel
theorem dX8_autocorrelation_48 : decode cX8_autocorrelation 48 = .ok (.dsub, 1) := by decide +kernel
theorem dX8_autocorrelation_49 : decode cX8_autocorrelation 49 = .ok (.dstore 9, 2) := by decide +kernel
theorem dX8_autocorrelation_51 : decode cX8_autocorrelation 51 = .ok (.aload_n 0, 1) := by decide +kernel
theorem dX8_autocorrelation_52 : decode cX8_autocorrelation 52 = .ok (.iload 8, 2) := by decide +kernel
theorem dX8_autocorrelation_54 : decode cX8_autocorrelation 54 = .ok (.iload_n 1, 1) := by decide +kernel
theorem dX8_autocorrelation_55 : decode cX8_autocorrelation 55 = .ok (.iadd, 1) := by decide +kernel
theorem dX8_autocorrelation_56 : decode cX8_autocorrelation 56 = .ok (.invokevirtual 21, 3) := by decide +kernel
theorem dX8_autocorrelation_59 : decode cX8_autocorrelation 59 = .ok (.i2d, 1) := by decide +kernel
theorem dX8_autocorrelation_60 : decode cX8_autocorrelation 60 = .ok (.dload_n 2, 1) := by decide +kernel
theorem dX8_autocorrelation_61 : decode cX8_autocorrelation 61 = .ok (.dsub, 1) := by decide +kernel
theorem dX8_autocorrelation_62 : decode cX8_autocorrelation 62 = .ok (.dstore 11, 2) := by decide +kernel
theorem dX8_autocorrelation_64 : decode cX8_autocorrelation 64 = .ok (.dload 4, 2) := by decide +kernel
theorem dX8_autocorrelation_66 : decode cX8_autocorrelation 66 = .ok (.dload 9, 2) := by decide +kernel
theorem dX8_autocorrelation_68 : decode cX8_autocorrelation 68 = .ok (.dload 11, 2) := by decide +kernel
theorem dX8_autocorrelation_70 : decode cX8_autocorrelation 70 = .ok (.dmul, 1) := by decide +kernel
theorem dX8_autocorrelation_71 : decode cX8_autocorrelation 71 = .ok (.dadd, 1) := by decide +kernel
theorem dX8_autocorrelation_72 : decode cX8_autocorrelation 72 = .ok (.dstore 4, 2) := by decide +kernel
theorem dX8_autocorrelation_74 : decode cX8_autocorrelation 74 = .ok (.dload 6, 2) := by decide +kernel
theorem dX8_autocorrelation_76 : decode cX8_autocorrelation 76 = .ok (.dload 9, 2) := by decide +kernel
theorem dX8_autocorrelation_78 : decode cX8_autocorrelation 78 = .ok (.dload 9, 2) := by decide +kernel
theorem dX8_autocorrelation_80 : decode cX8_autocorrelation 80 = .ok (.dmul, 1) := by decide +kernel
theorem dX8_autocorrelation_81 : decode cX8_autocorrelation 81 = .ok (.dadd, 1) := by decide +kernel
theorem dX8_autocorrelation_82 : decode cX8_autocorrelation 82 = .ok (.dstore 6, 2) := by decide +kernel
theorem dX8_autocorrelation_84 : decode cX8_autocorrelation 84 = .ok (.iinc 8 1, 3) := by decide +kernel
theorem dX8_autocorrelation_87 : decode cX8_autocorrelation 87 = .ok (.goto (-56), 3) := by decide +kernel
theorem dX8_autocorrelation_90 : decode cX8_autocorrelation 90 = .ok (.dload 6, 2) := by decide +kernel
theorem dX8_autocorrelation_92 : decode cX8_autocorrelation 92 = .ok (.dconst 0, 1) := by decide +kernel
theorem dX8_autocorrelation_93 : decode cX8_autocorrelation 93 = .ok (.dcmp .l, 1) := by decide +kernel
theorem dX8_autocorrelation_94 : decode cX8_autocorrelation 94 = .ok (.ifCond .le 11, 3) := by decide +kernel
theorem dX8_autocorrelation_97 : decode cX8_autocorrelation 97 = .ok (.dload 4, 2) := by decide +kernel
theorem dX8_autocorrelation_99 : decode cX8_autocorrelation 99 = .ok (.dload 6, 2) := by decide +kernel
theorem dX8_autocorrelation_101 : decode cX8_autocorrelation 101 = .ok (.ddiv, 1) := by decide +kernel
theorem dX8_autocorrelation_102 : decode cX8_autocorrelation 102 = .ok (.goto 4, 3) := by decide +kernel
theorem dX8_autocorrelation_105 : decode cX8_autocorrelation 105 = .ok (.dconst 0, 1) := by decide +kernel
theorem dX8_autocorrelation_106 : decode cX8_autocorrelation 106 = .ok (.dreturn, 1) := by decide +kernel
theorem dX8_letterSum_0 : decode cX8_letterSum 0 = .ok (.iconst 0, 1) := by decide +kernel
theorem dX8_letterSum_1 : decode cX8_letterSum 1 = .ok (.istore_n 1, 1) := by decide +kernel
theorem dX8_letterSum_2 : decode cX8_letterSum 2 = .ok (.iconst 0, 1) := by decide +kernel
theorem dX8_letterSum_3 : decode cX8_letterSum 3 = .ok (.istore_n 2, 1) := by decide +kernel
theorem dX8_letterSum_4 : decode cX8_letterSum 4 = .ok (.iload_n 2, 1) := by decide +kernel
theorem dX8_letterSum_5 : decode cX8_letterSum 5 = .ok (.aload_n 0, 1) := by decide +kernel
theorem dX8_letterSum_6 : decode cX8_letterSum 6 = .ok (.invokevirtual 17, 3) := by decide +kernel
theorem dX8_letterSum_9 : decode cX8_letterSum 9 = .ok (.if_icmp .ge 17, 3) := by decide +kernel
theorem dX8_letterSum_12 : decode cX8_letterSum 12 = .ok (.iload_n 1, 1) := by decide +kernel
theorem dX8_letterSum_13 : decode cX8_letterSum 13 = .ok (.aload_n 0, 1) := by decide +kernel
theorem dX8_letterSum_14 : decode cX8_letterSum 14 = .ok (.iload_n 2, 1) := by decide +kernel
theorem dX8_letterSum_15 : decode cX8_letterSum 15 = .ok (.invokevirtual 13, 3) := by decide +kernel
theorem dX8_letterSum_18 : decode cX8_letterSum 18 = .ok (.iadd, 1) := by decide +kernel
theorem dX8_letterSum_19 : decode cX8_letterSum 19 = .ok (.istore_n 1, 1) := by decide +kernel
theorem dX8_letterSum_20 : decode cX8_letterSum 20 = .ok (.iinc 2 1, 3) := by decide +kernel
theorem dX8_letterSum_23 : decode cX8_letterSum 23 = .ok (.goto (-19), 3) := by decide +kernel
theorem dX8_letterSum_26 : decode cX8_letterSum 26 = .ok (.iload_n 1, 1) := by decide +kernel
theorem dX8_letterSum_27 : decode cX8_letterSum 27 = .ok (.ireturn, 1) := by decide +kernel
theorem dX8_bitsOf_0 : decode cX8_bitsOf 0 = .ok (.dload_n 0, 1) := by decide +kernel
theorem dX8_bitsOf_1 : decode cX8_bitsOf 1 = .ok (.dconst 0, 1) := by decide +kernel
theorem dX8_bitsOf_2 : decode cX8_bitsOf 2 = .ok (.dcmp .l, 1) := by decide +kernel
theorem dX8_bitsOf_3 : decode cX8_bitsOf 3 = .ok (.ifCond .ne 5, 3) := by decide +kernel
theorem dX8_bitsOf_6 : decode cX8_bitsOf 6 = .ok (.lconst 0, 1) := by decide +kernel
theorem dX8_bitsOf_7 : decode cX8_bitsOf 7 = .ok (.lreturn, 1) := by decide +kernel
theorem dX8_bitsOf_8 : decode cX8_bitsOf 8 = .ok (.dload_n 0, 1) := by decide +kernel
theorem dX8_bitsOf_9 : decode cX8_bitsOf 9 = .ok (.dconst 0, 1) := by decide +kernel
theorem dX8_bitsOf_10 : decode cX8_bitsOf 10 = .ok (.dcmp .g, 1) := by decide +kernel
theorem dX8_bitsOf_11 : decode cX8_bitsOf 11 = .ok (.ifCond .ge 8, 3) := by decide +kernel
theorem dX8_bitsOf_14 : decode cX8_bitsOf 14 = .ok (.dload_n 0, 1) := by decide +kernel
theorem dX8_bitsOf_15 : decode cX8_bitsOf 15 = .ok (.dneg, 1) := by decide +kernel
theorem dX8_bitsOf_16 : decode cX8_bitsOf 16 = .ok (.goto 4, 3) := by decide +kernel
theorem dX8_bitsOf_19 : decode cX8_bitsOf 19 = .ok (.dload_n 0, 1) := by decide +kernel
theorem dX8_bitsOf_20 : decode cX8_bitsOf 20 = .ok (.dstore_n 2, 1) := by decide +kernel
theorem dX8_bitsOf_21 : decode cX8_bitsOf 21 = .ok (.iconst 0, 1) := by decide +kernel
theorem dX8_bitsOf_22 : decode cX8_bitsOf 22 = .ok (.istore 4, 2) := by decide +kernel
theorem dX8_bitsOf_24 : decode cX8_bitsOf 24 = .ok (.dload_n 2, 1) := by decide +kernel
theorem dX8_bitsOf_25 : decode cX8_bitsOf 25 = .ok (.dconst 1, 1) := by decide +kernel
theorem dX8_bitsOf_26 : decode cX8_bitsOf 26 = .ok (.dcmp .g, 1) := by decide +kernel
theorem dX8_bitsOf_27 : decode cX8_bitsOf 27 = .ok (.ifCond .ge 23, 3) := by decide +kernel
theorem dX8_bitsOf_30 : decode cX8_bitsOf 30 = .ok (.iload 4, 2) := by decide +kernel
theorem dX8_bitsOf_32 : decode cX8_bitsOf 32 = .ok (.sipush (-1022), 3) := by decide +kernel
theorem dX8_bitsOf_35 : decode cX8_bitsOf 35 = .ok (.if_icmp .le 15, 3) := by decide +kernel
theorem dX8_bitsOf_38 : decode cX8_bitsOf 38 = .ok (.dload_n 2, 1) := by decide +kernel
theorem dX8_bitsOf_39 : decode cX8_bitsOf 39 = .ok (.ldc2_w 43, 3) := by decide +kernel
theorem dX8_bitsOf_42 : decode cX8_bitsOf 42 = .ok (.dmul, 1) := by decide +kernel
theorem dX8_bitsOf_43 : decode cX8_bitsOf 43 = .ok (.dstore_n 2, 1) := by decide +kernel
theorem dX8_bitsOf_44 : decode cX8_bitsOf 44 = .ok (.iinc 4 (-1), 3) := by decide +kernel
theorem dX8_bitsOf_47 : decode cX8_bitsOf 47 = .ok (.goto (-23), 3) := by decide +kernel
theorem dX8_bitsOf_50 : decode cX8_bitsOf 50 = .ok (.dload_n 0, 1) := by decide +kernel
theorem dX8_bitsOf_51 : decode cX8_bitsOf 51 = .ok (.dconst 0, 1) := by decide +kernel
theorem dX8_bitsOf_52 : decode cX8_bitsOf 52 = .ok (.dcmp .g, 1) := by decide +kernel
theorem dX8_bitsOf_53 : decode cX8_bitsOf 53 = .ok (.ifCond .ge 9, 3) := by decide +kernel
theorem dX8_bitsOf_56 : decode cX8_bitsOf 56 = .ok (.ldc2_w 45, 3) := by decide +kernel
theorem dX8_bitsOf_59 : decode cX8_bitsOf 59 = .ok (.goto 4, 3) := by decide +kernel
theorem dX8_bitsOf_62 : decode cX8_bitsOf 62 = .ok (.lconst 0, 1) := by decide +kernel
theorem dX8_bitsOf_63 : decode cX8_bitsOf 63 = .ok (.lstore 5, 2) := by decide +kernel
theorem dX8_bitsOf_65 : decode cX8_bitsOf 65 = .ok (.dload_n 2, 1) := by decide +kernel
theorem dX8_bitsOf_66 : decode cX8_bitsOf 66 = .ok (.dconst 1, 1) := by decide +kernel
theorem dX8_bitsOf_67 : decode cX8_bitsOf 67 = .ok (.dsub, 1) := by decide +kernel
theorem dX8_bitsOf_68 : decode cX8_bitsOf 68 = .ok (.ldc2_w 47, 3) := by decide +kernel
theorem dX8_bitsOf_71 : decode cX8_bitsOf 71 = .ok (.dmul, 1) := by decide +kernel
theorem dX8_bitsOf_72 : decode cX8_bitsOf 72 = .ok (.d2l, 1) := by decide +kernel
theorem dX8_bitsOf_73 : decode cX8_bitsOf 73 = .ok (.lstore 7, 2) := by decide +kernel
theorem dX8_bitsOf_75 : decode cX8_bitsOf 75 = .ok (.lload 5, 2) := by decide +kernel
theorem dX8_bitsOf_77 : decode cX8_bitsOf 77 = .ok (.iload 4, 2) := by decide +kernel
theorem dX8_bitsOf_79 : decode cX8_bitsOf 79 = .ok (.sipush 1023, 3) := by decide +kernel
theorem dX8_bitsOf_82 : decode cX8_bitsOf 82 = .ok (.iadd, 1) := by decide +kernel
theorem dX8_bitsOf_83 : decode cX8_bitsOf 83 = .ok (.i2l, 1) := by decide +kernel
theorem dX8_bitsOf_84 : decode cX8_bitsOf 84 = .ok (.bipush 52, 2) := by decide +kernel
theorem dX8_bitsOf_86 : decode cX8_bitsOf 86 = .ok (.lshl, 1) := by decide +kernel
theorem dX8_bitsOf_87 : decode cX8_bitsOf 87 = .ok (.lor, 1) := by decide +kernel
theorem dX8_bitsOf_88 : decode cX8_bitsOf 88 = .ok (.lload 7, 2) := by decide +kernel
theorem dX8_bitsOf_90 : decode cX8_bitsOf 90 = .ok (.lor, 1) := by decide +kernel
theorem dX8_bitsOf_91 : decode cX8_bitsOf 91 = .ok (.lreturn, 1) := by decide +kernel
theorem dX9_init_0 : decode cX9_init 0 = .ok (.aload_n 0, 1) := by decide +kernel
theorem dX9_init_1 : decode cX9_init 1 = .ok (.invokespecial 3, 3) := by decide +kernel
theorem dX9_init_4 : decode cX9_init 4 = .ok (.aload_n 0, 1) := by decide +kernel
theorem dX9_init_5 : decode cX9_init 5 = .ok (.sipush 256, 3) := by decide +kernel
theorem dX9_init_8 : decode cX9_init 8 = .ok (.newarray .int, 2) := by decide +kernel
theorem dX9_init_10 : decode cX9_init 10 = .ok (.putfield 9, 3) := by decide +kernel
theorem dX9_init_13 : decode cX9_init 13 = .ok (.aload_n 0, 1) := by decide +kernel
theorem dX9_init_14 : decode cX9_init 14 = .ok (.iconst (-1), 1) := by decide +kernel
theorem dX9_init_15 : decode cX9_init 15 = .ok (.putfield 15, 3) := by decide +kernel
theorem dX9_init_18 : decode cX9_init 18 = .ok (.aload_n 0, 1) := by decide +kernel
theorem dX9_init_19 : decode cX9_init 19 = .ok (.iconst 0, 1) := by decide +kernel
theorem dX9_init_20 : decode cX9_init 20 = .ok (.putfield 19, 3) := by decide +kernel
theorem dX9_init_23 : decode cX9_init 23 = .ok (.return_, 1) := by decide +kernel
theorem dX9_isType_0 : decode cX9_isType 0 = .ok (.iload_n 0, 1) := by decide +kernel
theorem dX9_isType_1 : decode cX9_isType 1 = .ok (.ifCond .eq 8, 3) := by decide +kernel
theorem dX9_isType_4 : decode cX9_isType 4 = .ok (.iload_n 0, 1) := by decide +kernel
theorem dX9_isType_5 : decode cX9_isType 5 = .ok (.iconst 1, 1) := by decide +kernel
theorem dX9_isType_6 : decode cX9_isType 6 = .ok (.if_icmp .ne 7, 3) := by decide +kernel
theorem dX9_isType_9 : decode cX9_isType 9 = .ok (.iconst 1, 1) := by decide +kernel
theorem dX9_isType_10 : decode cX9_isType 10 = .ok (.goto 4, 3) := by decide +kernel
theorem dX9_isType_13 : decode cX9_isType 13 = .ok (.iconst 0, 1) := by decide +kernel
theorem dX9_isType_14 : decode cX9_isType 14 = .ok (.ireturn, 1) := by decide +kernel
theorem dX9_isMissing_0 : decode cX9_isMissing 0 = .ok (.aload_n 0, 1) := by decide +kernel
theorem dX9_isMissing_1 : decode cX9_isMissing 1 = .ok (.getfield 15, 3) := by decide +kernel
theorem dX9_isMissing_4 : decode cX9_isMissing 4 = .ok (.iconst (-1), 1) := by decide +kernel
theorem dX9_isMissing_5 : decode cX9_isMissing 5 = .ok (.if_icmp .ne 7, 3) := by decide +kernel
theorem dX9_isMissing_8 : decode cX9_isMissing 8 = .ok (.iconst 1, 1) := by decide +kernel
theorem dX9_isMissing_9 : decode cX9_isMissing 9 = .ok (.goto 4, 3) := by decide +kernel
theorem dX9_isMissing_12 : decode cX9_isMissing 12 = .ok (.iconst 0, 1) := by decide +kernel
theorem dX9_isMissing_13 : decode cX9_isMissing 13 = .ok (.ireturn, 1) := by decide +kernel
theorem dX9_isOfType_0 : decode cX9_isOfType 0 = .ok (.aload_n 0, 1) := by decide +kernel
theorem dX9_isOfType_1 : decode cX9_isOfType 1 = .ok (.getfield 15, 3) := by decide +kernel
theorem dX9_isOfType_4 : decode cX9_isOfType 4 = .ok (.iload_n 1, 1) := by decide +kernel
theorem dX9_isOfType_5 : decode cX9_isOfType 5 = .ok (.if_icmp .ne 7, 3) := by decide +kernel
theorem dX9_isOfType_8 : decode cX9_isOfType 8 = .ok (.iconst 1, 1) := by decide +kernel
theorem dX9_isOfType_9 : decode cX9_isOfType 9 = .ok (.goto 4, 3) := by decide +kernel
theorem dX9_isOfType_12 : decode cX9_isOfType 12 = .ok (.iconst 0, 1) := by decide +kernel
theorem dX9_isOfType_13 : decode cX9_isOfType 13 = .ok (.ireturn, 1) := by decide +kernel
theorem dX9_size_0 : decode cX9_size 0 = .ok (.aload_n 0, 1) := by decide +kernel
theorem dX9_size_1 : decode cX9_size 1 = .ok (.getfield 19, 3) := by decide +kernel
theorem dX9_size_4 : decode cX9_size 4 = .ok (.ireturn, 1) := by decide +kernel
theorem dX9_has_0 : decode cX9_has 0 = .ok (.iload_n 1, 1) := by decide +kernel
theorem dX9_has_1 : decode cX9_has 1 = .ok (.ifCond .lt 15, 3) := by decide +kernel
theorem dX9_has_4 : decode cX9_has 4 = .ok (.iload_n 1, 1) := by decide +kernel
theorem dX9_has_5 : decode cX9_has 5 = .ok (.aload_n 0, 1) := by decide +kernel
theorem dX9_has_6 : decode cX9_has 6 = .ok (.getfield 19, 3) := by decide +kernel
theorem dX9_has_9 : decode cX9_has 9 = .ok (.if_icmp .ge 7, 3) := by decide +kernel
theorem dX9_has_12 : decode cX9_has 12 = .ok (.iconst 1, 1) := by decide +kernel
theorem dX9_has_13 : decode cX9_has 13 = .ok (.goto 4, 3) := by decide +kernel
theorem dX9_has_16 : decode cX9_has 16 = .ok (.iconst 0, 1) := by decide +kernel
theorem dX9_has_17 : decode cX9_has 17 = .ok (.ireturn, 1) := by decide +kernel
theorem dX9_at_0 : decode cX9_at 0 = .ok (.aload_n 0, 1) := by decide +kernel
theorem dX9_at_1 : decode cX9_at 1 = .ok (.iload_n 1, 1) := by decide +kernel
theorem dX9_at_2 : decode cX9_at 2 = .ok (.invokevirtual 22, 3) := by decide +kernel
theorem dX9_at_5 : decode cX9_at 5 = .ok (.ifCond .eq 12, 3) := by decide +kernel
theorem dX9_at_8 : decode cX9_at 8 = .ok (.aload_n 0, 1) := by decide +kernel
theorem dX9_at_9 : decode cX9_at 9 = .ok (.getfield 9, 3) := by decide +kernel
theorem dX9_at_12 : decode cX9_at 12 = .ok (.iload_n 1, 1) := by decide +kernel
theorem dX9_at_13 : decode cX9_at 13 = .ok (.iaload, 1) := by decide +kernel
theorem dX9_at_14 : decode cX9_at 14 = .ok (.goto 5, 3) := by decide +kernel
theorem dX9_at_17 : decode cX9_at 17 = .ok (.bipush (-13), 2) := by decide +kernel
theorem dX9_at_19 : decode cX9_at 19 = .ok (.ireturn, 1) := by decide +kernel
theorem dX9_put_0 : decode cX9_put 0 = .ok (.aload_n 0, 1) := by decide +kernel
theorem dX9_put_1 : decode cX9_put 1 = .ok (.iload_n 1, 1) := by decide +kernel
theorem dX9_put_2 : decode cX9_put 2 = .ok (.invokevirtual 22, 3) := by decide +kernel
theorem dX9_put_5 : decode cX9_put 5 = .ok (.ifCond .eq 23, 3) := by decide +kernel
theorem dX9_put_8 : decode cX9_put 8 = .ok (.aload_n 0, 1) := by decide +kernel
theorem dX9_put_9 : decode cX9_put 9 = .ok (.getfield 9, 3) := by decide +kernel
theorem dX9_put_12 : decode cX9_put 12 = .ok (.iload_n 1, 1) := by decide +kernel
theorem dX9_put_13 : decode cX9_put 13 = .ok (.aload_n 0, 1) := by decide +kernel
theorem dX9_put_14 : decode cX9_put 14 = .ok (.getfield 15, 3) := by decide +kernel
theorem dX9_put_17 : decode cX9_put 17 = .ok (.ifCond .ne 8, 3) := by decide +kernel
theorem dX9_put_20 : decode cX9_put 20 = .ok (.iload_n 2, 1) := by decide +kernel
theorem dX9_put_21 : decode cX9_put 21 = .ok (.i2b, 1) := by decide +kernel
theorem dX9_put_22 : decode cX9_put 22 = .ok (.goto 5, 3) := by decide +kernel
theorem dX9_put_25 : decode cX9_put 25 = .ok (.iload_n 2, 1) := by decide +kernel
theorem dX9_put_26 : decode cX9_put 26 = .ok (.i2c, 1) := by decide +kernel
theorem dX9_put_27 : decode cX9_put 27 = .ok (.iastore, 1) := by decide +kernel
theorem dX9_put_28 : decode cX9_put 28 = .ok (.return_, 1) := by decide +kernel
theorem dX9_create_0 : decode cX9_create 0 = .ok (.aload_n 0, 1) := by decide +kernel
theorem dX9_create_1 : decode cX9_create 1 = .ok (.iload_n 1, 1) := by decide +kernel
theorem dX9_create_2 : decode cX9_create 2 = .ok (.putfield 15, 3) := by decide +kernel
theorem dX9_create_5 : decode cX9_create 5 = .ok (.aload_n 0, 1) := by decide +kernel
theorem dX9_create_6 : decode cX9_create 6 = .ok (.iconst 0, 1) := by decide +kernel
theorem dX9_create_7 : decode cX9_create 7 = .ok (.iload_n 2, 1) := by decide +kernel
theorem dX9_create_8 : decode cX9_create 8 = .ok (.sipush 256, 3) := by decide +kernel
theorem dX9_create_11 : decode cX9_create 11 = .ok (.invokestatic 26, 3) := by decide +kernel
theorem dX9_create_14 : decode cX9_create 14 = .ok (.invokestatic 32, 3) := by decide +kernel
theorem dX9_create_17 : decode cX9_create 17 = .ok (.putfield 19, 3) := by decide +kernel
theorem dX9_create_20 : decode cX9_create 20 = .ok (.iconst 0, 1) := by decide +kernel
theorem dX9_create_21 : decode cX9_create 21 = .ok (.istore_n 3, 1) := by decide +kernel
theorem dX9_create_22 : decode cX9_create 22 = .ok (.iload_n 3, 1) := by decide +kernel
theorem dX9_create_23 : decode cX9_create 23 = .ok (.aload_n 0, 1) := by decide +kernel
theorem dX9_create_24 : decode cX9_create 24 = .ok (.getfield 19, 3) := by decide +kernel
theorem dX9_create_27 : decode cX9_create 27 = .ok (.if_icmp .ge 16, 3) := by decide +kernel
theorem dX9_create_30 : decode cX9_create 30 = .ok (.aload_n 0, 1) := by decide +kernel
theorem dX9_create_31 : decode cX9_create 31 = .ok (.getfield 9, 3) := by decide +kernel
theorem dX9_create_34 : decode cX9_create 34 = .ok (.iload_n 3, 1) := by decide +kernel
theorem dX9_create_35 : decode cX9_create 35 = .ok (.iconst 0, 1) := by decide +kernel
theorem dX9_create_36 : decode cX9_create 36 = .ok (.iastore, 1) := by decide +kernel
theorem dX9_create_37 : decode cX9_create 37 = .ok (.iinc 3 1, 3) := by decide +kernel
theorem dX9_create_40 : decode cX9_create 40 = .ok (.goto (-18), 3) := by decide +kernel
theorem dX9_create_43 : decode cX9_create 43 = .ok (.return_, 1) := by decide +kernel
theorem dX9_letterBase_0 : decode cX9_letterBase 0 = .ok (.aload_n 0, 1) := by decide +kernel
theorem dX9_letterBase_1 : decode cX9_letterBase 1 = .ok (.getfield 15, 3) := by decide +kernel
theorem dX9_letterBase_4 : decode cX9_letterBase 4 = .ok (.iconst 1, 1) := by decide +kernel
theorem dX9_letterBase_5 : decode cX9_letterBase 5 = .ok (.if_icmp .ne 8, 3) := by decide +kernel
theorem dX9_letterBase_8 : decode cX9_letterBase 8 = .ok (.bipush 97, 2) := by decide +kernel
theorem dX9_letterBase_10 : decode cX9_letterBase 10 = .ok (.goto 4, 3) := by decide +kernel
theorem dX9_letterBase_13 : decode cX9_letterBase 13 = .ok (.iconst 0, 1) := by decide +kernel
theorem dX9_letterBase_14 : decode cX9_letterBase 14 = .ok (.ireturn, 1) := by decide +kernel
theorem dX10_init_0 : decode cX10_init 0 = .ok (.aload_n 0, 1) := by decide +kernel
theorem dX10_init_1 : decode cX10_init 1 = .ok (.invokespecial 3, 3) := by decide +kernel
theorem dX10_init_4 : decode cX10_init 4 = .ok (.aload_n 0, 1) := by decide +kernel
theorem dX10_init_5 : decode cX10_init 5 = .ok (.sipush 256, 3) := by decide +kernel
theorem dX10_init_8 : decode cX10_init 8 = .ok (.newarray .int, 2) := by decide +kernel
theorem dX10_init_10 : decode cX10_init 10 = .ok (.putfield 9, 3) := by decide +kernel
theorem dX10_init_13 : decode cX10_init 13 = .ok (.aload_n 0, 1) := by decide +kernel
theorem dX10_init_14 : decode cX10_init 14 = .ok (.iconst 0, 1) := by decide +kernel
theorem dX10_init_15 : decode cX10_init 15 = .ok (.putfield 15, 3) := by decide +kernel
theorem dX10_init_18 : decode cX10_init 18 = .ok (.return_, 1) := by decide +kernel
theorem dX10_size_0 : decode cX10_size 0 = .ok (.aload_n 0, 1) := by decide +kernel
theorem dX10_size_1 : decode cX10_size 1 = .ok (.getfield 15, 3) := by decide +kernel
theorem dX10_size_4 : decode cX10_size 4 = .ok (.ireturn, 1) := by decide +kernel
theorem dX10_isFull_0 : decode cX10_isFull 0 = .ok (.aload_n 0, 1) := by decide +kernel
theorem dX10_isFull_1 : decode cX10_isFull 1 = .ok (.getfield 15, 3) := by decide +kernel
theorem dX10_isFull_4 : decode cX10_isFull 4 = .ok (.sipush 256, 3) := by decide +kernel
theorem dX10_isFull_7 : decode cX10_isFull 7 = .ok (.if_icmp .lt 7, 3) := by decide +kernel
theorem dX10_isFull_10 : decode cX10_isFull 10 = .ok (.iconst 1, 1) := by decide +kernel
theorem dX10_isFull_11 : decode cX10_isFull 11 = .ok (.goto 4, 3) := by decide +kernel
theorem dX10_isFull_14 : decode cX10_isFull 14 = .ok (.iconst 0, 1) := by decide +kernel
theorem dX10_isFull_15 : decode cX10_isFull 15 = .ok (.ireturn, 1) := by decide +kernel
theorem dX10_has_0 : decode cX10_has 0 = .ok (.iload_n 1, 1) := by decide +kernel
theorem dX10_has_1 : decode cX10_has 1 = .ok (.ifCond .lt 15, 3) := by decide +kernel
theorem dX10_has_4 : decode cX10_has 4 = .ok (.iload_n 1, 1) := by decide +kernel
theorem dX10_has_5 : decode cX10_has 5 = .ok (.aload_n 0, 1) := by decide +kernel
theorem dX10_has_6 : decode cX10_has 6 = .ok (.getfield 15, 3) := by decide +kernel
theorem dX10_has_9 : decode cX10_has 9 = .ok (.if_icmp .ge 7, 3) := by decide +kernel
theorem dX10_has_12 : decode cX10_has 12 = .ok (.iconst 1, 1) := by decide +kernel
theorem dX10_has_13 : decode cX10_has 13 = .ok (.goto 4, 3) := by decide +kernel
theorem dX10_has_16 : decode cX10_has 16 = .ok (.iconst 0, 1) := by decide +kernel
theorem dX10_has_17 : decode cX10_has 17 = .ok (.ireturn, 1) := by decide +kernel
theorem dX10_at_0 : decode cX10_at 0 = .ok (.aload_n 0, 1) := by decide +kernel
theorem dX10_at_1 : decode cX10_at 1 = .ok (.iload_n 1, 1) := by decide +kernel
theorem dX10_at_2 : decode cX10_at 2 = .ok (.invokevirtual 19, 3) := by decide +kernel
theorem dX10_at_5 : decode cX10_at 5 = .ok (.ifCond .eq 12, 3) := by decide +kernel
theorem dX10_at_8 : decode cX10_at 8 = .ok (.aload_n 0, 1) := by decide +kernel
theorem dX10_at_9 : decode cX10_at 9 = .ok (.getfield 9, 3) := by decide +kernel
theorem dX10_at_12 : decode cX10_at 12 = .ok (.iload_n 1, 1) := by decide +kernel
theorem dX10_at_13 : decode cX10_at 13 = .ok (.iaload, 1) := by decide +kernel
theorem dX10_at_14 : decode cX10_at 14 = .ok (.goto 5, 3) := by decide +kernel
theorem dX10_at_17 : decode cX10_at 17 = .ok (.bipush (-2), 2) := by decide +kernel
theorem dX10_at_19 : decode cX10_at 19 = .ok (.ireturn, 1) := by decide +kernel
theorem dX10_around_0 : decode cX10_around 0 = .ok (.aload_n 0, 1) := by decide +kernel
theorem dX10_around_1 : decode cX10_around 1 = .ok (.getfield 15, 3) := by decide +kernel
theorem dX10_around_4 : decode cX10_around 4 = .ok (.iconst 1, 1) := by decide +kernel
theorem dX10_around_5 : decode cX10_around 5 = .ok (.if_icmp .ge 8, 3) := by decide +kernel
theorem dX10_around_8 : decode cX10_around 8 = .ok (.bipush (-2), 2) := by decide +kernel
theorem dX10_around_10 : decode cX10_around 10 = .ok (.goto 16, 3) := by decide +kernel
theorem dX10_around_13 : decode cX10_around 13 = .ok (.aload_n 0, 1) := by decide +kernel
theorem dX10_around_14 : decode cX10_around 14 = .ok (.getfield 9, 3) := by decide +kernel
theorem dX10_around_17 : decode cX10_around 17 = .ok (.iload_n 1, 1) := by decide +kernel
theorem dX10_around_18 : decode cX10_around 18 = .ok (.aload_n 0, 1) := by decide +kernel
theorem dX10_around_19 : decode cX10_around 19 = .ok (.getfield 15, 3) := by decide +kernel
theorem dX10_around_22 : decode cX10_around 22 = .ok (.invokestatic 23, 3) := by decide +kernel
theorem dX10_around_25 : decode cX10_around 25 = .ok (.iaload, 1) := by decide +kernel
theorem dX10_around_26 : decode cX10_around 26 = .ok (.ireturn, 1) := by decide +kernel
theorem dX10_clear_0 : decode cX10_clear 0 = .ok (.aload_n 0, 1) := by decide +kernel
theorem dX10_clear_1 : decode cX10_clear 1 = .ok (.iconst 0, 1) := by decide +kernel
theorem dX10_clear_2 : decode cX10_clear 2 = .ok (.putfield 15, 3) := by decide +kernel
theorem dX10_clear_5 : decode cX10_clear 5 = .ok (.return_, 1) := by decide +kernel
theorem dX10_put_0 : decode cX10_put 0 = .ok (.aload_n 0, 1) := by decide +kernel
theorem dX10_put_1 : decode cX10_put 1 = .ok (.iload_n 1, 1) := by decide +kernel
theorem dX10_put_2 : decode cX10_put 2 = .ok (.invokevirtual 19, 3) := by decide +kernel
theorem dX10_put_5 : decode cX10_put 5 = .ok (.ifCond .eq 10, 3) := by decide +kernel
theorem dX10_put_8 : decode cX10_put 8 = .ok (.aload_n 0, 1) := by decide +kernel
theorem dX10_put_9 : decode cX10_put 9 = .ok (.getfield 9, 3) := by decide +kernel
theorem dX10_put_12 : decode cX10_put 12 = .ok (.iload_n 1, 1) := by decide +kernel
theorem dX10_put_13 : decode cX10_put 13 = .ok (.iload_n 2, 1) := by decide +kernel
theorem dX10_put_14 : decode cX10_put 14 = .ok (.iastore, 1) := by decide +kernel
theorem dX10_put_15 : decode cX10_put 15 = .ok (.return_, 1) := by decide +kernel
theorem dX10_add_0 : decode cX10_add 0 = .ok (.aload_n 0, 1) := by decide +kernel
theorem dX10_add_1 : decode cX10_add 1 = .ok (.invokevirtual 29, 3) := by decide +kernel
theorem dX10_add_4 : decode cX10_add 4 = .ok (.ifCond .ne 23, 3) := by decide +kernel
theorem dX10_add_7 : decode cX10_add 7 = .ok (.aload_n 0, 1) := by decide +kernel
theorem dX10_add_8 : decode cX10_add 8 = .ok (.getfield 9, 3) := by decide +kernel
theorem dX10_add_11 : decode cX10_add 11 = .ok (.aload_n 0, 1) := by decide +kernel
theorem dX10_add_12 : decode cX10_add 12 = .ok (.getfield 15, 3) := by decide +kernel
theorem dX10_add_15 : decode cX10_add 15 = .ok (.iload_n 1, 1) := by decide +kernel
theorem dX10_add_16 : decode cX10_add 16 = .ok (.iastore, 1) := by decide +kernel
theorem dX10_add_17 : decode cX10_add 17 = .ok (.aload_n 0, 1) := by decide +kernel
theorem dX10_add_18 : decode cX10_add 18 = .ok (.dup, 1) := by decide +kernel
theorem dX10_add_19 : decode cX10_add 19 = .ok (.getfield 15, 3) := by decide +kernel
theorem dX10_add_22 : decode cX10_add 22 = .ok (.iconst 1, 1) := by decide +kernel
theorem dX10_add_23 : decode cX10_add 23 = .ok (.iadd, 1) := by decide +kernel
theorem dX10_add_24 : decode cX10_add 24 = .ok (.putfield 15, 3) := by decide +kernel
theorem dX10_add_27 : decode cX10_add 27 = .ok (.return_, 1) := by decide +kernel
theorem dX10_addPart_0 : decode cX10_addPart 0 = .ok (.iconst 0, 1) := by decide +kernel
theorem dX10_addPart_1 : decode cX10_addPart 1 = .ok (.istore 4, 2) := by decide +kernel
theorem dX10_addPart_3 : decode cX10_addPart 3 = .ok (.iload 4, 2) := by decide +kernel
theorem dX10_addPart_5 : decode cX10_addPart 5 = .ok (.iload_n 3, 1) := by decide +kernel
theorem dX10_addPart_6 : decode cX10_addPart 6 = .ok (.if_icmp .ge 21, 3) := by decide +kernel
theorem dX10_addPart_9 : decode cX10_addPart 9 = .ok (.aload_n 0, 1) := by decide +kernel
theorem dX10_addPart_10 : decode cX10_addPart 10 = .ok (.aload_n 1, 1) := by decide +kernel
theorem dX10_addPart_11 : decode cX10_addPart 11 = .ok (.iload_n 2, 1) := by decide +kernel
theorem dX10_addPart_12 : decode cX10_addPart 12 = .ok (.iload 4, 2) := by decide +kernel
theorem dX10_addPart_14 : decode cX10_addPart 14 = .ok (.iadd, 1) := by decide +kernel
theorem dX10_addPart_15 : decode cX10_addPart 15 = .ok (.invokevirtual 33, 3) := by decide +kernel
theorem dX10_addPart_18 : decode cX10_addPart 18 = .ok (.invokevirtual 37, 3) := by decide +kernel
theorem dX10_addPart_21 : decode cX10_addPart 21 = .ok (.iinc 4 1, 3) := by decide +kernel
theorem dX10_addPart_24 : decode cX10_addPart 24 = .ok (.goto (-21), 3) := by decide +kernel
theorem dX10_addPart_27 : decode cX10_addPart 27 = .ok (.return_, 1) := by decide +kernel
theorem dX10_become_0 : decode cX10_become 0 = .ok (.aload_n 0, 1) := by decide +kernel
theorem dX10_become_1 : decode cX10_become 1 = .ok (.aload_n 1, 1) := by decide +kernel
theorem dX10_become_2 : decode cX10_become 2 = .ok (.getfield 9, 3) := by decide +kernel
theorem dX10_become_5 : decode cX10_become 5 = .ok (.iconst 0, 1) := by decide +kernel
theorem dX10_become_6 : decode cX10_become 6 = .ok (.aload_n 1, 1) := by decide +kernel
theorem dX10_become_7 : decode cX10_become 7 = .ok (.getfield 15, 3) := by decide +kernel
theorem dX10_become_10 : decode cX10_become 10 = .ok (.invokevirtual 41, 3) := by decide +kernel
theorem dX10_become_13 : decode cX10_become 13 = .ok (.return_, 1) := by decide +kernel
theorem dX10_copyTo_0 : decode cX10_copyTo 0 = .ok (.iload_n 2, 1) := by decide +kernel
theorem dX10_copyTo_1 : decode cX10_copyTo 1 = .ok (.ifCond .lt 28, 3) := by decide +kernel
theorem dX10_copyTo_4 : decode cX10_copyTo 4 = .ok (.iload_n 2, 1) := by decide +kernel
theorem dX10_copyTo_5 : decode cX10_copyTo 5 = .ok (.aload_n 1, 1) := by decide +kernel
theorem dX10_copyTo_6 : decode cX10_copyTo 6 = .ok (.arraylength, 1) := by decide +kernel
theorem dX10_copyTo_7 : decode cX10_copyTo 7 = .ok (.aload_n 0, 1) := by decide +kernel
theorem dX10_copyTo_8 : decode cX10_copyTo 8 = .ok (.getfield 15, 3) := by decide +kernel
theorem dX10_copyTo_11 : decode cX10_copyTo 11 = .ok (.isub, 1) := by decide +kernel
theorem dX10_copyTo_12 : decode cX10_copyTo 12 = .ok (.if_icmp .gt 17, 3) := by decide +kernel
theorem dX10_copyTo_15 : decode cX10_copyTo 15 = .ok (.aload_n 0, 1) := by decide +kernel
theorem dX10_copyTo_16 : decode cX10_copyTo 16 = .ok (.getfield 9, 3) := by decide +kernel
theorem dX10_copyTo_19 : decode cX10_copyTo 19 = .ok (.iconst 0, 1) := by decide +kernel
theorem dX10_copyTo_20 : decode cX10_copyTo 20 = .ok (.aload_n 1, 1) := by decide +kernel
theorem dX10_copyTo_21 : decode cX10_copyTo 21 = .ok (.iload_n 2, 1) := by decide +kernel
theorem dX10_copyTo_22 : decode cX10_copyTo 22 = .ok (.aload_n 0, 1) := by decide +kernel
theorem dX10_copyTo_23 : decode cX10_copyTo 23 = .ok (.getfield 15, 3) := by decide +kernel
theorem dX10_copyTo_26 : decode cX10_copyTo 26 = .ok (.invokestatic 45, 3) := by decide +kernel
theorem dX10_copyTo_29 : decode cX10_copyTo 29 = .ok (.return_, 1) := by decide +kernel
theorem dX10_copyFrom_0 : decode cX10_copyFrom 0 = .ok (.iload_n 3, 1) := by decide +kernel
theorem dX10_copyFrom_1 : decode cX10_copyFrom 1 = .ok (.ifCond .lt 38, 3) := by decide +kernel
theorem dX10_copyFrom_4 : decode cX10_copyFrom 4 = .ok (.iload_n 3, 1) := by decide +kernel
theorem dX10_copyFrom_5 : decode cX10_copyFrom 5 = .ok (.sipush 256, 3) := by decide +kernel
theorem dX10_copyFrom_8 : decode cX10_copyFrom 8 = .ok (.if_icmp .gt 31, 3) := by decide +kernel
theorem dX10_copyFrom_11 : decode cX10_copyFrom 11 = .ok (.iload_n 2, 1) := by decide +kernel
theorem dX10_copyFrom_12 : decode cX10_copyFrom 12 = .ok (.ifCond .lt 27, 3) := by decide +kernel
theorem dX10_copyFrom_15 : decode cX10_copyFrom 15 = .ok (.iload_n 2, 1) := by decide +kernel
theorem dX10_copyFrom_16 : decode cX10_copyFrom 16 = .ok (.aload_n 1, 1) := by decide +kernel
theorem dX10_copyFrom_17 : decode cX10_copyFrom 17 = .ok (.arraylength, 1) := by decide +kernel
theorem dX10_copyFrom_18 : decode cX10_copyFrom 18 = .ok (.iload_n 3, 1) := by decide +kernel
theorem dX10_copyFrom_19 : decode cX10_copyFrom 19 = .ok (.isub, 1) := by decide +kernel
theorem dX10_copyFrom_20 : decode cX10_copyFrom 20 = .ok (.if_icmp .gt 19, 3) := by decide +kernel
theorem dX10_copyFrom_23 : decode cX10_copyFrom 23 = .ok (.aload_n 1, 1) := by decide +kernel
theorem dX10_copyFrom_24 : decode cX10_copyFrom 24 = .ok (.iload_n 2, 1) := by decide +kernel
theorem dX10_copyFrom_25 : decode cX10_copyFrom 25 = .ok (.aload_n 0, 1) := by decide +kernel
theorem dX10_copyFrom_26 : decode cX10_copyFrom 26 = .ok (.getfield 9, 3) := by decide +kernel
theorem dX10_copyFrom_29 : decode cX10_copyFrom 29 = .ok (.iconst 0, 1) := by decide +kernel
theorem dX10_copyFrom_30 : decode cX10_copyFrom 30 = .ok (.iload_n 3, 1) := by decide +kernel
theorem dX10_copyFrom_31 : decode cX10_copyFrom 31 = .ok (.invokestatic 45, 3) := by decide +kernel
theorem dX10_copyFrom_34 : decode cX10_copyFrom 34 = .ok (.aload_n 0, 1) := by decide +kernel
theorem dX10_copyFrom_35 : decode cX10_copyFrom 35 = .ok (.iload_n 3, 1) := by decide +kernel
theorem dX10_copyFrom_36 : decode cX10_copyFrom 36 = .ok (.putfield 15, 3) := by decide +kernel
theorem dX10_copyFrom_39 : decode cX10_copyFrom 39 = .ok (.return_, 1) := by decide +kernel
theorem dX10_isSame_0 : decode cX10_isSame 0 = .ok (.aload_n 0, 1) := by decide +kernel
theorem dX10_isSame_1 : decode cX10_isSame 1 = .ok (.getfield 15, 3) := by decide +kernel
theorem dX10_isSame_4 : decode cX10_isSame 4 = .ok (.aload_n 1, 1) := by decide +kernel
theorem dX10_isSame_5 : decode cX10_isSame 5 = .ok (.getfield 15, 3) := by decide +kernel
theorem dX10_isSame_8 : decode cX10_isSame 8 = .ok (.if_icmp .eq 5, 3) := by decide +kernel
theorem dX10_isSame_11 : decode cX10_isSame 11 = .ok (.iconst 0, 1) := by decide +kernel
theorem dX10_isSame_12 : decode cX10_isSame 12 = .ok (.ireturn, 1) := by decide +kernel
theorem dX10_isSame_13 : decode cX10_isSame 13 = .ok (.iconst 0, 1) := by decide +kernel
theorem dX10_isSame_14 : decode cX10_isSame 14 = .ok (.istore_n 2, 1) := by decide +kernel
theorem dX10_isSame_15 : decode cX10_isSame 15 = .ok (.iload_n 2, 1) := by decide +kernel
theorem dX10_isSame_16 : decode cX10_isSame 16 = .ok (.aload_n 0, 1) := by decide +kernel
theorem dX10_isSame_17 : decode cX10_isSame 17 = .ok (.getfield 15, 3) := by decide +kernel
theorem dX10_isSame_20 : decode cX10_isSame 20 = .ok (.if_icmp .ge 26, 3) := by decide +kernel
theorem dX10_isSame_23 : decode cX10_isSame 23 = .ok (.aload_n 0, 1) := by decide +kernel
theorem dX10_isSame_24 : decode cX10_isSame 24 = .ok (.getfield 9, 3) := by decide +kernel
theorem dX10_isSame_27 : decode cX10_isSame 27 = .ok (.iload_n 2, 1) := by decide +kernel
theorem dX10_isSame_28 : decode cX10_isSame 28 = .ok (.iaload, 1) := by decide +kernel
theorem dX10_isSame_29 : decode cX10_isSame 29 = .ok (.aload_n 1, 1) := by decide +kernel
theorem dX10_isSame_30 : decode cX10_isSame 30 = .ok (.getfield 9, 3) := by decide +kernel
theorem dX10_isSame_33 : decode cX10_isSame 33 = .ok (.iload_n 2, 1) := by decide +kernel
theorem dX10_isSame_34 : decode cX10_isSame 34 = .ok (.iaload, 1) := by decide +kernel
theorem dX10_isSame_35 : decode cX10_isSame 35 = .ok (.if_icmp .eq 5, 3) := by decide +kernel
theorem dX10_isSame_38 : decode cX10_isSame 38 = .ok (.iconst 0, 1) := by decide +kernel
theorem dX10_isSame_39 : decode cX10_isSame 39 = .ok (.ireturn, 1) := by decide +kernel
theorem dX10_isSame_40 : decode cX10_isSame 40 = .ok (.iinc 2 1, 3) := by decide +kernel
theorem dX10_isSame_43 : decode cX10_isSame 43 = .ok (.goto (-28), 3) := by decide +kernel
theorem dX10_isSame_46 : decode cX10_isSame 46 = .ok (.iconst 1, 1) := by decide +kernel
theorem dX10_isSame_47 : decode cX10_isSame 47 = .ok (.ireturn, 1) := by decide +kernel
theorem dX10_repeats_0 : decode cX10_repeats 0 = .ok (.iconst 0, 1) := by decide +kernel
theorem dX10_repeats_1 : decode cX10_repeats 1 = .ok (.istore 4, 2) := by decide +kernel
theorem dX10_repeats_3 : decode cX10_repeats 3 = .ok (.iload 4, 2) := by decide +kernel
theorem dX10_repeats_5 : decode cX10_repeats 5 = .ok (.iload_n 3, 1) := by decide +kernel
theorem dX10_repeats_6 : decode cX10_repeats 6 = .ok (.if_icmp .ge 30, 3) := by decide +kernel
theorem dX10_repeats_9 : decode cX10_repeats 9 = .ok (.aload_n 0, 1) := by decide +kernel
theorem dX10_repeats_10 : decode cX10_repeats 10 = .ok (.iload_n 1, 1) := by decide +kernel
theorem dX10_repeats_11 : decode cX10_repeats 11 = .ok (.iload 4, 2) := by decide +kernel
theorem dX10_repeats_13 : decode cX10_repeats 13 = .ok (.iadd, 1) := by decide +kernel
theorem dX10_repeats_14 : decode cX10_repeats 14 = .ok (.invokevirtual 33, 3) := by decide +kernel
theorem dX10_repeats_17 : decode cX10_repeats 17 = .ok (.aload_n 0, 1) := by decide +kernel
theorem dX10_repeats_18 : decode cX10_repeats 18 = .ok (.iload_n 2, 1) := by decide +kernel
theorem dX10_repeats_19 : decode cX10_repeats 19 = .ok (.iload 4, 2) := by decide +kernel
theorem dX10_repeats_21 : decode cX10_repeats 21 = .ok (.iadd, 1) := by decide +kernel
theorem dX10_repeats_22 : decode cX10_repeats 22 = .ok (.invokevirtual 33, 3) := by decide +kernel
theorem dX10_repeats_25 : decode cX10_repeats 25 = .ok (.if_icmp .eq 5, 3) := by decide +kernel
theorem dX10_repeats_28 : decode cX10_repeats 28 = .ok (.iconst 0, 1) := by decide +kernel
theorem dX10_repeats_29 : decode cX10_repeats 29 = .ok (.ireturn, 1) := by decide +kernel
theorem dX10_repeats_30 : decode cX10_repeats 30 = .ok (.iinc 4 1, 3) := by decide +kernel
theorem dX10_repeats_33 : decode cX10_repeats 33 = .ok (.goto (-30), 3) := by decide +kernel
theorem dX10_repeats_36 : decode cX10_repeats 36 = .ok (.iconst 1, 1) := by decide +kernel
theorem dX10_repeats_37 : decode cX10_repeats 37 = .ok (.ireturn, 1) := by decide +kernel
theorem dX10_isConstant_0 : decode cX10_isConstant 0 = .ok (.aload_n 0, 1) := by decide +kernel
theorem dX10_isConstant_1 : decode cX10_isConstant 1 = .ok (.iconst 0, 1) := by decide +kernel
theorem dX10_isConstant_2 : decode cX10_isConstant 2 = .ok (.iconst 1, 1) := by decide +kernel
theorem dX10_isConstant_3 : decode cX10_isConstant 3 = .ok (.aload_n 0, 1) := by decide +kernel
theorem dX10_isConstant_4 : decode cX10_isConstant 4 = .ok (.getfield 15, 3) := by decide +kernel
theorem dX10_isConstant_7 : decode cX10_isConstant 7 = .ok (.invokevirtual 51, 3) := by decide +kernel
theorem dX10_isConstant_10 : decode cX10_isConstant 10 = .ok (.ireturn, 1) := by decide +kernel
theorem dX11_init_0 : decode cX11_init 0 = .ok (.aload_n 0, 1) := by decide +kernel
theorem dX11_init_1 : decode cX11_init 1 = .ok (.invokespecial 1, 3) := by decide +kernel
theorem dX11_init_4 : decode cX11_init 4 = .ok (.aload_n 0, 1) := by decide +kernel
theorem dX11_init_5 : decode cX11_init 5 = .ok (.new 7, 3) := by decide +kernel
theorem dX11_init_8 : decode cX11_init 8 = .ok (.dup, 1) := by decide +kernel
theorem dX11_init_9 : decode cX11_init 9 = .ok (.invokespecial 9, 3) := by decide +kernel
theorem dX11_init_12 : decode cX11_init 12 = .ok (.putfield 10, 3) := by decide +kernel
theorem dX11_init_15 : decode cX11_init 15 = .ok (.aload_n 0, 1) := by decide +kernel
theorem dX11_init_16 : decode cX11_init 16 = .ok (.new 16, 3) := by decide +kernel
theorem dX11_init_19 : decode cX11_init 19 = .ok (.dup, 1) := by decide +kernel
theorem dX11_init_20 : decode cX11_init 20 = .ok (.invokespecial 18, 3) := by decide +kernel
theorem dX11_init_23 : decode cX11_init 23 = .ok (.putfield 19, 3) := by decide +kernel
theorem dX11_init_26 : decode cX11_init 26 = .ok (.aload_n 0, 1) := by decide +kernel
theorem dX11_init_27 : decode cX11_init 27 = .ok (.new 16, 3) := by decide +kernel
theorem dX11_init_30 : decode cX11_init 30 = .ok (.dup, 1) := by decide +kernel
theorem dX11_init_31 : decode cX11_init 31 = .ok (.invokespecial 18, 3) := by decide +kernel
theorem dX11_init_34 : decode cX11_init 34 = .ok (.putfield 23, 3) := by decide +kernel
theorem dX11_init_37 : decode cX11_init 37 = .ok (.aload_n 0, 1) := by decide +kernel
theorem dX11_init_38 : decode cX11_init 38 = .ok (.new 26, 3) := by decide +kernel
theorem dX11_init_41 : decode cX11_init 41 = .ok (.dup, 1) := by decide +kernel
theorem dX11_init_42 : decode cX11_init 42 = .ok (.invokespecial 28, 3) := by decide +kernel
theorem dX11_init_45 : decode cX11_init 45 = .ok (.putfield 29, 3) := by decide +kernel
theorem dX11_init_48 : decode cX11_init 48 = .ok (.aload_n 0, 1) := by decide +kernel
theorem dX11_init_49 : decode cX11_init 49 = .ok (.new 33, 3) := by decide +kernel
theorem dX11_init_52 : decode cX11_init 52 = .ok (.dup, 1) := by decide +kernel
theorem dX11_init_53 : decode cX11_init 53 = .ok (.invokespecial 35, 3) := by decide +kernel
theorem dX11_init_56 : decode cX11_init 56 = .ok (.putfield 36, 3) := by decide +kernel
theorem dX11_init_59 : decode cX11_init 59 = .ok (.aload_n 0, 1) := by decide +kernel
theorem dX11_init_60 : decode cX11_init 60 = .ok (.new 40, 3) := by decide +kernel
theorem dX11_init_63 : decode cX11_init 63 = .ok (.dup, 1) := by decide +kernel
theorem dX11_init_64 : decode cX11_init 64 = .ok (.invokespecial 42, 3) := by decide +kernel
theorem dX11_init_67 : decode cX11_init 67 = .ok (.putfield 43, 3) := by decide +kernel
theorem dX11_init_70 : decode cX11_init 70 = .ok (.aload_n 0, 1) := by decide +kernel
theorem dX11_init_71 : decode cX11_init 71 = .ok (.new 47, 3) := by decide +kernel
theorem dX11_init_74 : decode cX11_init 74 = .ok (.dup, 1) := by decide +kernel
theorem dX11_init_75 : decode cX11_init 75 = .ok (.invokespecial 49, 3) := by decide +kernel
theorem dX11_init_78 : decode cX11_init 78 = .ok (.putfield 50, 3) := by decide +kernel
theorem dX11_init_81 : decode cX11_init 81 = .ok (.aload_n 0, 1) := by decide +kernel
theorem dX11_init_82 : decode cX11_init 82 = .ok (.new 54, 3) := by decide +kernel
theorem dX11_init_85 : decode cX11_init 85 = .ok (.dup, 1) := by decide +kernel
theorem dX11_init_86 : decode cX11_init 86 = .ok (.invokespecial 56, 3) := by decide +kernel
theorem dX11_init_89 : decode cX11_init 89 = .ok (.putfield 57, 3) := by decide +kernel
theorem dX11_init_92 : decode cX11_init 92 = .ok (.aload_n 0, 1) := by decide +kernel
theorem dX11_init_93 : decode cX11_init 93 = .ok (.new 61, 3) := by decide +kernel
theorem dX11_init_96 : decode cX11_init 96 = .ok (.dup, 1) := by decide +kernel
theorem dX11_init_97 : decode cX11_init 97 = .ok (.invokespecial 63, 3) := by decide +kernel
theorem dX11_init_100 : decode cX11_init 100 = .ok (.putfield 64, 3) := by decide +kernel
theorem dX11_init_103 : decode cX11_init 103 = .ok (.aload_n 0, 1) := by decide +kernel
theorem dX11_init_104 : decode cX11_init 104 = .ok (.new 68, 3) := by decide +kernel
theorem dX11_init_107 : decode cX11_init 107 = .ok (.dup, 1) := by decide +kernel
theorem dX11_init_108 : decode cX11_init 108 = .ok (.invokespecial 70, 3) := by decide +kernel
theorem dX11_init_111 : decode cX11_init 111 = .ok (.putfield 71, 3) := by decide +kernel
theorem dX11_init_114 : decode cX11_init 114 = .ok (.aload_n 0, 1) := by decide +kernel
theorem dX11_init_115 : decode cX11_init 115 = .ok (.new 68, 3) := by decide +kernel
theorem dX11_init_118 : decode cX11_init 118 = .ok (.dup, 1) := by decide +kernel
theorem dX11_init_119 : decode cX11_init 119 = .ok (.invokespecial 70, 3) := by decide +kernel
theorem dX11_init_122 : decode cX11_init 122 = .ok (.putfield 75, 3) := by decide +kernel
theorem dX11_init_125 : decode cX11_init 125 = .ok (.return_, 1) := by decide +kernel
theorem dX11_configure_0 : decode cX11_configure 0 = .ok (.iload_n 1, 1) := by decide +kernel
theorem dX11_configure_1 : decode cX11_configure 1 = .ok (.iload_n 2, 1) := by decide +kernel
theorem dX11_configure_2 : decode cX11_configure 2 = .ok (.invokestatic 78, 3) := by decide +kernel
theorem dX11_configure_5 : decode cX11_configure 5 = .ok (.ifCond .ne 5, 3) := by decide +kernel
theorem dX11_configure_8 : decode cX11_configure 8 = .ok (.iconst (-1), 1) := by decide +kernel
theorem dX11_configure_9 : decode cX11_configure 9 = .ok (.ireturn, 1) := by decide +kernel
theorem dX11_configure_10 : decode cX11_configure 10 = .ok (.aload_n 0, 1) := by decide +kernel
theorem dX11_configure_11 : decode cX11_configure 11 = .ok (.getfield 10, 3) := by decide +kernel
theorem dX11_configure_14 : decode cX11_configure 14 = .ok (.iload_n 1, 1) := by decide +kernel
theorem dX11_configure_15 : decode cX11_configure 15 = .ok (.iload_n 2, 1) := by decide +kernel
theorem dX11_configure_16 : decode cX11_configure 16 = .ok (.invokevirtual 82, 3) := by decide +kernel
theorem dX11_configure_19 : decode cX11_configure 19 = .ok (.aload_n 0, 1) := by decide +kernel
theorem dX11_configure_20 : decode cX11_configure 20 = .ok (.getfield 19, 3) := by decide +kernel
theorem dX11_configure_23 : decode cX11_configure 23 = .ok (.invokevirtual 86, 3) := by decide +kernel
theorem dX11_configure_26 : decode cX11_configure 26 = .ok (.aload_n 0, 1) := by decide +kernel
theorem dX11_configure_27 : decode cX11_configure 27 = .ok (.invokevirtual 89, 3) := by decide +kernel
theorem dX11_configure_30 : decode cX11_configure 30 = .ok (.aload_n 0, 1) := by decide +kernel
theorem dX11_configure_31 : decode cX11_configure 31 = .ok (.getfield 10, 3) := by decide +kernel
theorem dX11_configure_34 : decode cX11_configure 34 = .ok (.invokevirtual 92, 3) := by decide +kernel
theorem dX11_configure_37 : decode cX11_configure 37 = .ok (.ireturn, 1) := by decide +kernel
theorem dX11_letterCount_0 : decode cX11_letterCount 0 = .ok (.aload_n 0, 1) := by decide +kernel
theorem dX11_letterCount_1 : decode cX11_letterCount 1 = .ok (.getfield 10, 3) := by decide +kernel
theorem dX11_letterCount_4 : decode cX11_letterCount 4 = .ok (.invokevirtual 96, 3) := by decide +kernel
theorem dX11_letterCount_7 : decode cX11_letterCount 7 = .ok (.ireturn, 1) := by decide +kernel
theorem dX11_order_0 : decode cX11_order 0 = .ok (.aload_n 0, 1) := by decide +kernel
theorem dX11_order_1 : decode cX11_order 1 = .ok (.getfield 10, 3) := by decide +kernel
theorem dX11_order_4 : decode cX11_order 4 = .ok (.invokevirtual 99, 3) := by decide +kernel
theorem dX11_order_7 : decode cX11_order 7 = .ok (.ireturn, 1) := by decide +kernel
theorem dX11_length_0 : decode cX11_length 0 = .ok (.aload_n 0, 1) := by decide +kernel
theorem dX11_length_1 : decode cX11_length 1 = .ok (.getfield 19, 3) := by decide +kernel
theorem dX11_length_4 : decode cX11_length 4 = .ok (.invokevirtual 102, 3) := by decide +kernel
theorem dX11_length_7 : decode cX11_length 7 = .ok (.ireturn, 1) := by decide +kernel
theorem dX11_letter_0 : decode cX11_letter 0 = .ok (.aload_n 0, 1) := by decide +kernel
theorem dX11_letter_1 : decode cX11_letter 1 = .ok (.getfield 19, 3) := by decide +kernel
theorem dX11_letter_4 : decode cX11_letter 4 = .ok (.iload_n 1, 1) := by decide +kernel
theorem dX11_letter_5 : decode cX11_letter 5 = .ok (.invokevirtual 105, 3) := by decide +kernel
theorem dX11_letter_8 : decode cX11_letter 8 = .ok (.ireturn, 1) := by decide +kernel
theorem dX11_construct_0 : decode cX11_construct 0 = .ok (.iload_n 1, 1) := by decide +kernel
theorem dX11_construct_1 : decode cX11_construct 1 = .ok (.ifCond .lt 8, 3) := by decide +kernel
theorem dX11_construct_4 : decode cX11_construct 4 = .ok (.iload_n 1, 1) := by decide +kernel
theorem dX11_construct_5 : decode cX11_construct 5 = .ok (.iconst 3, 1) := by decide +kernel
theorem dX11_construct_6 : decode cX11_construct 6 = .ok (.if_icmp .le 5, 3) := by decide +kernel
theorem dX11_construct_9 : decode cX11_construct 9 = .ok (.iconst (-1), 1) := by decide +kernel
theorem dX11_construct_10 : decode cX11_construct 10 = .ok (.ireturn, 1) := by decide +kernel
theorem dX11_construct_11 : decode cX11_construct 11 = .ok (.iload_n 1, 1) := by decide +kernel
theorem dX11_construct_12 : decode cX11_construct 12 = .ok (.iconst 3, 1) := by decide +kernel
theorem dX11_construct_13 : decode cX11_construct 13 = .ok (.if_icmp .ne 20, 3) := by decide +kernel
theorem dX11_construct_16 : decode cX11_construct 16 = .ok (.iload_n 2, 1) := by decide +kernel
theorem dX11_construct_17 : decode cX11_construct 17 = .ok (.ifCond .lt 14, 3) := by decide +kernel
theorem dX11_construct_20 : decode cX11_construct 20 = .ok (.iload_n 2, 1) := by decide +kernel
theorem dX11_construct_21 : decode cX11_construct 21 = .ok (.aload_n 0, 1) := by decide +kernel
theorem dX11_construct_22 : decode cX11_construct 22 = .ok (.getfield 10, 3) := by decide +kernel
theorem dX11_construct_25 : decode cX11_construct 25 = .ok (.invokevirtual 109, 3) := by decide +kernel
theorem dX11_construct_28 : decode cX11_construct 28 = .ok (.if_icmp .lt 5, 3) := by decide +kernel
theorem dX11_construct_31 : decode cX11_construct 31 = .ok (.iconst (-1), 1) := by decide +kernel
theorem dX11_construct_32 : decode cX11_construct 32 = .ok (.ireturn, 1) := by decide +kernel
theorem dX11_construct_33 : decode cX11_construct 33 = .ok (.aload_n 0, 1) := by decide +kernel
theorem dX11_construct_34 : decode cX11_construct 34 = .ok (.getfield 23, 3) := by decide +kernel
theorem dX11_construct_37 : decode cX11_construct 37 = .ok (.invokevirtual 86, 3) := by decide +kernel
theorem dX11_construct_40 : decode cX11_construct 40 = .ok (.aload_n 0, 1) := by decide +kernel
theorem dX11_construct_41 : decode cX11_construct 41 = .ok (.getfield 36, 3) := by decide +kernel
theorem dX11_construct_44 : decode cX11_construct 44 = .ok (.aload_n 0, 1) := by decide +kernel
theorem dX11_construct_45 : decode cX11_construct 45 = .ok (.getfield 10, 3) := by decide +kernel
theorem dX11_construct_48 : decode cX11_construct 48 = .ok (.iload_n 1, 1) := by decide +kernel
theorem dX11_construct_49 : decode cX11_construct 49 = .ok (.iload_n 2, 1) := by decide +kernel
theorem dX11_construct_50 : decode cX11_construct 50 = .ok (.aload_n 0, 1) := by decide +kernel
theorem dX11_construct_51 : decode cX11_construct 51 = .ok (.getfield 23, 3) := by decide +kernel
theorem dX11_construct_54 : decode cX11_construct 54 = .ok (.invokevirtual 112, 3) := by decide +kernel
theorem dX11_construct_57 : decode cX11_construct 57 = .ok (.aload_n 0, 1) := by decide +kernel
theorem dX11_construct_58 : decode cX11_construct 58 = .ok (.invokevirtual 116, 3) := by decide +kernel
theorem dX11_construct_61 : decode cX11_construct 61 = .ok (.pop, 1) := by decide +kernel
theorem dX11_construct_62 : decode cX11_construct 62 = .ok (.aload_n 0, 1) := by decide +kernel
theorem dX11_construct_63 : decode cX11_construct 63 = .ok (.getfield 19, 3) := by decide +kernel
theorem dX11_construct_66 : decode cX11_construct 66 = .ok (.invokevirtual 102, 3) := by decide +kernel
theorem dX11_construct_69 : decode cX11_construct 69 = .ok (.ireturn, 1) := by decide +kernel
theorem dX11_appendCommand_0 : decode cX11_appendCommand 0 = .ok (.iload_n 1, 1) := by decide +kernel
theorem dX11_appendCommand_1 : decode cX11_appendCommand 1 = .ok (.invokestatic 120, 3) := by decide +kernel
theorem dX11_appendCommand_4 : decode cX11_appendCommand 4 = .ok (.ifCond .ne 5, 3) := by decide +kernel
theorem dX11_appendCommand_7 : decode cX11_appendCommand 7 = .ok (.iconst (-1), 1) := by decide +kernel
theorem dX11_appendCommand_8 : decode cX11_appendCommand 8 = .ok (.ireturn, 1) := by decide +kernel
theorem dX11_appendCommand_9 : decode cX11_appendCommand 9 = .ok (.aload_n 0, 1) := by decide +kernel
theorem dX11_appendCommand_10 : decode cX11_appendCommand 10 = .ok (.getfield 43, 3) := by decide +kernel
theorem dX11_appendCommand_13 : decode cX11_appendCommand 13 = .ok (.invokevirtual 124, 3) := by decide +kernel
theorem dX11_appendCommand_16 : decode cX11_appendCommand 16 = .ok (.ifCond .eq 6, 3) := by decide +kernel
theorem dX11_appendCommand_19 : decode cX11_appendCommand 19 = .ok (.bipush (-4), 2) := by decide +kernel
theorem dX11_appendCommand_21 : decode cX11_appendCommand 21 = .ok (.ireturn, 1) := by decide +kernel
theorem dX11_appendCommand_22 : decode cX11_appendCommand 22 = .ok (.aload_n 0, 1) := by decide +kernel
theorem dX11_appendCommand_23 : decode cX11_appendCommand 23 = .ok (.getfield 43, 3) := by decide +kernel
theorem dX11_appendCommand_26 : decode cX11_appendCommand 26 = .ok (.iload_n 1, 1) := by decide +kernel
theorem dX11_appendCommand_27 : decode cX11_appendCommand 27 = .ok (.invokevirtual 127, 3) := by decide +kernel
theorem dX11_appendCommand_30 : decode cX11_appendCommand 30 = .ok (.aload_n 0, 1) := by decide +kernel
theorem dX11_appendCommand_31 : decode cX11_appendCommand 31 = .ok (.getfield 43, 3) := by decide +kernel
theorem dX11_appendCommand_34 : decode cX11_appendCommand 34 = .ok (.invokevirtual 131, 3) := by decide +kernel
theorem dX11_appendCommand_37 : decode cX11_appendCommand 37 = .ok (.ireturn, 1) := by decide +kernel
theorem dX11_runCommand_0 : decode cX11_runCommand 0 = .ok (.aload_n 0, 1) := by decide +kernel
theorem dX11_runCommand_1 : decode cX11_runCommand 1 = .ok (.getfield 43, 3) := by decide +kernel
theorem dX11_runCommand_4 : decode cX11_runCommand 4 = .ok (.invokevirtual 132, 3) := by decide +kernel
theorem dX11_runCommand_7 : decode cX11_runCommand 7 = .ok (.istore_n 1, 1) := by decide +kernel
theorem dX11_runCommand_8 : decode cX11_runCommand 8 = .ok (.aload_n 0, 1) := by decide +kernel
theorem dX11_runCommand_9 : decode cX11_runCommand 9 = .ok (.getfield 43, 3) := by decide +kernel
theorem dX11_runCommand_12 : decode cX11_runCommand 12 = .ok (.invokevirtual 135, 3) := by decide +kernel
theorem dX11_runCommand_15 : decode cX11_runCommand 15 = .ok (.istore_n 2, 1) := by decide +kernel
theorem dX11_runCommand_16 : decode cX11_runCommand 16 = .ok (.aload_n 0, 1) := by decide +kernel
theorem dX11_runCommand_17 : decode cX11_runCommand 17 = .ok (.getfield 43, 3) := by decide +kernel
theorem dX11_runCommand_20 : decode cX11_runCommand 20 = .ok (.invokevirtual 138, 3) := by decide +kernel
theorem dX11_runCommand_23 : decode cX11_runCommand 23 = .ok (.iload_n 1, 1) := by decide +kernel
theorem dX11_runCommand_24 : decode cX11_runCommand 24 = .ok (.bipush (-6), 2) := by decide +kernel
theorem dX11_runCommand_26 : decode cX11_runCommand 26 = .ok (.if_icmp .ne 6, 3) := by decide +kernel
theorem dX11_runCommand_29 : decode cX11_runCommand 29 = .ok (.bipush (-6), 2) := by decide +kernel
theorem dX11_runCommand_31 : decode cX11_runCommand 31 = .ok (.ireturn, 1) := by decide +kernel
theorem dX11_runCommand_32 : decode cX11_runCommand 32 = .ok (.iload_n 2, 1) := by decide +kernel
theorem dX11_runCommand_33 : decode cX11_runCommand 33 = .ok (.iconst (-1), 1) := by decide +kernel
theorem dX11_runCommand_34 : decode cX11_runCommand 34 = .ok (.if_icmp .ne 5, 3) := by decide +kernel
theorem dX11_runCommand_37 : decode cX11_runCommand 37 = .ok (.iconst (-1), 1) := by decide +kernel
theorem dX11_runCommand_38 : decode cX11_runCommand 38 = .ok (.ireturn, 1) := by decide +kernel
theorem dX11_runCommand_39 : decode cX11_runCommand 39 = .ok (.aload_n 0, 1) := by decide +kernel
theorem dX11_runCommand_40 : decode cX11_runCommand 40 = .ok (.iload_n 1, 1) := by decide +kernel
theorem dX11_runCommand_41 : decode cX11_runCommand 41 = .ok (.iload_n 2, 1) := by decide +kernel
theorem dX11_runCommand_42 : decode cX11_runCommand 42 = .ok (.invokevirtual 139, 3) := by decide +kernel
theorem dX11_runCommand_45 : decode cX11_runCommand 45 = .ok (.ireturn, 1) := by decide +kernel
theorem dX11_setLetter_0 : decode cX11_setLetter 0 = .ok (.aload_n 0, 1) := by decide +kernel
theorem dX11_setLetter_1 : decode cX11_setLetter 1 = .ok (.getfield 19, 3) := by decide +kernel
theorem dX11_setLetter_4 : decode cX11_setLetter 4 = .ok (.iload_n 1, 1) := by decide +kernel
theorem dX11_setLetter_5 : decode cX11_setLetter 5 = .ok (.invokevirtual 143, 3) := by decide +kernel
theorem dX11_setLetter_8 : decode cX11_setLetter 8 = .ok (.ifCond .ne 6, 3) := by decide +kernel
theorem dX11_setLetter_11 : decode cX11_setLetter 11 = .ok (.bipush (-2), 2) := by decide +kernel
theorem dX11_setLetter_13 : decode cX11_setLetter 13 = .ok (.ireturn, 1) := by decide +kernel
theorem dX11_setLetter_14 : decode cX11_setLetter 14 = .ok (.aload_n 0, 1) := by decide +kernel
theorem dX11_setLetter_15 : decode cX11_setLetter 15 = .ok (.getfield 10, 3) := by decide +kernel
theorem dX11_setLetter_18 : decode cX11_setLetter 18 = .ok (.iload_n 2, 1) := by decide +kernel
theorem dX11_setLetter_19 : decode cX11_setLetter 19 = .ok (.invokevirtual 146, 3) := by decide +kernel
theorem dX11_setLetter_22 : decode cX11_setLetter 22 = .ok (.ifCond .ne 5, 3) := by decide +kernel
theorem dX11_setLetter_25 : decode cX11_setLetter 25 = .ok (.iconst (-1), 1) := by decide +kernel
theorem dX11_setLetter_26 : decode cX11_setLetter 26 = .ok (.ireturn, 1) := by decide +kernel
theorem dX11_setLetter_27 : decode cX11_setLetter 27 = .ok (.aload_n 0, 1) := by decide +kernel
theorem dX11_setLetter_28 : decode cX11_setLetter 28 = .ok (.getfield 19, 3) := by decide +kernel
theorem dX11_setLetter_31 : decode cX11_setLetter 31 = .ok (.iload_n 1, 1) := by decide +kernel
theorem dX11_setLetter_32 : decode cX11_setLetter 32 = .ok (.invokevirtual 105, 3) := by decide +kernel
theorem dX11_setLetter_35 : decode cX11_setLetter 35 = .ok (.istore_n 3, 1) := by decide +kernel
theorem dX11_setLetter_36 : decode cX11_setLetter 36 = .ok (.aload_n 0, 1) := by decide +kernel
theorem dX11_setLetter_37 : decode cX11_setLetter 37 = .ok (.getfield 23, 3) := by decide +kernel
theorem dX11_setLetter_40 : decode cX11_setLetter 40 = .ok (.aload_n 0, 1) := by decide +kernel
theorem dX11_setLetter_41 : decode cX11_setLetter 41 = .ok (.getfield 19, 3) := by decide +kernel
theorem dX11_setLetter_44 : decode cX11_setLetter 44 = .ok (.invokevirtual 149, 3) := by decide +kernel
theorem dX11_setLetter_47 : decode cX11_setLetter 47 = .ok (.aload_n 0, 1) := by decide +kernel
theorem dX11_setLetter_48 : decode cX11_setLetter 48 = .ok (.getfield 23, 3) := by decide +kernel
theorem dX11_setLetter_51 : decode cX11_setLetter 51 = .ok (.iload_n 1, 1) := by decide +kernel
theorem dX11_setLetter_52 : decode cX11_setLetter 52 = .ok (.iload_n 2, 1) := by decide +kernel
theorem dX11_setLetter_53 : decode cX11_setLetter 53 = .ok (.invokevirtual 153, 3) := by decide +kernel
theorem dX11_setLetter_56 : decode cX11_setLetter 56 = .ok (.aload_n 0, 1) := by decide +kernel
theorem dX11_setLetter_57 : decode cX11_setLetter 57 = .ok (.invokevirtual 116, 3) := by decide +kernel
theorem dX11_setLetter_60 : decode cX11_setLetter 60 = .ok (.pop, 1) := by decide +kernel
theorem dX11_setLetter_61 : decode cX11_setLetter 61 = .ok (.iload_n 3, 1) := by decide +kernel
theorem dX11_setLetter_62 : decode cX11_setLetter 62 = .ok (.ireturn, 1) := by decide +kernel
theorem dX11_appendLetter_0 : decode cX11_appendLetter 0 = .ok (.aload_n 0, 1) := by decide +kernel
theorem dX11_appendLetter_1 : decode cX11_appendLetter 1 = .ok (.getfield 10, 3) := by decide +kernel
theorem dX11_appendLetter_4 : decode cX11_appendLetter 4 = .ok (.iload_n 1, 1) := by decide +kernel
theorem dX11_appendLetter_5 : decode cX11_appendLetter 5 = .ok (.invokevirtual 146, 3) := by decide +kernel
theorem dX11_appendLetter_8 : decode cX11_appendLetter 8 = .ok (.ifCond .ne 5, 3) := by decide +kernel
theorem dX11_appendLetter_11 : decode cX11_appendLetter 11 = .ok (.iconst (-1), 1) := by decide +kernel
theorem dX11_appendLetter_12 : decode cX11_appendLetter 12 = .ok (.ireturn, 1) := by decide +kernel
theorem dX11_appendLetter_13 : decode cX11_appendLetter 13 = .ok (.aload_n 0, 1) := by decide +kernel
theorem dX11_appendLetter_14 : decode cX11_appendLetter 14 = .ok (.getfield 19, 3) := by decide +kernel
theorem dX11_appendLetter_17 : decode cX11_appendLetter 17 = .ok (.invokevirtual 156, 3) := by decide +kernel
theorem dX11_appendLetter_20 : decode cX11_appendLetter 20 = .ok (.ifCond .eq 6, 3) := by decide +kernel
theorem dX11_appendLetter_23 : decode cX11_appendLetter 23 = .ok (.bipush (-4), 2) := by decide +kernel
theorem dX11_appendLetter_25 : decode cX11_appendLetter 25 = .ok (.ireturn, 1) := by decide +kernel
theorem dX11_appendLetter_26 : decode cX11_appendLetter 26 = .ok (.aload_n 0, 1) := by decide +kernel
theorem dX11_appendLetter_27 : decode cX11_appendLetter 27 = .ok (.getfield 23, 3) := by decide +kernel
theorem dX11_appendLetter_30 : decode cX11_appendLetter 30 = .ok (.aload_n 0, 1) := by decide +kernel
theorem dX11_appendLetter_31 : decode cX11_appendLetter 31 = .ok (.getfield 19, 3) := by decide +kernel
theorem dX11_appendLetter_34 : decode cX11_appendLetter 34 = .ok (.invokevirtual 149, 3) := by decide +kernel
theorem dX11_appendLetter_37 : decode cX11_appendLetter 37 = .ok (.aload_n 0, 1) := by decide +kernel
theorem dX11_appendLetter_38 : decode cX11_appendLetter 38 = .ok (.getfield 23, 3) := by decide +kernel
theorem dX11_appendLetter_41 : decode cX11_appendLetter 41 = .ok (.iload_n 1, 1) := by decide +kernel
theorem dX11_appendLetter_42 : decode cX11_appendLetter 42 = .ok (.invokevirtual 157, 3) := by decide +kernel
theorem dX11_appendLetter_45 : decode cX11_appendLetter 45 = .ok (.aload_n 0, 1) := by decide +kernel
theorem dX11_appendLetter_46 : decode cX11_appendLetter 46 = .ok (.invokevirtual 116, 3) := by decide +kernel
theorem dX11_appendLetter_49 : decode cX11_appendLetter 49 = .ok (.pop, 1) := by decide +kernel
theorem dX11_appendLetter_50 : decode cX11_appendLetter 50 = .ok (.aload_n 0, 1) := by decide +kernel
theorem dX11_appendLetter_51 : decode cX11_appendLetter 51 = .ok (.getfield 19, 3) := by decide +kernel
theorem dX11_appendLetter_54 : decode cX11_appendLetter 54 = .ok (.invokevirtual 102, 3) := by decide +kernel
theorem dX11_appendLetter_57 : decode cX11_appendLetter 57 = .ok (.ireturn, 1) := by decide +kernel
theorem dX11_rotate_0 : decode cX11_rotate 0 = .ok (.aload_n 0, 1) := by decide +kernel
theorem dX11_rotate_1 : decode cX11_rotate 1 = .ok (.getfield 19, 3) := by decide +kernel
theorem dX11_rotate_4 : decode cX11_rotate 4 = .ok (.invokevirtual 102, 3) := by decide +kernel
theorem dX11_rotate_7 : decode cX11_rotate 7 = .ok (.istore_n 2, 1) := by decide +kernel
theorem dX11_rotate_8 : decode cX11_rotate 8 = .ok (.iload_n 2, 1) := by decide +kernel
theorem dX11_rotate_9 : decode cX11_rotate 9 = .ok (.iconst 1, 1) := by decide +kernel
theorem dX11_rotate_10 : decode cX11_rotate 10 = .ok (.if_icmp .ge 6, 3) := by decide +kernel
theorem dX11_rotate_13 : decode cX11_rotate 13 = .ok (.bipush (-3), 2) := by decide +kernel
theorem dX11_rotate_15 : decode cX11_rotate 15 = .ok (.ireturn, 1) := by decide +kernel
theorem dX11_rotate_16 : decode cX11_rotate 16 = .ok (.aload_n 0, 1) := by decide +kernel
theorem dX11_rotate_17 : decode cX11_rotate 17 = .ok (.getfield 23, 3) := by decide +kernel
theorem dX11_rotate_20 : decode cX11_rotate 20 = .ok (.invokevirtual 86, 3) := by decide +kernel
theorem dX11_rotate_23 : decode cX11_rotate 23 = .ok (.aload_n 0, 1) := by decide +kernel
theorem dX11_rotate_24 : decode cX11_rotate 24 = .ok (.getfield 23, 3) := by decide +kernel
theorem dX11_rotate_27 : decode cX11_rotate 27 = .ok (.aload_n 0, 1) := by decide +kernel
theorem dX11_rotate_28 : decode cX11_rotate 28 = .ok (.getfield 19, 3) := by decide +kernel
theorem dX11_rotate_31 : decode cX11_rotate 31 = .ok (.iload_n 1, 1) := by decide +kernel
theorem dX11_rotate_32 : decode cX11_rotate 32 = .ok (.iload_n 2, 1) := by decide +kernel
theorem dX11_rotate_33 : decode cX11_rotate 33 = .ok (.invokestatic 158, 3) := by decide +kernel
theorem dX11_rotate_36 : decode cX11_rotate 36 = .ok (.iload_n 2, 1) := by decide +kernel
theorem dX11_rotate_37 : decode cX11_rotate 37 = .ok (.invokevirtual 163, 3) := by decide +kernel
theorem dX11_rotate_40 : decode cX11_rotate 40 = .ok (.aload_n 0, 1) := by decide +kernel
theorem dX11_rotate_41 : decode cX11_rotate 41 = .ok (.invokevirtual 116, 3) := by decide +kernel
theorem dX11_rotate_44 : decode cX11_rotate 44 = .ok (.pop, 1) := by decide +kernel
theorem dX11_rotate_45 : decode cX11_rotate 45 = .ok (.aload_n 0, 1) := by decide +kernel
theorem dX11_rotate_46 : decode cX11_rotate 46 = .ok (.getfield 19, 3) := by decide +kernel
theorem dX11_rotate_49 : decode cX11_rotate 49 = .ok (.iconst 0, 1) := by decide +kernel
theorem dX11_rotate_50 : decode cX11_rotate 50 = .ok (.invokevirtual 105, 3) := by decide +kernel
theorem dX11_rotate_53 : decode cX11_rotate 53 = .ok (.ireturn, 1) := by decide +kernel
theorem dX11_reverse_0 : decode cX11_reverse 0 = .ok (.aload_n 0, 1) := by decide +kernel
theorem dX11_reverse_1 : decode cX11_reverse 1 = .ok (.getfield 19, 3) := by decide +kernel
theorem dX11_reverse_4 : decode cX11_reverse 4 = .ok (.invokevirtual 102, 3) := by decide +kernel
theorem dX11_reverse_7 : decode cX11_reverse 7 = .ok (.istore_n 1, 1) := by decide +kernel
theorem dX11_reverse_8 : decode cX11_reverse 8 = .ok (.iload_n 1, 1) := by decide +kernel
theorem dX11_reverse_9 : decode cX11_reverse 9 = .ok (.iconst 1, 1) := by decide +kernel
theorem dX11_reverse_10 : decode cX11_reverse 10 = .ok (.if_icmp .ge 6, 3) := by decide +kernel
theorem dX11_reverse_13 : decode cX11_reverse 13 = .ok (.bipush (-3), 2) := by decide +kernel
theorem dX11_reverse_15 : decode cX11_reverse 15 = .ok (.ireturn, 1) := by decide +kernel
theorem dX11_reverse_16 : decode cX11_reverse 16 = .ok (.aload_n 0, 1) := by decide +kernel
theorem dX11_reverse_17 : decode cX11_reverse 17 = .ok (.getfield 23, 3) := by decide +kernel
theorem dX11_reverse_20 : decode cX11_reverse 20 = .ok (.invokevirtual 86, 3) := by decide +kernel
theorem dX11_reverse_23 : decode cX11_reverse 23 = .ok (.iload_n 1, 1) := by decide +kernel
theorem dX11_reverse_24 : decode cX11_reverse 24 = .ok (.iconst 1, 1) := by decide +kernel
theorem dX11_reverse_25 : decode cX11_reverse 25 = .ok (.isub, 1) := by decide +kernel
theorem dX11_reverse_26 : decode cX11_reverse 26 = .ok (.istore_n 2, 1) := by decide +kernel
theorem dX11_reverse_27 : decode cX11_reverse 27 = .ok (.iload_n 2, 1) := by decide +kernel
theorem dX11_reverse_28 : decode cX11_reverse 28 = .ok (.ifCond .lt 24, 3) := by decide +kernel
theorem dX11_reverse_31 : decode cX11_reverse 31 = .ok (.aload_n 0, 1) := by decide +kernel
theorem dX11_reverse_32 : decode cX11_reverse 32 = .ok (.getfield 23, 3) := by decide +kernel
theorem dX11_reverse_35 : decode cX11_reverse 35 = .ok (.aload_n 0, 1) := by decide +kernel
theorem dX11_reverse_36 : decode cX11_reverse 36 = .ok (.getfield 19, 3) := by decide +kernel
theorem dX11_reverse_39 : decode cX11_reverse 39 = .ok (.iload_n 2, 1) := by decide +kernel
theorem dX11_reverse_40 : decode cX11_reverse 40 = .ok (.invokevirtual 105, 3) := by decide +kernel
theorem dX11_reverse_43 : decode cX11_reverse 43 = .ok (.invokevirtual 157, 3) := by decide +kernel
theorem dX11_reverse_46 : decode cX11_reverse 46 = .ok (.iinc 2 (-1), 3) := by decide +kernel
theorem dX11_reverse_49 : decode cX11_reverse 49 = .ok (.goto (-22), 3) := by decide +kernel
theorem dX11_reverse_52 : decode cX11_reverse 52 = .ok (.aload_n 0, 1) := by decide +kernel
theorem dX11_reverse_53 : decode cX11_reverse 53 = .ok (.invokevirtual 116, 3) := by decide +kernel
theorem dX11_reverse_56 : decode cX11_reverse 56 = .ok (.ifCond .eq 7, 3) := by decide +kernel
theorem dX11_reverse_59 : decode cX11_reverse 59 = .ok (.iconst 0, 1) := by decide +kernel
theorem dX11_reverse_60 : decode cX11_reverse 60 = .ok (.goto 4, 3) := by decide +kernel
theorem dX11_reverse_63 : decode cX11_reverse 63 = .ok (.iconst 1, 1) := by decide +kernel
theorem dX11_reverse_64 : decode cX11_reverse 64 = .ok (.ireturn, 1) := by decide +kernel
theorem dX11_complement_0 : decode cX11_complement 0 = .ok (.aload_n 0, 1) := by decide +kernel
theorem dX11_complement_1 : decode cX11_complement 1 = .ok (.getfield 19, 3) := by decide +kernel
theorem dX11_complement_4 : decode cX11_complement 4 = .ok (.invokevirtual 102, 3) := by decide +kernel
theorem dX11_complement_7 : decode cX11_complement 7 = .ok (.istore_n 1, 1) := by decide +kernel
theorem dX11_complement_8 : decode cX11_complement 8 = .ok (.iload_n 1, 1) := by decide +kernel
theorem dX11_complement_9 : decode cX11_complement 9 = .ok (.iconst 1, 1) := by decide +kernel
theorem dX11_complement_10 : decode cX11_complement 10 = .ok (.if_icmp .ge 6, 3) := by decide +kernel
theorem dX11_complement_13 : decode cX11_complement 13 = .ok (.bipush (-3), 2) := by decide +kernel
theorem dX11_complement_15 : decode cX11_complement 15 = .ok (.ireturn, 1) := by decide +kernel
theorem dX11_complement_16 : decode cX11_complement 16 = .ok (.aload_n 0, 1) := by decide +kernel
theorem dX11_complement_17 : decode cX11_complement 17 = .ok (.getfield 23, 3) := by decide +kernel
theorem dX11_complement_20 : decode cX11_complement 20 = .ok (.invokevirtual 86, 3) := by decide +kernel
theorem dX11_complement_23 : decode cX11_complement 23 = .ok (.iconst 0, 1) := by decide +kernel
theorem dX11_complement_24 : decode cX11_complement 24 = .ok (.istore_n 2, 1) := by decide +kernel
theorem dX11_complement_25 : decode cX11_complement 25 = .ok (.iload_n 2, 1) := by decide +kernel
theorem dX11_complement_26 : decode cX11_complement 26 = .ok (.iload_n 1, 1) := by decide +kernel
theorem dX11_complement_27 : decode cX11_complement 27 = .ok (.if_icmp .ge 34, 3) := by decide +kernel
theorem dX11_complement_30 : decode cX11_complement 30 = .ok (.aload_n 0, 1) := by decide +kernel
theorem dX11_complement_31 : decode cX11_complement 31 = .ok (.getfield 23, 3) := by decide +kernel
theorem dX11_complement_34 : decode cX11_complement 34 = .ok (.aload_n 0, 1) := by decide +kernel
theorem dX11_complement_35 : decode cX11_complement 35 = .ok (.getfield 10, 3) := by decide +kernel
theorem dX11_complement_38 : decode cX11_complement 38 = .ok (.invokevirtual 96, 3) := by decide +kernel
theorem dX11_complement_41 : decode cX11_complement 41 = .ok (.iconst 1, 1) := by decide +kernel
theorem dX11_complement_42 : decode cX11_complement 42 = .ok (.isub, 1) := by decide +kernel
theorem dX11_complement_43 : decode cX11_complement 43 = .ok (.aload_n 0, 1) := by decide +kernel
theorem dX11_complement_44 : decode cX11_complement 44 = .ok (.getfield 19, 3) := by decide +kernel
theorem dX11_complement_47 : decode cX11_complement 47 = .ok (.iload_n 2, 1) := by decide +kernel
theorem dX11_complement_48 : decode cX11_complement 48 = .ok (.invokevirtual 105, 3) := by decide +kernel
theorem dX11_complement_51 : decode cX11_complement 51 = .ok (.isub, 1) := by decide +kernel
theorem dX11_complement_52 : decode cX11_complement 52 = .ok (.invokevirtual 157, 3) := by decide +kernel
theorem dX11_complement_55 : decode cX11_complement 55 = .ok (.iinc 2 1, 3) := by decide +kernel
theorem dX11_complement_58 : decode cX11_complement 58 = .ok (.goto (-33), 3) := by decide +kernel
theorem dX11_complement_61 : decode cX11_complement 61 = .ok (.aload_n 0, 1) := by decide +kernel
theorem dX11_complement_62 : decode cX11_complement 62 = .ok (.invokevirtual 116, 3) := by decide +kernel
theorem dX11_complement_65 : decode cX11_complement 65 = .ok (.pop, 1) := by decide +kernel
theorem dX11_complement_66 : decode cX11_complement 66 = .ok (.aload_n 0, 1) := by decide +kernel
theorem dX11_complement_67 : decode cX11_complement 67 = .ok (.getfield 19, 3) := by decide +kernel
theorem dX11_complement_70 : decode cX11_complement 70 = .ok (.iconst 0, 1) := by decide +kernel
theorem dX11_complement_71 : decode cX11_complement 71 = .ok (.invokevirtual 105, 3) := by decide +kernel
theorem dX11_complement_74 : decode cX11_complement 74 = .ok (.ireturn, 1) := by decide +kernel
theorem dX11_cut_0 : decode cX11_cut 0 = .ok (.aload_n 0, 1) := by decide +kernel
theorem dX11_cut_1 : decode cX11_cut 1 = .ok (.getfield 19, 3) := by decide +kernel
theorem dX11_cut_4 : decode cX11_cut 4 = .ok (.iload_n 1, 1) := by decide +kernel
theorem dX11_cut_5 : decode cX11_cut 5 = .ok (.invokevirtual 143, 3) := by decide +kernel
theorem dX11_cut_8 : decode cX11_cut 8 = .ok (.ifCond .ne 6, 3) := by decide +kernel
theorem dX11_cut_11 : decode cX11_cut 11 = .ok (.bipush (-2), 2) := by decide +kernel
theorem dX11_cut_13 : decode cX11_cut 13 = .ok (.ireturn, 1) := by decide +kernel
theorem dX11_cut_14 : decode cX11_cut 14 = .ok (.aload_n 0, 1) := by decide +kernel
theorem dX11_cut_15 : decode cX11_cut 15 = .ok (.iload_n 2, 1) := by decide +kernel
theorem dX11_cut_16 : decode cX11_cut 16 = .ok (.invokevirtual 167, 3) := by decide +kernel
theorem dX11_cut_19 : decode cX11_cut 19 = .ok (.ifCond .ne 5, 3) := by decide +kernel
theorem dX11_cut_22 : decode cX11_cut 22 = .ok (.iconst (-1), 1) := by decide +kernel
theorem dX11_cut_23 : decode cX11_cut 23 = .ok (.ireturn, 1) := by decide +kernel
theorem dX11_cut_24 : decode cX11_cut 24 = .ok (.aload_n 0, 1) := by decide +kernel
theorem dX11_cut_25 : decode cX11_cut 25 = .ok (.iload_n 1, 1) := by decide +kernel
