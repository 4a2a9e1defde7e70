theorem dX12_init_0 : decode cX12_init 0 = .ok (.aload_n 0, 1) := by decide +kernel
theorem dX12_init_1 : decode cX12_init 1 = .ok (.invokespecial 1, 3) := by decide +kernel
theorem dX12_init_4 : decode cX12_init 4 = .ok (.aload_n 0, 1) := by decide +kernel
theorem dX12_init_5 : decode cX12_init 5 = .ok (.iconst 2, 1) := by decide +kernel
theorem dX12_init_6 : decode cX12_init 6 = .ok (.putfield 7, 3) := by decide +kernel
theorem dX12_init_9 : decode cX12_init 9 = .ok (.aload_n 0, 1) := by decide +kernel
theorem dX12_init_10 : decode cX12_init 10 = .ok (.iconst 3, 1) := by decide +kernel
theorem dX12_init_11 : decode cX12_init 11 = .ok (.putfield 13, 3) := by decide +kernel
theorem dX12_init_14 : decode cX12_init 14 = .ok (.aload_n 0, 1) := by decide +kernel
theorem dX12_init_15 : decode cX12_init 15 = .ok (.sipush 256, 3) := by decide +kernel
theorem dX12_init_18 : decode cX12_init 18 = .ok (.newarray .int, 2) := by decide +kernel
theorem dX12_init_20 : decode cX12_init 20 = .ok (.putfield 16, 3) := by decide +kernel
theorem dX12_init_23 : decode cX12_init 23 = .ok (.aload_n 0, 1) := by decide +kernel
theorem dX12_init_24 : decode cX12_init 24 = .ok (.sipush 1536, 3) := by decide +kernel
theorem dX12_init_27 : decode cX12_init 27 = .ok (.newarray .int, 2) := by decide +kernel
theorem dX12_init_29 : decode cX12_init 29 = .ok (.putfield 20, 3) := by decide +kernel
theorem dX12_init_32 : decode cX12_init 32 = .ok (.aload_n 0, 1) := by decide +kernel
theorem dX12_init_33 : decode cX12_init 33 = .ok (.bipush 6, 2) := by decide +kernel
theorem dX12_init_35 : decode cX12_init 35 = .ok (.newarray .int, 2) := by decide +kernel
theorem dX12_init_37 : decode cX12_init 37 = .ok (.putfield 23, 3) := by decide +kernel
theorem dX12_init_40 : decode cX12_init 40 = .ok (.aload_n 0, 1) := by decide +kernel
theorem dX12_init_41 : decode cX12_init 41 = .ok (.bipush 20, 2) := by decide +kernel
theorem dX12_init_43 : decode cX12_init 43 = .ok (.newarray .int, 2) := by decide +kernel
theorem dX12_init_45 : decode cX12_init 45 = .ok (.putfield 26, 3) := by decide +kernel
theorem dX12_init_48 : decode cX12_init 48 = .ok (.aload_n 0, 1) := by decide +kernel
theorem dX12_init_49 : decode cX12_init 49 = .ok (.sipush 256, 3) := by decide +kernel
theorem dX12_init_52 : decode cX12_init 52 = .ok (.newarray .int, 2) := by decide +kernel
theorem dX12_init_54 : decode cX12_init 54 = .ok (.putfield 29, 3) := by decide +kernel
theorem dX12_init_57 : decode cX12_init 57 = .ok (.aload_n 0, 1) := by decide +kernel
theorem dX12_init_58 : decode cX12_init 58 = .ok (.sipush 256, 3) := by decide +kernel
theorem dX12_init_61 : decode cX12_init 61 = .ok (.newarray .int, 2) := by decide +kernel
theorem dX12_init_63 : decode cX12_init 63 = .ok (.putfield 32, 3) := by decide +kernel
theorem dX12_init_66 : decode cX12_init 66 = .ok (.aload_n 0, 1) := by decide +kernel
theorem dX12_init_67 : decode cX12_init 67 = .ok (.sipush 256, 3) := by decide +kernel
theorem dX12_init_70 : decode cX12_init 70 = .ok (.newarray .boolean, 2) := by decide +kernel
theorem dX12_init_72 : decode cX12_init 72 = .ok (.putfield 35, 3) := by decide +kernel
theorem dX12_init_75 : decode cX12_init 75 = .ok (.aload_n 0, 1) := by decide +kernel
theorem dX12_init_76 : decode cX12_init 76 = .ok (.sipush 256, 3) := by decide +kernel
theorem dX12_init_79 : decode cX12_init 79 = .ok (.newarray .int, 2) := by decide +kernel
theorem dX12_init_81 : decode cX12_init 81 = .ok (.putfield 39, 3) := by decide +kernel
theorem dX12_init_84 : decode cX12_init 84 = .ok (.aload_n 0, 1) := by decide +kernel
theorem dX12_init_85 : decode cX12_init 85 = .ok (.sipush 256, 3) := by decide +kernel
theorem dX12_init_88 : decode cX12_init 88 = .ok (.newarray .int, 2) := by decide +kernel
theorem dX12_init_90 : decode cX12_init 90 = .ok (.putfield 42, 3) := by decide +kernel
theorem dX12_init_93 : decode cX12_init 93 = .ok (.aload_n 0, 1) := by decide +kernel
theorem dX12_init_94 : decode cX12_init 94 = .ok (.sipush 256, 3) := by decide +kernel
theorem dX12_init_97 : decode cX12_init 97 = .ok (.newarray .int, 2) := by decide +kernel
theorem dX12_init_99 : decode cX12_init 99 = .ok (.putfield 45, 3) := by decide +kernel
theorem dX12_init_102 : decode cX12_init 102 = .ok (.aload_n 0, 1) := by decide +kernel
theorem dX12_init_103 : decode cX12_init 103 = .ok (.bipush 8, 2) := by decide +kernel
theorem dX12_init_105 : decode cX12_init 105 = .ok (.newarray .int, 2) := by decide +kernel
theorem dX12_init_107 : decode cX12_init 107 = .ok (.putfield 48, 3) := by decide +kernel
theorem dX12_init_110 : decode cX12_init 110 = .ok (.aload_n 0, 1) := by decide +kernel
theorem dX12_init_111 : decode cX12_init 111 = .ok (.sipush 256, 3) := by decide +kernel
theorem dX12_init_114 : decode cX12_init 114 = .ok (.newarray .boolean, 2) := by decide +kernel
theorem dX12_init_116 : decode cX12_init 116 = .ok (.putfield 51, 3) := by decide +kernel
theorem dX12_init_119 : decode cX12_init 119 = .ok (.aload_n 0, 1) := by decide +kernel
theorem dX12_init_120 : decode cX12_init 120 = .ok (.iconst 2, 1) := by decide +kernel
theorem dX12_init_121 : decode cX12_init 121 = .ok (.newarray .int, 2) := by decide +kernel
theorem dX12_init_123 : decode cX12_init 123 = .ok (.dup, 1) := by decide +kernel
theorem dX12_init_124 : decode cX12_init 124 = .ok (.iconst 0, 1) := by decide +kernel
theorem dX12_init_125 : decode cX12_init 125 = .ok (.iconst (-1), 1) := by decide +kernel
theorem dX12_init_126 : decode cX12_init 126 = .ok (.iastore, 1) := by decide +kernel
theorem dX12_init_127 : decode cX12_init 127 = .ok (.dup, 1) := by decide +kernel
theorem dX12_init_128 : decode cX12_init 128 = .ok (.iconst 1, 1) := by decide +kernel
theorem dX12_init_129 : decode cX12_init 129 = .ok (.iconst (-1), 1) := by decide +kernel
theorem dX12_init_130 : decode cX12_init 130 = .ok (.iastore, 1) := by decide +kernel
theorem dX12_init_131 : decode cX12_init 131 = .ok (.putfield 54, 3) := by decide +kernel
theorem dX12_init_134 : decode cX12_init 134 = .ok (.aload_n 0, 1) := by decide +kernel
theorem dX12_init_135 : decode cX12_init 135 = .ok (.iconst 2, 1) := by decide +kernel
theorem dX12_init_136 : decode cX12_init 136 = .ok (.newarray .int, 2) := by decide +kernel
theorem dX12_init_138 : decode cX12_init 138 = .ok (.putfield 57, 3) := by decide +kernel
theorem dX12_init_141 : decode cX12_init 141 = .ok (.aload_n 0, 1) := by decide +kernel
theorem dX12_init_142 : decode cX12_init 142 = .ok (.sipush 512, 3) := by decide +kernel
theorem dX12_init_145 : decode cX12_init 145 = .ok (.newarray .int, 2) := by decide +kernel
theorem dX12_init_147 : decode cX12_init 147 = .ok (.putfield 60, 3) := by decide +kernel
theorem dX12_init_150 : decode cX12_init 150 = .ok (.return_, 1) := by decide +kernel
theorem dX12_in_0 : decode cX12_in 0 = .ok (.iload_n 0, 1) := by decide +kernel
theorem dX12_in_1 : decode cX12_in 1 = .ok (.iload_n 1, 1) := by decide +kernel
theorem dX12_in_2 : decode cX12_in 2 = .ok (.if_icmp .lt 12, 3) := by decide +kernel
theorem dX12_in_5 : decode cX12_in 5 = .ok (.iload_n 0, 1) := by decide +kernel
theorem dX12_in_6 : decode cX12_in 6 = .ok (.iload_n 2, 1) := by decide +kernel
theorem dX12_in_7 : decode cX12_in 7 = .ok (.if_icmp .gt 7, 3) := by decide +kernel
theorem dX12_in_10 : decode cX12_in 10 = .ok (.iconst 1, 1) := by decide +kernel
theorem dX12_in_11 : decode cX12_in 11 = .ok (.goto 4, 3) := by decide +kernel
theorem dX12_in_14 : decode cX12_in 14 = .ok (.iconst 0, 1) := by decide +kernel
theorem dX12_in_15 : decode cX12_in 15 = .ok (.ireturn, 1) := by decide +kernel
theorem dX12_power_0 : decode cX12_power 0 = .ok (.iconst 1, 1) := by decide +kernel
theorem dX12_power_1 : decode cX12_power 1 = .ok (.istore_n 2, 1) := by decide +kernel
theorem dX12_power_2 : decode cX12_power 2 = .ok (.iconst 0, 1) := by decide +kernel
theorem dX12_power_3 : decode cX12_power 3 = .ok (.istore_n 3, 1) := by decide +kernel
theorem dX12_power_4 : decode cX12_power 4 = .ok (.iload_n 3, 1) := by decide +kernel
theorem dX12_power_5 : decode cX12_power 5 = .ok (.iload_n 1, 1) := by decide +kernel
theorem dX12_power_6 : decode cX12_power 6 = .ok (.if_icmp .ge 13, 3) := by decide +kernel
theorem dX12_power_9 : decode cX12_power 9 = .ok (.iload_n 2, 1) := by decide +kernel
theorem dX12_power_10 : decode cX12_power 10 = .ok (.iload_n 0, 1) := by decide +kernel
theorem dX12_power_11 : decode cX12_power 11 = .ok (.imul, 1) := by decide +kernel
theorem dX12_power_12 : decode cX12_power 12 = .ok (.istore_n 2, 1) := by decide +kernel
theorem dX12_power_13 : decode cX12_power 13 = .ok (.iinc 3 1, 3) := by decide +kernel
theorem dX12_power_16 : decode cX12_power 16 = .ok (.goto (-12), 3) := by decide +kernel
theorem dX12_power_19 : decode cX12_power 19 = .ok (.iload_n 2, 1) := by decide +kernel
theorem dX12_power_20 : decode cX12_power 20 = .ok (.ireturn, 1) := by decide +kernel
theorem dX12_blocks_0 : decode cX12_blocks 0 = .ok (.aload_n 0, 1) := by decide +kernel
theorem dX12_blocks_1 : decode cX12_blocks 1 = .ok (.getfield 7, 3) := by decide +kernel
theorem dX12_blocks_4 : decode cX12_blocks 4 = .ok (.aload_n 0, 1) := by decide +kernel
theorem dX12_blocks_5 : decode cX12_blocks 5 = .ok (.getfield 13, 3) := by decide +kernel
theorem dX12_blocks_8 : decode cX12_blocks 8 = .ok (.invokestatic 63, 3) := by decide +kernel
theorem dX12_blocks_11 : decode cX12_blocks 11 = .ok (.ireturn, 1) := by decide +kernel
theorem dX12_isBlock_0 : decode cX12_isBlock 0 = .ok (.iload_n 1, 1) := by decide +kernel
theorem dX12_isBlock_1 : decode cX12_isBlock 1 = .ok (.iconst 0, 1) := by decide +kernel
theorem dX12_isBlock_2 : decode cX12_isBlock 2 = .ok (.aload_n 0, 1) := by decide +kernel
theorem dX12_isBlock_3 : decode cX12_isBlock 3 = .ok (.invokevirtual 67, 3) := by decide +kernel
theorem dX12_isBlock_6 : decode cX12_isBlock 6 = .ok (.iconst 1, 1) := by decide +kernel
theorem dX12_isBlock_7 : decode cX12_isBlock 7 = .ok (.isub, 1) := by decide +kernel
theorem dX12_isBlock_8 : decode cX12_isBlock 8 = .ok (.invokestatic 71, 3) := by decide +kernel
theorem dX12_isBlock_11 : decode cX12_isBlock 11 = .ok (.ireturn, 1) := by decide +kernel
theorem dX12_isLetter_0 : decode cX12_isLetter 0 = .ok (.iload_n 1, 1) := by decide +kernel
theorem dX12_isLetter_1 : decode cX12_isLetter 1 = .ok (.iconst 0, 1) := by decide +kernel
theorem dX12_isLetter_2 : decode cX12_isLetter 2 = .ok (.aload_n 0, 1) := by decide +kernel
theorem dX12_isLetter_3 : decode cX12_isLetter 3 = .ok (.getfield 7, 3) := by decide +kernel
theorem dX12_isLetter_6 : decode cX12_isLetter 6 = .ok (.iconst 1, 1) := by decide +kernel
theorem dX12_isLetter_7 : decode cX12_isLetter 7 = .ok (.isub, 1) := by decide +kernel
theorem dX12_isLetter_8 : decode cX12_isLetter 8 = .ok (.invokestatic 71, 3) := by decide +kernel
theorem dX12_isLetter_11 : decode cX12_isLetter 11 = .ok (.ireturn, 1) := by decide +kernel
theorem dX12_isPosition_0 : decode cX12_isPosition 0 = .ok (.iload_n 1, 1) := by decide +kernel
theorem dX12_isPosition_1 : decode cX12_isPosition 1 = .ok (.iconst 0, 1) := by decide +kernel
theorem dX12_isPosition_2 : decode cX12_isPosition 2 = .ok (.aload_n 0, 1) := by decide +kernel
theorem dX12_isPosition_3 : decode cX12_isPosition 3 = .ok (.getfield 75, 3) := by decide +kernel
theorem dX12_isPosition_6 : decode cX12_isPosition 6 = .ok (.iconst 1, 1) := by decide +kernel
theorem dX12_isPosition_7 : decode cX12_isPosition 7 = .ok (.isub, 1) := by decide +kernel
theorem dX12_isPosition_8 : decode cX12_isPosition 8 = .ok (.invokestatic 71, 3) := by decide +kernel
theorem dX12_isPosition_11 : decode cX12_isPosition 11 = .ok (.ireturn, 1) := by decide +kernel
theorem dX12_configure_0 : decode cX12_configure 0 = .ok (.iload_n 1, 1) := by decide +kernel
theorem dX12_configure_1 : decode cX12_configure 1 = .ok (.iconst 2, 1) := by decide +kernel
theorem dX12_configure_2 : decode cX12_configure 2 = .ok (.iconst 4, 1) := by decide +kernel
theorem dX12_configure_3 : decode cX12_configure 3 = .ok (.invokestatic 71, 3) := by decide +kernel
theorem dX12_configure_6 : decode cX12_configure 6 = .ok (.ifCond .eq 24, 3) := by decide +kernel
theorem dX12_configure_9 : decode cX12_configure 9 = .ok (.iload_n 2, 1) := by decide +kernel
theorem dX12_configure_10 : decode cX12_configure 10 = .ok (.iconst 1, 1) := by decide +kernel
theorem dX12_configure_11 : decode cX12_configure 11 = .ok (.bipush 6, 2) := by decide +kernel
theorem dX12_configure_13 : decode cX12_configure 13 = .ok (.invokestatic 71, 3) := by decide +kernel
theorem dX12_configure_16 : decode cX12_configure 16 = .ok (.ifCond .eq 14, 3) := by decide +kernel
theorem dX12_configure_19 : decode cX12_configure 19 = .ok (.iload_n 1, 1) := by decide +kernel
theorem dX12_configure_20 : decode cX12_configure 20 = .ok (.iload_n 2, 1) := by decide +kernel
theorem dX12_configure_21 : decode cX12_configure 21 = .ok (.invokestatic 63, 3) := by decide +kernel
theorem dX12_configure_24 : decode cX12_configure 24 = .ok (.sipush 256, 3) := by decide +kernel
theorem dX12_configure_27 : decode cX12_configure 27 = .ok (.if_icmp .le 5, 3) := by decide +kernel
theorem dX12_configure_30 : decode cX12_configure 30 = .ok (.iconst (-1), 1) := by decide +kernel
theorem dX12_configure_31 : decode cX12_configure 31 = .ok (.ireturn, 1) := by decide +kernel
theorem dX12_configure_32 : decode cX12_configure 32 = .ok (.aload_n 0, 1) := by decide +kernel
theorem dX12_configure_33 : decode cX12_configure 33 = .ok (.iload_n 1, 1) := by decide +kernel
theorem dX12_configure_34 : decode cX12_configure 34 = .ok (.putfield 7, 3) := by decide +kernel
theorem dX12_configure_37 : decode cX12_configure 37 = .ok (.aload_n 0, 1) := by decide +kernel
theorem dX12_configure_38 : decode cX12_configure 38 = .ok (.iload_n 2, 1) := by decide +kernel
theorem dX12_configure_39 : decode cX12_configure 39 = .ok (.putfield 13, 3) := by decide +kernel
theorem dX12_configure_42 : decode cX12_configure 42 = .ok (.aload_n 0, 1) := by decide +kernel
theorem dX12_configure_43 : decode cX12_configure 43 = .ok (.iconst 0, 1) := by decide +kernel
theorem dX12_configure_44 : decode cX12_configure 44 = .ok (.putfield 75, 3) := by decide +kernel
theorem dX12_configure_47 : decode cX12_configure 47 = .ok (.aload_n 0, 1) := by decide +kernel
theorem dX12_configure_48 : decode cX12_configure 48 = .ok (.iconst 0, 1) := by decide +kernel
theorem dX12_configure_49 : decode cX12_configure 49 = .ok (.putfield 78, 3) := by decide +kernel
theorem dX12_configure_52 : decode cX12_configure 52 = .ok (.aload_n 0, 1) := by decide +kernel
theorem dX12_configure_53 : decode cX12_configure 53 = .ok (.iconst 0, 1) := by decide +kernel
theorem dX12_configure_54 : decode cX12_configure 54 = .ok (.putfield 81, 3) := by decide +kernel
theorem dX12_configure_57 : decode cX12_configure 57 = .ok (.aload_n 0, 1) := by decide +kernel
theorem dX12_configure_58 : decode cX12_configure 58 = .ok (.invokevirtual 67, 3) := by decide +kernel
theorem dX12_configure_61 : decode cX12_configure 61 = .ok (.ireturn, 1) := by decide +kernel
theorem dX12_letterCount_0 : decode cX12_letterCount 0 = .ok (.aload_n 0, 1) := by decide +kernel
theorem dX12_letterCount_1 : decode cX12_letterCount 1 = .ok (.getfield 7, 3) := by decide +kernel
theorem dX12_letterCount_4 : decode cX12_letterCount 4 = .ok (.ireturn, 1) := by decide +kernel
theorem dX12_order_0 : decode cX12_order 0 = .ok (.aload_n 0, 1) := by decide +kernel
theorem dX12_order_1 : decode cX12_order 1 = .ok (.getfield 13, 3) := by decide +kernel
theorem dX12_order_4 : decode cX12_order 4 = .ok (.ireturn, 1) := by decide +kernel
theorem dX12_length_0 : decode cX12_length 0 = .ok (.aload_n 0, 1) := by decide +kernel
theorem dX12_length_1 : decode cX12_length 1 = .ok (.getfield 75, 3) := by decide +kernel
theorem dX12_length_4 : decode cX12_length 4 = .ok (.ireturn, 1) := by decide +kernel
theorem dX12_letter_0 : decode cX12_letter 0 = .ok (.aload_n 0, 1) := by decide +kernel
theorem dX12_letter_1 : decode cX12_letter 1 = .ok (.iload_n 1, 1) := by decide +kernel
theorem dX12_letter_2 : decode cX12_letter 2 = .ok (.invokevirtual 84, 3) := by decide +kernel
theorem dX12_letter_5 : decode cX12_letter 5 = .ok (.ifCond .eq 12, 3) := by decide +kernel
theorem dX12_letter_8 : decode cX12_letter 8 = .ok (.aload_n 0, 1) := by decide +kernel
theorem dX12_letter_9 : decode cX12_letter 9 = .ok (.getfield 16, 3) := by decide +kernel
theorem dX12_letter_12 : decode cX12_letter 12 = .ok (.iload_n 1, 1) := by decide +kernel
theorem dX12_letter_13 : decode cX12_letter 13 = .ok (.iaload, 1) := by decide +kernel
theorem dX12_letter_14 : decode cX12_letter 14 = .ok (.goto 5, 3) := by decide +kernel
theorem dX12_letter_17 : decode cX12_letter 17 = .ok (.bipush (-2), 2) := by decide +kernel
theorem dX12_letter_19 : decode cX12_letter 19 = .ok (.ireturn, 1) := by decide +kernel
theorem dX12_edit_0 : decode cX12_edit 0 = .ok (.aload_n 0, 1) := by decide +kernel
theorem dX12_edit_1 : decode cX12_edit 1 = .ok (.getfield 78, 3) := by decide +kernel
theorem dX12_edit_4 : decode cX12_edit 4 = .ok (.bipush 6, 2) := by decide +kernel
theorem dX12_edit_6 : decode cX12_edit 6 = .ok (.if_icmp .ne 67, 3) := by decide +kernel
theorem dX12_edit_9 : decode cX12_edit 9 = .ok (.iconst 1, 1) := by decide +kernel
theorem dX12_edit_10 : decode cX12_edit 10 = .ok (.istore_n 1, 1) := by decide +kernel
theorem dX12_edit_11 : decode cX12_edit 11 = .ok (.iload_n 1, 1) := by decide +kernel
theorem dX12_edit_12 : decode cX12_edit 12 = .ok (.bipush 6, 2) := by decide +kernel
theorem dX12_edit_14 : decode cX12_edit 14 = .ok (.if_icmp .ge 49, 3) := by decide +kernel
theorem dX12_edit_17 : decode cX12_edit 17 = .ok (.aload_n 0, 1) := by decide +kernel
theorem dX12_edit_18 : decode cX12_edit 18 = .ok (.getfield 20, 3) := by decide +kernel
theorem dX12_edit_21 : decode cX12_edit 21 = .ok (.sipush 256, 3) := by decide +kernel
theorem dX12_edit_24 : decode cX12_edit 24 = .ok (.iload_n 1, 1) := by decide +kernel
theorem dX12_edit_25 : decode cX12_edit 25 = .ok (.imul, 1) := by decide +kernel
theorem dX12_edit_26 : decode cX12_edit 26 = .ok (.aload_n 0, 1) := by decide +kernel
theorem dX12_edit_27 : decode cX12_edit 27 = .ok (.getfield 20, 3) := by decide +kernel
theorem dX12_edit_30 : decode cX12_edit 30 = .ok (.sipush 256, 3) := by decide +kernel
theorem dX12_edit_33 : decode cX12_edit 33 = .ok (.iload_n 1, 1) := by decide +kernel
theorem dX12_edit_34 : decode cX12_edit 34 = .ok (.iconst 1, 1) := by decide +kernel
theorem dX12_edit_35 : decode cX12_edit 35 = .ok (.isub, 1) := by decide +kernel
theorem dX12_edit_36 : decode cX12_edit 36 = .ok (.imul, 1) := by decide +kernel
theorem dX12_edit_37 : decode cX12_edit 37 = .ok (.sipush 256, 3) := by decide +kernel
theorem dX12_edit_40 : decode cX12_edit 40 = .ok (.invokestatic 88, 3) := by decide +kernel
theorem dX12_edit_43 : decode cX12_edit 43 = .ok (.aload_n 0, 1) := by decide +kernel
theorem dX12_edit_44 : decode cX12_edit 44 = .ok (.getfield 23, 3) := by decide +kernel
theorem dX12_edit_47 : decode cX12_edit 47 = .ok (.iload_n 1, 1) := by decide +kernel
theorem dX12_edit_48 : decode cX12_edit 48 = .ok (.iconst 1, 1) := by decide +kernel
theorem dX12_edit_49 : decode cX12_edit 49 = .ok (.isub, 1) := by decide +kernel
theorem dX12_edit_50 : decode cX12_edit 50 = .ok (.aload_n 0, 1) := by decide +kernel
theorem dX12_edit_51 : decode cX12_edit 51 = .ok (.getfield 23, 3) := by decide +kernel
theorem dX12_edit_54 : decode cX12_edit 54 = .ok (.iload_n 1, 1) := by decide +kernel
theorem dX12_edit_55 : decode cX12_edit 55 = .ok (.iaload, 1) := by decide +kernel
theorem dX12_edit_56 : decode cX12_edit 56 = .ok (.iastore, 1) := by decide +kernel
theorem dX12_edit_57 : decode cX12_edit 57 = .ok (.iinc 1 1, 3) := by decide +kernel
theorem dX12_edit_60 : decode cX12_edit 60 = .ok (.goto (-49), 3) := by decide +kernel
theorem dX12_edit_63 : decode cX12_edit 63 = .ok (.aload_n 0, 1) := by decide +kernel
theorem dX12_edit_64 : decode cX12_edit 64 = .ok (.dup, 1) := by decide +kernel
theorem dX12_edit_65 : decode cX12_edit 65 = .ok (.getfield 78, 3) := by decide +kernel
theorem dX12_edit_68 : decode cX12_edit 68 = .ok (.iconst 1, 1) := by decide +kernel
theorem dX12_edit_69 : decode cX12_edit 69 = .ok (.isub, 1) := by decide +kernel
theorem dX12_edit_70 : decode cX12_edit 70 = .ok (.putfield 78, 3) := by decide +kernel
theorem dX12_edit_73 : decode cX12_edit 73 = .ok (.aload_n 0, 1) := by decide +kernel
theorem dX12_edit_74 : decode cX12_edit 74 = .ok (.getfield 16, 3) := by decide +kernel
theorem dX12_edit_77 : decode cX12_edit 77 = .ok (.iconst 0, 1) := by decide +kernel
theorem dX12_edit_78 : decode cX12_edit 78 = .ok (.aload_n 0, 1) := by decide +kernel
theorem dX12_edit_79 : decode cX12_edit 79 = .ok (.getfield 20, 3) := by decide +kernel
theorem dX12_edit_82 : decode cX12_edit 82 = .ok (.sipush 256, 3) := by decide +kernel
theorem dX12_edit_85 : decode cX12_edit 85 = .ok (.aload_n 0, 1) := by decide +kernel
theorem dX12_edit_86 : decode cX12_edit 86 = .ok (.getfield 78, 3) := by decide +kernel
theorem dX12_edit_89 : decode cX12_edit 89 = .ok (.imul, 1) := by decide +kernel
theorem dX12_edit_90 : decode cX12_edit 90 = .ok (.aload_n 0, 1) := by decide +kernel
theorem dX12_edit_91 : decode cX12_edit 91 = .ok (.getfield 75, 3) := by decide +kernel
theorem dX12_edit_94 : decode cX12_edit 94 = .ok (.invokestatic 88, 3) := by decide +kernel
theorem dX12_edit_97 : decode cX12_edit 97 = .ok (.aload_n 0, 1) := by decide +kernel
theorem dX12_edit_98 : decode cX12_edit 98 = .ok (.getfield 23, 3) := by decide +kernel
theorem dX12_edit_101 : decode cX12_edit 101 = .ok (.aload_n 0, 1) := by decide +kernel
theorem dX12_edit_102 : decode cX12_edit 102 = .ok (.getfield 78, 3) := by decide +kernel
theorem dX12_edit_105 : decode cX12_edit 105 = .ok (.aload_n 0, 1) := by decide +kernel
theorem dX12_edit_106 : decode cX12_edit 106 = .ok (.getfield 75, 3) := by decide +kernel
theorem dX12_edit_109 : decode cX12_edit 109 = .ok (.iastore, 1) := by decide +kernel
theorem dX12_edit_110 : decode cX12_edit 110 = .ok (.aload_n 0, 1) := by decide +kernel
theorem dX12_edit_111 : decode cX12_edit 111 = .ok (.dup, 1) := by decide +kernel
theorem dX12_edit_112 : decode cX12_edit 112 = .ok (.getfield 78, 3) := by decide +kernel
theorem dX12_edit_115 : decode cX12_edit 115 = .ok (.iconst 1, 1) := by decide +kernel
theorem dX12_edit_116 : decode cX12_edit 116 = .ok (.iadd, 1) := by decide +kernel
theorem dX12_edit_117 : decode cX12_edit 117 = .ok (.putfield 78, 3) := by decide +kernel
theorem dX12_edit_120 : decode cX12_edit 120 = .ok (.aload_n 0, 1) := by decide +kernel
theorem dX12_edit_121 : decode cX12_edit 121 = .ok (.getfield 32, 3) := by decide +kernel
theorem dX12_edit_124 : decode cX12_edit 124 = .ok (.iconst 0, 1) := by decide +kernel
theorem dX12_edit_125 : decode cX12_edit 125 = .ok (.aload_n 0, 1) := by decide +kernel
theorem dX12_edit_126 : decode cX12_edit 126 = .ok (.getfield 16, 3) := by decide +kernel
theorem dX12_edit_129 : decode cX12_edit 129 = .ok (.iconst 0, 1) := by decide +kernel
theorem dX12_edit_130 : decode cX12_edit 130 = .ok (.aload_n 0, 1) := by decide +kernel
theorem dX12_edit_131 : decode cX12_edit 131 = .ok (.getfield 94, 3) := by decide +kernel
theorem dX12_edit_134 : decode cX12_edit 134 = .ok (.invokestatic 88, 3) := by decide +kernel
theorem dX12_edit_137 : decode cX12_edit 137 = .ok (.aload_n 0, 1) := by decide +kernel
theorem dX12_edit_138 : decode cX12_edit 138 = .ok (.aload_n 0, 1) := by decide +kernel
theorem dX12_edit_139 : decode cX12_edit 139 = .ok (.getfield 94, 3) := by decide +kernel
theorem dX12_edit_142 : decode cX12_edit 142 = .ok (.putfield 75, 3) := by decide +kernel
theorem dX12_edit_145 : decode cX12_edit 145 = .ok (.return_, 1) := by decide +kernel
theorem dX12_begin_0 : decode cX12_begin 0 = .ok (.aload_n 0, 1) := by decide +kernel
theorem dX12_begin_1 : decode cX12_begin 1 = .ok (.getfield 16, 3) := by decide +kernel
theorem dX12_begin_4 : decode cX12_begin 4 = .ok (.iconst 0, 1) := by decide +kernel
theorem dX12_begin_5 : decode cX12_begin 5 = .ok (.aload_n 0, 1) := by decide +kernel
theorem dX12_begin_6 : decode cX12_begin 6 = .ok (.getfield 32, 3) := by decide +kernel
theorem dX12_begin_9 : decode cX12_begin 9 = .ok (.iconst 0, 1) := by decide +kernel
theorem dX12_begin_10 : decode cX12_begin 10 = .ok (.aload_n 0, 1) := by decide +kernel
theorem dX12_begin_11 : decode cX12_begin 11 = .ok (.getfield 75, 3) := by decide +kernel
theorem dX12_begin_14 : decode cX12_begin 14 = .ok (.invokestatic 88, 3) := by decide +kernel
theorem dX12_begin_17 : decode cX12_begin 17 = .ok (.aload_n 0, 1) := by decide +kernel
theorem dX12_begin_18 : decode cX12_begin 18 = .ok (.aload_n 0, 1) := by decide +kernel
theorem dX12_begin_19 : decode cX12_begin 19 = .ok (.getfield 75, 3) := by decide +kernel
theorem dX12_begin_22 : decode cX12_begin 22 = .ok (.putfield 94, 3) := by decide +kernel
theorem dX12_begin_25 : decode cX12_begin 25 = .ok (.return_, 1) := by decide +kernel
theorem dX12_make_0 : decode cX12_make 0 = .ok (.aload_n 0, 1) := by decide +kernel
theorem dX12_make_1 : decode cX12_make 1 = .ok (.getfield 32, 3) := by decide +kernel
theorem dX12_make_4 : decode cX12_make 4 = .ok (.aload_n 0, 1) := by decide +kernel
theorem dX12_make_5 : decode cX12_make 5 = .ok (.getfield 94, 3) := by decide +kernel
theorem dX12_make_8 : decode cX12_make 8 = .ok (.iload_n 1, 1) := by decide +kernel
theorem dX12_make_9 : decode cX12_make 9 = .ok (.iastore, 1) := by decide +kernel
theorem dX12_make_10 : decode cX12_make 10 = .ok (.aload_n 0, 1) := by decide +kernel
theorem dX12_make_11 : decode cX12_make 11 = .ok (.dup, 1) := by decide +kernel
theorem dX12_make_12 : decode cX12_make 12 = .ok (.getfield 94, 3) := by decide +kernel
theorem dX12_make_15 : decode cX12_make 15 = .ok (.iconst 1, 1) := by decide +kernel
theorem dX12_make_16 : decode cX12_make 16 = .ok (.iadd, 1) := by decide +kernel
theorem dX12_make_17 : decode cX12_make 17 = .ok (.putfield 94, 3) := by decide +kernel
theorem dX12_make_20 : decode cX12_make 20 = .ok (.return_, 1) := by decide +kernel
theorem dX12_turned_0 : decode cX12_turned 0 = .ok (.aload_n 0, 1) := by decide +kernel
theorem dX12_turned_1 : decode cX12_turned 1 = .ok (.getfield 7, 3) := by decide +kernel
theorem dX12_turned_4 : decode cX12_turned 4 = .ok (.iload_n 2, 1) := by decide +kernel
theorem dX12_turned_5 : decode cX12_turned 5 = .ok (.iconst 1, 1) := by decide +kernel
theorem dX12_turned_6 : decode cX12_turned 6 = .ok (.isub, 1) := by decide +kernel
theorem dX12_turned_7 : decode cX12_turned 7 = .ok (.invokestatic 63, 3) := by decide +kernel
theorem dX12_turned_10 : decode cX12_turned 10 = .ok (.istore_n 3, 1) := by decide +kernel
theorem dX12_turned_11 : decode cX12_turned 11 = .ok (.iload_n 1, 1) := by decide +kernel
theorem dX12_turned_12 : decode cX12_turned 12 = .ok (.iload_n 3, 1) := by decide +kernel
theorem dX12_turned_13 : decode cX12_turned 13 = .ok (.irem, 1) := by decide +kernel
theorem dX12_turned_14 : decode cX12_turned 14 = .ok (.aload_n 0, 1) := by decide +kernel
theorem dX12_turned_15 : decode cX12_turned 15 = .ok (.getfield 7, 3) := by decide +kernel
theorem dX12_turned_18 : decode cX12_turned 18 = .ok (.imul, 1) := by decide +kernel
theorem dX12_turned_19 : decode cX12_turned 19 = .ok (.iload_n 1, 1) := by decide +kernel
theorem dX12_turned_20 : decode cX12_turned 20 = .ok (.iload_n 3, 1) := by decide +kernel
theorem dX12_turned_21 : decode cX12_turned 21 = .ok (.idiv, 1) := by decide +kernel
theorem dX12_turned_22 : decode cX12_turned 22 = .ok (.iadd, 1) := by decide +kernel
theorem dX12_turned_23 : decode cX12_turned 23 = .ok (.ireturn, 1) := by decide +kernel
theorem dX12_leastRotation_0 : decode cX12_leastRotation 0 = .ok (.iload_n 1, 1) := by decide +kernel
theorem dX12_leastRotation_1 : decode cX12_leastRotation 1 = .ok (.istore_n 3, 1) := by decide +kernel
theorem dX12_leastRotation_2 : decode cX12_leastRotation 2 = .ok (.iload_n 1, 1) := by decide +kernel
theorem dX12_leastRotation_3 : decode cX12_leastRotation 3 = .ok (.istore 4, 2) := by decide +kernel
theorem dX12_leastRotation_5 : decode cX12_leastRotation 5 = .ok (.iconst 1, 1) := by decide +kernel
theorem dX12_leastRotation_6 : decode cX12_leastRotation 6 = .ok (.istore 5, 2) := by decide +kernel
theorem dX12_leastRotation_8 : decode cX12_leastRotation 8 = .ok (.iload 5, 2) := by decide +kernel
theorem dX12_leastRotation_10 : decode cX12_leastRotation 10 = .ok (.iload_n 2, 1) := by decide +kernel
theorem dX12_leastRotation_11 : decode cX12_leastRotation 11 = .ok (.if_icmp .ge 25, 3) := by decide +kernel
theorem dX12_leastRotation_14 : decode cX12_leastRotation 14 = .ok (.aload_n 0, 1) := by decide +kernel
theorem dX12_leastRotation_15 : decode cX12_leastRotation 15 = .ok (.iload 4, 2) := by decide +kernel
theorem dX12_leastRotation_17 : decode cX12_leastRotation 17 = .ok (.iload_n 2, 1) := by decide +kernel
theorem dX12_leastRotation_18 : decode cX12_leastRotation 18 = .ok (.invokevirtual 97, 3) := by decide +kernel
theorem dX12_leastRotation_21 : decode cX12_leastRotation 21 = .ok (.istore 4, 2) := by decide +kernel
theorem dX12_leastRotation_23 : decode cX12_leastRotation 23 = .ok (.iload_n 3, 1) := by decide +kernel
theorem dX12_leastRotation_24 : decode cX12_leastRotation 24 = .ok (.iload 4, 2) := by decide +kernel
theorem dX12_leastRotation_26 : decode cX12_leastRotation 26 = .ok (.invokestatic 100, 3) := by decide +kernel
theorem dX12_leastRotation_29 : decode cX12_leastRotation 29 = .ok (.istore_n 3, 1) := by decide +kernel
theorem dX12_leastRotation_30 : decode cX12_leastRotation 30 = .ok (.iinc 5 1, 3) := by decide +kernel
theorem dX12_leastRotation_33 : decode cX12_leastRotation 33 = .ok (.goto (-25), 3) := by decide +kernel
theorem dX12_leastRotation_36 : decode cX12_leastRotation 36 = .ok (.iload_n 3, 1) := by decide +kernel
theorem dX12_leastRotation_37 : decode cX12_leastRotation 37 = .ok (.ireturn, 1) := by decide +kernel
theorem dX12_rotations_0 : decode cX12_rotations 0 = .ok (.iconst 1, 1) := by decide +kernel
theorem dX12_rotations_1 : decode cX12_rotations 1 = .ok (.istore_n 3, 1) := by decide +kernel
theorem dX12_rotations_2 : decode cX12_rotations 2 = .ok (.aload_n 0, 1) := by decide +kernel
theorem dX12_rotations_3 : decode cX12_rotations 3 = .ok (.iload_n 1, 1) := by decide +kernel
theorem dX12_rotations_4 : decode cX12_rotations 4 = .ok (.iload_n 2, 1) := by decide +kernel
theorem dX12_rotations_5 : decode cX12_rotations 5 = .ok (.invokevirtual 97, 3) := by decide +kernel
theorem dX12_rotations_8 : decode cX12_rotations 8 = .ok (.istore 4, 2) := by decide +kernel
theorem dX12_rotations_10 : decode cX12_rotations 10 = .ok (.iload 4, 2) := by decide +kernel
theorem dX12_rotations_12 : decode cX12_rotations 12 = .ok (.iload_n 1, 1) := by decide +kernel
theorem dX12_rotations_13 : decode cX12_rotations 13 = .ok (.if_icmp .eq 18, 3) := by decide +kernel
theorem dX12_rotations_16 : decode cX12_rotations 16 = .ok (.iinc 3 1, 3) := by decide +kernel
theorem dX12_rotations_19 : decode cX12_rotations 19 = .ok (.aload_n 0, 1) := by decide +kernel
theorem dX12_rotations_20 : decode cX12_rotations 20 = .ok (.iload 4, 2) := by decide +kernel
theorem dX12_rotations_22 : decode cX12_rotations 22 = .ok (.iload_n 2, 1) := by decide +kernel
theorem dX12_rotations_23 : decode cX12_rotations 23 = .ok (.invokevirtual 97, 3) := by decide +kernel
theorem dX12_rotations_26 : decode cX12_rotations 26 = .ok (.istore 4, 2) := by decide +kernel
theorem dX12_rotations_28 : decode cX12_rotations 28 = .ok (.goto (-18), 3) := by decide +kernel
theorem dX12_rotations_31 : decode cX12_rotations 31 = .ok (.iload_n 3, 1) := by decide +kernel
theorem dX12_rotations_32 : decode cX12_rotations 32 = .ok (.ireturn, 1) := by decide +kernel
theorem dX12_isLyndon_0 : decode cX12_isLyndon 0 = .ok (.aload_n 0, 1) := by decide +kernel
theorem dX12_isLyndon_1 : decode cX12_isLyndon 1 = .ok (.iload_n 1, 1) := by decide +kernel
theorem dX12_isLyndon_2 : decode cX12_isLyndon 2 = .ok (.iload_n 2, 1) := by decide +kernel
theorem dX12_isLyndon_3 : decode cX12_isLyndon 3 = .ok (.invokevirtual 105, 3) := by decide +kernel
theorem dX12_isLyndon_6 : decode cX12_isLyndon 6 = .ok (.iload_n 1, 1) := by decide +kernel
theorem dX12_isLyndon_7 : decode cX12_isLyndon 7 = .ok (.if_icmp .ne 17, 3) := by decide +kernel
theorem dX12_isLyndon_10 : decode cX12_isLyndon 10 = .ok (.aload_n 0, 1) := by decide +kernel
theorem dX12_isLyndon_11 : decode cX12_isLyndon 11 = .ok (.iload_n 1, 1) := by decide +kernel
theorem dX12_isLyndon_12 : decode cX12_isLyndon 12 = .ok (.iload_n 2, 1) := by decide +kernel
theorem dX12_isLyndon_13 : decode cX12_isLyndon 13 = .ok (.invokevirtual 108, 3) := by decide +kernel
theorem dX12_isLyndon_16 : decode cX12_isLyndon 16 = .ok (.iload_n 2, 1) := by decide +kernel
theorem dX12_isLyndon_17 : decode cX12_isLyndon 17 = .ok (.if_icmp .ne 7, 3) := by decide +kernel
theorem dX12_isLyndon_20 : decode cX12_isLyndon 20 = .ok (.iconst 1, 1) := by decide +kernel
theorem dX12_isLyndon_21 : decode cX12_isLyndon 21 = .ok (.goto 4, 3) := by decide +kernel
theorem dX12_isLyndon_24 : decode cX12_isLyndon 24 = .ok (.iconst 0, 1) := by decide +kernel
theorem dX12_isLyndon_25 : decode cX12_isLyndon 25 = .ok (.ireturn, 1) := by decide +kernel
theorem dX12_letterOf_0 : decode cX12_letterOf 0 = .ok (.iload_n 1, 1) := by decide +kernel
theorem dX12_letterOf_1 : decode cX12_letterOf 1 = .ok (.aload_n 0, 1) := by decide +kernel
theorem dX12_letterOf_2 : decode cX12_letterOf 2 = .ok (.getfield 7, 3) := by decide +kernel
theorem dX12_letterOf_5 : decode cX12_letterOf 5 = .ok (.iload_n 2, 1) := by decide +kernel
theorem dX12_letterOf_6 : decode cX12_letterOf 6 = .ok (.iconst 1, 1) := by decide +kernel
theorem dX12_letterOf_7 : decode cX12_letterOf 7 = .ok (.isub, 1) := by decide +kernel
theorem dX12_letterOf_8 : decode cX12_letterOf 8 = .ok (.iload_n 3, 1) := by decide +kernel
theorem dX12_letterOf_9 : decode cX12_letterOf 9 = .ok (.isub, 1) := by decide +kernel
theorem dX12_letterOf_10 : decode cX12_letterOf 10 = .ok (.invokestatic 63, 3) := by decide +kernel
theorem dX12_letterOf_13 : decode cX12_letterOf 13 = .ok (.idiv, 1) := by decide +kernel
theorem dX12_letterOf_14 : decode cX12_letterOf 14 = .ok (.aload_n 0, 1) := by decide +kernel
theorem dX12_letterOf_15 : decode cX12_letterOf 15 = .ok (.getfield 7, 3) := by decide +kernel
theorem dX12_letterOf_18 : decode cX12_letterOf 18 = .ok (.irem, 1) := by decide +kernel
theorem dX12_letterOf_19 : decode cX12_letterOf 19 = .ok (.ireturn, 1) := by decide +kernel
theorem dX12_greedy_0 : decode cX12_greedy 0 = .ok (.iconst 0, 1) := by decide +kernel
theorem dX12_greedy_1 : decode cX12_greedy 1 = .ok (.istore_n 1, 1) := by decide +kernel
theorem dX12_greedy_2 : decode cX12_greedy 2 = .ok (.iload_n 1, 1) := by decide +kernel
theorem dX12_greedy_3 : decode cX12_greedy 3 = .ok (.aload_n 0, 1) := by decide +kernel
theorem dX12_greedy_4 : decode cX12_greedy 4 = .ok (.invokevirtual 67, 3) := by decide +kernel
theorem dX12_greedy_7 : decode cX12_greedy 7 = .ok (.if_icmp .ge 16, 3) := by decide +kernel
theorem dX12_greedy_10 : decode cX12_greedy 10 = .ok (.aload_n 0, 1) := by decide +kernel
theorem dX12_greedy_11 : decode cX12_greedy 11 = .ok (.getfield 35, 3) := by decide +kernel
theorem dX12_greedy_14 : decode cX12_greedy 14 = .ok (.iload_n 1, 1) := by decide +kernel
theorem dX12_greedy_15 : decode cX12_greedy 15 = .ok (.iconst 0, 1) := by decide +kernel
theorem dX12_greedy_16 : decode cX12_greedy 16 = .ok (.bastore, 1) := by decide +kernel
theorem dX12_greedy_17 : decode cX12_greedy 17 = .ok (.iinc 1 1, 3) := by decide +kernel
theorem dX12_greedy_20 : decode cX12_greedy 20 = .ok (.goto (-18), 3) := by decide +kernel
theorem dX12_greedy_23 : decode cX12_greedy 23 = .ok (.iconst 0, 1) := by decide +kernel
theorem dX12_greedy_24 : decode cX12_greedy 24 = .ok (.istore_n 1, 1) := by decide +kernel
theorem dX12_greedy_25 : decode cX12_greedy 25 = .ok (.aload_n 0, 1) := by decide +kernel
theorem dX12_greedy_26 : decode cX12_greedy 26 = .ok (.getfield 7, 3) := by decide +kernel
theorem dX12_greedy_29 : decode cX12_greedy 29 = .ok (.aload_n 0, 1) := by decide +kernel
theorem dX12_greedy_30 : decode cX12_greedy 30 = .ok (.getfield 13, 3) := by decide +kernel
theorem dX12_greedy_33 : decode cX12_greedy 33 = .ok (.iconst 1, 1) := by decide +kernel
theorem dX12_greedy_34 : decode cX12_greedy 34 = .ok (.isub, 1) := by decide +kernel
theorem dX12_greedy_35 : decode cX12_greedy 35 = .ok (.invokestatic 63, 3) := by decide +kernel
theorem dX12_greedy_38 : decode cX12_greedy 38 = .ok (.istore_n 2, 1) := by decide +kernel
theorem dX12_greedy_39 : decode cX12_greedy 39 = .ok (.iconst 1, 1) := by decide +kernel
theorem dX12_greedy_40 : decode cX12_greedy 40 = .ok (.istore_n 3, 1) := by decide +kernel
theorem dX12_greedy_41 : decode cX12_greedy 41 = .ok (.iload_n 3, 1) := by decide +kernel
theorem dX12_greedy_42 : decode cX12_greedy 42 = .ok (.ifCond .eq 90, 3) := by decide +kernel
theorem dX12_greedy_45 : decode cX12_greedy 45 = .ok (.aload_n 0, 1) := by decide +kernel
theorem dX12_greedy_46 : decode cX12_greedy 46 = .ok (.getfield 7, 3) := by decide +kernel
theorem dX12_greedy_49 : decode cX12_greedy 49 = .ok (.iconst 1, 1) := by decide +kernel
theorem dX12_greedy_50 : decode cX12_greedy 50 = .ok (.isub, 1) := by decide +kernel
theorem dX12_greedy_51 : decode cX12_greedy 51 = .ok (.istore 4, 2) := by decide +kernel
theorem dX12_greedy_53 : decode cX12_greedy 53 = .ok (.iload 4, 2) := by decide +kernel
theorem dX12_greedy_55 : decode cX12_greedy 55 = .ok (.ifCond .lt 26, 3) := by decide +kernel
theorem dX12_greedy_58 : decode cX12_greedy 58 = .ok (.aload_n 0, 1) := by decide +kernel
theorem dX12_greedy_59 : decode cX12_greedy 59 = .ok (.getfield 35, 3) := by decide +kernel
theorem dX12_greedy_62 : decode cX12_greedy 62 = .ok (.iload_n 1, 1) := by decide +kernel
theorem dX12_greedy_63 : decode cX12_greedy 63 = .ok (.aload_n 0, 1) := by decide +kernel
theorem dX12_greedy_64 : decode cX12_greedy 64 = .ok (.getfield 7, 3) := by decide +kernel
theorem dX12_greedy_67 : decode cX12_greedy 67 = .ok (.imul, 1) := by decide +kernel
theorem dX12_greedy_68 : decode cX12_greedy 68 = .ok (.iload 4, 2) := by decide +kernel
theorem dX12_greedy_70 : decode cX12_greedy 70 = .ok (.iadd, 1) := by decide +kernel
theorem dX12_greedy_71 : decode cX12_greedy 71 = .ok (.baload, 1) := by decide +kernel
theorem dX12_greedy_72 : decode cX12_greedy 72 = .ok (.ifCond .eq 9, 3) := by decide +kernel
theorem dX12_greedy_75 : decode cX12_greedy 75 = .ok (.iinc 4 (-1), 3) := by decide +kernel
theorem dX12_greedy_78 : decode cX12_greedy 78 = .ok (.goto (-25), 3) := by decide +kernel
theorem dX12_greedy_81 : decode cX12_greedy 81 = .ok (.iload 4, 2) := by decide +kernel
theorem dX12_greedy_83 : decode cX12_greedy 83 = .ok (.ifCond .lt 7, 3) := by decide +kernel
theorem dX12_greedy_86 : decode cX12_greedy 86 = .ok (.iconst 1, 1) := by decide +kernel
theorem dX12_greedy_87 : decode cX12_greedy 87 = .ok (.goto 4, 3) := by decide +kernel
theorem dX12_greedy_90 : decode cX12_greedy 90 = .ok (.iconst 0, 1) := by decide +kernel
theorem dX12_greedy_91 : decode cX12_greedy 91 = .ok (.istore_n 3, 1) := by decide +kernel
theorem dX12_greedy_92 : decode cX12_greedy 92 = .ok (.iload_n 3, 1) := by decide +kernel
theorem dX12_greedy_93 : decode cX12_greedy 93 = .ok (.ifCond .eq 36, 3) := by decide +kernel
theorem dX12_greedy_96 : decode cX12_greedy 96 = .ok (.aload_n 0, 1) := by decide +kernel
theorem dX12_greedy_97 : decode cX12_greedy 97 = .ok (.getfield 35, 3) := by decide +kernel
theorem dX12_greedy_100 : decode cX12_greedy 100 = .ok (.iload_n 1, 1) := by decide +kernel
theorem dX12_greedy_101 : decode cX12_greedy 101 = .ok (.aload_n 0, 1) := by decide +kernel
theorem dX12_greedy_102 : decode cX12_greedy 102 = .ok (.getfield 7, 3) := by decide +kernel
theorem dX12_greedy_105 : decode cX12_greedy 105 = .ok (.imul, 1) := by decide +kernel
theorem dX12_greedy_106 : decode cX12_greedy 106 = .ok (.iload 4, 2) := by decide +kernel
theorem dX12_greedy_108 : decode cX12_greedy 108 = .ok (.iadd, 1) := by decide +kernel
theorem dX12_greedy_109 : decode cX12_greedy 109 = .ok (.iconst 1, 1) := by decide +kernel
theorem dX12_greedy_110 : decode cX12_greedy 110 = .ok (.bastore, 1) := by decide +kernel
theorem dX12_greedy_111 : decode cX12_greedy 111 = .ok (.aload_n 0, 1) := by decide +kernel
theorem dX12_greedy_112 : decode cX12_greedy 112 = .ok (.iload 4, 2) := by decide +kernel
theorem dX12_greedy_114 : decode cX12_greedy 114 = .ok (.invokevirtual 111, 3) := by decide +kernel
theorem dX12_greedy_117 : decode cX12_greedy 117 = .ok (.iload_n 1, 1) := by decide +kernel
theorem dX12_greedy_118 : decode cX12_greedy 118 = .ok (.aload_n 0, 1) := by decide +kernel
theorem dX12_greedy_119 : decode cX12_greedy 119 = .ok (.getfield 7, 3) := by decide +kernel
theorem dX12_greedy_122 : decode cX12_greedy 122 = .ok (.imul, 1) := by decide +kernel
theorem dX12_greedy_123 : decode cX12_greedy 123 = .ok (.iload 4, 2) := by decide +kernel
theorem dX12_greedy_125 : decode cX12_greedy 125 = .ok (.iadd, 1) := by decide +kernel
theorem dX12_greedy_126 : decode cX12_greedy 126 = .ok (.iload_n 2, 1) := by decide +kernel
theorem dX12_greedy_127 : decode cX12_greedy 127 = .ok (.irem, 1) := by decide +kernel
theorem dX12_greedy_128 : decode cX12_greedy 128 = .ok (.istore_n 1, 1) := by decide +kernel
theorem dX12_greedy_129 : decode cX12_greedy 129 = .ok (.goto (-88), 3) := by decide +kernel
theorem dX12_greedy_132 : decode cX12_greedy 132 = .ok (.return_, 1) := by decide +kernel
theorem dX12_isSmaller_0 : decode cX12_isSmaller 0 = .ok (.iconst 0, 1) := by decide +kernel
theorem dX12_isSmaller_1 : decode cX12_isSmaller 1 = .ok (.istore 5, 2) := by decide +kernel
theorem dX12_isSmaller_3 : decode cX12_isSmaller 3 = .ok (.iload 5, 2) := by decide +kernel
theorem dX12_isSmaller_5 : decode cX12_isSmaller 5 = .ok (.iload_n 2, 1) := by decide +kernel
theorem dX12_isSmaller_6 : decode cX12_isSmaller 6 = .ok (.if_icmp .ge 57, 3) := by decide +kernel
theorem dX12_isSmaller_9 : decode cX12_isSmaller 9 = .ok (.iload 5, 2) := by decide +kernel
theorem dX12_isSmaller_11 : decode cX12_isSmaller 11 = .ok (.iload 4, 2) := by decide +kernel
theorem dX12_isSmaller_13 : decode cX12_isSmaller 13 = .ok (.if_icmp .ge 50, 3) := by decide +kernel
theorem dX12_isSmaller_16 : decode cX12_isSmaller 16 = .ok (.aload_n 0, 1) := by decide +kernel
theorem dX12_isSmaller_17 : decode cX12_isSmaller 17 = .ok (.iload_n 1, 1) := by decide +kernel
theorem dX12_isSmaller_18 : decode cX12_isSmaller 18 = .ok (.iload_n 2, 1) := by decide +kernel
theorem dX12_isSmaller_19 : decode cX12_isSmaller 19 = .ok (.iload 5, 2) := by decide +kernel
theorem dX12_isSmaller_21 : decode cX12_isSmaller 21 = .ok (.invokevirtual 115, 3) := by decide +kernel
theorem dX12_isSmaller_24 : decode cX12_isSmaller 24 = .ok (.istore 6, 2) := by decide +kernel
theorem dX12_isSmaller_26 : decode cX12_isSmaller 26 = .ok (.aload_n 0, 1) := by decide +kernel
theorem dX12_isSmaller_27 : decode cX12_isSmaller 27 = .ok (.iload_n 3, 1) := by decide +kernel
theorem dX12_isSmaller_28 : decode cX12_isSmaller 28 = .ok (.iload 4, 2) := by decide +kernel
theorem dX12_isSmaller_30 : decode cX12_isSmaller 30 = .ok (.iload 5, 2) := by decide +kernel
theorem dX12_isSmaller_32 : decode cX12_isSmaller 32 = .ok (.invokevirtual 115, 3) := by decide +kernel
theorem dX12_isSmaller_35 : decode cX12_isSmaller 35 = .ok (.istore 7, 2) := by decide +kernel
theorem dX12_isSmaller_37 : decode cX12_isSmaller 37 = .ok (.iload 6, 2) := by decide +kernel
theorem dX12_isSmaller_39 : decode cX12_isSmaller 39 = .ok (.iload 7, 2) := by decide +kernel
theorem dX12_isSmaller_41 : decode cX12_isSmaller 41 = .ok (.if_icmp .eq 16, 3) := by decide +kernel
theorem dX12_isSmaller_44 : decode cX12_isSmaller 44 = .ok (.iload 6, 2) := by decide +kernel
theorem dX12_isSmaller_46 : decode cX12_isSmaller 46 = .ok (.iload 7, 2) := by decide +kernel
theorem dX12_isSmaller_48 : decode cX12_isSmaller 48 = .ok (.if_icmp .ge 7, 3) := by decide +kernel
theorem dX12_isSmaller_51 : decode cX12_isSmaller 51 = .ok (.iconst 1, 1) := by decide +kernel
theorem dX12_isSmaller_52 : decode cX12_isSmaller 52 = .ok (.goto 4, 3) := by decide +kernel
theorem dX12_isSmaller_55 : decode cX12_isSmaller 55 = .ok (.iconst 0, 1) := by decide +kernel
theorem dX12_isSmaller_56 : decode cX12_isSmaller 56 = .ok (.ireturn, 1) := by decide +kernel
theorem dX12_isSmaller_57 : decode cX12_isSmaller 57 = .ok (.iinc 5 1, 3) := by decide +kernel
theorem dX12_isSmaller_60 : decode cX12_isSmaller 60 = .ok (.goto (-57), 3) := by decide +kernel
theorem dX12_isSmaller_63 : decode cX12_isSmaller 63 = .ok (.iload_n 2, 1) := by decide +kernel
theorem dX12_isSmaller_64 : decode cX12_isSmaller 64 = .ok (.iload 4, 2) := by decide +kernel
theorem dX12_isSmaller_66 : decode cX12_isSmaller 66 = .ok (.if_icmp .ge 7, 3) := by decide +kernel
theorem dX12_isSmaller_69 : decode cX12_isSmaller 69 = .ok (.iconst 1, 1) := by decide +kernel
theorem dX12_isSmaller_70 : decode cX12_isSmaller 70 = .ok (.goto 4, 3) := by decide +kernel
theorem dX12_isSmaller_73 : decode cX12_isSmaller 73 = .ok (.iconst 0, 1) := by decide +kernel
theorem dX12_isSmaller_74 : decode cX12_isSmaller 74 = .ok (.ireturn, 1) := by decide +kernel
theorem dX12_lyndon_0 : decode cX12_lyndon 0 = .ok (.iconst 0, 1) := by decide +kernel
theorem dX12_lyndon_1 : decode cX12_lyndon 1 = .ok (.istore_n 1, 1) := by decide +kernel
theorem dX12_lyndon_2 : decode cX12_lyndon 2 = .ok (.iconst 1, 1) := by decide +kernel
theorem dX12_lyndon_3 : decode cX12_lyndon 3 = .ok (.istore_n 2, 1) := by decide +kernel
theorem dX12_lyndon_4 : decode cX12_lyndon 4 = .ok (.iload_n 2, 1) := by decide +kernel
theorem dX12_lyndon_5 : decode cX12_lyndon 5 = .ok (.aload_n 0, 1) := by decide +kernel
theorem dX12_lyndon_6 : decode cX12_lyndon 6 = .ok (.getfield 13, 3) := by decide +kernel
theorem dX12_lyndon_9 : decode cX12_lyndon 9 = .ok (.if_icmp .gt 139, 3) := by decide +kernel
theorem dX12_lyndon_12 : decode cX12_lyndon 12 = .ok (.iconst 0, 1) := by decide +kernel
theorem dX12_lyndon_13 : decode cX12_lyndon 13 = .ok (.istore_n 3, 1) := by decide +kernel
theorem dX12_lyndon_14 : decode cX12_lyndon 14 = .ok (.aload_n 0, 1) := by decide +kernel
theorem dX12_lyndon_15 : decode cX12_lyndon 15 = .ok (.getfield 13, 3) := by decide +kernel
theorem dX12_lyndon_18 : decode cX12_lyndon 18 = .ok (.iload_n 2, 1) := by decide +kernel
theorem dX12_lyndon_19 : decode cX12_lyndon 19 = .ok (.irem, 1) := by decide +kernel
theorem dX12_lyndon_20 : decode cX12_lyndon 20 = .ok (.ifCond .ne 122, 3) := by decide +kernel
theorem dX12_lyndon_23 : decode cX12_lyndon 23 = .ok (.iload_n 3, 1) := by decide +kernel
theorem dX12_lyndon_24 : decode cX12_lyndon 24 = .ok (.aload_n 0, 1) := by decide +kernel
theorem dX12_lyndon_25 : decode cX12_lyndon 25 = .ok (.getfield 7, 3) := by decide +kernel
theorem dX12_lyndon_28 : decode cX12_lyndon 28 = .ok (.iload_n 2, 1) := by decide +kernel
theorem dX12_lyndon_29 : decode cX12_lyndon 29 = .ok (.invokestatic 63, 3) := by decide +kernel
theorem dX12_lyndon_32 : decode cX12_lyndon 32 = .ok (.if_icmp .ge 110, 3) := by decide +kernel
theorem dX12_lyndon_35 : decode cX12_lyndon 35 = .ok (.aload_n 0, 1) := by decide +kernel
theorem dX12_lyndon_36 : decode cX12_lyndon 36 = .ok (.iload_n 3, 1) := by decide +kernel
theorem dX12_lyndon_37 : decode cX12_lyndon 37 = .ok (.iload_n 2, 1) := by decide +kernel
theorem dX12_lyndon_38 : decode cX12_lyndon 38 = .ok (.invokevirtual 119, 3) := by decide +kernel
theorem dX12_lyndon_41 : decode cX12_lyndon 41 = .ok (.ifCond .eq 95, 3) := by decide +kernel
theorem dX12_lyndon_44 : decode cX12_lyndon 44 = .ok (.iload_n 1, 1) := by decide +kernel
theorem dX12_lyndon_45 : decode cX12_lyndon 45 = .ok (.istore 4, 2) := by decide +kernel
theorem dX12_lyndon_47 : decode cX12_lyndon 47 = .ok (.iload 4, 2) := by decide +kernel
theorem dX12_lyndon_49 : decode cX12_lyndon 49 = .ok (.ifCond .le 68, 3) := by decide +kernel
theorem dX12_lyndon_52 : decode cX12_lyndon 52 = .ok (.aload_n 0, 1) := by decide +kernel
theorem dX12_lyndon_53 : decode cX12_lyndon 53 = .ok (.iload_n 3, 1) := by decide +kernel
theorem dX12_lyndon_54 : decode cX12_lyndon 54 = .ok (.iload_n 2, 1) := by decide +kernel
theorem dX12_lyndon_55 : decode cX12_lyndon 55 = .ok (.aload_n 0, 1) := by decide +kernel
theorem dX12_lyndon_56 : decode cX12_lyndon 56 = .ok (.getfield 39, 3) := by decide +kernel
theorem dX12_lyndon_59 : decode cX12_lyndon 59 = .ok (.iload 4, 2) := by decide +kernel
theorem dX12_lyndon_61 : decode cX12_lyndon 61 = .ok (.iconst 1, 1) := by decide +kernel
theorem dX12_lyndon_62 : decode cX12_lyndon 62 = .ok (.isub, 1) := by decide +kernel
theorem dX12_lyndon_63 : decode cX12_lyndon 63 = .ok (.iaload, 1) := by decide +kernel
theorem dX12_lyndon_64 : decode cX12_lyndon 64 = .ok (.aload_n 0, 1) := by decide +kernel
theorem dX12_lyndon_65 : decode cX12_lyndon 65 = .ok (.getfield 42, 3) := by decide +kernel
theorem dX12_lyndon_68 : decode cX12_lyndon 68 = .ok (.iload 4, 2) := by decide +kernel
theorem dX12_lyndon_70 : decode cX12_lyndon 70 = .ok (.iconst 1, 1) := by decide +kernel
theorem dX12_lyndon_71 : decode cX12_lyndon 71 = .ok (.isub, 1) := by decide +kernel
theorem dX12_lyndon_72 : decode cX12_lyndon 72 = .ok (.iaload, 1) := by decide +kernel
theorem dX12_lyndon_73 : decode cX12_lyndon 73 = .ok (.invokevirtual 123, 3) := by decide +kernel
theorem dX12_lyndon_76 : decode cX12_lyndon 76 = .ok (.ifCond .eq 41, 3) := by decide +kernel
theorem dX12_lyndon_79 : decode cX12_lyndon 79 = .ok (.aload_n 0, 1) := by decide +kernel
theorem dX12_lyndon_80 : decode cX12_lyndon 80 = .ok (.getfield 39, 3) := by decide +kernel
theorem dX12_lyndon_83 : decode cX12_lyndon 83 = .ok (.iload 4, 2) := by decide +kernel
theorem dX12_lyndon_85 : decode cX12_lyndon 85 = .ok (.aload_n 0, 1) := by decide +kernel
theorem dX12_lyndon_86 : decode cX12_lyndon 86 = .ok (.getfield 39, 3) := by decide +kernel
theorem dX12_lyndon_89 : decode cX12_lyndon 89 = .ok (.iload 4, 2) := by decide +kernel
theorem dX12_lyndon_91 : decode cX12_lyndon 91 = .ok (.iconst 1, 1) := by decide +kernel
theorem dX12_lyndon_92 : decode cX12_lyndon 92 = .ok (.isub, 1) := by decide +kernel
theorem dX12_lyndon_93 : decode cX12_lyndon 93 = .ok (.iaload, 1) := by decide +kernel
theorem dX12_lyndon_94 : decode cX12_lyndon 94 = .ok (.iastore, 1) := by decide +kernel
theorem dX12_lyndon_95 : decode cX12_lyndon 95 = .ok (.aload_n 0, 1) := by decide +kernel
theorem dX12_lyndon_96 : decode cX12_lyndon 96 = .ok (.getfield 42, 3) := by decide +kernel
theorem dX12_lyndon_99 : decode cX12_lyndon 99 = .ok (.iload 4, 2) := by decide +kernel
theorem dX12_lyndon_101 : decode cX12_lyndon 101 = .ok (.aload_n 0, 1) := by decide +kernel
theorem dX12_lyndon_102 : decode cX12_lyndon 102 = .ok (.getfield 42, 3) := by decide +kernel
theorem dX12_lyndon_105 : decode cX12_lyndon 105 = .ok (.iload 4, 2) := by decide +kernel
theorem dX12_lyndon_107 : decode cX12_lyndon 107 = .ok (.iconst 1, 1) := by decide +kernel
theorem dX12_lyndon_108 : decode cX12_lyndon 108 = .ok (.isub, 1) := by decide +kernel
theorem dX12_lyndon_109 : decode cX12_lyndon 109 = .ok (.iaload, 1) := by decide +kernel
theorem dX12_lyndon_110 : decode cX12_lyndon 110 = .ok (.iastore, 1) := by decide +kernel
theorem dX12_lyndon_111 : decode cX12_lyndon 111 = .ok (.iinc 4 (-1), 3) := by decide +kernel
theorem dX12_lyndon_114 : decode cX12_lyndon 114 = .ok (.goto (-67), 3) := by decide +kernel
theorem dX12_lyndon_117 : decode cX12_lyndon 117 = .ok (.aload_n 0, 1) := by decide +kernel
theorem dX12_lyndon_118 : decode cX12_lyndon 118 = .ok (.getfield 39, 3) := by decide +kernel
theorem dX12_lyndon_121 : decode cX12_lyndon 121 = .ok (.iload 4, 2) := by decide +kernel
theorem dX12_lyndon_123 : decode cX12_lyndon 123 = .ok (.iload_n 3, 1) := by decide +kernel
theorem dX12_lyndon_124 : decode cX12_lyndon 124 = .ok (.iastore, 1) := by decide +kernel
theorem dX12_lyndon_125 : decode cX12_lyndon 125 = .ok (.aload_n 0, 1) := by decide +kernel
theorem dX12_lyndon_126 : decode cX12_lyndon 126 = .ok (.getfield 42, 3) := by decide +kernel
theorem dX12_lyndon_129 : decode cX12_lyndon 129 = .ok (.iload 4, 2) := by decide +kernel
theorem dX12_lyndon_131 : decode cX12_lyndon 131 = .ok (.iload_n 2, 1) := by decide +kernel
theorem dX12_lyndon_132 : decode cX12_lyndon 132 = .ok (.iastore, 1) := by decide +kernel
theorem dX12_lyndon_133 : decode cX12_lyndon 133 = .ok (.iinc 1 1, 3) := by decide +kernel
theorem dX12_lyndon_136 : decode cX12_lyndon 136 = .ok (.iinc 3 1, 3) := by decide +kernel
theorem dX12_lyndon_139 : decode cX12_lyndon 139 = .ok (.goto (-125), 3) := by decide +kernel
theorem dX12_lyndon_142 : decode cX12_lyndon 142 = .ok (.iinc 2 1, 3) := by decide +kernel
theorem dX12_lyndon_145 : decode cX12_lyndon 145 = .ok (.goto (-141), 3) := by decide +kernel
theorem dX12_lyndon_148 : decode cX12_lyndon 148 = .ok (.iconst 0, 1) := by decide +kernel
theorem dX12_lyndon_149 : decode cX12_lyndon 149 = .ok (.istore_n 2, 1) := by decide +kernel
theorem dX12_lyndon_150 : decode cX12_lyndon 150 = .ok (.iload_n 2, 1) := by decide +kernel
theorem dX12_lyndon_151 : decode cX12_lyndon 151 = .ok (.iload_n 1, 1) := by decide +kernel
theorem dX12_lyndon_152 : decode cX12_lyndon 152 = .ok (.if_icmp .ge 48, 3) := by decide +kernel
theorem dX12_lyndon_155 : decode cX12_lyndon 155 = .ok (.iconst 0, 1) := by decide +kernel
theorem dX12_lyndon_156 : decode cX12_lyndon 156 = .ok (.istore_n 3, 1) := by decide +kernel
theorem dX12_lyndon_157 : decode cX12_lyndon 157 = .ok (.iload_n 3, 1) := by decide +kernel
theorem dX12_lyndon_158 : decode cX12_lyndon 158 = .ok (.aload_n 0, 1) := by decide +kernel
theorem dX12_lyndon_159 : decode cX12_lyndon 159 = .ok (.getfield 42, 3) := by decide +kernel
theorem dX12_lyndon_162 : decode cX12_lyndon 162 = .ok (.iload_n 2, 1) := by decide +kernel
theorem dX12_lyndon_163 : decode cX12_lyndon 163 = .ok (.iaload, 1) := by decide +kernel
theorem dX12_lyndon_164 : decode cX12_lyndon 164 = .ok (.if_icmp .ge 30, 3) := by decide +kernel
theorem dX12_lyndon_167 : decode cX12_lyndon 167 = .ok (.aload_n 0, 1) := by decide +kernel
theorem dX12_lyndon_168 : decode cX12_lyndon 168 = .ok (.aload_n 0, 1) := by decide +kernel
theorem dX12_lyndon_169 : decode cX12_lyndon 169 = .ok (.aload_n 0, 1) := by decide +kernel
theorem dX12_lyndon_170 : decode cX12_lyndon 170 = .ok (.getfield 39, 3) := by decide +kernel
theorem dX12_lyndon_173 : decode cX12_lyndon 173 = .ok (.iload_n 2, 1) := by decide +kernel
theorem dX12_lyndon_174 : decode cX12_lyndon 174 = .ok (.iaload, 1) := by decide +kernel
theorem dX12_lyndon_175 : decode cX12_lyndon 175 = .ok (.aload_n 0, 1) := by decide +kernel
theorem dX12_lyndon_176 : decode cX12_lyndon 176 = .ok (.getfield 42, 3) := by decide +kernel
theorem dX12_lyndon_179 : decode cX12_lyndon 179 = .ok (.iload_n 2, 1) := by decide +kernel
theorem dX12_lyndon_180 : decode cX12_lyndon 180 = .ok (.iaload, 1) := by decide +kernel
theorem dX12_lyndon_181 : decode cX12_lyndon 181 = .ok (.iload_n 3, 1) := by decide +kernel
theorem dX12_lyndon_182 : decode cX12_lyndon 182 = .ok (.invokevirtual 115, 3) := by decide +kernel
theorem dX12_lyndon_185 : decode cX12_lyndon 185 = .ok (.invokevirtual 111, 3) := by decide +kernel
theorem dX12_lyndon_188 : decode cX12_lyndon 188 = .ok (.iinc 3 1, 3) := by decide +kernel
theorem dX12_lyndon_191 : decode cX12_lyndon 191 = .ok (.goto (-34), 3) := by decide +kernel
theorem dX12_lyndon_194 : decode cX12_lyndon 194 = .ok (.iinc 2 1, 3) := by decide +kernel
theorem dX12_lyndon_197 : decode cX12_lyndon 197 = .ok (.goto (-47), 3) := by decide +kernel
theorem dX12_lyndon_200 : decode cX12_lyndon 200 = .ok (.return_, 1) := by decide +kernel
theorem dX12_successor_0 : decode cX12_successor 0 = .ok (.aload_n 0, 1) := by decide +kernel
theorem dX12_successor_1 : decode cX12_successor 1 = .ok (.getfield 7, 3) := by decide +kernel
theorem dX12_successor_4 : decode cX12_successor 4 = .ok (.aload_n 0, 1) := by decide +kernel
theorem dX12_successor_5 : decode cX12_successor 5 = .ok (.getfield 13, 3) := by decide +kernel
theorem dX12_successor_8 : decode cX12_successor 8 = .ok (.iconst 1, 1) := by decide +kernel
theorem dX12_successor_9 : decode cX12_successor 9 = .ok (.isub, 1) := by decide +kernel
theorem dX12_successor_10 : decode cX12_successor 10 = .ok (.invokestatic 63, 3) := by decide +kernel
theorem dX12_successor_13 : decode cX12_successor 13 = .ok (.istore_n 2, 1) := by decide +kernel
theorem dX12_successor_14 : decode cX12_successor 14 = .ok (.iload_n 1, 1) := by decide +kernel
theorem dX12_successor_15 : decode cX12_successor 15 = .ok (.iload_n 2, 1) := by decide +kernel
theorem dX12_successor_16 : decode cX12_successor 16 = .ok (.idiv, 1) := by decide +kernel
theorem dX12_successor_17 : decode cX12_successor 17 = .ok (.istore_n 3, 1) := by decide +kernel
theorem dX12_successor_18 : decode cX12_successor 18 = .ok (.iload_n 1, 1) := by decide +kernel
theorem dX12_successor_19 : decode cX12_successor 19 = .ok (.iload_n 2, 1) := by decide +kernel
theorem dX12_successor_20 : decode cX12_successor 20 = .ok (.irem, 1) := by decide +kernel
theorem dX12_successor_21 : decode cX12_successor 21 = .ok (.istore 4, 2) := by decide +kernel
theorem dX12_successor_23 : decode cX12_successor 23 = .ok (.iconst 1, 1) := by decide +kernel
theorem dX12_successor_24 : decode cX12_successor 24 = .ok (.istore 5, 2) := by decide +kernel
theorem dX12_successor_26 : decode cX12_successor 26 = .ok (.iload 5, 2) := by decide +kernel
theorem dX12_successor_28 : decode cX12_successor 28 = .ok (.aload_n 0, 1) := by decide +kernel
theorem dX12_successor_29 : decode cX12_successor 29 = .ok (.getfield 7, 3) := by decide +kernel
theorem dX12_successor_32 : decode cX12_successor 32 = .ok (.if_icmp .ge 40, 3) := by decide +kernel
theorem dX12_successor_35 : decode cX12_successor 35 = .ok (.aload_n 0, 1) := by decide +kernel
theorem dX12_successor_36 : decode cX12_successor 36 = .ok (.iload 4, 2) := by decide +kernel
theorem dX12_successor_38 : decode cX12_successor 38 = .ok (.aload_n 0, 1) := by decide +kernel
theorem dX12_successor_39 : decode cX12_successor 39 = .ok (.getfield 7, 3) := by decide +kernel
theorem dX12_successor_42 : decode cX12_successor 42 = .ok (.imul, 1) := by decide +kernel
theorem dX12_successor_43 : decode cX12_successor 43 = .ok (.iload 5, 2) := by decide +kernel
theorem dX12_successor_45 : decode cX12_successor 45 = .ok (.iadd, 1) := by decide +kernel
theorem dX12_successor_46 : decode cX12_successor 46 = .ok (.aload_n 0, 1) := by decide +kernel
theorem dX12_successor_47 : decode cX12_successor 47 = .ok (.getfield 13, 3) := by decide +kernel
theorem dX12_successor_50 : decode cX12_successor 50 = .ok (.invokevirtual 105, 3) := by decide +kernel
theorem dX12_successor_53 : decode cX12_successor 53 = .ok (.iload 4, 2) := by decide +kernel
theorem dX12_successor_55 : decode cX12_successor 55 = .ok (.aload_n 0, 1) := by decide +kernel
theorem dX12_successor_56 : decode cX12_successor 56 = .ok (.getfield 7, 3) := by decide +kernel
theorem dX12_successor_59 : decode cX12_successor 59 = .ok (.imul, 1) := by decide +kernel
theorem dX12_successor_60 : decode cX12_successor 60 = .ok (.iload 5, 2) := by decide +kernel
theorem dX12_successor_62 : decode cX12_successor 62 = .ok (.iadd, 1) := by decide +kernel
theorem dX12_successor_63 : decode cX12_successor 63 = .ok (.if_icmp .eq 9, 3) := by decide +kernel
theorem dX12_successor_66 : decode cX12_successor 66 = .ok (.iinc 5 1, 3) := by decide +kernel
theorem dX12_successor_69 : decode cX12_successor 69 = .ok (.goto (-43), 3) := by decide +kernel
theorem dX12_successor_72 : decode cX12_successor 72 = .ok (.iload 5, 2) := by decide +kernel
theorem dX12_successor_74 : decode cX12_successor 74 = .ok (.aload_n 0, 1) := by decide +kernel
theorem dX12_successor_75 : decode cX12_successor 75 = .ok (.getfield 7, 3) := by decide +kernel
theorem dX12_successor_78 : decode cX12_successor 78 = .ok (.if_icmp .eq 11, 3) := by decide +kernel
theorem dX12_successor_81 : decode cX12_successor 81 = .ok (.iload_n 3, 1) := by decide +kernel
theorem dX12_successor_82 : decode cX12_successor 82 = .ok (.iload 5, 2) := by decide +kernel
theorem dX12_successor_84 : decode cX12_successor 84 = .ok (.iconst 1, 1) := by decide +kernel
theorem dX12_successor_85 : decode cX12_successor 85 = .ok (.isub, 1) := by decide +kernel
theorem dX12_successor_86 : decode cX12_successor 86 = .ok (.if_icmp .ge 5, 3) := by decide +kernel
theorem dX12_successor_89 : decode cX12_successor 89 = .ok (.iload_n 3, 1) := by decide +kernel
theorem dX12_successor_90 : decode cX12_successor 90 = .ok (.ireturn, 1) := by decide +kernel
theorem dX12_successor_91 : decode cX12_successor 91 = .ok (.iload_n 3, 1) := by decide +kernel
theorem dX12_successor_92 : decode cX12_successor 92 = .ok (.aload_n 0, 1) := by decide +kernel
theorem dX12_successor_93 : decode cX12_successor 93 = .ok (.getfield 7, 3) := by decide +kernel
theorem dX12_successor_96 : decode cX12_successor 96 = .ok (.iconst 1, 1) := by decide +kernel
theorem dX12_successor_97 : decode cX12_successor 97 = .ok (.isub, 1) := by decide +kernel
theorem dX12_successor_98 : decode cX12_successor 98 = .ok (.if_icmp .ne 10, 3) := by decide +kernel
theorem dX12_successor_101 : decode cX12_successor 101 = .ok (.iload 5, 2) := by decide +kernel
theorem dX12_successor_103 : decode cX12_successor 103 = .ok (.iconst 1, 1) := by decide +kernel
theorem dX12_successor_104 : decode cX12_successor 104 = .ok (.isub, 1) := by decide +kernel
theorem dX12_successor_105 : decode cX12_successor 105 = .ok (.goto 6, 3) := by decide +kernel
theorem dX12_successor_108 : decode cX12_successor 108 = .ok (.iload_n 3, 1) := by decide +kernel
theorem dX12_successor_109 : decode cX12_successor 109 = .ok (.iconst 1, 1) := by decide +kernel
theorem dX12_successor_110 : decode cX12_successor 110 = .ok (.iadd, 1) := by decide +kernel
theorem dX12_successor_111 : decode cX12_successor 111 = .ok (.ireturn, 1) := by decide +kernel
theorem dX12_next_0 : decode cX12_next 0 = .ok (.iload_n 1, 1) := by decide +kernel
theorem dX12_next_1 : decode cX12_next 1 = .ok (.aload_n 0, 1) := by decide +kernel
theorem dX12_next_2 : decode cX12_next 2 = .ok (.getfield 7, 3) := by decide +kernel
theorem dX12_next_5 : decode cX12_next 5 = .ok (.aload_n 0, 1) := by decide +kernel
theorem dX12_next_6 : decode cX12_next 6 = .ok (.getfield 13, 3) := by decide +kernel
theorem dX12_next_9 : decode cX12_next 9 = .ok (.iconst 1, 1) := by decide +kernel
theorem dX12_next_10 : decode cX12_next 10 = .ok (.isub, 1) := by decide +kernel
theorem dX12_next_11 : decode cX12_next 11 = .ok (.invokestatic 63, 3) := by decide +kernel
theorem dX12_next_14 : decode cX12_next 14 = .ok (.irem, 1) := by decide +kernel
theorem dX12_next_15 : decode cX12_next 15 = .ok (.aload_n 0, 1) := by decide +kernel
theorem dX12_next_16 : decode cX12_next 16 = .ok (.getfield 7, 3) := by decide +kernel
theorem dX12_next_19 : decode cX12_next 19 = .ok (.imul, 1) := by decide +kernel
theorem dX12_next_20 : decode cX12_next 20 = .ok (.aload_n 0, 1) := by decide +kernel
theorem dX12_next_21 : decode cX12_next 21 = .ok (.iload_n 1, 1) := by decide +kernel
theorem dX12_next_22 : decode cX12_next 22 = .ok (.invokevirtual 127, 3) := by decide +kernel
theorem dX12_next_25 : decode cX12_next 25 = .ok (.iadd, 1) := by decide +kernel
theorem dX12_next_26 : decode cX12_next 26 = .ok (.ireturn, 1) := by decide +kernel
theorem dX12_byNecklaces_0 : decode cX12_byNecklaces 0 = .ok (.iconst 0, 1) := by decide +kernel
theorem dX12_byNecklaces_1 : decode cX12_byNecklaces 1 = .ok (.istore_n 1, 1) := by decide +kernel
theorem dX12_byNecklaces_2 : decode cX12_byNecklaces 2 = .ok (.iconst 0, 1) := by decide +kernel
theorem dX12_byNecklaces_3 : decode cX12_byNecklaces 3 = .ok (.istore_n 2, 1) := by decide +kernel
theorem dX12_byNecklaces_4 : decode cX12_byNecklaces 4 = .ok (.iload_n 2, 1) := by decide +kernel
theorem dX12_byNecklaces_5 : decode cX12_byNecklaces 5 = .ok (.aload_n 0, 1) := by decide +kernel
theorem dX12_byNecklaces_6 : decode cX12_byNecklaces 6 = .ok (.invokevirtual 67, 3) := by decide +kernel
theorem dX12_byNecklaces_9 : decode cX12_byNecklaces 9 = .ok (.if_icmp .ge 24, 3) := by decide +kernel
theorem dX12_byNecklaces_12 : decode cX12_byNecklaces 12 = .ok (.aload_n 0, 1) := by decide +kernel
theorem dX12_byNecklaces_13 : decode cX12_byNecklaces 13 = .ok (.aload_n 0, 1) := by decide +kernel
theorem dX12_byNecklaces_14 : decode cX12_byNecklaces 14 = .ok (.iload_n 1, 1) := by decide +kernel
theorem dX12_byNecklaces_15 : decode cX12_byNecklaces 15 = .ok (.invokevirtual 127, 3) := by decide +kernel
theorem dX12_byNecklaces_18 : decode cX12_byNecklaces 18 = .ok (.invokevirtual 111, 3) := by decide +kernel
theorem dX12_byNecklaces_21 : decode cX12_byNecklaces 21 = .ok (.aload_n 0, 1) := by decide +kernel
theorem dX12_byNecklaces_22 : decode cX12_byNecklaces 22 = .ok (.iload_n 1, 1) := by decide +kernel
theorem dX12_byNecklaces_23 : decode cX12_byNecklaces 23 = .ok (.invokevirtual 131, 3) := by decide +kernel
theorem dX12_byNecklaces_26 : decode cX12_byNecklaces 26 = .ok (.istore_n 1, 1) := by decide +kernel
theorem dX12_byNecklaces_27 : decode cX12_byNecklaces 27 = .ok (.iinc 2 1, 3) := by decide +kernel
theorem dX12_byNecklaces_30 : decode cX12_byNecklaces 30 = .ok (.goto (-26), 3) := by decide +kernel
theorem dX12_byNecklaces_33 : decode cX12_byNecklaces 33 = .ok (.return_, 1) := by decide +kernel
theorem dX12_isOnCycleOf_0 : decode cX12_isOnCycleOf 0 = .ok (.aload_n 0, 1) := by decide +kernel
theorem dX12_isOnCycleOf_1 : decode cX12_isOnCycleOf 1 = .ok (.getfield 45, 3) := by decide +kernel
theorem dX12_isOnCycleOf_4 : decode cX12_isOnCycleOf 4 = .ok (.iload_n 1, 1) := by decide +kernel
theorem dX12_isOnCycleOf_5 : decode cX12_isOnCycleOf 5 = .ok (.iaload, 1) := by decide +kernel
theorem dX12_isOnCycleOf_6 : decode cX12_isOnCycleOf 6 = .ok (.istore_n 3, 1) := by decide +kernel
theorem dX12_isOnCycleOf_7 : decode cX12_isOnCycleOf 7 = .ok (.iload_n 3, 1) := by decide +kernel
theorem dX12_isOnCycleOf_8 : decode cX12_isOnCycleOf 8 = .ok (.iload_n 1, 1) := by decide +kernel
theorem dX12_isOnCycleOf_9 : decode cX12_isOnCycleOf 9 = .ok (.if_icmp .eq 18, 3) := by decide +kernel
theorem dX12_isOnCycleOf_12 : decode cX12_isOnCycleOf 12 = .ok (.iload_n 3, 1) := by decide +kernel
theorem dX12_isOnCycleOf_13 : decode cX12_isOnCycleOf 13 = .ok (.iload_n 2, 1) := by decide +kernel
theorem dX12_isOnCycleOf_14 : decode cX12_isOnCycleOf 14 = .ok (.if_icmp .eq 13, 3) := by decide +kernel
theorem dX12_isOnCycleOf_17 : decode cX12_isOnCycleOf 17 = .ok (.aload_n 0, 1) := by decide +kernel
theorem dX12_isOnCycleOf_18 : decode cX12_isOnCycleOf 18 = .ok (.getfield 45, 3) := by decide +kernel
theorem dX12_isOnCycleOf_21 : decode cX12_isOnCycleOf 21 = .ok (.iload_n 3, 1) := by decide +kernel
theorem dX12_isOnCycleOf_22 : decode cX12_isOnCycleOf 22 = .ok (.iaload, 1) := by decide +kernel
theorem dX12_isOnCycleOf_23 : decode cX12_isOnCycleOf 23 = .ok (.istore_n 3, 1) := by decide +kernel
theorem dX12_isOnCycleOf_24 : decode cX12_isOnCycleOf 24 = .ok (.goto (-17), 3) := by decide +kernel
theorem dX12_isOnCycleOf_27 : decode cX12_isOnCycleOf 27 = .ok (.iload_n 3, 1) := by decide +kernel
theorem dX12_isOnCycleOf_28 : decode cX12_isOnCycleOf 28 = .ok (.iload_n 2, 1) := by decide +kernel
theorem dX12_isOnCycleOf_29 : decode cX12_isOnCycleOf 29 = .ok (.if_icmp .ne 7, 3) := by decide +kernel
theorem dX12_isOnCycleOf_32 : decode cX12_isOnCycleOf 32 = .ok (.iconst 1, 1) := by decide +kernel
theorem dX12_isOnCycleOf_33 : decode cX12_isOnCycleOf 33 = .ok (.goto 4, 3) := by decide +kernel
theorem dX12_isOnCycleOf_36 : decode cX12_isOnCycleOf 36 = .ok (.iconst 0, 1) := by decide +kernel
theorem dX12_isOnCycleOf_37 : decode cX12_isOnCycleOf 37 = .ok (.ireturn, 1) := by decide +kernel
theorem dX12_joined_0 : decode cX12_joined 0 = .ok (.iconst 0, 1) := by decide +kernel
theorem dX12_joined_1 : decode cX12_joined 1 = .ok (.istore_n 2, 1) := by decide +kernel
theorem dX12_joined_2 : decode cX12_joined 2 = .ok (.iload_n 2, 1) := by decide +kernel
theorem dX12_joined_3 : decode cX12_joined 3 = .ok (.aload_n 0, 1) := by decide +kernel
theorem dX12_joined_4 : decode cX12_joined 4 = .ok (.invokevirtual 67, 3) := by decide +kernel
theorem dX12_joined_7 : decode cX12_joined 7 = .ok (.if_icmp .ge 24, 3) := by decide +kernel
theorem dX12_joined_10 : decode cX12_joined 10 = .ok (.aload_n 0, 1) := by decide +kernel
theorem dX12_joined_11 : decode cX12_joined 11 = .ok (.getfield 45, 3) := by decide +kernel
theorem dX12_joined_14 : decode cX12_joined 14 = .ok (.iload_n 2, 1) := by decide +kernel
theorem dX12_joined_15 : decode cX12_joined 15 = .ok (.aload_n 0, 1) := by decide +kernel
theorem dX12_joined_16 : decode cX12_joined 16 = .ok (.iload_n 2, 1) := by decide +kernel
theorem dX12_joined_17 : decode cX12_joined 17 = .ok (.aload_n 0, 1) := by decide +kernel
theorem dX12_joined_18 : decode cX12_joined 18 = .ok (.getfield 13, 3) := by decide +kernel
theorem dX12_joined_21 : decode cX12_joined 21 = .ok (.invokevirtual 97, 3) := by decide +kernel
theorem dX12_joined_24 : decode cX12_joined 24 = .ok (.iastore, 1) := by decide +kernel
theorem dX12_joined_25 : decode cX12_joined 25 = .ok (.iinc 2 1, 3) := by decide +kernel
theorem dX12_joined_28 : decode cX12_joined 28 = .ok (.goto (-26), 3) := by decide +kernel
theorem dX12_joined_31 : decode cX12_joined 31 = .ok (.aload_n 0, 1) := by decide +kernel
theorem dX12_joined_32 : decode cX12_joined 32 = .ok (.getfield 7, 3) := by decide +kernel
theorem dX12_joined_35 : decode cX12_joined 35 = .ok (.aload_n 0, 1) := by decide +kernel
theorem dX12_joined_36 : decode cX12_joined 36 = .ok (.getfield 13, 3) := by decide +kernel
theorem dX12_joined_39 : decode cX12_joined 39 = .ok (.iconst 1, 1) := by decide +kernel
theorem dX12_joined_40 : decode cX12_joined 40 = .ok (.isub, 1) := by decide +kernel
theorem dX12_joined_41 : decode cX12_joined 41 = .ok (.invokestatic 63, 3) := by decide +kernel
theorem dX12_joined_44 : decode cX12_joined 44 = .ok (.istore_n 2, 1) := by decide +kernel
theorem dX12_joined_45 : decode cX12_joined 45 = .ok (.iconst 0, 1) := by decide +kernel
theorem dX12_joined_46 : decode cX12_joined 46 = .ok (.istore_n 3, 1) := by decide +kernel
theorem dX12_joined_47 : decode cX12_joined 47 = .ok (.iload_n 3, 1) := by decide +kernel
theorem dX12_joined_48 : decode cX12_joined 48 = .ok (.iload_n 2, 1) := by decide +kernel
theorem dX12_joined_49 : decode cX12_joined 49 = .ok (.if_icmp .ge 94, 3) := by decide +kernel
theorem dX12_joined_52 : decode cX12_joined 52 = .ok (.iload_n 1, 1) := by decide +kernel
theorem dX12_joined_53 : decode cX12_joined 53 = .ok (.iload_n 3, 1) := by decide +kernel
theorem dX12_joined_54 : decode cX12_joined 54 = .ok (.iadd, 1) := by decide +kernel
theorem dX12_joined_55 : decode cX12_joined 55 = .ok (.iload_n 2, 1) := by decide +kernel
theorem dX12_joined_56 : decode cX12_joined 56 = .ok (.irem, 1) := by decide +kernel
theorem dX12_joined_57 : decode cX12_joined 57 = .ok (.istore 4, 2) := by decide +kernel
theorem dX12_joined_59 : decode cX12_joined 59 = .ok (.iconst 0, 1) := by decide +kernel
theorem dX12_joined_60 : decode cX12_joined 60 = .ok (.istore 5, 2) := by decide +kernel
theorem dX12_joined_62 : decode cX12_joined 62 = .ok (.iload 5, 2) := by decide +kernel
theorem dX12_joined_64 : decode cX12_joined 64 = .ok (.aload_n 0, 1) := by decide +kernel
theorem dX12_joined_65 : decode cX12_joined 65 = .ok (.getfield 7, 3) := by decide +kernel
theorem dX12_joined_68 : decode cX12_joined 68 = .ok (.iconst 1, 1) := by decide +kernel
theorem dX12_joined_69 : decode cX12_joined 69 = .ok (.isub, 1) := by decide +kernel
theorem dX12_joined_70 : decode cX12_joined 70 = .ok (.if_icmp .ge 67, 3) := by decide +kernel
theorem dX12_joined_73 : decode cX12_joined 73 = .ok (.iload 5, 2) := by decide +kernel
theorem dX12_joined_75 : decode cX12_joined 75 = .ok (.iload_n 2, 1) := by decide +kernel
theorem dX12_joined_76 : decode cX12_joined 76 = .ok (.imul, 1) := by decide +kernel
theorem dX12_joined_77 : decode cX12_joined 77 = .ok (.iload 4, 2) := by decide +kernel
theorem dX12_joined_79 : decode cX12_joined 79 = .ok (.iadd, 1) := by decide +kernel
theorem dX12_joined_80 : decode cX12_joined 80 = .ok (.istore 6, 2) := by decide +kernel
theorem dX12_joined_82 : decode cX12_joined 82 = .ok (.iload 6, 2) := by decide +kernel
theorem dX12_joined_84 : decode cX12_joined 84 = .ok (.iload_n 2, 1) := by decide +kernel
theorem dX12_joined_85 : decode cX12_joined 85 = .ok (.iadd, 1) := by decide +kernel
theorem dX12_joined_86 : decode cX12_joined 86 = .ok (.istore 7, 2) := by decide +kernel
theorem dX12_joined_88 : decode cX12_joined 88 = .ok (.aload_n 0, 1) := by decide +kernel
theorem dX12_joined_89 : decode cX12_joined 89 = .ok (.iload 6, 2) := by decide +kernel
theorem dX12_joined_91 : decode cX12_joined 91 = .ok (.iload 7, 2) := by decide +kernel
theorem dX12_joined_93 : decode cX12_joined 93 = .ok (.invokevirtual 134, 3) := by decide +kernel
theorem dX12_joined_96 : decode cX12_joined 96 = .ok (.ifCond .ne 35, 3) := by decide +kernel
theorem dX12_joined_99 : decode cX12_joined 99 = .ok (.aload_n 0, 1) := by decide +kernel
theorem dX12_joined_100 : decode cX12_joined 100 = .ok (.getfield 45, 3) := by decide +kernel
theorem dX12_joined_103 : decode cX12_joined 103 = .ok (.iload 6, 2) := by decide +kernel
theorem dX12_joined_105 : decode cX12_joined 105 = .ok (.iaload, 1) := by decide +kernel
theorem dX12_joined_106 : decode cX12_joined 106 = .ok (.istore 8, 2) := by decide +kernel
theorem dX12_joined_108 : decode cX12_joined 108 = .ok (.aload_n 0, 1) := by decide +kernel
theorem dX12_joined_109 : decode cX12_joined 109 = .ok (.getfield 45, 3) := by decide +kernel
theorem dX12_joined_112 : decode cX12_joined 112 = .ok (.iload 6, 2) := by decide +kernel
theorem dX12_joined_114 : decode cX12_joined 114 = .ok (.aload_n 0, 1) := by decide +kernel
theorem dX12_joined_115 : decode cX12_joined 115 = .ok (.getfield 45, 3) := by decide +kernel
theorem dX12_joined_118 : decode cX12_joined 118 = .ok (.iload 7, 2) := by decide +kernel
theorem dX12_joined_120 : decode cX12_joined 120 = .ok (.iaload, 1) := by decide +kernel
theorem dX12_joined_121 : decode cX12_joined 121 = .ok (.iastore, 1) := by decide +kernel
theorem dX12_joined_122 : decode cX12_joined 122 = .ok (.aload_n 0, 1) := by decide +kernel
theorem dX12_joined_123 : decode cX12_joined 123 = .ok (.getfield 45, 3) := by decide +kernel
theorem dX12_joined_126 : decode cX12_joined 126 = .ok (.iload 7, 2) := by decide +kernel
theorem dX12_joined_128 : decode cX12_joined 128 = .ok (.iload 8, 2) := by decide +kernel
theorem dX12_joined_130 : decode cX12_joined 130 = .ok (.iastore, 1) := by decide +kernel
theorem dX12_joined_131 : decode cX12_joined 131 = .ok (.iinc 5 1, 3) := by decide +kernel
theorem dX12_joined_134 : decode cX12_joined 134 = .ok (.goto (-72), 3) := by decide +kernel
theorem dX12_joined_137 : decode cX12_joined 137 = .ok (.iinc 3 1, 3) := by decide +kernel
theorem dX12_joined_140 : decode cX12_joined 140 = .ok (.goto (-93), 3) := by decide +kernel
theorem dX12_joined_143 : decode cX12_joined 143 = .ok (.iconst 0, 1) := by decide +kernel
theorem dX12_joined_144 : decode cX12_joined 144 = .ok (.istore_n 3, 1) := by decide +kernel
theorem dX12_joined_145 : decode cX12_joined 145 = .ok (.iconst 0, 1) := by decide +kernel
theorem dX12_joined_146 : decode cX12_joined 146 = .ok (.istore 4, 2) := by decide +kernel
theorem dX12_joined_148 : decode cX12_joined 148 = .ok (.iload 4, 2) := by decide +kernel
theorem dX12_joined_150 : decode cX12_joined 150 = .ok (.aload_n 0, 1) := by decide +kernel
theorem dX12_joined_151 : decode cX12_joined 151 = .ok (.invokevirtual 67, 3) := by decide +kernel
theorem dX12_joined_154 : decode cX12_joined 154 = .ok (.if_icmp .ge 23, 3) := by decide +kernel
theorem dX12_joined_157 : decode cX12_joined 157 = .ok (.aload_n 0, 1) := by decide +kernel
theorem dX12_joined_158 : decode cX12_joined 158 = .ok (.iload_n 3, 1) := by decide +kernel
theorem dX12_joined_159 : decode cX12_joined 159 = .ok (.iload_n 2, 1) := by decide +kernel
theorem dX12_joined_160 : decode cX12_joined 160 = .ok (.idiv, 1) := by decide +kernel
theorem dX12_joined_161 : decode cX12_joined 161 = .ok (.invokevirtual 111, 3) := by decide +kernel
theorem dX12_joined_164 : decode cX12_joined 164 = .ok (.aload_n 0, 1) := by decide +kernel
theorem dX12_joined_165 : decode cX12_joined 165 = .ok (.getfield 45, 3) := by decide +kernel
theorem dX12_joined_168 : decode cX12_joined 168 = .ok (.iload_n 3, 1) := by decide +kernel
theorem dX12_joined_169 : decode cX12_joined 169 = .ok (.iaload, 1) := by decide +kernel
theorem dX12_joined_170 : decode cX12_joined 170 = .ok (.istore_n 3, 1) := by decide +kernel
theorem dX12_joined_171 : decode cX12_joined 171 = .ok (.iinc 4 1, 3) := by decide +kernel
theorem dX12_joined_174 : decode cX12_joined 174 = .ok (.goto (-26), 3) := by decide +kernel
theorem dX12_joined_177 : decode cX12_joined 177 = .ok (.return_, 1) := by decide +kernel
theorem dX12_construct_0 : decode cX12_construct 0 = .ok (.iload_n 1, 1) := by decide +kernel
theorem dX12_construct_1 : decode cX12_construct 1 = .ok (.iconst 0, 1) := by decide +kernel
theorem dX12_construct_2 : decode cX12_construct 2 = .ok (.iconst 3, 1) := by decide +kernel
theorem dX12_construct_3 : decode cX12_construct 3 = .ok (.invokestatic 71, 3) := by decide +kernel
theorem dX12_construct_6 : decode cX12_construct 6 = .ok (.ifCond .eq 31, 3) := by decide +kernel
theorem dX12_construct_9 : decode cX12_construct 9 = .ok (.iload_n 1, 1) := by decide +kernel
theorem dX12_construct_10 : decode cX12_construct 10 = .ok (.iconst 3, 1) := by decide +kernel
theorem dX12_construct_11 : decode cX12_construct 11 = .ok (.if_icmp .ne 28, 3) := by decide +kernel
theorem dX12_construct_14 : decode cX12_construct 14 = .ok (.iload_n 2, 1) := by decide +kernel
theorem dX12_construct_15 : decode cX12_construct 15 = .ok (.iconst 0, 1) := by decide +kernel
theorem dX12_construct_16 : decode cX12_construct 16 = .ok (.aload_n 0, 1) := by decide +kernel
theorem dX12_construct_17 : decode cX12_construct 17 = .ok (.getfield 7, 3) := by decide +kernel
theorem dX12_construct_20 : decode cX12_construct 20 = .ok (.aload_n 0, 1) := by decide +kernel
theorem dX12_construct_21 : decode cX12_construct 21 = .ok (.getfield 13, 3) := by decide +kernel
theorem dX12_construct_24 : decode cX12_construct 24 = .ok (.iconst 1, 1) := by decide +kernel
theorem dX12_construct_25 : decode cX12_construct 25 = .ok (.isub, 1) := by decide +kernel
theorem dX12_construct_26 : decode cX12_construct 26 = .ok (.invokestatic 63, 3) := by decide +kernel
theorem dX12_construct_29 : decode cX12_construct 29 = .ok (.iconst 1, 1) := by decide +kernel
theorem dX12_construct_30 : decode cX12_construct 30 = .ok (.isub, 1) := by decide +kernel
theorem dX12_construct_31 : decode cX12_construct 31 = .ok (.invokestatic 71, 3) := by decide +kernel
theorem dX12_construct_34 : decode cX12_construct 34 = .ok (.ifCond .ne 5, 3) := by decide +kernel
theorem dX12_construct_37 : decode cX12_construct 37 = .ok (.iconst (-1), 1) := by decide +kernel
theorem dX12_construct_38 : decode cX12_construct 38 = .ok (.ireturn, 1) := by decide +kernel
theorem dX12_construct_39 : decode cX12_construct 39 = .ok (.aload_n 0, 1) := by decide +kernel
theorem dX12_construct_40 : decode cX12_construct 40 = .ok (.iconst 0, 1) := by decide +kernel
theorem dX12_construct_41 : decode cX12_construct 41 = .ok (.putfield 94, 3) := by decide +kernel
theorem dX12_construct_44 : decode cX12_construct 44 = .ok (.iload_n 1, 1) := by decide +kernel
theorem dX12_construct_45 : decode cX12_construct 45 = .ok (.tableswitch 48 0 2 #[27, 34, 41], 27) := by decide +kernel
theorem dX12_construct_72 : decode cX12_construct 72 = .ok (.aload_n 0, 1) := by decide +kernel
theorem dX12_construct_73 : decode cX12_construct 73 = .ok (.invokevirtual 137, 3) := by decide +kernel
theorem dX12_construct_76 : decode cX12_construct 76 = .ok (.goto 22, 3) := by decide +kernel
theorem dX12_construct_79 : decode cX12_construct 79 = .ok (.aload_n 0, 1) := by decide +kernel
theorem dX12_construct_80 : decode cX12_construct 80 = .ok (.invokevirtual 140, 3) := by decide +kernel
theorem dX12_construct_83 : decode cX12_construct 83 = .ok (.goto 15, 3) := by decide +kernel
theorem dX12_construct_86 : decode cX12_construct 86 = .ok (.aload_n 0, 1) := by decide +kernel
theorem dX12_construct_87 : decode cX12_construct 87 = .ok (.invokevirtual 143, 3) := by decide +kernel
theorem dX12_construct_90 : decode cX12_construct 90 = .ok (.goto 8, 3) := by decide +kernel
theorem dX12_construct_93 : decode cX12_construct 93 = .ok (.aload_n 0, 1) := by decide +kernel
theorem dX12_construct_94 : decode cX12_construct 94 = .ok (.iload_n 2, 1) := by decide +kernel
theorem dX12_construct_95 : decode cX12_construct 95 = .ok (.invokevirtual 146, 3) := by decide +kernel
theorem dX12_construct_98 : decode cX12_construct 98 = .ok (.aload_n 0, 1) := by decide +kernel
theorem dX12_construct_99 : decode cX12_construct 99 = .ok (.invokevirtual 149, 3) := by decide +kernel
theorem dX12_construct_102 : decode cX12_construct 102 = .ok (.aload_n 0, 1) := by decide +kernel
theorem dX12_construct_103 : decode cX12_construct 103 = .ok (.getfield 75, 3) := by decide +kernel
theorem dX12_construct_106 : decode cX12_construct 106 = .ok (.ireturn, 1) := by decide +kernel
theorem dX12_appendCommand_0 : decode cX12_appendCommand 0 = .ok (.iload_n 1, 1) := by decide +kernel
theorem dX12_appendCommand_1 : decode cX12_appendCommand 1 = .ok (.bipush 33, 2) := by decide +kernel
theorem dX12_appendCommand_3 : decode cX12_appendCommand 3 = .ok (.bipush 126, 2) := by decide +kernel
theorem dX12_appendCommand_5 : decode cX12_appendCommand 5 = .ok (.invokestatic 71, 3) := by decide +kernel
theorem dX12_appendCommand_8 : decode cX12_appendCommand 8 = .ok (.ifCond .ne 5, 3) := by decide +kernel
theorem dX12_appendCommand_11 : decode cX12_appendCommand 11 = .ok (.iconst (-1), 1) := by decide +kernel
theorem dX12_appendCommand_12 : decode cX12_appendCommand 12 = .ok (.ireturn, 1) := by decide +kernel
theorem dX12_appendCommand_13 : decode cX12_appendCommand 13 = .ok (.aload_n 0, 1) := by decide +kernel
theorem dX12_appendCommand_14 : decode cX12_appendCommand 14 = .ok (.getfield 152, 3) := by decide +kernel
theorem dX12_appendCommand_17 : decode cX12_appendCommand 17 = .ok (.bipush 20, 2) := by decide +kernel
theorem dX12_appendCommand_19 : decode cX12_appendCommand 19 = .ok (.if_icmp .ne 6, 3) := by decide +kernel
theorem dX12_appendCommand_22 : decode cX12_appendCommand 22 = .ok (.bipush (-4), 2) := by decide +kernel
theorem dX12_appendCommand_24 : decode cX12_appendCommand 24 = .ok (.ireturn, 1) := by decide +kernel
theorem dX12_appendCommand_25 : decode cX12_appendCommand 25 = .ok (.aload_n 0, 1) := by decide +kernel
theorem dX12_appendCommand_26 : decode cX12_appendCommand 26 = .ok (.getfield 26, 3) := by decide +kernel
theorem dX12_appendCommand_29 : decode cX12_appendCommand 29 = .ok (.aload_n 0, 1) := by decide +kernel
theorem dX12_appendCommand_30 : decode cX12_appendCommand 30 = .ok (.getfield 152, 3) := by decide +kernel
theorem dX12_appendCommand_33 : decode cX12_appendCommand 33 = .ok (.iload_n 1, 1) := by decide +kernel
theorem dX12_appendCommand_34 : decode cX12_appendCommand 34 = .ok (.iastore, 1) := by decide +kernel
theorem dX12_appendCommand_35 : decode cX12_appendCommand 35 = .ok (.aload_n 0, 1) := by decide +kernel
theorem dX12_appendCommand_36 : decode cX12_appendCommand 36 = .ok (.dup, 1) := by decide +kernel
theorem dX12_appendCommand_37 : decode cX12_appendCommand 37 = .ok (.getfield 152, 3) := by decide +kernel
theorem dX12_appendCommand_40 : decode cX12_appendCommand 40 = .ok (.iconst 1, 1) := by decide +kernel
theorem dX12_appendCommand_41 : decode cX12_appendCommand 41 = .ok (.iadd, 1) := by decide +kernel
theorem dX12_appendCommand_42 : decode cX12_appendCommand 42 = .ok (.putfield 152, 3) := by decide +kernel
theorem dX12_appendCommand_45 : decode cX12_appendCommand 45 = .ok (.aload_n 0, 1) := by decide +kernel
theorem dX12_appendCommand_46 : decode cX12_appendCommand 46 = .ok (.getfield 152, 3) := by decide +kernel
theorem dX12_appendCommand_49 : decode cX12_appendCommand 49 = .ok (.ireturn, 1) := by decide +kernel
theorem dX12_begins_0 : decode cX12_begins 0 = .ok (.aload_n 1, 1) := by decide +kernel
theorem dX12_begins_1 : decode cX12_begins 1 = .ok (.invokevirtual 155, 3) := by decide +kernel
theorem dX12_begins_4 : decode cX12_begins 4 = .ok (.iload_n 2, 1) := by decide +kernel
theorem dX12_begins_5 : decode cX12_begins 5 = .ok (.if_icmp .ne 7, 3) := by decide +kernel
theorem dX12_begins_8 : decode cX12_begins 8 = .ok (.iconst 1, 1) := by decide +kernel
theorem dX12_begins_9 : decode cX12_begins 9 = .ok (.goto 4, 3) := by decide +kernel
theorem dX12_begins_12 : decode cX12_begins 12 = .ok (.iconst 0, 1) := by decide +kernel
theorem dX12_begins_13 : decode cX12_begins 13 = .ok (.istore_n 3, 1) := by decide +kernel
theorem dX12_begins_14 : decode cX12_begins 14 = .ok (.iconst 0, 1) := by decide +kernel
theorem dX12_begins_15 : decode cX12_begins 15 = .ok (.istore 4, 2) := by decide +kernel
theorem dX12_begins_17 : decode cX12_begins 17 = .ok (.iload 4, 2) := by decide +kernel
theorem dX12_begins_19 : decode cX12_begins 19 = .ok (.iload_n 2, 1) := by decide +kernel
theorem dX12_begins_20 : decode cX12_begins 20 = .ok (.if_icmp .ge 35, 3) := by decide +kernel
theorem dX12_begins_23 : decode cX12_begins 23 = .ok (.iload_n 3, 1) := by decide +kernel
theorem dX12_begins_24 : decode cX12_begins 24 = .ok (.ifCond .eq 31, 3) := by decide +kernel
theorem dX12_begins_27 : decode cX12_begins 27 = .ok (.aload_n 0, 1) := by decide +kernel
theorem dX12_begins_28 : decode cX12_begins 28 = .ok (.getfield 26, 3) := by decide +kernel
theorem dX12_begins_31 : decode cX12_begins 31 = .ok (.iload 4, 2) := by decide +kernel
theorem dX12_begins_33 : decode cX12_begins 33 = .ok (.iaload, 1) := by decide +kernel
theorem dX12_begins_34 : decode cX12_begins 34 = .ok (.aload_n 1, 1) := by decide +kernel
theorem dX12_begins_35 : decode cX12_begins 35 = .ok (.iload 4, 2) := by decide +kernel
theorem dX12_begins_37 : decode cX12_begins 37 = .ok (.invokevirtual 159, 3) := by decide +kernel
theorem dX12_begins_40 : decode cX12_begins 40 = .ok (.if_icmp .ne 7, 3) := by decide +kernel
theorem dX12_begins_43 : decode cX12_begins 43 = .ok (.iconst 1, 1) := by decide +kernel
theorem dX12_begins_44 : decode cX12_begins 44 = .ok (.goto 4, 3) := by decide +kernel
theorem dX12_begins_47 : decode cX12_begins 47 = .ok (.iconst 0, 1) := by decide +kernel
theorem dX12_begins_48 : decode cX12_begins 48 = .ok (.istore_n 3, 1) := by decide +kernel
theorem dX12_begins_49 : decode cX12_begins 49 = .ok (.iinc 4 1, 3) := by decide +kernel
theorem dX12_begins_52 : decode cX12_begins 52 = .ok (.goto (-35), 3) := by decide +kernel
theorem dX12_begins_55 : decode cX12_begins 55 = .ok (.iload_n 3, 1) := by decide +kernel
theorem dX12_begins_56 : decode cX12_begins 56 = .ok (.ireturn, 1) := by decide +kernel
theorem dX12_runCommand_0 : decode cX12_runCommand 0 = .ok (.aload_n 0, 1) := by decide +kernel
theorem dX12_runCommand_1 : decode cX12_runCommand 1 = .ok (.getfield 152, 3) := by decide +kernel
theorem dX12_runCommand_4 : decode cX12_runCommand 4 = .ok (.istore_n 1, 1) := by decide +kernel
theorem dX12_runCommand_5 : decode cX12_runCommand 5 = .ok (.aload_n 0, 1) := by decide +kernel
theorem dX12_runCommand_6 : decode cX12_runCommand 6 = .ok (.iconst 0, 1) := by decide +kernel
theorem dX12_runCommand_7 : decode cX12_runCommand 7 = .ok (.putfield 152, 3) := by decide +kernel
theorem dX12_runCommand_10 : decode cX12_runCommand 10 = .ok (.iconst 0, 1) := by decide +kernel
theorem dX12_runCommand_11 : decode cX12_runCommand 11 = .ok (.istore_n 2, 1) := by decide +kernel
theorem dX12_runCommand_12 : decode cX12_runCommand 12 = .ok (.iload_n 2, 1) := by decide +kernel
theorem dX12_runCommand_13 : decode cX12_runCommand 13 = .ok (.iload_n 1, 1) := by decide +kernel
theorem dX12_runCommand_14 : decode cX12_runCommand 14 = .ok (.if_icmp .ge 20, 3) := by decide +kernel
theorem dX12_runCommand_17 : decode cX12_runCommand 17 = .ok (.aload_n 0, 1) := by decide +kernel
theorem dX12_runCommand_18 : decode cX12_runCommand 18 = .ok (.getfield 26, 3) := by decide +kernel
theorem dX12_runCommand_21 : decode cX12_runCommand 21 = .ok (.iload_n 2, 1) := by decide +kernel
theorem dX12_runCommand_22 : decode cX12_runCommand 22 = .ok (.iaload, 1) := by decide +kernel
theorem dX12_runCommand_23 : decode cX12_runCommand 23 = .ok (.bipush 58, 2) := by decide +kernel
theorem dX12_runCommand_25 : decode cX12_runCommand 25 = .ok (.if_icmp .eq 9, 3) := by decide +kernel
theorem dX12_runCommand_28 : decode cX12_runCommand 28 = .ok (.iinc 2 1, 3) := by decide +kernel
theorem dX12_runCommand_31 : decode cX12_runCommand 31 = .ok (.goto (-19), 3) := by decide +kernel
theorem dX12_runCommand_34 : decode cX12_runCommand 34 = .ok (.aload_n 0, 1) := by decide +kernel
theorem dX12_runCommand_35 : decode cX12_runCommand 35 = .ok (.ldc 163, 2) := by decide +kernel
theorem dX12_runCommand_37 : decode cX12_runCommand 37 = .ok (.iload_n 2, 1) := by decide +kernel
theorem dX12_runCommand_38 : decode cX12_runCommand 38 = .ok (.invokevirtual 164, 3) := by decide +kernel
theorem dX12_runCommand_41 : decode cX12_runCommand 41 = .ok (.ifCond .eq 7, 3) := by decide +kernel
theorem dX12_runCommand_44 : decode cX12_runCommand 44 = .ok (.iconst 0, 1) := by decide +kernel
theorem dX12_runCommand_45 : decode cX12_runCommand 45 = .ok (.goto 46, 3) := by decide +kernel
theorem dX12_runCommand_48 : decode cX12_runCommand 48 = .ok (.aload_n 0, 1) := by decide +kernel
theorem dX12_runCommand_49 : decode cX12_runCommand 49 = .ok (.ldc 168, 2) := by decide +kernel
theorem dX12_runCommand_51 : decode cX12_runCommand 51 = .ok (.iload_n 2, 1) := by decide +kernel
theorem dX12_runCommand_52 : decode cX12_runCommand 52 = .ok (.invokevirtual 164, 3) := by decide +kernel
theorem dX12_runCommand_55 : decode cX12_runCommand 55 = .ok (.ifCond .eq 7, 3) := by decide +kernel
theorem dX12_runCommand_58 : decode cX12_runCommand 58 = .ok (.iconst 1, 1) := by decide +kernel
theorem dX12_runCommand_59 : decode cX12_runCommand 59 = .ok (.goto 32, 3) := by decide +kernel
theorem dX12_runCommand_62 : decode cX12_runCommand 62 = .ok (.aload_n 0, 1) := by decide +kernel
theorem dX12_runCommand_63 : decode cX12_runCommand 63 = .ok (.ldc 169, 2) := by decide +kernel
theorem dX12_runCommand_65 : decode cX12_runCommand 65 = .ok (.iload_n 2, 1) := by decide +kernel
theorem dX12_runCommand_66 : decode cX12_runCommand 66 = .ok (.invokevirtual 164, 3) := by decide +kernel
theorem dX12_runCommand_69 : decode cX12_runCommand 69 = .ok (.ifCond .eq 7, 3) := by decide +kernel
theorem dX12_runCommand_72 : decode cX12_runCommand 72 = .ok (.iconst 2, 1) := by decide +kernel
theorem dX12_runCommand_73 : decode cX12_runCommand 73 = .ok (.goto 18, 3) := by decide +kernel
theorem dX12_runCommand_76 : decode cX12_runCommand 76 = .ok (.aload_n 0, 1) := by decide +kernel
theorem dX12_runCommand_77 : decode cX12_runCommand 77 = .ok (.ldc 171, 2) := by decide +kernel
theorem dX12_runCommand_79 : decode cX12_runCommand 79 = .ok (.iload_n 2, 1) := by decide +kernel
theorem dX12_runCommand_80 : decode cX12_runCommand 80 = .ok (.invokevirtual 164, 3) := by decide +kernel
theorem dX12_runCommand_83 : decode cX12_runCommand 83 = .ok (.ifCond .eq 7, 3) := by decide +kernel
theorem dX12_runCommand_86 : decode cX12_runCommand 86 = .ok (.iconst 3, 1) := by decide +kernel
theorem dX12_runCommand_87 : decode cX12_runCommand 87 = .ok (.goto 4, 3) := by decide +kernel
theorem dX12_runCommand_90 : decode cX12_runCommand 90 = .ok (.iconst (-1), 1) := by decide +kernel
theorem dX12_runCommand_91 : decode cX12_runCommand 91 = .ok (.istore_n 3, 1) := by decide +kernel
theorem dX12_runCommand_92 : decode cX12_runCommand 92 = .ok (.iload_n 3, 1) := by decide +kernel
theorem dX12_runCommand_93 : decode cX12_runCommand 93 = .ok (.ifCond .ge 6, 3) := by decide +kernel
theorem dX12_runCommand_96 : decode cX12_runCommand 96 = .ok (.bipush (-6), 2) := by decide +kernel
theorem dX12_runCommand_98 : decode cX12_runCommand 98 = .ok (.ireturn, 1) := by decide +kernel
theorem dX12_runCommand_99 : decode cX12_runCommand 99 = .ok (.iload_n 1, 1) := by decide +kernel
theorem dX12_runCommand_100 : decode cX12_runCommand 100 = .ok (.iload_n 2, 1) := by decide +kernel
theorem dX12_runCommand_101 : decode cX12_runCommand 101 = .ok (.isub, 1) := by decide +kernel
theorem dX12_runCommand_102 : decode cX12_runCommand 102 = .ok (.iconst 1, 1) := by decide +kernel
theorem dX12_runCommand_103 : decode cX12_runCommand 103 = .ok (.isub, 1) := by decide +kernel
theorem dX12_runCommand_104 : decode cX12_runCommand 104 = .ok (.istore 4, 2) := by decide +kernel
theorem dX12_runCommand_106 : decode cX12_runCommand 106 = .ok (.iload_n 2, 1) := by decide +kernel
theorem dX12_runCommand_107 : decode cX12_runCommand 107 = .ok (.iload_n 1, 1) := by decide +kernel
theorem dX12_runCommand_108 : decode cX12_runCommand 108 = .ok (.if_icmp .ge 15, 3) := by decide +kernel
theorem dX12_runCommand_111 : decode cX12_runCommand 111 = .ok (.iload 4, 2) := by decide +kernel
theorem dX12_runCommand_113 : decode cX12_runCommand 113 = .ok (.iconst 1, 1) := by decide +kernel
theorem dX12_runCommand_114 : decode cX12_runCommand 114 = .ok (.iconst 3, 1) := by decide +kernel
theorem dX12_runCommand_115 : decode cX12_runCommand 115 = .ok (.invokestatic 71, 3) := by decide +kernel
theorem dX12_runCommand_118 : decode cX12_runCommand 118 = .ok (.ifCond .ne 5, 3) := by decide +kernel
theorem dX12_runCommand_121 : decode cX12_runCommand 121 = .ok (.iconst (-1), 1) := by decide +kernel
theorem dX12_runCommand_122 : decode cX12_runCommand 122 = .ok (.ireturn, 1) := by decide +kernel
theorem dX12_runCommand_123 : decode cX12_runCommand 123 = .ok (.iconst 0, 1) := by decide +kernel
theorem dX12_runCommand_124 : decode cX12_runCommand 124 = .ok (.istore 5, 2) := by decide +kernel
theorem dX12_runCommand_126 : decode cX12_runCommand 126 = .ok (.iload_n 2, 1) := by decide +kernel
theorem dX12_runCommand_127 : decode cX12_runCommand 127 = .ok (.iconst 1, 1) := by decide +kernel
theorem dX12_runCommand_128 : decode cX12_runCommand 128 = .ok (.iadd, 1) := by decide +kernel
theorem dX12_runCommand_129 : decode cX12_runCommand 129 = .ok (.istore 6, 2) := by decide +kernel
theorem dX12_runCommand_131 : decode cX12_runCommand 131 = .ok (.iload 6, 2) := by decide +kernel
theorem dX12_runCommand_133 : decode cX12_runCommand 133 = .ok (.iload_n 1, 1) := by decide +kernel
theorem dX12_runCommand_134 : decode cX12_runCommand 134 = .ok (.if_icmp .ge 46, 3) := by decide +kernel
theorem dX12_runCommand_137 : decode cX12_runCommand 137 = .ok (.aload_n 0, 1) := by decide +kernel
theorem dX12_runCommand_138 : decode cX12_runCommand 138 = .ok (.getfield 26, 3) := by decide +kernel
theorem dX12_runCommand_141 : decode cX12_runCommand 141 = .ok (.iload 6, 2) := by decide +kernel
theorem dX12_runCommand_143 : decode cX12_runCommand 143 = .ok (.iaload, 1) := by decide +kernel
theorem dX12_runCommand_144 : decode cX12_runCommand 144 = .ok (.bipush 48, 2) := by decide +kernel
theorem dX12_runCommand_146 : decode cX12_runCommand 146 = .ok (.bipush 57, 2) := by decide +kernel
theorem dX12_runCommand_148 : decode cX12_runCommand 148 = .ok (.invokestatic 71, 3) := by decide +kernel
theorem dX12_runCommand_151 : decode cX12_runCommand 151 = .ok (.ifCond .ne 5, 3) := by decide +kernel
theorem dX12_runCommand_154 : decode cX12_runCommand 154 = .ok (.iconst (-1), 1) := by decide +kernel
theorem dX12_runCommand_155 : decode cX12_runCommand 155 = .ok (.ireturn, 1) := by decide +kernel
theorem dX12_runCommand_156 : decode cX12_runCommand 156 = .ok (.bipush 10, 2) := by decide +kernel
theorem dX12_runCommand_158 : decode cX12_runCommand 158 = .ok (.iload 5, 2) := by decide +kernel
theorem dX12_runCommand_160 : decode cX12_runCommand 160 = .ok (.imul, 1) := by decide +kernel
theorem dX12_runCommand_161 : decode cX12_runCommand 161 = .ok (.aload_n 0, 1) := by decide +kernel
theorem dX12_runCommand_162 : decode cX12_runCommand 162 = .ok (.getfield 26, 3) := by decide +kernel
theorem dX12_runCommand_165 : decode cX12_runCommand 165 = .ok (.iload 6, 2) := by decide +kernel
theorem dX12_runCommand_167 : decode cX12_runCommand 167 = .ok (.iaload, 1) := by decide +kernel
theorem dX12_runCommand_168 : decode cX12_runCommand 168 = .ok (.iadd, 1) := by decide +kernel
theorem dX12_runCommand_169 : decode cX12_runCommand 169 = .ok (.bipush 48, 2) := by decide +kernel
theorem dX12_runCommand_171 : decode cX12_runCommand 171 = .ok (.isub, 1) := by decide +kernel
theorem dX12_runCommand_172 : decode cX12_runCommand 172 = .ok (.istore 5, 2) := by decide +kernel
theorem dX12_runCommand_174 : decode cX12_runCommand 174 = .ok (.iinc 6 1, 3) := by decide +kernel
theorem dX12_runCommand_177 : decode cX12_runCommand 177 = .ok (.goto (-46), 3) := by decide +kernel
theorem dX12_runCommand_180 : decode cX12_runCommand 180 = .ok (.aload_n 0, 1) := by decide +kernel
theorem dX12_runCommand_181 : decode cX12_runCommand 181 = .ok (.iload_n 3, 1) := by decide +kernel
theorem dX12_runCommand_182 : decode cX12_runCommand 182 = .ok (.iload 5, 2) := by decide +kernel
theorem dX12_runCommand_184 : decode cX12_runCommand 184 = .ok (.invokevirtual 172, 3) := by decide +kernel
theorem dX12_runCommand_187 : decode cX12_runCommand 187 = .ok (.ireturn, 1) := by decide +kernel
theorem dX12_setLetter_0 : decode cX12_setLetter 0 = .ok (.aload_n 0, 1) := by decide +kernel
theorem dX12_setLetter_1 : decode cX12_setLetter 1 = .ok (.iload_n 1, 1) := by decide +kernel
theorem dX12_setLetter_2 : decode cX12_setLetter 2 = .ok (.invokevirtual 84, 3) := by decide +kernel
theorem dX12_setLetter_5 : decode cX12_setLetter 5 = .ok (.ifCond .ne 6, 3) := by decide +kernel
theorem dX12_setLetter_8 : decode cX12_setLetter 8 = .ok (.bipush (-2), 2) := by decide +kernel
theorem dX12_setLetter_10 : decode cX12_setLetter 10 = .ok (.ireturn, 1) := by decide +kernel
theorem dX12_setLetter_11 : decode cX12_setLetter 11 = .ok (.aload_n 0, 1) := by decide +kernel
theorem dX12_setLetter_12 : decode cX12_setLetter 12 = .ok (.iload_n 2, 1) := by decide +kernel
theorem dX12_setLetter_13 : decode cX12_setLetter 13 = .ok (.invokevirtual 175, 3) := by decide +kernel
theorem dX12_setLetter_16 : decode cX12_setLetter 16 = .ok (.ifCond .ne 5, 3) := by decide +kernel
theorem dX12_setLetter_19 : decode cX12_setLetter 19 = .ok (.iconst (-1), 1) := by decide +kernel
theorem dX12_setLetter_20 : decode cX12_setLetter 20 = .ok (.ireturn, 1) := by decide +kernel
theorem dX12_setLetter_21 : decode cX12_setLetter 21 = .ok (.aload_n 0, 1) := by decide +kernel
theorem dX12_setLetter_22 : decode cX12_setLetter 22 = .ok (.getfield 16, 3) := by decide +kernel
theorem dX12_setLetter_25 : decode cX12_setLetter 25 = .ok (.iload_n 1, 1) := by decide +kernel
theorem dX12_setLetter_26 : decode cX12_setLetter 26 = .ok (.iaload, 1) := by decide +kernel
theorem dX12_setLetter_27 : decode cX12_setLetter 27 = .ok (.istore_n 3, 1) := by decide +kernel
theorem dX12_setLetter_28 : decode cX12_setLetter 28 = .ok (.aload_n 0, 1) := by decide +kernel
theorem dX12_setLetter_29 : decode cX12_setLetter 29 = .ok (.invokevirtual 178, 3) := by decide +kernel
theorem dX12_setLetter_32 : decode cX12_setLetter 32 = .ok (.aload_n 0, 1) := by decide +kernel
theorem dX12_setLetter_33 : decode cX12_setLetter 33 = .ok (.getfield 32, 3) := by decide +kernel
theorem dX12_setLetter_36 : decode cX12_setLetter 36 = .ok (.iload_n 1, 1) := by decide +kernel
theorem dX12_setLetter_37 : decode cX12_setLetter 37 = .ok (.iload_n 2, 1) := by decide +kernel
theorem dX12_setLetter_38 : decode cX12_setLetter 38 = .ok (.iastore, 1) := by decide +kernel
theorem dX12_setLetter_39 : decode cX12_setLetter 39 = .ok (.aload_n 0, 1) := by decide +kernel
theorem dX12_setLetter_40 : decode cX12_setLetter 40 = .ok (.invokevirtual 149, 3) := by decide +kernel
theorem dX12_setLetter_43 : decode cX12_setLetter 43 = .ok (.iload_n 3, 1) := by decide +kernel
theorem dX12_setLetter_44 : decode cX12_setLetter 44 = .ok (.ireturn, 1) := by decide +kernel
theorem dX12_appendLetter_0 : decode cX12_appendLetter 0 = .ok (.aload_n 0, 1) := by decide +kernel
theorem dX12_appendLetter_1 : decode cX12_appendLetter 1 = .ok (.iload_n 1, 1) := by decide +kernel
theorem dX12_appendLetter_2 : decode cX12_appendLetter 2 = .ok (.invokevirtual 175, 3) := by decide +kernel
theorem dX12_appendLetter_5 : decode cX12_appendLetter 5 = .ok (.ifCond .ne 5, 3) := by decide +kernel
theorem dX12_appendLetter_8 : decode cX12_appendLetter 8 = .ok (.iconst (-1), 1) := by decide +kernel
theorem dX12_appendLetter_9 : decode cX12_appendLetter 9 = .ok (.ireturn, 1) := by decide +kernel
theorem dX12_appendLetter_10 : decode cX12_appendLetter 10 = .ok (.aload_n 0, 1) := by decide +kernel
theorem dX12_appendLetter_11 : decode cX12_appendLetter 11 = .ok (.getfield 75, 3) := by decide +kernel
theorem dX12_appendLetter_14 : decode cX12_appendLetter 14 = .ok (.sipush 256, 3) := by decide +kernel
theorem dX12_appendLetter_17 : decode cX12_appendLetter 17 = .ok (.if_icmp .ne 6, 3) := by decide +kernel
theorem dX12_appendLetter_20 : decode cX12_appendLetter 20 = .ok (.bipush (-4), 2) := by decide +kernel
theorem dX12_appendLetter_22 : decode cX12_appendLetter 22 = .ok (.ireturn, 1) := by decide +kernel
theorem dX12_appendLetter_23 : decode cX12_appendLetter 23 = .ok (.aload_n 0, 1) := by decide +kernel
theorem dX12_appendLetter_24 : decode cX12_appendLetter 24 = .ok (.invokevirtual 178, 3) := by decide +kernel
theorem dX12_appendLetter_27 : decode cX12_appendLetter 27 = .ok (.aload_n 0, 1) := by decide +kernel
theorem dX12_appendLetter_28 : decode cX12_appendLetter 28 = .ok (.iload_n 1, 1) := by decide +kernel
theorem dX12_appendLetter_29 : decode cX12_appendLetter 29 = .ok (.invokevirtual 111, 3) := by decide +kernel
theorem dX12_appendLetter_32 : decode cX12_appendLetter 32 = .ok (.aload_n 0, 1) := by decide +kernel
theorem dX12_appendLetter_33 : decode cX12_appendLetter 33 = .ok (.invokevirtual 149, 3) := by decide +kernel
theorem dX12_appendLetter_36 : decode cX12_appendLetter 36 = .ok (.aload_n 0, 1) := by decide +kernel
theorem dX12_appendLetter_37 : decode cX12_appendLetter 37 = .ok (.getfield 75, 3) := by decide +kernel
theorem dX12_appendLetter_40 : decode cX12_appendLetter 40 = .ok (.ireturn, 1) := by decide +kernel
theorem dX12_at_0 : decode cX12_at 0 = .ok (.aload_n 0, 1) := by decide +kernel
theorem dX12_at_1 : decode cX12_at 1 = .ok (.getfield 16, 3) := by decide +kernel
theorem dX12_at_4 : decode cX12_at 4 = .ok (.lload_n 1, 1) := by decide +kernel
theorem dX12_at_5 : decode cX12_at 5 = .ok (.aload_n 0, 1) := by decide +kernel
theorem dX12_at_6 : decode cX12_at 6 = .ok (.getfield 75, 3) := by decide +kernel
theorem dX12_at_9 : decode cX12_at 9 = .ok (.i2l, 1) := by decide +kernel
theorem dX12_at_10 : decode cX12_at 10 = .ok (.invokestatic 181, 3) := by decide +kernel
theorem dX12_at_13 : decode cX12_at 13 = .ok (.l2i, 1) := by decide +kernel
theorem dX12_at_14 : decode cX12_at 14 = .ok (.iaload, 1) := by decide +kernel
theorem dX12_at_15 : decode cX12_at 15 = .ok (.ireturn, 1) := by decide +kernel
theorem dX12_rotate_0 : decode cX12_rotate 0 = .ok (.aload_n 0, 1) := by decide +kernel
theorem dX12_rotate_1 : decode cX12_rotate 1 = .ok (.getfield 75, 3) := by decide +kernel
theorem dX12_rotate_4 : decode cX12_rotate 4 = .ok (.ifCond .ne 6, 3) := by decide +kernel
theorem dX12_rotate_7 : decode cX12_rotate 7 = .ok (.bipush (-3), 2) := by decide +kernel
theorem dX12_rotate_9 : decode cX12_rotate 9 = .ok (.ireturn, 1) := by decide +kernel
theorem dX12_rotate_10 : decode cX12_rotate 10 = .ok (.aload_n 0, 1) := by decide +kernel
theorem dX12_rotate_11 : decode cX12_rotate 11 = .ok (.iconst 0, 1) := by decide +kernel
theorem dX12_rotate_12 : decode cX12_rotate 12 = .ok (.putfield 94, 3) := by decide +kernel
theorem dX12_rotate_15 : decode cX12_rotate 15 = .ok (.iconst 0, 1) := by decide +kernel
theorem dX12_rotate_16 : decode cX12_rotate 16 = .ok (.istore_n 2, 1) := by decide +kernel
theorem dX12_rotate_17 : decode cX12_rotate 17 = .ok (.iload_n 2, 1) := by decide +kernel
theorem dX12_rotate_18 : decode cX12_rotate 18 = .ok (.aload_n 0, 1) := by decide +kernel
theorem dX12_rotate_19 : decode cX12_rotate 19 = .ok (.getfield 75, 3) := by decide +kernel
theorem dX12_rotate_22 : decode cX12_rotate 22 = .ok (.if_icmp .ge 22, 3) := by decide +kernel
theorem dX12_rotate_25 : decode cX12_rotate 25 = .ok (.aload_n 0, 1) := by decide +kernel
theorem dX12_rotate_26 : decode cX12_rotate 26 = .ok (.aload_n 0, 1) := by decide +kernel
theorem dX12_rotate_27 : decode cX12_rotate 27 = .ok (.iload_n 2, 1) := by decide +kernel
theorem dX12_rotate_28 : decode cX12_rotate 28 = .ok (.i2l, 1) := by decide +kernel
theorem dX12_rotate_29 : decode cX12_rotate 29 = .ok (.iload_n 1, 1) := by decide +kernel
theorem dX12_rotate_30 : decode cX12_rotate 30 = .ok (.i2l, 1) := by decide +kernel
theorem dX12_rotate_31 : decode cX12_rotate 31 = .ok (.ladd, 1) := by decide +kernel
theorem dX12_rotate_32 : decode cX12_rotate 32 = .ok (.invokevirtual 185, 3) := by decide +kernel
theorem dX12_rotate_35 : decode cX12_rotate 35 = .ok (.invokevirtual 111, 3) := by decide +kernel
theorem dX12_rotate_38 : decode cX12_rotate 38 = .ok (.iinc 2 1, 3) := by decide +kernel
theorem dX12_rotate_41 : decode cX12_rotate 41 = .ok (.goto (-24), 3) := by decide +kernel
theorem dX12_rotate_44 : decode cX12_rotate 44 = .ok (.aload_n 0, 1) := by decide +kernel
theorem dX12_rotate_45 : decode cX12_rotate 45 = .ok (.invokevirtual 149, 3) := by decide +kernel
theorem dX12_rotate_48 : decode cX12_rotate 48 = .ok (.aload_n 0, 1) := by decide +kernel
theorem dX12_rotate_49 : decode cX12_rotate 49 = .ok (.getfield 16, 3) := by decide +kernel
theorem dX12_rotate_52 : decode cX12_rotate 52 = .ok (.iconst 0, 1) := by decide +kernel
theorem dX12_rotate_53 : decode cX12_rotate 53 = .ok (.iaload, 1) := by decide +kernel
theorem dX12_rotate_54 : decode cX12_rotate 54 = .ok (.ireturn, 1) := by decide +kernel
theorem dX12_reverse_0 : decode cX12_reverse 0 = .ok (.aload_n 0, 1) := by decide +kernel
theorem dX12_reverse_1 : decode cX12_reverse 1 = .ok (.getfield 75, 3) := by decide +kernel
theorem dX12_reverse_4 : decode cX12_reverse 4 = .ok (.ifCond .ne 6, 3) := by decide +kernel
theorem dX12_reverse_7 : decode cX12_reverse 7 = .ok (.bipush (-3), 2) := by decide +kernel
theorem dX12_reverse_9 : decode cX12_reverse 9 = .ok (.ireturn, 1) := by decide +kernel
theorem dX12_reverse_10 : decode cX12_reverse 10 = .ok (.aload_n 0, 1) := by decide +kernel
theorem dX12_reverse_11 : decode cX12_reverse 11 = .ok (.iconst 0, 1) := by decide +kernel
theorem dX12_reverse_12 : decode cX12_reverse 12 = .ok (.putfield 94, 3) := by decide +kernel
theorem dX12_reverse_15 : decode cX12_reverse 15 = .ok (.iconst 1, 1) := by decide +kernel
theorem dX12_reverse_16 : decode cX12_reverse 16 = .ok (.istore_n 1, 1) := by decide +kernel
theorem dX12_reverse_17 : decode cX12_reverse 17 = .ok (.iconst 0, 1) := by decide +kernel
theorem dX12_reverse_18 : decode cX12_reverse 18 = .ok (.istore_n 2, 1) := by decide +kernel
theorem dX12_reverse_19 : decode cX12_reverse 19 = .ok (.iload_n 2, 1) := by decide +kernel
theorem dX12_reverse_20 : decode cX12_reverse 20 = .ok (.aload_n 0, 1) := by decide +kernel
theorem dX12_reverse_21 : decode cX12_reverse 21 = .ok (.getfield 75, 3) := by decide +kernel
theorem dX12_reverse_24 : decode cX12_reverse 24 = .ok (.if_icmp .ge 51, 3) := by decide +kernel
theorem dX12_reverse_27 : decode cX12_reverse 27 = .ok (.aload_n 0, 1) := by decide +kernel
theorem dX12_reverse_28 : decode cX12_reverse 28 = .ok (.aload_n 0, 1) := by decide +kernel
theorem dX12_reverse_29 : decode cX12_reverse 29 = .ok (.getfield 16, 3) := by decide +kernel
theorem dX12_reverse_32 : decode cX12_reverse 32 = .ok (.aload_n 0, 1) := by decide +kernel
theorem dX12_reverse_33 : decode cX12_reverse 33 = .ok (.getfield 75, 3) := by decide +kernel
theorem dX12_reverse_36 : decode cX12_reverse 36 = .ok (.iconst 1, 1) := by decide +kernel
theorem dX12_reverse_37 : decode cX12_reverse 37 = .ok (.isub, 1) := by decide +kernel
theorem dX12_reverse_38 : decode cX12_reverse 38 = .ok (.iload_n 2, 1) := by decide +kernel
theorem dX12_reverse_39 : decode cX12_reverse 39 = .ok (.isub, 1) := by decide +kernel
theorem dX12_reverse_40 : decode cX12_reverse 40 = .ok (.iaload, 1) := by decide +kernel
theorem dX12_reverse_41 : decode cX12_reverse 41 = .ok (.invokevirtual 111, 3) := by decide +kernel
theorem dX12_reverse_44 : decode cX12_reverse 44 = .ok (.iload_n 1, 1) := by decide +kernel
theorem dX12_reverse_45 : decode cX12_reverse 45 = .ok (.ifCond .eq 22, 3) := by decide +kernel
theorem dX12_reverse_48 : decode cX12_reverse 48 = .ok (.aload_n 0, 1) := by decide +kernel
theorem dX12_reverse_49 : decode cX12_reverse 49 = .ok (.getfield 32, 3) := by decide +kernel
theorem dX12_reverse_52 : decode cX12_reverse 52 = .ok (.iload_n 2, 1) := by decide +kernel
theorem dX12_reverse_53 : decode cX12_reverse 53 = .ok (.iaload, 1) := by decide +kernel
theorem dX12_reverse_54 : decode cX12_reverse 54 = .ok (.aload_n 0, 1) := by decide +kernel
theorem dX12_reverse_55 : decode cX12_reverse 55 = .ok (.getfield 16, 3) := by decide +kernel
theorem dX12_reverse_58 : decode cX12_reverse 58 = .ok (.iload_n 2, 1) := by decide +kernel
theorem dX12_reverse_59 : decode cX12_reverse 59 = .ok (.iaload, 1) := by decide +kernel
theorem dX12_reverse_60 : decode cX12_reverse 60 = .ok (.if_icmp .ne 7, 3) := by decide +kernel
theorem dX12_reverse_63 : decode cX12_reverse 63 = .ok (.iconst 1, 1) := by decide +kernel
theorem dX12_reverse_64 : decode cX12_reverse 64 = .ok (.goto 4, 3) := by decide +kernel
theorem dX12_reverse_67 : decode cX12_reverse 67 = .ok (.iconst 0, 1) := by decide +kernel
theorem dX12_reverse_68 : decode cX12_reverse 68 = .ok (.istore_n 1, 1) := by decide +kernel
theorem dX12_reverse_69 : decode cX12_reverse 69 = .ok (.iinc 2 1, 3) := by decide +kernel
theorem dX12_reverse_72 : decode cX12_reverse 72 = .ok (.goto (-53), 3) := by decide +kernel
theorem dX12_reverse_75 : decode cX12_reverse 75 = .ok (.aload_n 0, 1) := by decide +kernel
theorem dX12_reverse_76 : decode cX12_reverse 76 = .ok (.invokevirtual 149, 3) := by decide +kernel
theorem dX12_reverse_79 : decode cX12_reverse 79 = .ok (.iload_n 1, 1) := by decide +kernel
theorem dX12_reverse_80 : decode cX12_reverse 80 = .ok (.ifCond .eq 7, 3) := by decide +kernel
theorem dX12_reverse_83 : decode cX12_reverse 83 = .ok (.iconst 1, 1) := by decide +kernel
theorem dX12_reverse_84 : decode cX12_reverse 84 = .ok (.goto 4, 3) := by decide +kernel
theorem dX12_reverse_87 : decode cX12_reverse 87 = .ok (.iconst 0, 1) := by decide +kernel
theorem dX12_reverse_88 : decode cX12_reverse 88 = .ok (.ireturn, 1) := by decide +kernel
theorem dX12_complement_0 : decode cX12_complement 0 = .ok (.aload_n 0, 1) := by decide +kernel
theorem dX12_complement_1 : decode cX12_complement 1 = .ok (.getfield 75, 3) := by decide +kernel
