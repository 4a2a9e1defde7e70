theorem dX11_cut_26 : decode cX11_cut 26 = .ok (.iload_n 2, 1) := by decide +kernel
theorem dX11_cut_27 : decode cX11_cut 27 = .ok (.invokevirtual 170, 3) := by decide +kernel
theorem dX11_cut_30 : decode cX11_cut 30 = .ok (.ifCond .ne 6, 3) := by decide +kernel
theorem dX11_cut_33 : decode cX11_cut 33 = .ok (.bipush (-5), 2) := by decide +kernel
theorem dX11_cut_35 : decode cX11_cut 35 = .ok (.ireturn, 1) := by decide +kernel
theorem dX11_cut_36 : decode cX11_cut 36 = .ok (.aload_n 0, 1) := by decide +kernel
theorem dX11_cut_37 : decode cX11_cut 37 = .ok (.getfield 23, 3) := by decide +kernel
theorem dX11_cut_40 : decode cX11_cut 40 = .ok (.invokevirtual 86, 3) := by decide +kernel
theorem dX11_cut_43 : decode cX11_cut 43 = .ok (.aload_n 0, 1) := by decide +kernel
theorem dX11_cut_44 : decode cX11_cut 44 = .ok (.getfield 23, 3) := by decide +kernel
theorem dX11_cut_47 : decode cX11_cut 47 = .ok (.aload_n 0, 1) := by decide +kernel
theorem dX11_cut_48 : decode cX11_cut 48 = .ok (.getfield 19, 3) := by decide +kernel
theorem dX11_cut_51 : decode cX11_cut 51 = .ok (.iload_n 1, 1) := by decide +kernel
theorem dX11_cut_52 : decode cX11_cut 52 = .ok (.iload_n 2, 1) := by decide +kernel
theorem dX11_cut_53 : decode cX11_cut 53 = .ok (.iadd, 1) := by decide +kernel
theorem dX11_cut_54 : decode cX11_cut 54 = .ok (.aload_n 0, 1) := by decide +kernel
theorem dX11_cut_55 : decode cX11_cut 55 = .ok (.getfield 19, 3) := by decide +kernel
theorem dX11_cut_58 : decode cX11_cut 58 = .ok (.invokevirtual 102, 3) := by decide +kernel
theorem dX11_cut_61 : decode cX11_cut 61 = .ok (.iload_n 2, 1) := by decide +kernel
theorem dX11_cut_62 : decode cX11_cut 62 = .ok (.isub, 1) := by decide +kernel
theorem dX11_cut_63 : decode cX11_cut 63 = .ok (.invokevirtual 163, 3) := by decide +kernel
theorem dX11_cut_66 : decode cX11_cut 66 = .ok (.aload_n 0, 1) := by decide +kernel
theorem dX11_cut_67 : decode cX11_cut 67 = .ok (.invokevirtual 116, 3) := by decide +kernel
theorem dX11_cut_70 : decode cX11_cut 70 = .ok (.pop, 1) := by decide +kernel
theorem dX11_cut_71 : decode cX11_cut 71 = .ok (.aload_n 0, 1) := by decide +kernel
theorem dX11_cut_72 : decode cX11_cut 72 = .ok (.getfield 19, 3) := by decide +kernel
theorem dX11_cut_75 : decode cX11_cut 75 = .ok (.invokevirtual 102, 3) := by decide +kernel
theorem dX11_cut_78 : decode cX11_cut 78 = .ok (.ireturn, 1) := by decide +kernel
theorem dX11_exchange_0 : decode cX11_exchange 0 = .ok (.aload_n 0, 1) := by decide +kernel
theorem dX11_exchange_1 : decode cX11_exchange 1 = .ok (.getfield 19, 3) := by decide +kernel
theorem dX11_exchange_4 : decode cX11_exchange 4 = .ok (.iload_n 1, 1) := by decide +kernel
theorem dX11_exchange_5 : decode cX11_exchange 5 = .ok (.invokevirtual 143, 3) := by decide +kernel
theorem dX11_exchange_8 : decode cX11_exchange 8 = .ok (.ifCond .eq 37, 3) := by decide +kernel
theorem dX11_exchange_11 : decode cX11_exchange 11 = .ok (.aload_n 0, 1) := by decide +kernel
theorem dX11_exchange_12 : decode cX11_exchange 12 = .ok (.getfield 19, 3) := by decide +kernel
theorem dX11_exchange_15 : decode cX11_exchange 15 = .ok (.iload_n 2, 1) := by decide +kernel
theorem dX11_exchange_16 : decode cX11_exchange 16 = .ok (.invokevirtual 143, 3) := by decide +kernel
theorem dX11_exchange_19 : decode cX11_exchange 19 = .ok (.ifCond .eq 26, 3) := by decide +kernel
theorem dX11_exchange_22 : decode cX11_exchange 22 = .ok (.aload_n 0, 1) := by decide +kernel
theorem dX11_exchange_23 : decode cX11_exchange 23 = .ok (.getfield 19, 3) := by decide +kernel
theorem dX11_exchange_26 : decode cX11_exchange 26 = .ok (.iload_n 3, 1) := by decide +kernel
theorem dX11_exchange_27 : decode cX11_exchange 27 = .ok (.invokevirtual 143, 3) := by decide +kernel
theorem dX11_exchange_30 : decode cX11_exchange 30 = .ok (.ifCond .eq 15, 3) := by decide +kernel
theorem dX11_exchange_33 : decode cX11_exchange 33 = .ok (.aload_n 0, 1) := by decide +kernel
theorem dX11_exchange_34 : decode cX11_exchange 34 = .ok (.getfield 19, 3) := by decide +kernel
theorem dX11_exchange_37 : decode cX11_exchange 37 = .ok (.iload 4, 2) := by decide +kernel
theorem dX11_exchange_39 : decode cX11_exchange 39 = .ok (.invokevirtual 143, 3) := by decide +kernel
theorem dX11_exchange_42 : decode cX11_exchange 42 = .ok (.ifCond .ne 6, 3) := by decide +kernel
theorem dX11_exchange_45 : decode cX11_exchange 45 = .ok (.bipush (-2), 2) := by decide +kernel
theorem dX11_exchange_47 : decode cX11_exchange 47 = .ok (.ireturn, 1) := by decide +kernel
theorem dX11_exchange_48 : decode cX11_exchange 48 = .ok (.iload_n 1, 1) := by decide +kernel
theorem dX11_exchange_49 : decode cX11_exchange 49 = .ok (.iload_n 2, 1) := by decide +kernel
theorem dX11_exchange_50 : decode cX11_exchange 50 = .ok (.if_icmp .ge 14, 3) := by decide +kernel
theorem dX11_exchange_53 : decode cX11_exchange 53 = .ok (.iload_n 2, 1) := by decide +kernel
theorem dX11_exchange_54 : decode cX11_exchange 54 = .ok (.iload_n 3, 1) := by decide +kernel
theorem dX11_exchange_55 : decode cX11_exchange 55 = .ok (.if_icmp .ge 9, 3) := by decide +kernel
theorem dX11_exchange_58 : decode cX11_exchange 58 = .ok (.iload_n 3, 1) := by decide +kernel
theorem dX11_exchange_59 : decode cX11_exchange 59 = .ok (.iload 4, 2) := by decide +kernel
theorem dX11_exchange_61 : decode cX11_exchange 61 = .ok (.if_icmp .lt 5, 3) := by decide +kernel
theorem dX11_exchange_64 : decode cX11_exchange 64 = .ok (.iconst (-1), 1) := by decide +kernel
theorem dX11_exchange_65 : decode cX11_exchange 65 = .ok (.ireturn, 1) := by decide +kernel
theorem dX11_exchange_66 : decode cX11_exchange 66 = .ok (.aload_n 0, 1) := by decide +kernel
theorem dX11_exchange_67 : decode cX11_exchange 67 = .ok (.getfield 10, 3) := by decide +kernel
theorem dX11_exchange_70 : decode cX11_exchange 70 = .ok (.invokevirtual 99, 3) := by decide +kernel
theorem dX11_exchange_73 : decode cX11_exchange 73 = .ok (.iconst 1, 1) := by decide +kernel
theorem dX11_exchange_74 : decode cX11_exchange 74 = .ok (.isub, 1) := by decide +kernel
theorem dX11_exchange_75 : decode cX11_exchange 75 = .ok (.istore 5, 2) := by decide +kernel
theorem dX11_exchange_77 : decode cX11_exchange 77 = .ok (.aload_n 0, 1) := by decide +kernel
theorem dX11_exchange_78 : decode cX11_exchange 78 = .ok (.getfield 19, 3) := by decide +kernel
theorem dX11_exchange_81 : decode cX11_exchange 81 = .ok (.iload_n 1, 1) := by decide +kernel
theorem dX11_exchange_82 : decode cX11_exchange 82 = .ok (.iload_n 3, 1) := by decide +kernel
theorem dX11_exchange_83 : decode cX11_exchange 83 = .ok (.iload 5, 2) := by decide +kernel
theorem dX11_exchange_85 : decode cX11_exchange 85 = .ok (.invokevirtual 173, 3) := by decide +kernel
theorem dX11_exchange_88 : decode cX11_exchange 88 = .ok (.ifCond .eq 18, 3) := by decide +kernel
theorem dX11_exchange_91 : decode cX11_exchange 91 = .ok (.aload_n 0, 1) := by decide +kernel
theorem dX11_exchange_92 : decode cX11_exchange 92 = .ok (.getfield 19, 3) := by decide +kernel
theorem dX11_exchange_95 : decode cX11_exchange 95 = .ok (.iload_n 2, 1) := by decide +kernel
theorem dX11_exchange_96 : decode cX11_exchange 96 = .ok (.iload 4, 2) := by decide +kernel
theorem dX11_exchange_98 : decode cX11_exchange 98 = .ok (.iload 5, 2) := by decide +kernel
theorem dX11_exchange_100 : decode cX11_exchange 100 = .ok (.invokevirtual 173, 3) := by decide +kernel
theorem dX11_exchange_103 : decode cX11_exchange 103 = .ok (.ifCond .ne 6, 3) := by decide +kernel
theorem dX11_exchange_106 : decode cX11_exchange 106 = .ok (.bipush (-5), 2) := by decide +kernel
theorem dX11_exchange_108 : decode cX11_exchange 108 = .ok (.ireturn, 1) := by decide +kernel
theorem dX11_exchange_109 : decode cX11_exchange 109 = .ok (.aload_n 0, 1) := by decide +kernel
theorem dX11_exchange_110 : decode cX11_exchange 110 = .ok (.getfield 23, 3) := by decide +kernel
theorem dX11_exchange_113 : decode cX11_exchange 113 = .ok (.invokevirtual 86, 3) := by decide +kernel
theorem dX11_exchange_116 : decode cX11_exchange 116 = .ok (.aload_n 0, 1) := by decide +kernel
theorem dX11_exchange_117 : decode cX11_exchange 117 = .ok (.getfield 23, 3) := by decide +kernel
theorem dX11_exchange_120 : decode cX11_exchange 120 = .ok (.aload_n 0, 1) := by decide +kernel
theorem dX11_exchange_121 : decode cX11_exchange 121 = .ok (.getfield 19, 3) := by decide +kernel
theorem dX11_exchange_124 : decode cX11_exchange 124 = .ok (.iconst 0, 1) := by decide +kernel
theorem dX11_exchange_125 : decode cX11_exchange 125 = .ok (.iload_n 1, 1) := by decide +kernel
theorem dX11_exchange_126 : decode cX11_exchange 126 = .ok (.invokevirtual 163, 3) := by decide +kernel
theorem dX11_exchange_129 : decode cX11_exchange 129 = .ok (.aload_n 0, 1) := by decide +kernel
theorem dX11_exchange_130 : decode cX11_exchange 130 = .ok (.getfield 23, 3) := by decide +kernel
theorem dX11_exchange_133 : decode cX11_exchange 133 = .ok (.aload_n 0, 1) := by decide +kernel
theorem dX11_exchange_134 : decode cX11_exchange 134 = .ok (.getfield 19, 3) := by decide +kernel
theorem dX11_exchange_137 : decode cX11_exchange 137 = .ok (.iload_n 3, 1) := by decide +kernel
theorem dX11_exchange_138 : decode cX11_exchange 138 = .ok (.iload 4, 2) := by decide +kernel
theorem dX11_exchange_140 : decode cX11_exchange 140 = .ok (.iload_n 3, 1) := by decide +kernel
theorem dX11_exchange_141 : decode cX11_exchange 141 = .ok (.isub, 1) := by decide +kernel
theorem dX11_exchange_142 : decode cX11_exchange 142 = .ok (.invokevirtual 163, 3) := by decide +kernel
theorem dX11_exchange_145 : decode cX11_exchange 145 = .ok (.aload_n 0, 1) := by decide +kernel
theorem dX11_exchange_146 : decode cX11_exchange 146 = .ok (.getfield 23, 3) := by decide +kernel
theorem dX11_exchange_149 : decode cX11_exchange 149 = .ok (.aload_n 0, 1) := by decide +kernel
theorem dX11_exchange_150 : decode cX11_exchange 150 = .ok (.getfield 19, 3) := by decide +kernel
theorem dX11_exchange_153 : decode cX11_exchange 153 = .ok (.iload_n 2, 1) := by decide +kernel
theorem dX11_exchange_154 : decode cX11_exchange 154 = .ok (.iload_n 3, 1) := by decide +kernel
theorem dX11_exchange_155 : decode cX11_exchange 155 = .ok (.iload_n 2, 1) := by decide +kernel
theorem dX11_exchange_156 : decode cX11_exchange 156 = .ok (.isub, 1) := by decide +kernel
theorem dX11_exchange_157 : decode cX11_exchange 157 = .ok (.invokevirtual 163, 3) := by decide +kernel
theorem dX11_exchange_160 : decode cX11_exchange 160 = .ok (.aload_n 0, 1) := by decide +kernel
theorem dX11_exchange_161 : decode cX11_exchange 161 = .ok (.getfield 23, 3) := by decide +kernel
theorem dX11_exchange_164 : decode cX11_exchange 164 = .ok (.aload_n 0, 1) := by decide +kernel
theorem dX11_exchange_165 : decode cX11_exchange 165 = .ok (.getfield 19, 3) := by decide +kernel
theorem dX11_exchange_168 : decode cX11_exchange 168 = .ok (.iload_n 1, 1) := by decide +kernel
theorem dX11_exchange_169 : decode cX11_exchange 169 = .ok (.iload_n 2, 1) := by decide +kernel
theorem dX11_exchange_170 : decode cX11_exchange 170 = .ok (.iload_n 1, 1) := by decide +kernel
theorem dX11_exchange_171 : decode cX11_exchange 171 = .ok (.isub, 1) := by decide +kernel
theorem dX11_exchange_172 : decode cX11_exchange 172 = .ok (.invokevirtual 163, 3) := by decide +kernel
theorem dX11_exchange_175 : decode cX11_exchange 175 = .ok (.aload_n 0, 1) := by decide +kernel
theorem dX11_exchange_176 : decode cX11_exchange 176 = .ok (.getfield 23, 3) := by decide +kernel
theorem dX11_exchange_179 : decode cX11_exchange 179 = .ok (.aload_n 0, 1) := by decide +kernel
theorem dX11_exchange_180 : decode cX11_exchange 180 = .ok (.getfield 19, 3) := by decide +kernel
theorem dX11_exchange_183 : decode cX11_exchange 183 = .ok (.iload 4, 2) := by decide +kernel
theorem dX11_exchange_185 : decode cX11_exchange 185 = .ok (.aload_n 0, 1) := by decide +kernel
theorem dX11_exchange_186 : decode cX11_exchange 186 = .ok (.getfield 19, 3) := by decide +kernel
theorem dX11_exchange_189 : decode cX11_exchange 189 = .ok (.invokevirtual 102, 3) := by decide +kernel
theorem dX11_exchange_192 : decode cX11_exchange 192 = .ok (.iload 4, 2) := by decide +kernel
theorem dX11_exchange_194 : decode cX11_exchange 194 = .ok (.isub, 1) := by decide +kernel
theorem dX11_exchange_195 : decode cX11_exchange 195 = .ok (.invokevirtual 163, 3) := by decide +kernel
theorem dX11_exchange_198 : decode cX11_exchange 198 = .ok (.aload_n 0, 1) := by decide +kernel
theorem dX11_exchange_199 : decode cX11_exchange 199 = .ok (.invokevirtual 116, 3) := by decide +kernel
theorem dX11_exchange_202 : decode cX11_exchange 202 = .ok (.ifCond .eq 7, 3) := by decide +kernel
theorem dX11_exchange_205 : decode cX11_exchange 205 = .ok (.iconst 1, 1) := by decide +kernel
theorem dX11_exchange_206 : decode cX11_exchange 206 = .ok (.goto 4, 3) := by decide +kernel
theorem dX11_exchange_209 : decode cX11_exchange 209 = .ok (.iconst 0, 1) := by decide +kernel
theorem dX11_exchange_210 : decode cX11_exchange 210 = .ok (.ireturn, 1) := by decide +kernel
theorem dX11_firstCut_0 : decode cX11_firstCut 0 = .ok (.aload_n 0, 1) := by decide +kernel
theorem dX11_firstCut_1 : decode cX11_firstCut 1 = .ok (.getfield 19, 3) := by decide +kernel
theorem dX11_firstCut_4 : decode cX11_firstCut 4 = .ok (.invokevirtual 102, 3) := by decide +kernel
theorem dX11_firstCut_7 : decode cX11_firstCut 7 = .ok (.istore_n 2, 1) := by decide +kernel
theorem dX11_firstCut_8 : decode cX11_firstCut 8 = .ok (.iload_n 2, 1) := by decide +kernel
theorem dX11_firstCut_9 : decode cX11_firstCut 9 = .ok (.iconst 1, 1) := by decide +kernel
theorem dX11_firstCut_10 : decode cX11_firstCut 10 = .ok (.if_icmp .ge 6, 3) := by decide +kernel
theorem dX11_firstCut_13 : decode cX11_firstCut 13 = .ok (.bipush (-3), 2) := by decide +kernel
theorem dX11_firstCut_15 : decode cX11_firstCut 15 = .ok (.ireturn, 1) := by decide +kernel
theorem dX11_firstCut_16 : decode cX11_firstCut 16 = .ok (.aload_n 0, 1) := by decide +kernel
theorem dX11_firstCut_17 : decode cX11_firstCut 17 = .ok (.iload_n 1, 1) := by decide +kernel
theorem dX11_firstCut_18 : decode cX11_firstCut 18 = .ok (.invokevirtual 167, 3) := by decide +kernel
theorem dX11_firstCut_21 : decode cX11_firstCut 21 = .ok (.ifCond .ne 5, 3) := by decide +kernel
theorem dX11_firstCut_24 : decode cX11_firstCut 24 = .ok (.iconst (-1), 1) := by decide +kernel
theorem dX11_firstCut_25 : decode cX11_firstCut 25 = .ok (.ireturn, 1) := by decide +kernel
theorem dX11_firstCut_26 : decode cX11_firstCut 26 = .ok (.iconst 0, 1) := by decide +kernel
theorem dX11_firstCut_27 : decode cX11_firstCut 27 = .ok (.istore_n 3, 1) := by decide +kernel
theorem dX11_firstCut_28 : decode cX11_firstCut 28 = .ok (.iload_n 3, 1) := by decide +kernel
theorem dX11_firstCut_29 : decode cX11_firstCut 29 = .ok (.iload_n 2, 1) := by decide +kernel
theorem dX11_firstCut_30 : decode cX11_firstCut 30 = .ok (.if_icmp .ge 20, 3) := by decide +kernel
theorem dX11_firstCut_33 : decode cX11_firstCut 33 = .ok (.aload_n 0, 1) := by decide +kernel
theorem dX11_firstCut_34 : decode cX11_firstCut 34 = .ok (.iload_n 3, 1) := by decide +kernel
theorem dX11_firstCut_35 : decode cX11_firstCut 35 = .ok (.iload_n 1, 1) := by decide +kernel
theorem dX11_firstCut_36 : decode cX11_firstCut 36 = .ok (.invokevirtual 170, 3) := by decide +kernel
theorem dX11_firstCut_39 : decode cX11_firstCut 39 = .ok (.ifCond .eq 5, 3) := by decide +kernel
theorem dX11_firstCut_42 : decode cX11_firstCut 42 = .ok (.iload_n 3, 1) := by decide +kernel
theorem dX11_firstCut_43 : decode cX11_firstCut 43 = .ok (.ireturn, 1) := by decide +kernel
theorem dX11_firstCut_44 : decode cX11_firstCut 44 = .ok (.iinc 3 1, 3) := by decide +kernel
theorem dX11_firstCut_47 : decode cX11_firstCut 47 = .ok (.goto (-19), 3) := by decide +kernel
theorem dX11_firstCut_50 : decode cX11_firstCut 50 = .ok (.bipush (-2), 2) := by decide +kernel
theorem dX11_firstCut_52 : decode cX11_firstCut 52 = .ok (.ireturn, 1) := by decide +kernel
theorem dX11_blockAt_0 : decode cX11_blockAt 0 = .ok (.aload_n 0, 1) := by decide +kernel
theorem dX11_blockAt_1 : decode cX11_blockAt 1 = .ok (.getfield 19, 3) := by decide +kernel
theorem dX11_blockAt_4 : decode cX11_blockAt 4 = .ok (.iload_n 1, 1) := by decide +kernel
theorem dX11_blockAt_5 : decode cX11_blockAt 5 = .ok (.invokevirtual 143, 3) := by decide +kernel
theorem dX11_blockAt_8 : decode cX11_blockAt 8 = .ok (.ifCond .eq 18, 3) := by decide +kernel
theorem dX11_blockAt_11 : decode cX11_blockAt 11 = .ok (.aload_n 0, 1) := by decide +kernel
theorem dX11_blockAt_12 : decode cX11_blockAt 12 = .ok (.getfield 10, 3) := by decide +kernel
theorem dX11_blockAt_15 : decode cX11_blockAt 15 = .ok (.aload_n 0, 1) := by decide +kernel
theorem dX11_blockAt_16 : decode cX11_blockAt 16 = .ok (.getfield 19, 3) := by decide +kernel
theorem dX11_blockAt_19 : decode cX11_blockAt 19 = .ok (.iload_n 1, 1) := by decide +kernel
theorem dX11_blockAt_20 : decode cX11_blockAt 20 = .ok (.invokevirtual 177, 3) := by decide +kernel
theorem dX11_blockAt_23 : decode cX11_blockAt 23 = .ok (.goto 5, 3) := by decide +kernel
theorem dX11_blockAt_26 : decode cX11_blockAt 26 = .ok (.bipush (-2), 2) := by decide +kernel
theorem dX11_blockAt_28 : decode cX11_blockAt 28 = .ok (.ireturn, 1) := by decide +kernel
theorem dX11_positionOf_0 : decode cX11_positionOf 0 = .ok (.aload_n 0, 1) := by decide +kernel
theorem dX11_positionOf_1 : decode cX11_positionOf 1 = .ok (.getfield 10, 3) := by decide +kernel
theorem dX11_positionOf_4 : decode cX11_positionOf 4 = .ok (.iload_n 1, 1) := by decide +kernel
theorem dX11_positionOf_5 : decode cX11_positionOf 5 = .ok (.invokevirtual 181, 3) := by decide +kernel
theorem dX11_positionOf_8 : decode cX11_positionOf 8 = .ok (.ifCond .eq 22, 3) := by decide +kernel
theorem dX11_positionOf_11 : decode cX11_positionOf 11 = .ok (.aload_n 0, 1) := by decide +kernel
theorem dX11_positionOf_12 : decode cX11_positionOf 12 = .ok (.getfield 29, 3) := by decide +kernel
theorem dX11_positionOf_15 : decode cX11_positionOf 15 = .ok (.aload_n 0, 1) := by decide +kernel
theorem dX11_positionOf_16 : decode cX11_positionOf 16 = .ok (.getfield 10, 3) := by decide +kernel
theorem dX11_positionOf_19 : decode cX11_positionOf 19 = .ok (.aload_n 0, 1) := by decide +kernel
theorem dX11_positionOf_20 : decode cX11_positionOf 20 = .ok (.getfield 19, 3) := by decide +kernel
theorem dX11_positionOf_23 : decode cX11_positionOf 23 = .ok (.iload_n 1, 1) := by decide +kernel
theorem dX11_positionOf_24 : decode cX11_positionOf 24 = .ok (.invokevirtual 184, 3) := by decide +kernel
theorem dX11_positionOf_27 : decode cX11_positionOf 27 = .ok (.goto 4, 3) := by decide +kernel
theorem dX11_positionOf_30 : decode cX11_positionOf 30 = .ok (.iconst (-1), 1) := by decide +kernel
theorem dX11_positionOf_31 : decode cX11_positionOf 31 = .ok (.ireturn, 1) := by decide +kernel
theorem dX11_letterAfter_0 : decode cX11_letterAfter 0 = .ok (.aload_n 0, 1) := by decide +kernel
theorem dX11_letterAfter_1 : decode cX11_letterAfter 1 = .ok (.getfield 10, 3) := by decide +kernel
theorem dX11_letterAfter_4 : decode cX11_letterAfter 4 = .ok (.iload_n 1, 1) := by decide +kernel
theorem dX11_letterAfter_5 : decode cX11_letterAfter 5 = .ok (.invokevirtual 181, 3) := by decide +kernel
theorem dX11_letterAfter_8 : decode cX11_letterAfter 8 = .ok (.ifCond .ne 5, 3) := by decide +kernel
theorem dX11_letterAfter_11 : decode cX11_letterAfter 11 = .ok (.iconst (-1), 1) := by decide +kernel
theorem dX11_letterAfter_12 : decode cX11_letterAfter 12 = .ok (.ireturn, 1) := by decide +kernel
theorem dX11_letterAfter_13 : decode cX11_letterAfter 13 = .ok (.aload_n 0, 1) := by decide +kernel
theorem dX11_letterAfter_14 : decode cX11_letterAfter 14 = .ok (.getfield 29, 3) := by decide +kernel
theorem dX11_letterAfter_17 : decode cX11_letterAfter 17 = .ok (.aload_n 0, 1) := by decide +kernel
theorem dX11_letterAfter_18 : decode cX11_letterAfter 18 = .ok (.getfield 10, 3) := by decide +kernel
theorem dX11_letterAfter_21 : decode cX11_letterAfter 21 = .ok (.aload_n 0, 1) := by decide +kernel
theorem dX11_letterAfter_22 : decode cX11_letterAfter 22 = .ok (.getfield 19, 3) := by decide +kernel
theorem dX11_letterAfter_25 : decode cX11_letterAfter 25 = .ok (.iload_n 1, 1) := by decide +kernel
theorem dX11_letterAfter_26 : decode cX11_letterAfter 26 = .ok (.invokevirtual 184, 3) := by decide +kernel
theorem dX11_letterAfter_29 : decode cX11_letterAfter 29 = .ok (.istore_n 2, 1) := by decide +kernel
theorem dX11_letterAfter_30 : decode cX11_letterAfter 30 = .ok (.iload_n 2, 1) := by decide +kernel
theorem dX11_letterAfter_31 : decode cX11_letterAfter 31 = .ok (.bipush (-2), 2) := by decide +kernel
theorem dX11_letterAfter_33 : decode cX11_letterAfter 33 = .ok (.if_icmp .ne 8, 3) := by decide +kernel
theorem dX11_letterAfter_36 : decode cX11_letterAfter 36 = .ok (.bipush (-2), 2) := by decide +kernel
theorem dX11_letterAfter_38 : decode cX11_letterAfter 38 = .ok (.goto 19, 3) := by decide +kernel
theorem dX11_letterAfter_41 : decode cX11_letterAfter 41 = .ok (.aload_n 0, 1) := by decide +kernel
theorem dX11_letterAfter_42 : decode cX11_letterAfter 42 = .ok (.getfield 19, 3) := by decide +kernel
theorem dX11_letterAfter_45 : decode cX11_letterAfter 45 = .ok (.iload_n 2, 1) := by decide +kernel
theorem dX11_letterAfter_46 : decode cX11_letterAfter 46 = .ok (.aload_n 0, 1) := by decide +kernel
theorem dX11_letterAfter_47 : decode cX11_letterAfter 47 = .ok (.getfield 10, 3) := by decide +kernel
theorem dX11_letterAfter_50 : decode cX11_letterAfter 50 = .ok (.invokevirtual 99, 3) := by decide +kernel
theorem dX11_letterAfter_53 : decode cX11_letterAfter 53 = .ok (.iadd, 1) := by decide +kernel
theorem dX11_letterAfter_54 : decode cX11_letterAfter 54 = .ok (.invokevirtual 188, 3) := by decide +kernel
theorem dX11_letterAfter_57 : decode cX11_letterAfter 57 = .ok (.ireturn, 1) := by decide +kernel
theorem dX11_occurrences_0 : decode cX11_occurrences 0 = .ok (.aload_n 0, 1) := by decide +kernel
theorem dX11_occurrences_1 : decode cX11_occurrences 1 = .ok (.getfield 10, 3) := by decide +kernel
theorem dX11_occurrences_4 : decode cX11_occurrences 4 = .ok (.iload_n 1, 1) := by decide +kernel
theorem dX11_occurrences_5 : decode cX11_occurrences 5 = .ok (.invokevirtual 181, 3) := by decide +kernel
theorem dX11_occurrences_8 : decode cX11_occurrences 8 = .ok (.ifCond .eq 22, 3) := by decide +kernel
theorem dX11_occurrences_11 : decode cX11_occurrences 11 = .ok (.aload_n 0, 1) := by decide +kernel
theorem dX11_occurrences_12 : decode cX11_occurrences 12 = .ok (.getfield 29, 3) := by decide +kernel
theorem dX11_occurrences_15 : decode cX11_occurrences 15 = .ok (.aload_n 0, 1) := by decide +kernel
theorem dX11_occurrences_16 : decode cX11_occurrences 16 = .ok (.getfield 10, 3) := by decide +kernel
theorem dX11_occurrences_19 : decode cX11_occurrences 19 = .ok (.aload_n 0, 1) := by decide +kernel
theorem dX11_occurrences_20 : decode cX11_occurrences 20 = .ok (.getfield 19, 3) := by decide +kernel
theorem dX11_occurrences_23 : decode cX11_occurrences 23 = .ok (.iload_n 1, 1) := by decide +kernel
theorem dX11_occurrences_24 : decode cX11_occurrences 24 = .ok (.invokevirtual 191, 3) := by decide +kernel
theorem dX11_occurrences_27 : decode cX11_occurrences 27 = .ok (.goto 4, 3) := by decide +kernel
theorem dX11_occurrences_30 : decode cX11_occurrences 30 = .ok (.iconst (-1), 1) := by decide +kernel
theorem dX11_occurrences_31 : decode cX11_occurrences 31 = .ok (.ireturn, 1) := by decide +kernel
theorem dX11_distance_0 : decode cX11_distance 0 = .ok (.aload_n 0, 1) := by decide +kernel
theorem dX11_distance_1 : decode cX11_distance 1 = .ok (.getfield 10, 3) := by decide +kernel
theorem dX11_distance_4 : decode cX11_distance 4 = .ok (.iload_n 1, 1) := by decide +kernel
theorem dX11_distance_5 : decode cX11_distance 5 = .ok (.invokevirtual 181, 3) := by decide +kernel
theorem dX11_distance_8 : decode cX11_distance 8 = .ok (.ifCond .eq 14, 3) := by decide +kernel
theorem dX11_distance_11 : decode cX11_distance 11 = .ok (.aload_n 0, 1) := by decide +kernel
theorem dX11_distance_12 : decode cX11_distance 12 = .ok (.getfield 10, 3) := by decide +kernel
theorem dX11_distance_15 : decode cX11_distance 15 = .ok (.iload_n 2, 1) := by decide +kernel
theorem dX11_distance_16 : decode cX11_distance 16 = .ok (.invokevirtual 181, 3) := by decide +kernel
theorem dX11_distance_19 : decode cX11_distance 19 = .ok (.ifCond .ne 5, 3) := by decide +kernel
theorem dX11_distance_22 : decode cX11_distance 22 = .ok (.iconst (-1), 1) := by decide +kernel
theorem dX11_distance_23 : decode cX11_distance 23 = .ok (.ireturn, 1) := by decide +kernel
theorem dX11_distance_24 : decode cX11_distance 24 = .ok (.aload_n 0, 1) := by decide +kernel
theorem dX11_distance_25 : decode cX11_distance 25 = .ok (.getfield 29, 3) := by decide +kernel
theorem dX11_distance_28 : decode cX11_distance 28 = .ok (.aload_n 0, 1) := by decide +kernel
theorem dX11_distance_29 : decode cX11_distance 29 = .ok (.getfield 10, 3) := by decide +kernel
theorem dX11_distance_32 : decode cX11_distance 32 = .ok (.aload_n 0, 1) := by decide +kernel
theorem dX11_distance_33 : decode cX11_distance 33 = .ok (.getfield 19, 3) := by decide +kernel
theorem dX11_distance_36 : decode cX11_distance 36 = .ok (.iload_n 1, 1) := by decide +kernel
theorem dX11_distance_37 : decode cX11_distance 37 = .ok (.invokevirtual 184, 3) := by decide +kernel
theorem dX11_distance_40 : decode cX11_distance 40 = .ok (.istore_n 3, 1) := by decide +kernel
theorem dX11_distance_41 : decode cX11_distance 41 = .ok (.aload_n 0, 1) := by decide +kernel
theorem dX11_distance_42 : decode cX11_distance 42 = .ok (.getfield 29, 3) := by decide +kernel
theorem dX11_distance_45 : decode cX11_distance 45 = .ok (.aload_n 0, 1) := by decide +kernel
theorem dX11_distance_46 : decode cX11_distance 46 = .ok (.getfield 10, 3) := by decide +kernel
theorem dX11_distance_49 : decode cX11_distance 49 = .ok (.aload_n 0, 1) := by decide +kernel
theorem dX11_distance_50 : decode cX11_distance 50 = .ok (.getfield 19, 3) := by decide +kernel
theorem dX11_distance_53 : decode cX11_distance 53 = .ok (.iload_n 2, 1) := by decide +kernel
theorem dX11_distance_54 : decode cX11_distance 54 = .ok (.invokevirtual 184, 3) := by decide +kernel
theorem dX11_distance_57 : decode cX11_distance 57 = .ok (.istore 4, 2) := by decide +kernel
theorem dX11_distance_59 : decode cX11_distance 59 = .ok (.iload_n 3, 1) := by decide +kernel
theorem dX11_distance_60 : decode cX11_distance 60 = .ok (.bipush (-2), 2) := by decide +kernel
theorem dX11_distance_62 : decode cX11_distance 62 = .ok (.if_icmp .eq 10, 3) := by decide +kernel
theorem dX11_distance_65 : decode cX11_distance 65 = .ok (.iload 4, 2) := by decide +kernel
theorem dX11_distance_67 : decode cX11_distance 67 = .ok (.bipush (-2), 2) := by decide +kernel
theorem dX11_distance_69 : decode cX11_distance 69 = .ok (.if_icmp .ne 6, 3) := by decide +kernel
theorem dX11_distance_72 : decode cX11_distance 72 = .ok (.bipush (-2), 2) := by decide +kernel
theorem dX11_distance_74 : decode cX11_distance 74 = .ok (.ireturn, 1) := by decide +kernel
theorem dX11_distance_75 : decode cX11_distance 75 = .ok (.iload 4, 2) := by decide +kernel
theorem dX11_distance_77 : decode cX11_distance 77 = .ok (.iload_n 3, 1) := by decide +kernel
theorem dX11_distance_78 : decode cX11_distance 78 = .ok (.if_icmp .lt 10, 3) := by decide +kernel
theorem dX11_distance_81 : decode cX11_distance 81 = .ok (.iload 4, 2) := by decide +kernel
theorem dX11_distance_83 : decode cX11_distance 83 = .ok (.iload_n 3, 1) := by decide +kernel
theorem dX11_distance_84 : decode cX11_distance 84 = .ok (.isub, 1) := by decide +kernel
theorem dX11_distance_85 : decode cX11_distance 85 = .ok (.goto 15, 3) := by decide +kernel
theorem dX11_distance_88 : decode cX11_distance 88 = .ok (.iload 4, 2) := by decide +kernel
theorem dX11_distance_90 : decode cX11_distance 90 = .ok (.iload_n 3, 1) := by decide +kernel
theorem dX11_distance_91 : decode cX11_distance 91 = .ok (.isub, 1) := by decide +kernel
theorem dX11_distance_92 : decode cX11_distance 92 = .ok (.aload_n 0, 1) := by decide +kernel
theorem dX11_distance_93 : decode cX11_distance 93 = .ok (.getfield 19, 3) := by decide +kernel
theorem dX11_distance_96 : decode cX11_distance 96 = .ok (.invokevirtual 102, 3) := by decide +kernel
theorem dX11_distance_99 : decode cX11_distance 99 = .ok (.iadd, 1) := by decide +kernel
theorem dX11_distance_100 : decode cX11_distance 100 = .ok (.ireturn, 1) := by decide +kernel
theorem dX11_linearLength_0 : decode cX11_linearLength 0 = .ok (.aload_n 0, 1) := by decide +kernel
theorem dX11_linearLength_1 : decode cX11_linearLength 1 = .ok (.getfield 19, 3) := by decide +kernel
theorem dX11_linearLength_4 : decode cX11_linearLength 4 = .ok (.invokevirtual 102, 3) := by decide +kernel
theorem dX11_linearLength_7 : decode cX11_linearLength 7 = .ok (.iconst 1, 1) := by decide +kernel
theorem dX11_linearLength_8 : decode cX11_linearLength 8 = .ok (.if_icmp .ge 7, 3) := by decide +kernel
theorem dX11_linearLength_11 : decode cX11_linearLength 11 = .ok (.iconst 0, 1) := by decide +kernel
theorem dX11_linearLength_12 : decode cX11_linearLength 12 = .ok (.goto 20, 3) := by decide +kernel
theorem dX11_linearLength_15 : decode cX11_linearLength 15 = .ok (.aload_n 0, 1) := by decide +kernel
theorem dX11_linearLength_16 : decode cX11_linearLength 16 = .ok (.getfield 19, 3) := by decide +kernel
theorem dX11_linearLength_19 : decode cX11_linearLength 19 = .ok (.invokevirtual 102, 3) := by decide +kernel
theorem dX11_linearLength_22 : decode cX11_linearLength 22 = .ok (.aload_n 0, 1) := by decide +kernel
theorem dX11_linearLength_23 : decode cX11_linearLength 23 = .ok (.getfield 10, 3) := by decide +kernel
theorem dX11_linearLength_26 : decode cX11_linearLength 26 = .ok (.invokevirtual 99, 3) := by decide +kernel
theorem dX11_linearLength_29 : decode cX11_linearLength 29 = .ok (.iadd, 1) := by decide +kernel
theorem dX11_linearLength_30 : decode cX11_linearLength 30 = .ok (.iconst 1, 1) := by decide +kernel
theorem dX11_linearLength_31 : decode cX11_linearLength 31 = .ok (.isub, 1) := by decide +kernel
theorem dX11_linearLength_32 : decode cX11_linearLength 32 = .ok (.ireturn, 1) := by decide +kernel
theorem dX11_linearLetter_0 : decode cX11_linearLetter 0 = .ok (.iload_n 1, 1) := by decide +kernel
theorem dX11_linearLetter_1 : decode cX11_linearLetter 1 = .ok (.ifCond .lt 15, 3) := by decide +kernel
theorem dX11_linearLetter_4 : decode cX11_linearLetter 4 = .ok (.iload_n 1, 1) := by decide +kernel
theorem dX11_linearLetter_5 : decode cX11_linearLetter 5 = .ok (.aload_n 0, 1) := by decide +kernel
theorem dX11_linearLetter_6 : decode cX11_linearLetter 6 = .ok (.invokevirtual 194, 3) := by decide +kernel
theorem dX11_linearLetter_9 : decode cX11_linearLetter 9 = .ok (.if_icmp .ge 7, 3) := by decide +kernel
theorem dX11_linearLetter_12 : decode cX11_linearLetter 12 = .ok (.iconst 1, 1) := by decide +kernel
theorem dX11_linearLetter_13 : decode cX11_linearLetter 13 = .ok (.goto 4, 3) := by decide +kernel
theorem dX11_linearLetter_16 : decode cX11_linearLetter 16 = .ok (.iconst 0, 1) := by decide +kernel
theorem dX11_linearLetter_17 : decode cX11_linearLetter 17 = .ok (.istore_n 2, 1) := by decide +kernel
theorem dX11_linearLetter_18 : decode cX11_linearLetter 18 = .ok (.iload_n 2, 1) := by decide +kernel
theorem dX11_linearLetter_19 : decode cX11_linearLetter 19 = .ok (.ifCond .eq 14, 3) := by decide +kernel
theorem dX11_linearLetter_22 : decode cX11_linearLetter 22 = .ok (.aload_n 0, 1) := by decide +kernel
theorem dX11_linearLetter_23 : decode cX11_linearLetter 23 = .ok (.getfield 19, 3) := by decide +kernel
theorem dX11_linearLetter_26 : decode cX11_linearLetter 26 = .ok (.iload_n 1, 1) := by decide +kernel
theorem dX11_linearLetter_27 : decode cX11_linearLetter 27 = .ok (.invokevirtual 188, 3) := by decide +kernel
theorem dX11_linearLetter_30 : decode cX11_linearLetter 30 = .ok (.goto 5, 3) := by decide +kernel
theorem dX11_linearLetter_33 : decode cX11_linearLetter 33 = .ok (.bipush (-2), 2) := by decide +kernel
theorem dX11_linearLetter_35 : decode cX11_linearLetter 35 = .ok (.ireturn, 1) := by decide +kernel
theorem dX11_differentBlocks_0 : decode cX11_differentBlocks 0 = .ok (.aload_n 0, 1) := by decide +kernel
theorem dX11_differentBlocks_1 : decode cX11_differentBlocks 1 = .ok (.getfield 29, 3) := by decide +kernel
theorem dX11_differentBlocks_4 : decode cX11_differentBlocks 4 = .ok (.aload_n 0, 1) := by decide +kernel
theorem dX11_differentBlocks_5 : decode cX11_differentBlocks 5 = .ok (.getfield 10, 3) := by decide +kernel
theorem dX11_differentBlocks_8 : decode cX11_differentBlocks 8 = .ok (.aload_n 0, 1) := by decide +kernel
theorem dX11_differentBlocks_9 : decode cX11_differentBlocks 9 = .ok (.getfield 19, 3) := by decide +kernel
theorem dX11_differentBlocks_12 : decode cX11_differentBlocks 12 = .ok (.invokevirtual 197, 3) := by decide +kernel
theorem dX11_differentBlocks_15 : decode cX11_differentBlocks 15 = .ok (.ireturn, 1) := by decide +kernel
theorem dX11_missingBlock_0 : decode cX11_missingBlock 0 = .ok (.aload_n 0, 1) := by decide +kernel
theorem dX11_missingBlock_1 : decode cX11_missingBlock 1 = .ok (.getfield 29, 3) := by decide +kernel
theorem dX11_missingBlock_4 : decode cX11_missingBlock 4 = .ok (.aload_n 0, 1) := by decide +kernel
theorem dX11_missingBlock_5 : decode cX11_missingBlock 5 = .ok (.getfield 10, 3) := by decide +kernel
theorem dX11_missingBlock_8 : decode cX11_missingBlock 8 = .ok (.aload_n 0, 1) := by decide +kernel
theorem dX11_missingBlock_9 : decode cX11_missingBlock 9 = .ok (.getfield 19, 3) := by decide +kernel
theorem dX11_missingBlock_12 : decode cX11_missingBlock 12 = .ok (.iload_n 1, 1) := by decide +kernel
theorem dX11_missingBlock_13 : decode cX11_missingBlock 13 = .ok (.invokevirtual 201, 3) := by decide +kernel
theorem dX11_missingBlock_16 : decode cX11_missingBlock 16 = .ok (.ireturn, 1) := by decide +kernel
theorem dX11_firstRepeat_0 : decode cX11_firstRepeat 0 = .ok (.aload_n 0, 1) := by decide +kernel
theorem dX11_firstRepeat_1 : decode cX11_firstRepeat 1 = .ok (.getfield 29, 3) := by decide +kernel
theorem dX11_firstRepeat_4 : decode cX11_firstRepeat 4 = .ok (.aload_n 0, 1) := by decide +kernel
theorem dX11_firstRepeat_5 : decode cX11_firstRepeat 5 = .ok (.getfield 10, 3) := by decide +kernel
theorem dX11_firstRepeat_8 : decode cX11_firstRepeat 8 = .ok (.aload_n 0, 1) := by decide +kernel
theorem dX11_firstRepeat_9 : decode cX11_firstRepeat 9 = .ok (.getfield 19, 3) := by decide +kernel
theorem dX11_firstRepeat_12 : decode cX11_firstRepeat 12 = .ok (.invokevirtual 204, 3) := by decide +kernel
theorem dX11_firstRepeat_15 : decode cX11_firstRepeat 15 = .ok (.ireturn, 1) := by decide +kernel
theorem dX11_isDeBruijn_0 : decode cX11_isDeBruijn 0 = .ok (.aload_n 0, 1) := by decide +kernel
theorem dX11_isDeBruijn_1 : decode cX11_isDeBruijn 1 = .ok (.getfield 10, 3) := by decide +kernel
theorem dX11_isDeBruijn_4 : decode cX11_isDeBruijn 4 = .ok (.invokevirtual 92, 3) := by decide +kernel
theorem dX11_isDeBruijn_7 : decode cX11_isDeBruijn 7 = .ok (.istore_n 1, 1) := by decide +kernel
theorem dX11_isDeBruijn_8 : decode cX11_isDeBruijn 8 = .ok (.aload_n 0, 1) := by decide +kernel
theorem dX11_isDeBruijn_9 : decode cX11_isDeBruijn 9 = .ok (.getfield 19, 3) := by decide +kernel
theorem dX11_isDeBruijn_12 : decode cX11_isDeBruijn 12 = .ok (.invokevirtual 102, 3) := by decide +kernel
theorem dX11_isDeBruijn_15 : decode cX11_isDeBruijn 15 = .ok (.iload_n 1, 1) := by decide +kernel
theorem dX11_isDeBruijn_16 : decode cX11_isDeBruijn 16 = .ok (.if_icmp .ne 26, 3) := by decide +kernel
theorem dX11_isDeBruijn_19 : decode cX11_isDeBruijn 19 = .ok (.aload_n 0, 1) := by decide +kernel
theorem dX11_isDeBruijn_20 : decode cX11_isDeBruijn 20 = .ok (.getfield 29, 3) := by decide +kernel
theorem dX11_isDeBruijn_23 : decode cX11_isDeBruijn 23 = .ok (.aload_n 0, 1) := by decide +kernel
theorem dX11_isDeBruijn_24 : decode cX11_isDeBruijn 24 = .ok (.getfield 10, 3) := by decide +kernel
theorem dX11_isDeBruijn_27 : decode cX11_isDeBruijn 27 = .ok (.aload_n 0, 1) := by decide +kernel
theorem dX11_isDeBruijn_28 : decode cX11_isDeBruijn 28 = .ok (.getfield 19, 3) := by decide +kernel
theorem dX11_isDeBruijn_31 : decode cX11_isDeBruijn 31 = .ok (.invokevirtual 197, 3) := by decide +kernel
theorem dX11_isDeBruijn_34 : decode cX11_isDeBruijn 34 = .ok (.iload_n 1, 1) := by decide +kernel
theorem dX11_isDeBruijn_35 : decode cX11_isDeBruijn 35 = .ok (.if_icmp .ne 7, 3) := by decide +kernel
theorem dX11_isDeBruijn_38 : decode cX11_isDeBruijn 38 = .ok (.iconst 1, 1) := by decide +kernel
theorem dX11_isDeBruijn_39 : decode cX11_isDeBruijn 39 = .ok (.goto 4, 3) := by decide +kernel
theorem dX11_isDeBruijn_42 : decode cX11_isDeBruijn 42 = .ok (.iconst 0, 1) := by decide +kernel
theorem dX11_isDeBruijn_43 : decode cX11_isDeBruijn 43 = .ok (.ireturn, 1) := by decide +kernel
theorem dX11_successorLetter_0 : decode cX11_successorLetter 0 = .ok (.aload_n 0, 1) := by decide +kernel
theorem dX11_successorLetter_1 : decode cX11_successorLetter 1 = .ok (.getfield 10, 3) := by decide +kernel
theorem dX11_successorLetter_4 : decode cX11_successorLetter 4 = .ok (.iload_n 1, 1) := by decide +kernel
theorem dX11_successorLetter_5 : decode cX11_successorLetter 5 = .ok (.invokevirtual 181, 3) := by decide +kernel
theorem dX11_successorLetter_8 : decode cX11_successorLetter 8 = .ok (.ifCond .eq 14, 3) := by decide +kernel
theorem dX11_successorLetter_11 : decode cX11_successorLetter 11 = .ok (.aload_n 0, 1) := by decide +kernel
theorem dX11_successorLetter_12 : decode cX11_successorLetter 12 = .ok (.getfield 10, 3) := by decide +kernel
theorem dX11_successorLetter_15 : decode cX11_successorLetter 15 = .ok (.iload_n 1, 1) := by decide +kernel
theorem dX11_successorLetter_16 : decode cX11_successorLetter 16 = .ok (.invokevirtual 207, 3) := by decide +kernel
theorem dX11_successorLetter_19 : decode cX11_successorLetter 19 = .ok (.goto 4, 3) := by decide +kernel
theorem dX11_successorLetter_22 : decode cX11_successorLetter 22 = .ok (.iconst (-1), 1) := by decide +kernel
theorem dX11_successorLetter_23 : decode cX11_successorLetter 23 = .ok (.ireturn, 1) := by decide +kernel
theorem dX11_follow_0 : decode cX11_follow 0 = .ok (.aload_n 0, 1) := by decide +kernel
theorem dX11_follow_1 : decode cX11_follow 1 = .ok (.getfield 10, 3) := by decide +kernel
theorem dX11_follow_4 : decode cX11_follow 4 = .ok (.iload_n 1, 1) := by decide +kernel
theorem dX11_follow_5 : decode cX11_follow 5 = .ok (.invokevirtual 181, 3) := by decide +kernel
theorem dX11_follow_8 : decode cX11_follow 8 = .ok (.ifCond .eq 14, 3) := by decide +kernel
theorem dX11_follow_11 : decode cX11_follow 11 = .ok (.iload_n 2, 1) := by decide +kernel
theorem dX11_follow_12 : decode cX11_follow 12 = .ok (.ifCond .lt 10, 3) := by decide +kernel
theorem dX11_follow_15 : decode cX11_follow 15 = .ok (.iload_n 2, 1) := by decide +kernel
theorem dX11_follow_16 : decode cX11_follow 16 = .ok (.sipush 300, 3) := by decide +kernel
theorem dX11_follow_19 : decode cX11_follow 19 = .ok (.if_icmp .le 5, 3) := by decide +kernel
theorem dX11_follow_22 : decode cX11_follow 22 = .ok (.iconst (-1), 1) := by decide +kernel
theorem dX11_follow_23 : decode cX11_follow 23 = .ok (.ireturn, 1) := by decide +kernel
theorem dX11_follow_24 : decode cX11_follow 24 = .ok (.iload_n 1, 1) := by decide +kernel
theorem dX11_follow_25 : decode cX11_follow 25 = .ok (.istore_n 3, 1) := by decide +kernel
theorem dX11_follow_26 : decode cX11_follow 26 = .ok (.iconst 0, 1) := by decide +kernel
theorem dX11_follow_27 : decode cX11_follow 27 = .ok (.istore 4, 2) := by decide +kernel
theorem dX11_follow_29 : decode cX11_follow 29 = .ok (.iload 4, 2) := by decide +kernel
theorem dX11_follow_31 : decode cX11_follow 31 = .ok (.iload_n 2, 1) := by decide +kernel
theorem dX11_follow_32 : decode cX11_follow 32 = .ok (.if_icmp .ge 26, 3) := by decide +kernel
theorem dX11_follow_35 : decode cX11_follow 35 = .ok (.aload_n 0, 1) := by decide +kernel
theorem dX11_follow_36 : decode cX11_follow 36 = .ok (.getfield 10, 3) := by decide +kernel
theorem dX11_follow_39 : decode cX11_follow 39 = .ok (.iload_n 3, 1) := by decide +kernel
theorem dX11_follow_40 : decode cX11_follow 40 = .ok (.aload_n 0, 1) := by decide +kernel
theorem dX11_follow_41 : decode cX11_follow 41 = .ok (.getfield 10, 3) := by decide +kernel
theorem dX11_follow_44 : decode cX11_follow 44 = .ok (.iload_n 3, 1) := by decide +kernel
theorem dX11_follow_45 : decode cX11_follow 45 = .ok (.invokevirtual 207, 3) := by decide +kernel
theorem dX11_follow_48 : decode cX11_follow 48 = .ok (.invokevirtual 210, 3) := by decide +kernel
theorem dX11_follow_51 : decode cX11_follow 51 = .ok (.istore_n 3, 1) := by decide +kernel
theorem dX11_follow_52 : decode cX11_follow 52 = .ok (.iinc 4 1, 3) := by decide +kernel
theorem dX11_follow_55 : decode cX11_follow 55 = .ok (.goto (-26), 3) := by decide +kernel
theorem dX11_follow_58 : decode cX11_follow 58 = .ok (.iload_n 3, 1) := by decide +kernel
theorem dX11_follow_59 : decode cX11_follow 59 = .ok (.ireturn, 1) := by decide +kernel
theorem dX11_isNecklace_0 : decode cX11_isNecklace 0 = .ok (.aload_n 0, 1) := by decide +kernel
theorem dX11_isNecklace_1 : decode cX11_isNecklace 1 = .ok (.getfield 10, 3) := by decide +kernel
theorem dX11_isNecklace_4 : decode cX11_isNecklace 4 = .ok (.iload_n 1, 1) := by decide +kernel
theorem dX11_isNecklace_5 : decode cX11_isNecklace 5 = .ok (.invokevirtual 181, 3) := by decide +kernel
theorem dX11_isNecklace_8 : decode cX11_isNecklace 8 = .ok (.ifCond .ne 5, 3) := by decide +kernel
theorem dX11_isNecklace_11 : decode cX11_isNecklace 11 = .ok (.iconst (-1), 1) := by decide +kernel
theorem dX11_isNecklace_12 : decode cX11_isNecklace 12 = .ok (.ireturn, 1) := by decide +kernel
theorem dX11_isNecklace_13 : decode cX11_isNecklace 13 = .ok (.aload_n 0, 1) := by decide +kernel
theorem dX11_isNecklace_14 : decode cX11_isNecklace 14 = .ok (.getfield 10, 3) := by decide +kernel
theorem dX11_isNecklace_17 : decode cX11_isNecklace 17 = .ok (.iload_n 1, 1) := by decide +kernel
theorem dX11_isNecklace_18 : decode cX11_isNecklace 18 = .ok (.invokevirtual 213, 3) := by decide +kernel
theorem dX11_isNecklace_21 : decode cX11_isNecklace 21 = .ok (.ifCond .eq 7, 3) := by decide +kernel
theorem dX11_isNecklace_24 : decode cX11_isNecklace 24 = .ok (.iconst 1, 1) := by decide +kernel
theorem dX11_isNecklace_25 : decode cX11_isNecklace 25 = .ok (.goto 4, 3) := by decide +kernel
theorem dX11_isNecklace_28 : decode cX11_isNecklace 28 = .ok (.iconst 0, 1) := by decide +kernel
theorem dX11_isNecklace_29 : decode cX11_isNecklace 29 = .ok (.ireturn, 1) := by decide +kernel
theorem dX11_necklaceOf_0 : decode cX11_necklaceOf 0 = .ok (.aload_n 0, 1) := by decide +kernel
theorem dX11_necklaceOf_1 : decode cX11_necklaceOf 1 = .ok (.getfield 10, 3) := by decide +kernel
theorem dX11_necklaceOf_4 : decode cX11_necklaceOf 4 = .ok (.iload_n 1, 1) := by decide +kernel
theorem dX11_necklaceOf_5 : decode cX11_necklaceOf 5 = .ok (.invokevirtual 181, 3) := by decide +kernel
theorem dX11_necklaceOf_8 : decode cX11_necklaceOf 8 = .ok (.ifCond .eq 14, 3) := by decide +kernel
theorem dX11_necklaceOf_11 : decode cX11_necklaceOf 11 = .ok (.aload_n 0, 1) := by decide +kernel
theorem dX11_necklaceOf_12 : decode cX11_necklaceOf 12 = .ok (.getfield 10, 3) := by decide +kernel
theorem dX11_necklaceOf_15 : decode cX11_necklaceOf 15 = .ok (.iload_n 1, 1) := by decide +kernel
theorem dX11_necklaceOf_16 : decode cX11_necklaceOf 16 = .ok (.invokevirtual 216, 3) := by decide +kernel
theorem dX11_necklaceOf_19 : decode cX11_necklaceOf 19 = .ok (.goto 4, 3) := by decide +kernel
theorem dX11_necklaceOf_22 : decode cX11_necklaceOf 22 = .ok (.iconst (-1), 1) := by decide +kernel
theorem dX11_necklaceOf_23 : decode cX11_necklaceOf 23 = .ok (.ireturn, 1) := by decide +kernel
theorem dX11_rotationCount_0 : decode cX11_rotationCount 0 = .ok (.aload_n 0, 1) := by decide +kernel
theorem dX11_rotationCount_1 : decode cX11_rotationCount 1 = .ok (.getfield 10, 3) := by decide +kernel
theorem dX11_rotationCount_4 : decode cX11_rotationCount 4 = .ok (.iload_n 1, 1) := by decide +kernel
theorem dX11_rotationCount_5 : decode cX11_rotationCount 5 = .ok (.invokevirtual 181, 3) := by decide +kernel
theorem dX11_rotationCount_8 : decode cX11_rotationCount 8 = .ok (.ifCond .eq 14, 3) := by decide +kernel
theorem dX11_rotationCount_11 : decode cX11_rotationCount 11 = .ok (.aload_n 0, 1) := by decide +kernel
theorem dX11_rotationCount_12 : decode cX11_rotationCount 12 = .ok (.getfield 10, 3) := by decide +kernel
theorem dX11_rotationCount_15 : decode cX11_rotationCount 15 = .ok (.iload_n 1, 1) := by decide +kernel
theorem dX11_rotationCount_16 : decode cX11_rotationCount 16 = .ok (.invokevirtual 219, 3) := by decide +kernel
theorem dX11_rotationCount_19 : decode cX11_rotationCount 19 = .ok (.goto 4, 3) := by decide +kernel
theorem dX11_rotationCount_22 : decode cX11_rotationCount 22 = .ok (.iconst (-1), 1) := by decide +kernel
theorem dX11_rotationCount_23 : decode cX11_rotationCount 23 = .ok (.ireturn, 1) := by decide +kernel
theorem dX11_necklace_0 : decode cX11_necklace 0 = .ok (.aload_n 0, 1) := by decide +kernel
theorem dX11_necklace_1 : decode cX11_necklace 1 = .ok (.getfield 10, 3) := by decide +kernel
theorem dX11_necklace_4 : decode cX11_necklace 4 = .ok (.iload_n 1, 1) := by decide +kernel
theorem dX11_necklace_5 : decode cX11_necklace 5 = .ok (.invokevirtual 222, 3) := by decide +kernel
theorem dX11_necklace_8 : decode cX11_necklace 8 = .ok (.ireturn, 1) := by decide +kernel
theorem dX11_lyndonCount_0 : decode cX11_lyndonCount 0 = .ok (.aload_n 0, 1) := by decide +kernel
theorem dX11_lyndonCount_1 : decode cX11_lyndonCount 1 = .ok (.getfield 10, 3) := by decide +kernel
theorem dX11_lyndonCount_4 : decode cX11_lyndonCount 4 = .ok (.iload_n 1, 1) := by decide +kernel
theorem dX11_lyndonCount_5 : decode cX11_lyndonCount 5 = .ok (.invokevirtual 225, 3) := by decide +kernel
theorem dX11_lyndonCount_8 : decode cX11_lyndonCount 8 = .ok (.ifCond .eq 14, 3) := by decide +kernel
theorem dX11_lyndonCount_11 : decode cX11_lyndonCount 11 = .ok (.aload_n 0, 1) := by decide +kernel
theorem dX11_lyndonCount_12 : decode cX11_lyndonCount 12 = .ok (.getfield 10, 3) := by decide +kernel
theorem dX11_lyndonCount_15 : decode cX11_lyndonCount 15 = .ok (.iload_n 1, 1) := by decide +kernel
theorem dX11_lyndonCount_16 : decode cX11_lyndonCount 16 = .ok (.invokevirtual 228, 3) := by decide +kernel
theorem dX11_lyndonCount_19 : decode cX11_lyndonCount 19 = .ok (.goto 4, 3) := by decide +kernel
theorem dX11_lyndonCount_22 : decode cX11_lyndonCount 22 = .ok (.iconst (-1), 1) := by decide +kernel
theorem dX11_lyndonCount_23 : decode cX11_lyndonCount 23 = .ok (.ireturn, 1) := by decide +kernel
theorem dX11_lyndonWord_0 : decode cX11_lyndonWord 0 = .ok (.aload_n 0, 1) := by decide +kernel
theorem dX11_lyndonWord_1 : decode cX11_lyndonWord 1 = .ok (.getfield 10, 3) := by decide +kernel
theorem dX11_lyndonWord_4 : decode cX11_lyndonWord 4 = .ok (.iload_n 1, 1) := by decide +kernel
theorem dX11_lyndonWord_5 : decode cX11_lyndonWord 5 = .ok (.invokevirtual 225, 3) := by decide +kernel
theorem dX11_lyndonWord_8 : decode cX11_lyndonWord 8 = .ok (.ifCond .eq 15, 3) := by decide +kernel
theorem dX11_lyndonWord_11 : decode cX11_lyndonWord 11 = .ok (.aload_n 0, 1) := by decide +kernel
theorem dX11_lyndonWord_12 : decode cX11_lyndonWord 12 = .ok (.getfield 10, 3) := by decide +kernel
theorem dX11_lyndonWord_15 : decode cX11_lyndonWord 15 = .ok (.iload_n 1, 1) := by decide +kernel
theorem dX11_lyndonWord_16 : decode cX11_lyndonWord 16 = .ok (.iload_n 2, 1) := by decide +kernel
theorem dX11_lyndonWord_17 : decode cX11_lyndonWord 17 = .ok (.invokevirtual 231, 3) := by decide +kernel
theorem dX11_lyndonWord_20 : decode cX11_lyndonWord 20 = .ok (.goto 4, 3) := by decide +kernel
theorem dX11_lyndonWord_23 : decode cX11_lyndonWord 23 = .ok (.iconst (-1), 1) := by decide +kernel
theorem dX11_lyndonWord_24 : decode cX11_lyndonWord 24 = .ok (.ireturn, 1) := by decide +kernel
theorem dX11_appendPattern_0 : decode cX11_appendPattern 0 = .ok (.iload_n 1, 1) := by decide +kernel
theorem dX11_appendPattern_1 : decode cX11_appendPattern 1 = .ok (.iconst (-1), 1) := by decide +kernel
theorem dX11_appendPattern_2 : decode cX11_appendPattern 2 = .ok (.if_icmp .eq 16, 3) := by decide +kernel
theorem dX11_appendPattern_5 : decode cX11_appendPattern 5 = .ok (.aload_n 0, 1) := by decide +kernel
theorem dX11_appendPattern_6 : decode cX11_appendPattern 6 = .ok (.getfield 10, 3) := by decide +kernel
theorem dX11_appendPattern_9 : decode cX11_appendPattern 9 = .ok (.iload_n 1, 1) := by decide +kernel
theorem dX11_appendPattern_10 : decode cX11_appendPattern 10 = .ok (.invokevirtual 146, 3) := by decide +kernel
theorem dX11_appendPattern_13 : decode cX11_appendPattern 13 = .ok (.ifCond .ne 5, 3) := by decide +kernel
theorem dX11_appendPattern_16 : decode cX11_appendPattern 16 = .ok (.iconst (-1), 1) := by decide +kernel
theorem dX11_appendPattern_17 : decode cX11_appendPattern 17 = .ok (.ireturn, 1) := by decide +kernel
theorem dX11_appendPattern_18 : decode cX11_appendPattern 18 = .ok (.aload_n 0, 1) := by decide +kernel
theorem dX11_appendPattern_19 : decode cX11_appendPattern 19 = .ok (.getfield 50, 3) := by decide +kernel
theorem dX11_appendPattern_22 : decode cX11_appendPattern 22 = .ok (.invokevirtual 234, 3) := by decide +kernel
theorem dX11_appendPattern_25 : decode cX11_appendPattern 25 = .ok (.ifCond .eq 6, 3) := by decide +kernel
theorem dX11_appendPattern_28 : decode cX11_appendPattern 28 = .ok (.bipush (-4), 2) := by decide +kernel
theorem dX11_appendPattern_30 : decode cX11_appendPattern 30 = .ok (.ireturn, 1) := by decide +kernel
theorem dX11_appendPattern_31 : decode cX11_appendPattern 31 = .ok (.aload_n 0, 1) := by decide +kernel
theorem dX11_appendPattern_32 : decode cX11_appendPattern 32 = .ok (.getfield 50, 3) := by decide +kernel
theorem dX11_appendPattern_35 : decode cX11_appendPattern 35 = .ok (.iload_n 1, 1) := by decide +kernel
theorem dX11_appendPattern_36 : decode cX11_appendPattern 36 = .ok (.invokevirtual 235, 3) := by decide +kernel
theorem dX11_appendPattern_39 : decode cX11_appendPattern 39 = .ok (.aload_n 0, 1) := by decide +kernel
theorem dX11_appendPattern_40 : decode cX11_appendPattern 40 = .ok (.getfield 50, 3) := by decide +kernel
theorem dX11_appendPattern_43 : decode cX11_appendPattern 43 = .ok (.invokevirtual 236, 3) := by decide +kernel
theorem dX11_appendPattern_46 : decode cX11_appendPattern 46 = .ok (.ireturn, 1) := by decide +kernel
theorem dX11_clearPattern_0 : decode cX11_clearPattern 0 = .ok (.aload_n 0, 1) := by decide +kernel
theorem dX11_clearPattern_1 : decode cX11_clearPattern 1 = .ok (.getfield 50, 3) := by decide +kernel
theorem dX11_clearPattern_4 : decode cX11_clearPattern 4 = .ok (.invokevirtual 236, 3) := by decide +kernel
theorem dX11_clearPattern_7 : decode cX11_clearPattern 7 = .ok (.istore_n 1, 1) := by decide +kernel
theorem dX11_clearPattern_8 : decode cX11_clearPattern 8 = .ok (.aload_n 0, 1) := by decide +kernel
theorem dX11_clearPattern_9 : decode cX11_clearPattern 9 = .ok (.getfield 50, 3) := by decide +kernel
theorem dX11_clearPattern_12 : decode cX11_clearPattern 12 = .ok (.invokevirtual 237, 3) := by decide +kernel
theorem dX11_clearPattern_15 : decode cX11_clearPattern 15 = .ok (.iload_n 1, 1) := by decide +kernel
theorem dX11_clearPattern_16 : decode cX11_clearPattern 16 = .ok (.ireturn, 1) := by decide +kernel
theorem dX11_patternCount_0 : decode cX11_patternCount 0 = .ok (.aload_n 0, 1) := by decide +kernel
theorem dX11_patternCount_1 : decode cX11_patternCount 1 = .ok (.getfield 50, 3) := by decide +kernel
theorem dX11_patternCount_4 : decode cX11_patternCount 4 = .ok (.aload_n 0, 1) := by decide +kernel
theorem dX11_patternCount_5 : decode cX11_patternCount 5 = .ok (.getfield 19, 3) := by decide +kernel
theorem dX11_patternCount_8 : decode cX11_patternCount 8 = .ok (.invokevirtual 238, 3) := by decide +kernel
theorem dX11_patternCount_11 : decode cX11_patternCount 11 = .ok (.ireturn, 1) := by decide +kernel
theorem dX11_patternPosition_0 : decode cX11_patternPosition 0 = .ok (.aload_n 0, 1) := by decide +kernel
theorem dX11_patternPosition_1 : decode cX11_patternPosition 1 = .ok (.getfield 50, 3) := by decide +kernel
theorem dX11_patternPosition_4 : decode cX11_patternPosition 4 = .ok (.aload_n 0, 1) := by decide +kernel
theorem dX11_patternPosition_5 : decode cX11_patternPosition 5 = .ok (.getfield 19, 3) := by decide +kernel
theorem dX11_patternPosition_8 : decode cX11_patternPosition 8 = .ok (.iload_n 1, 1) := by decide +kernel
theorem dX11_patternPosition_9 : decode cX11_patternPosition 9 = .ok (.invokevirtual 242, 3) := by decide +kernel
theorem dX11_patternPosition_12 : decode cX11_patternPosition 12 = .ok (.ireturn, 1) := by decide +kernel
theorem dX11_countModulo_0 : decode cX11_countModulo 0 = .ok (.iload_n 1, 1) := by decide +kernel
theorem dX11_countModulo_1 : decode cX11_countModulo 1 = .ok (.iconst 2, 1) := by decide +kernel
theorem dX11_countModulo_2 : decode cX11_countModulo 2 = .ok (.if_icmp .lt 9, 3) := by decide +kernel
theorem dX11_countModulo_5 : decode cX11_countModulo 5 = .ok (.iload_n 1, 1) := by decide +kernel
theorem dX11_countModulo_6 : decode cX11_countModulo 6 = .ok (.ldc 245, 2) := by decide +kernel
theorem dX11_countModulo_8 : decode cX11_countModulo 8 = .ok (.if_icmp .le 7, 3) := by decide +kernel
theorem dX11_countModulo_11 : decode cX11_countModulo 11 = .ok (.iconst (-1), 1) := by decide +kernel
theorem dX11_countModulo_12 : decode cX11_countModulo 12 = .ok (.goto 11, 3) := by decide +kernel
theorem dX11_countModulo_15 : decode cX11_countModulo 15 = .ok (.aload_n 0, 1) := by decide +kernel
theorem dX11_countModulo_16 : decode cX11_countModulo 16 = .ok (.getfield 10, 3) := by decide +kernel
theorem dX11_countModulo_19 : decode cX11_countModulo 19 = .ok (.iload_n 1, 1) := by decide +kernel
theorem dX11_countModulo_20 : decode cX11_countModulo 20 = .ok (.invokevirtual 246, 3) := by decide +kernel
theorem dX11_countModulo_23 : decode cX11_countModulo 23 = .ok (.ireturn, 1) := by decide +kernel
theorem dX11_runCount_0 : decode cX11_runCount 0 = .ok (.aload_n 0, 1) := by decide +kernel
theorem dX11_runCount_1 : decode cX11_runCount 1 = .ok (.getfield 10, 3) := by decide +kernel
theorem dX11_runCount_4 : decode cX11_runCount 4 = .ok (.iload_n 1, 1) := by decide +kernel
theorem dX11_runCount_5 : decode cX11_runCount 5 = .ok (.invokevirtual 146, 3) := by decide +kernel
theorem dX11_runCount_8 : decode cX11_runCount 8 = .ok (.ifCond .eq 15, 3) := by decide +kernel
theorem dX11_runCount_11 : decode cX11_runCount 11 = .ok (.iload_n 2, 1) := by decide +kernel
theorem dX11_runCount_12 : decode cX11_runCount 12 = .ok (.iconst 1, 1) := by decide +kernel
theorem dX11_runCount_13 : decode cX11_runCount 13 = .ok (.if_icmp .lt 10, 3) := by decide +kernel
theorem dX11_runCount_16 : decode cX11_runCount 16 = .ok (.iload_n 2, 1) := by decide +kernel
theorem dX11_runCount_17 : decode cX11_runCount 17 = .ok (.sipush 256, 3) := by decide +kernel
theorem dX11_runCount_20 : decode cX11_runCount 20 = .ok (.if_icmp .le 5, 3) := by decide +kernel
theorem dX11_runCount_23 : decode cX11_runCount 23 = .ok (.iconst (-1), 1) := by decide +kernel
theorem dX11_runCount_24 : decode cX11_runCount 24 = .ok (.ireturn, 1) := by decide +kernel
theorem dX11_runCount_25 : decode cX11_runCount 25 = .ok (.aload_n 0, 1) := by decide +kernel
theorem dX11_runCount_26 : decode cX11_runCount 26 = .ok (.getfield 19, 3) := by decide +kernel
theorem dX11_runCount_29 : decode cX11_runCount 29 = .ok (.iload_n 1, 1) := by decide +kernel
theorem dX11_runCount_30 : decode cX11_runCount 30 = .ok (.iload_n 2, 1) := by decide +kernel
theorem dX11_runCount_31 : decode cX11_runCount 31 = .ok (.invokestatic 249, 3) := by decide +kernel
theorem dX11_runCount_34 : decode cX11_runCount 34 = .ok (.ireturn, 1) := by decide +kernel
theorem dX11_discrepancy_0 : decode cX11_discrepancy 0 = .ok (.aload_n 0, 1) := by decide +kernel
theorem dX11_discrepancy_1 : decode cX11_discrepancy 1 = .ok (.getfield 10, 3) := by decide +kernel
theorem dX11_discrepancy_4 : decode cX11_discrepancy 4 = .ok (.iload_n 1, 1) := by decide +kernel
theorem dX11_discrepancy_5 : decode cX11_discrepancy 5 = .ok (.invokevirtual 146, 3) := by decide +kernel
theorem dX11_discrepancy_8 : decode cX11_discrepancy 8 = .ok (.ifCond .ne 5, 3) := by decide +kernel
theorem dX11_discrepancy_11 : decode cX11_discrepancy 11 = .ok (.iconst (-1), 1) := by decide +kernel
theorem dX11_discrepancy_12 : decode cX11_discrepancy 12 = .ok (.ireturn, 1) := by decide +kernel
theorem dX11_discrepancy_13 : decode cX11_discrepancy 13 = .ok (.aload_n 0, 1) := by decide +kernel
theorem dX11_discrepancy_14 : decode cX11_discrepancy 14 = .ok (.getfield 19, 3) := by decide +kernel
theorem dX11_discrepancy_17 : decode cX11_discrepancy 17 = .ok (.iload_n 1, 1) := by decide +kernel
theorem dX11_discrepancy_18 : decode cX11_discrepancy 18 = .ok (.aload_n 0, 1) := by decide +kernel
theorem dX11_discrepancy_19 : decode cX11_discrepancy 19 = .ok (.getfield 10, 3) := by decide +kernel
theorem dX11_discrepancy_22 : decode cX11_discrepancy 22 = .ok (.invokevirtual 96, 3) := by decide +kernel
theorem dX11_discrepancy_25 : decode cX11_discrepancy 25 = .ok (.invokestatic 255, 3) := by decide +kernel
theorem dX11_discrepancy_28 : decode cX11_discrepancy 28 = .ok (.ireturn, 1) := by decide +kernel
theorem dX11_autocorrelationBits_0 : decode cX11_autocorrelationBits 0 = .ok (.iload_n 1, 1) := by decide +kernel
theorem dX11_autocorrelationBits_1 : decode cX11_autocorrelationBits 1 = .ok (.ifCond .lt 10, 3) := by decide +kernel
theorem dX11_autocorrelationBits_4 : decode cX11_autocorrelationBits 4 = .ok (.iload_n 1, 1) := by decide +kernel
theorem dX11_autocorrelationBits_5 : decode cX11_autocorrelationBits 5 = .ok (.sipush 256, 3) := by decide +kernel
theorem dX11_autocorrelationBits_8 : decode cX11_autocorrelationBits 8 = .ok (.if_icmp .le 7, 3) := by decide +kernel
theorem dX11_autocorrelationBits_11 : decode cX11_autocorrelationBits 11 = .ok (.ldc2_w 258, 3) := by decide +kernel
theorem dX11_autocorrelationBits_14 : decode cX11_autocorrelationBits 14 = .ok (.lreturn, 1) := by decide +kernel
theorem dX11_autocorrelationBits_15 : decode cX11_autocorrelationBits 15 = .ok (.aload_n 0, 1) := by decide +kernel
theorem dX11_autocorrelationBits_16 : decode cX11_autocorrelationBits 16 = .ok (.getfield 19, 3) := by decide +kernel
theorem dX11_autocorrelationBits_19 : decode cX11_autocorrelationBits 19 = .ok (.invokevirtual 102, 3) := by decide +kernel
theorem dX11_autocorrelationBits_22 : decode cX11_autocorrelationBits 22 = .ok (.iconst 1, 1) := by decide +kernel
theorem dX11_autocorrelationBits_23 : decode cX11_autocorrelationBits 23 = .ok (.if_icmp .ge 7, 3) := by decide +kernel
theorem dX11_autocorrelationBits_26 : decode cX11_autocorrelationBits 26 = .ok (.ldc2_w 260, 3) := by decide +kernel
theorem dX11_autocorrelationBits_29 : decode cX11_autocorrelationBits 29 = .ok (.lreturn, 1) := by decide +kernel
theorem dX11_autocorrelationBits_30 : decode cX11_autocorrelationBits 30 = .ok (.aload_n 0, 1) := by decide +kernel
theorem dX11_autocorrelationBits_31 : decode cX11_autocorrelationBits 31 = .ok (.getfield 19, 3) := by decide +kernel
theorem dX11_autocorrelationBits_34 : decode cX11_autocorrelationBits 34 = .ok (.invokevirtual 262, 3) := by decide +kernel
theorem dX11_autocorrelationBits_37 : decode cX11_autocorrelationBits 37 = .ok (.ifCond .eq 7, 3) := by decide +kernel
theorem dX11_autocorrelationBits_40 : decode cX11_autocorrelationBits 40 = .ok (.ldc2_w 265, 3) := by decide +kernel
theorem dX11_autocorrelationBits_43 : decode cX11_autocorrelationBits 43 = .ok (.lreturn, 1) := by decide +kernel
theorem dX11_autocorrelationBits_44 : decode cX11_autocorrelationBits 44 = .ok (.aload_n 0, 1) := by decide +kernel
theorem dX11_autocorrelationBits_45 : decode cX11_autocorrelationBits 45 = .ok (.getfield 19, 3) := by decide +kernel
theorem dX11_autocorrelationBits_48 : decode cX11_autocorrelationBits 48 = .ok (.iload_n 1, 1) := by decide +kernel
theorem dX11_autocorrelationBits_49 : decode cX11_autocorrelationBits 49 = .ok (.invokestatic 267, 3) := by decide +kernel
theorem dX11_autocorrelationBits_52 : decode cX11_autocorrelationBits 52 = .ok (.invokestatic 271, 3) := by decide +kernel
theorem dX11_autocorrelationBits_55 : decode cX11_autocorrelationBits 55 = .ok (.lreturn, 1) := by decide +kernel
theorem dX11_undo_0 : decode cX11_undo 0 = .ok (.aload_n 0, 1) := by decide +kernel
theorem dX11_undo_1 : decode cX11_undo 1 = .ok (.getfield 57, 3) := by decide +kernel
theorem dX11_undo_4 : decode cX11_undo 4 = .ok (.invokevirtual 275, 3) := by decide +kernel
theorem dX11_undo_7 : decode cX11_undo 7 = .ok (.iconst 1, 1) := by decide +kernel
theorem dX11_undo_8 : decode cX11_undo 8 = .ok (.if_icmp .ge 6, 3) := by decide +kernel
theorem dX11_undo_11 : decode cX11_undo 11 = .ok (.bipush (-7), 2) := by decide +kernel
theorem dX11_undo_13 : decode cX11_undo 13 = .ok (.ireturn, 1) := by decide +kernel
theorem dX11_undo_14 : decode cX11_undo 14 = .ok (.aload_n 0, 1) := by decide +kernel
theorem dX11_undo_15 : decode cX11_undo 15 = .ok (.getfield 57, 3) := by decide +kernel
theorem dX11_undo_18 : decode cX11_undo 18 = .ok (.aload_n 0, 1) := by decide +kernel
theorem dX11_undo_19 : decode cX11_undo 19 = .ok (.getfield 19, 3) := by decide +kernel
theorem dX11_undo_22 : decode cX11_undo 22 = .ok (.invokevirtual 276, 3) := by decide +kernel
theorem dX11_undo_25 : decode cX11_undo 25 = .ok (.aload_n 0, 1) := by decide +kernel
theorem dX11_undo_26 : decode cX11_undo 26 = .ok (.getfield 19, 3) := by decide +kernel
theorem dX11_undo_29 : decode cX11_undo 29 = .ok (.invokevirtual 102, 3) := by decide +kernel
theorem dX11_undo_32 : decode cX11_undo 32 = .ok (.ireturn, 1) := by decide +kernel
theorem dX11_undoCount_0 : decode cX11_undoCount 0 = .ok (.aload_n 0, 1) := by decide +kernel
theorem dX11_undoCount_1 : decode cX11_undoCount 1 = .ok (.getfield 57, 3) := by decide +kernel
theorem dX11_undoCount_4 : decode cX11_undoCount 4 = .ok (.invokevirtual 275, 3) := by decide +kernel
theorem dX11_undoCount_7 : decode cX11_undoCount 7 = .ok (.ireturn, 1) := by decide +kernel
theorem dX11_save_0 : decode cX11_save 0 = .ok (.aload_n 0, 1) := by decide +kernel
theorem dX11_save_1 : decode cX11_save 1 = .ok (.getfield 64, 3) := by decide +kernel
theorem dX11_save_4 : decode cX11_save 4 = .ok (.aload_n 0, 1) := by decide +kernel
theorem dX11_save_5 : decode cX11_save 5 = .ok (.getfield 10, 3) := by decide +kernel
theorem dX11_save_8 : decode cX11_save 8 = .ok (.aload_n 0, 1) := by decide +kernel
theorem dX11_save_9 : decode cX11_save 9 = .ok (.getfield 19, 3) := by decide +kernel
theorem dX11_save_12 : decode cX11_save 12 = .ok (.invokevirtual 279, 3) := by decide +kernel
theorem dX11_save_15 : decode cX11_save 15 = .ok (.aload_n 0, 1) := by decide +kernel
theorem dX11_save_16 : decode cX11_save 16 = .ok (.getfield 19, 3) := by decide +kernel
theorem dX11_save_19 : decode cX11_save 19 = .ok (.invokevirtual 102, 3) := by decide +kernel
theorem dX11_save_22 : decode cX11_save 22 = .ok (.ireturn, 1) := by decide +kernel
theorem dX11_restore_0 : decode cX11_restore 0 = .ok (.aload_n 0, 1) := by decide +kernel
theorem dX11_restore_1 : decode cX11_restore 1 = .ok (.getfield 64, 3) := by decide +kernel
theorem dX11_restore_4 : decode cX11_restore 4 = .ok (.invokevirtual 283, 3) := by decide +kernel
theorem dX11_restore_7 : decode cX11_restore 7 = .ok (.ifCond .ne 6, 3) := by decide +kernel
theorem dX11_restore_10 : decode cX11_restore 10 = .ok (.bipush (-7), 2) := by decide +kernel
theorem dX11_restore_12 : decode cX11_restore 12 = .ok (.ireturn, 1) := by decide +kernel
theorem dX11_restore_13 : decode cX11_restore 13 = .ok (.aload_n 0, 1) := by decide +kernel
theorem dX11_restore_14 : decode cX11_restore 14 = .ok (.getfield 64, 3) := by decide +kernel
theorem dX11_restore_17 : decode cX11_restore 17 = .ok (.aload_n 0, 1) := by decide +kernel
theorem dX11_restore_18 : decode cX11_restore 18 = .ok (.getfield 10, 3) := by decide +kernel
theorem dX11_restore_21 : decode cX11_restore 21 = .ok (.aload_n 0, 1) := by decide +kernel
theorem dX11_restore_22 : decode cX11_restore 22 = .ok (.getfield 19, 3) := by decide +kernel
theorem dX11_restore_25 : decode cX11_restore 25 = .ok (.invokevirtual 286, 3) := by decide +kernel
theorem dX11_restore_28 : decode cX11_restore 28 = .ok (.aload_n 0, 1) := by decide +kernel
theorem dX11_restore_29 : decode cX11_restore 29 = .ok (.invokevirtual 89, 3) := by decide +kernel
theorem dX11_restore_32 : decode cX11_restore 32 = .ok (.aload_n 0, 1) := by decide +kernel
theorem dX11_restore_33 : decode cX11_restore 33 = .ok (.getfield 19, 3) := by decide +kernel
theorem dX11_restore_36 : decode cX11_restore 36 = .ok (.invokevirtual 102, 3) := by decide +kernel
theorem dX11_restore_39 : decode cX11_restore 39 = .ok (.ireturn, 1) := by decide +kernel
theorem dX11_createTable_0 : decode cX11_createTable 0 = .ok (.iload_n 1, 1) := by decide +kernel
theorem dX11_createTable_1 : decode cX11_createTable 1 = .ok (.invokestatic 289, 3) := by decide +kernel
theorem dX11_createTable_4 : decode cX11_createTable 4 = .ok (.ifCond .eq 17, 3) := by decide +kernel
theorem dX11_createTable_7 : decode cX11_createTable 7 = .ok (.iload_n 2, 1) := by decide +kernel
theorem dX11_createTable_8 : decode cX11_createTable 8 = .ok (.invokestatic 292, 3) := by decide +kernel
theorem dX11_createTable_11 : decode cX11_createTable 11 = .ok (.ifCond .eq 10, 3) := by decide +kernel
theorem dX11_createTable_14 : decode cX11_createTable 14 = .ok (.iload_n 3, 1) := by decide +kernel
theorem dX11_createTable_15 : decode cX11_createTable 15 = .ok (.sipush 256, 3) := by decide +kernel
theorem dX11_createTable_18 : decode cX11_createTable 18 = .ok (.if_icmp .le 5, 3) := by decide +kernel
theorem dX11_createTable_21 : decode cX11_createTable 21 = .ok (.iconst (-1), 1) := by decide +kernel
theorem dX11_createTable_22 : decode cX11_createTable 22 = .ok (.ireturn, 1) := by decide +kernel
theorem dX11_createTable_23 : decode cX11_createTable 23 = .ok (.iload_n 3, 1) := by decide +kernel
theorem dX11_createTable_24 : decode cX11_createTable 24 = .ok (.ifCond .ge 6, 3) := by decide +kernel
theorem dX11_createTable_27 : decode cX11_createTable 27 = .ok (.bipush (-14), 2) := by decide +kernel
theorem dX11_createTable_29 : decode cX11_createTable 29 = .ok (.ireturn, 1) := by decide +kernel
theorem dX11_createTable_30 : decode cX11_createTable 30 = .ok (.aload_n 0, 1) := by decide +kernel
theorem dX11_createTable_31 : decode cX11_createTable 31 = .ok (.iload_n 1, 1) := by decide +kernel
theorem dX11_createTable_32 : decode cX11_createTable 32 = .ok (.invokevirtual 295, 3) := by decide +kernel
theorem dX11_createTable_35 : decode cX11_createTable 35 = .ok (.iload_n 2, 1) := by decide +kernel
theorem dX11_createTable_36 : decode cX11_createTable 36 = .ok (.iload_n 3, 1) := by decide +kernel
theorem dX11_createTable_37 : decode cX11_createTable 37 = .ok (.invokevirtual 299, 3) := by decide +kernel
theorem dX11_createTable_40 : decode cX11_createTable 40 = .ok (.iconst 1, 1) := by decide +kernel
theorem dX11_createTable_41 : decode cX11_createTable 41 = .ok (.ireturn, 1) := by decide +kernel
theorem dX11_writeTable_0 : decode cX11_writeTable 0 = .ok (.iload_n 1, 1) := by decide +kernel
theorem dX11_writeTable_1 : decode cX11_writeTable 1 = .ok (.invokestatic 289, 3) := by decide +kernel
theorem dX11_writeTable_4 : decode cX11_writeTable 4 = .ok (.ifCond .ne 5, 3) := by decide +kernel
theorem dX11_writeTable_7 : decode cX11_writeTable 7 = .ok (.iconst (-1), 1) := by decide +kernel
theorem dX11_writeTable_8 : decode cX11_writeTable 8 = .ok (.ireturn, 1) := by decide +kernel
theorem dX11_writeTable_9 : decode cX11_writeTable 9 = .ok (.aload_n 0, 1) := by decide +kernel
theorem dX11_writeTable_10 : decode cX11_writeTable 10 = .ok (.iload_n 1, 1) := by decide +kernel
theorem dX11_writeTable_11 : decode cX11_writeTable 11 = .ok (.invokevirtual 295, 3) := by decide +kernel
theorem dX11_writeTable_14 : decode cX11_writeTable 14 = .ok (.astore 4, 2) := by decide +kernel
theorem dX11_writeTable_16 : decode cX11_writeTable 16 = .ok (.aload 4, 2) := by decide +kernel
theorem dX11_writeTable_18 : decode cX11_writeTable 18 = .ok (.invokevirtual 302, 3) := by decide +kernel
theorem dX11_writeTable_21 : decode cX11_writeTable 21 = .ok (.ifCond .eq 6, 3) := by decide +kernel
theorem dX11_writeTable_24 : decode cX11_writeTable 24 = .ok (.bipush (-11), 2) := by decide +kernel
theorem dX11_writeTable_26 : decode cX11_writeTable 26 = .ok (.ireturn, 1) := by decide +kernel
theorem dX11_writeTable_27 : decode cX11_writeTable 27 = .ok (.aload 4, 2) := by decide +kernel
theorem dX11_writeTable_29 : decode cX11_writeTable 29 = .ok (.iload_n 2, 1) := by decide +kernel
theorem dX11_writeTable_30 : decode cX11_writeTable 30 = .ok (.invokevirtual 305, 3) := by decide +kernel
theorem dX11_writeTable_33 : decode cX11_writeTable 33 = .ok (.ifCond .ne 6, 3) := by decide +kernel
theorem dX11_writeTable_36 : decode cX11_writeTable 36 = .ok (.bipush (-13), 2) := by decide +kernel
theorem dX11_writeTable_38 : decode cX11_writeTable 38 = .ok (.ireturn, 1) := by decide +kernel
theorem dX11_writeTable_39 : decode cX11_writeTable 39 = .ok (.aload 4, 2) := by decide +kernel
theorem dX11_writeTable_41 : decode cX11_writeTable 41 = .ok (.iload_n 2, 1) := by decide +kernel
theorem dX11_writeTable_42 : decode cX11_writeTable 42 = .ok (.iload_n 3, 1) := by decide +kernel
theorem dX11_writeTable_43 : decode cX11_writeTable 43 = .ok (.invokevirtual 306, 3) := by decide +kernel
theorem dX11_writeTable_46 : decode cX11_writeTable 46 = .ok (.iconst 1, 1) := by decide +kernel
theorem dX11_writeTable_47 : decode cX11_writeTable 47 = .ok (.ireturn, 1) := by decide +kernel
theorem dX11_readTable_0 : decode cX11_readTable 0 = .ok (.iload_n 1, 1) := by decide +kernel
theorem dX11_readTable_1 : decode cX11_readTable 1 = .ok (.invokestatic 289, 3) := by decide +kernel
theorem dX11_readTable_4 : decode cX11_readTable 4 = .ok (.ifCond .ne 5, 3) := by decide +kernel
theorem dX11_readTable_7 : decode cX11_readTable 7 = .ok (.iconst (-1), 1) := by decide +kernel
theorem dX11_readTable_8 : decode cX11_readTable 8 = .ok (.ireturn, 1) := by decide +kernel
theorem dX11_readTable_9 : decode cX11_readTable 9 = .ok (.aload_n 0, 1) := by decide +kernel
theorem dX11_readTable_10 : decode cX11_readTable 10 = .ok (.iload_n 1, 1) := by decide +kernel
theorem dX11_readTable_11 : decode cX11_readTable 11 = .ok (.invokevirtual 295, 3) := by decide +kernel
theorem dX11_readTable_14 : decode cX11_readTable 14 = .ok (.astore_n 3, 1) := by decide +kernel
theorem dX11_readTable_15 : decode cX11_readTable 15 = .ok (.aload_n 3, 1) := by decide +kernel
theorem dX11_readTable_16 : decode cX11_readTable 16 = .ok (.invokevirtual 302, 3) := by decide +kernel
theorem dX11_readTable_19 : decode cX11_readTable 19 = .ok (.ifCond .eq 6, 3) := by decide +kernel
theorem dX11_readTable_22 : decode cX11_readTable 22 = .ok (.bipush (-11), 2) := by decide +kernel
theorem dX11_readTable_24 : decode cX11_readTable 24 = .ok (.ireturn, 1) := by decide +kernel
theorem dX11_readTable_25 : decode cX11_readTable 25 = .ok (.aload_n 3, 1) := by decide +kernel
theorem dX11_readTable_26 : decode cX11_readTable 26 = .ok (.iload_n 2, 1) := by decide +kernel
theorem dX11_readTable_27 : decode cX11_readTable 27 = .ok (.invokevirtual 305, 3) := by decide +kernel
theorem dX11_readTable_30 : decode cX11_readTable 30 = .ok (.ifCond .eq 11, 3) := by decide +kernel
theorem dX11_readTable_33 : decode cX11_readTable 33 = .ok (.aload_n 3, 1) := by decide +kernel
theorem dX11_readTable_34 : decode cX11_readTable 34 = .ok (.iload_n 2, 1) := by decide +kernel
theorem dX11_readTable_35 : decode cX11_readTable 35 = .ok (.invokevirtual 307, 3) := by decide +kernel
theorem dX11_readTable_38 : decode cX11_readTable 38 = .ok (.goto 5, 3) := by decide +kernel
theorem dX11_readTable_41 : decode cX11_readTable 41 = .ok (.bipush (-13), 2) := by decide +kernel
theorem dX11_readTable_43 : decode cX11_readTable 43 = .ok (.ireturn, 1) := by decide +kernel
theorem dX11_exportTable_0 : decode cX11_exportTable 0 = .ok (.iload_n 1, 1) := by decide +kernel
theorem dX11_exportTable_1 : decode cX11_exportTable 1 = .ok (.invokestatic 289, 3) := by decide +kernel
theorem dX11_exportTable_4 : decode cX11_exportTable 4 = .ok (.ifCond .ne 5, 3) := by decide +kernel
theorem dX11_exportTable_7 : decode cX11_exportTable 7 = .ok (.iconst (-1), 1) := by decide +kernel
theorem dX11_exportTable_8 : decode cX11_exportTable 8 = .ok (.ireturn, 1) := by decide +kernel
theorem dX11_exportTable_9 : decode cX11_exportTable 9 = .ok (.aload_n 0, 1) := by decide +kernel
theorem dX11_exportTable_10 : decode cX11_exportTable 10 = .ok (.iload_n 1, 1) := by decide +kernel
theorem dX11_exportTable_11 : decode cX11_exportTable 11 = .ok (.invokevirtual 295, 3) := by decide +kernel
theorem dX11_exportTable_14 : decode cX11_exportTable 14 = .ok (.astore_n 3, 1) := by decide +kernel
theorem dX11_exportTable_15 : decode cX11_exportTable 15 = .ok (.aload_n 3, 1) := by decide +kernel
theorem dX11_exportTable_16 : decode cX11_exportTable 16 = .ok (.invokevirtual 302, 3) := by decide +kernel
theorem dX11_exportTable_19 : decode cX11_exportTable 19 = .ok (.ifCond .eq 6, 3) := by decide +kernel
theorem dX11_exportTable_22 : decode cX11_exportTable 22 = .ok (.bipush (-11), 2) := by decide +kernel
theorem dX11_exportTable_24 : decode cX11_exportTable 24 = .ok (.ireturn, 1) := by decide +kernel
theorem dX11_exportTable_25 : decode cX11_exportTable 25 = .ok (.aload_n 0, 1) := by decide +kernel
theorem dX11_exportTable_26 : decode cX11_exportTable 26 = .ok (.getfield 19, 3) := by decide +kernel
theorem dX11_exportTable_29 : decode cX11_exportTable 29 = .ok (.invokevirtual 102, 3) := by decide +kernel
theorem dX11_exportTable_32 : decode cX11_exportTable 32 = .ok (.istore 4, 2) := by decide +kernel
theorem dX11_exportTable_34 : decode cX11_exportTable 34 = .ok (.iconst 0, 1) := by decide +kernel
theorem dX11_exportTable_35 : decode cX11_exportTable 35 = .ok (.istore 5, 2) := by decide +kernel
theorem dX11_exportTable_37 : decode cX11_exportTable 37 = .ok (.iload 5, 2) := by decide +kernel
theorem dX11_exportTable_39 : decode cX11_exportTable 39 = .ok (.iload 4, 2) := by decide +kernel
theorem dX11_exportTable_41 : decode cX11_exportTable 41 = .ok (.if_icmp .ge 45, 3) := by decide +kernel
theorem dX11_exportTable_44 : decode cX11_exportTable 44 = .ok (.aload_n 3, 1) := by decide +kernel
theorem dX11_exportTable_45 : decode cX11_exportTable 45 = .ok (.iload_n 2, 1) := by decide +kernel
theorem dX11_exportTable_46 : decode cX11_exportTable 46 = .ok (.iload 5, 2) := by decide +kernel
theorem dX11_exportTable_48 : decode cX11_exportTable 48 = .ok (.iadd, 1) := by decide +kernel
theorem dX11_exportTable_49 : decode cX11_exportTable 49 = .ok (.invokevirtual 305, 3) := by decide +kernel
theorem dX11_exportTable_52 : decode cX11_exportTable 52 = .ok (.ifCond .ne 6, 3) := by decide +kernel
theorem dX11_exportTable_55 : decode cX11_exportTable 55 = .ok (.bipush (-13), 2) := by decide +kernel
theorem dX11_exportTable_57 : decode cX11_exportTable 57 = .ok (.ireturn, 1) := by decide +kernel
theorem dX11_exportTable_58 : decode cX11_exportTable 58 = .ok (.aload_n 3, 1) := by decide +kernel
theorem dX11_exportTable_59 : decode cX11_exportTable 59 = .ok (.iload_n 2, 1) := by decide +kernel
theorem dX11_exportTable_60 : decode cX11_exportTable 60 = .ok (.iload 5, 2) := by decide +kernel
theorem dX11_exportTable_62 : decode cX11_exportTable 62 = .ok (.iadd, 1) := by decide +kernel
theorem dX11_exportTable_63 : decode cX11_exportTable 63 = .ok (.aload_n 3, 1) := by decide +kernel
theorem dX11_exportTable_64 : decode cX11_exportTable 64 = .ok (.invokevirtual 308, 3) := by decide +kernel
theorem dX11_exportTable_67 : decode cX11_exportTable 67 = .ok (.aload_n 0, 1) := by decide +kernel
theorem dX11_exportTable_68 : decode cX11_exportTable 68 = .ok (.getfield 19, 3) := by decide +kernel
theorem dX11_exportTable_71 : decode cX11_exportTable 71 = .ok (.iload 5, 2) := by decide +kernel
theorem dX11_exportTable_73 : decode cX11_exportTable 73 = .ok (.invokevirtual 105, 3) := by decide +kernel
theorem dX11_exportTable_76 : decode cX11_exportTable 76 = .ok (.iadd, 1) := by decide +kernel
theorem dX11_exportTable_77 : decode cX11_exportTable 77 = .ok (.invokevirtual 306, 3) := by decide +kernel
theorem dX11_exportTable_80 : decode cX11_exportTable 80 = .ok (.iinc 5 1, 3) := by decide +kernel
theorem dX11_exportTable_83 : decode cX11_exportTable 83 = .ok (.goto (-46), 3) := by decide +kernel
theorem dX11_exportTable_86 : decode cX11_exportTable 86 = .ok (.iload 4, 2) := by decide +kernel
theorem dX11_exportTable_88 : decode cX11_exportTable 88 = .ok (.ireturn, 1) := by decide +kernel
theorem dX11_importTable_0 : decode cX11_importTable 0 = .ok (.iload_n 1, 1) := by decide +kernel
theorem dX11_importTable_1 : decode cX11_importTable 1 = .ok (.invokestatic 289, 3) := by decide +kernel
theorem dX11_importTable_4 : decode cX11_importTable 4 = .ok (.ifCond .eq 10, 3) := by decide +kernel
theorem dX11_importTable_7 : decode cX11_importTable 7 = .ok (.iload_n 2, 1) := by decide +kernel
theorem dX11_importTable_8 : decode cX11_importTable 8 = .ok (.invokestatic 292, 3) := by decide +kernel
theorem dX11_importTable_11 : decode cX11_importTable 11 = .ok (.ifCond .ne 5, 3) := by decide +kernel
theorem dX11_importTable_14 : decode cX11_importTable 14 = .ok (.iconst (-1), 1) := by decide +kernel
theorem dX11_importTable_15 : decode cX11_importTable 15 = .ok (.ireturn, 1) := by decide +kernel
theorem dX11_importTable_16 : decode cX11_importTable 16 = .ok (.aload_n 0, 1) := by decide +kernel
theorem dX11_importTable_17 : decode cX11_importTable 17 = .ok (.iload_n 1, 1) := by decide +kernel
theorem dX11_importTable_18 : decode cX11_importTable 18 = .ok (.invokevirtual 295, 3) := by decide +kernel
theorem dX11_importTable_21 : decode cX11_importTable 21 = .ok (.astore_n 3, 1) := by decide +kernel
theorem dX11_importTable_22 : decode cX11_importTable 22 = .ok (.aload_n 3, 1) := by decide +kernel
theorem dX11_importTable_23 : decode cX11_importTable 23 = .ok (.invokevirtual 302, 3) := by decide +kernel
theorem dX11_importTable_26 : decode cX11_importTable 26 = .ok (.ifCond .eq 6, 3) := by decide +kernel
theorem dX11_importTable_29 : decode cX11_importTable 29 = .ok (.bipush (-11), 2) := by decide +kernel
theorem dX11_importTable_31 : decode cX11_importTable 31 = .ok (.ireturn, 1) := by decide +kernel
theorem dX11_importTable_32 : decode cX11_importTable 32 = .ok (.aload_n 3, 1) := by decide +kernel
theorem dX11_importTable_33 : decode cX11_importTable 33 = .ok (.iload_n 2, 1) := by decide +kernel
theorem dX11_importTable_34 : decode cX11_importTable 34 = .ok (.invokevirtual 311, 3) := by decide +kernel
theorem dX11_importTable_37 : decode cX11_importTable 37 = .ok (.ifCond .ne 6, 3) := by decide +kernel
theorem dX11_importTable_40 : decode cX11_importTable 40 = .ok (.bipush (-12), 2) := by decide +kernel
theorem dX11_importTable_42 : decode cX11_importTable 42 = .ok (.ireturn, 1) := by decide +kernel
theorem dX11_importTable_43 : decode cX11_importTable 43 = .ok (.aload_n 3, 1) := by decide +kernel
theorem dX11_importTable_44 : decode cX11_importTable 44 = .ok (.invokevirtual 314, 3) := by decide +kernel
theorem dX11_importTable_47 : decode cX11_importTable 47 = .ok (.istore 4, 2) := by decide +kernel
theorem dX11_importTable_49 : decode cX11_importTable 49 = .ok (.aload_n 0, 1) := by decide +kernel
theorem dX11_importTable_50 : decode cX11_importTable 50 = .ok (.getfield 23, 3) := by decide +kernel
theorem dX11_importTable_53 : decode cX11_importTable 53 = .ok (.invokevirtual 86, 3) := by decide +kernel
theorem dX11_importTable_56 : decode cX11_importTable 56 = .ok (.iconst 0, 1) := by decide +kernel
theorem dX11_importTable_57 : decode cX11_importTable 57 = .ok (.istore 5, 2) := by decide +kernel
theorem dX11_importTable_59 : decode cX11_importTable 59 = .ok (.iload 5, 2) := by decide +kernel
theorem dX11_importTable_61 : decode cX11_importTable 61 = .ok (.iload 4, 2) := by decide +kernel
theorem dX11_importTable_63 : decode cX11_importTable 63 = .ok (.if_icmp .ge 46, 3) := by decide +kernel
theorem dX11_importTable_66 : decode cX11_importTable 66 = .ok (.aload_n 3, 1) := by decide +kernel
theorem dX11_importTable_67 : decode cX11_importTable 67 = .ok (.iload 5, 2) := by decide +kernel
theorem dX11_importTable_69 : decode cX11_importTable 69 = .ok (.invokevirtual 307, 3) := by decide +kernel
theorem dX11_importTable_72 : decode cX11_importTable 72 = .ok (.aload_n 3, 1) := by decide +kernel
theorem dX11_importTable_73 : decode cX11_importTable 73 = .ok (.invokevirtual 308, 3) := by decide +kernel
theorem dX11_importTable_76 : decode cX11_importTable 76 = .ok (.isub, 1) := by decide +kernel
theorem dX11_importTable_77 : decode cX11_importTable 77 = .ok (.istore 6, 2) := by decide +kernel
theorem dX11_importTable_79 : decode cX11_importTable 79 = .ok (.aload_n 0, 1) := by decide +kernel
theorem dX11_importTable_80 : decode cX11_importTable 80 = .ok (.getfield 10, 3) := by decide +kernel
theorem dX11_importTable_83 : decode cX11_importTable 83 = .ok (.iload 6, 2) := by decide +kernel
theorem dX11_importTable_85 : decode cX11_importTable 85 = .ok (.invokevirtual 146, 3) := by decide +kernel
theorem dX11_importTable_88 : decode cX11_importTable 88 = .ok (.ifCond .ne 6, 3) := by decide +kernel
theorem dX11_importTable_91 : decode cX11_importTable 91 = .ok (.bipush (-5), 2) := by decide +kernel
theorem dX11_importTable_93 : decode cX11_importTable 93 = .ok (.ireturn, 1) := by decide +kernel
theorem dX11_importTable_94 : decode cX11_importTable 94 = .ok (.aload_n 0, 1) := by decide +kernel
theorem dX11_importTable_95 : decode cX11_importTable 95 = .ok (.getfield 23, 3) := by decide +kernel
theorem dX11_importTable_98 : decode cX11_importTable 98 = .ok (.iload 6, 2) := by decide +kernel
theorem dX11_importTable_100 : decode cX11_importTable 100 = .ok (.invokevirtual 157, 3) := by decide +kernel
theorem dX11_importTable_103 : decode cX11_importTable 103 = .ok (.iinc 5 1, 3) := by decide +kernel
theorem dX11_importTable_106 : decode cX11_importTable 106 = .ok (.goto (-47), 3) := by decide +kernel
theorem dX11_importTable_109 : decode cX11_importTable 109 = .ok (.aload_n 0, 1) := by decide +kernel
theorem dX11_importTable_110 : decode cX11_importTable 110 = .ok (.invokevirtual 116, 3) := by decide +kernel
theorem dX11_importTable_113 : decode cX11_importTable 113 = .ok (.pop, 1) := by decide +kernel
theorem dX11_importTable_114 : decode cX11_importTable 114 = .ok (.aload_n 0, 1) := by decide +kernel
theorem dX11_importTable_115 : decode cX11_importTable 115 = .ok (.getfield 19, 3) := by decide +kernel
theorem dX11_importTable_118 : decode cX11_importTable 118 = .ok (.invokevirtual 102, 3) := by decide +kernel
theorem dX11_importTable_121 : decode cX11_importTable 121 = .ok (.ireturn, 1) := by decide +kernel
theorem dX11_takeDraft_0 : decode cX11_takeDraft 0 = .ok (.aload_n 0, 1) := by decide +kernel
theorem dX11_takeDraft_1 : decode cX11_takeDraft 1 = .ok (.getfield 23, 3) := by decide +kernel
theorem dX11_takeDraft_4 : decode cX11_takeDraft 4 = .ok (.aload_n 0, 1) := by decide +kernel
theorem dX11_takeDraft_5 : decode cX11_takeDraft 5 = .ok (.getfield 19, 3) := by decide +kernel
theorem dX11_takeDraft_8 : decode cX11_takeDraft 8 = .ok (.invokevirtual 315, 3) := by decide +kernel
theorem dX11_takeDraft_11 : decode cX11_takeDraft 11 = .ok (.ifCond .ne 7, 3) := by decide +kernel
theorem dX11_takeDraft_14 : decode cX11_takeDraft 14 = .ok (.iconst 1, 1) := by decide +kernel
theorem dX11_takeDraft_15 : decode cX11_takeDraft 15 = .ok (.goto 4, 3) := by decide +kernel
theorem dX11_takeDraft_18 : decode cX11_takeDraft 18 = .ok (.iconst 0, 1) := by decide +kernel
theorem dX11_takeDraft_19 : decode cX11_takeDraft 19 = .ok (.istore_n 1, 1) := by decide +kernel
theorem dX11_takeDraft_20 : decode cX11_takeDraft 20 = .ok (.aload_n 0, 1) := by decide +kernel
theorem dX11_takeDraft_21 : decode cX11_takeDraft 21 = .ok (.getfield 57, 3) := by decide +kernel
theorem dX11_takeDraft_24 : decode cX11_takeDraft 24 = .ok (.aload_n 0, 1) := by decide +kernel
theorem dX11_takeDraft_25 : decode cX11_takeDraft 25 = .ok (.getfield 19, 3) := by decide +kernel
theorem dX11_takeDraft_28 : decode cX11_takeDraft 28 = .ok (.invokevirtual 319, 3) := by decide +kernel
theorem dX11_takeDraft_31 : decode cX11_takeDraft 31 = .ok (.aload_n 0, 1) := by decide +kernel
theorem dX11_takeDraft_32 : decode cX11_takeDraft 32 = .ok (.getfield 19, 3) := by decide +kernel
theorem dX11_takeDraft_35 : decode cX11_takeDraft 35 = .ok (.aload_n 0, 1) := by decide +kernel
theorem dX11_takeDraft_36 : decode cX11_takeDraft 36 = .ok (.getfield 23, 3) := by decide +kernel
theorem dX11_takeDraft_39 : decode cX11_takeDraft 39 = .ok (.invokevirtual 149, 3) := by decide +kernel
theorem dX11_takeDraft_42 : decode cX11_takeDraft 42 = .ok (.iload_n 1, 1) := by decide +kernel
theorem dX11_takeDraft_43 : decode cX11_takeDraft 43 = .ok (.ireturn, 1) := by decide +kernel
theorem dX11_forgetPatternAndHistory_0 : decode cX11_forgetPatternAndHistory 0 = .ok (.aload_n 0, 1) := by decide +kernel
theorem dX11_forgetPatternAndHistory_1 : decode cX11_forgetPatternAndHistory 1 = .ok (.getfield 50, 3) := by decide +kernel
theorem dX11_forgetPatternAndHistory_4 : decode cX11_forgetPatternAndHistory 4 = .ok (.invokevirtual 237, 3) := by decide +kernel
theorem dX11_forgetPatternAndHistory_7 : decode cX11_forgetPatternAndHistory 7 = .ok (.aload_n 0, 1) := by decide +kernel
theorem dX11_forgetPatternAndHistory_8 : decode cX11_forgetPatternAndHistory 8 = .ok (.getfield 57, 3) := by decide +kernel
theorem dX11_forgetPatternAndHistory_11 : decode cX11_forgetPatternAndHistory 11 = .ok (.invokevirtual 322, 3) := by decide +kernel
theorem dX11_forgetPatternAndHistory_14 : decode cX11_forgetPatternAndHistory 14 = .ok (.return_, 1) := by decide +kernel
theorem dX11_isCutCount_0 : decode cX11_isCutCount 0 = .ok (.iload_n 1, 1) := by decide +kernel
theorem dX11_isCutCount_1 : decode cX11_isCutCount 1 = .ok (.iconst 1, 1) := by decide +kernel
theorem dX11_isCutCount_2 : decode cX11_isCutCount 2 = .ok (.if_icmp .lt 18, 3) := by decide +kernel
theorem dX11_isCutCount_5 : decode cX11_isCutCount 5 = .ok (.iload_n 1, 1) := by decide +kernel
theorem dX11_isCutCount_6 : decode cX11_isCutCount 6 = .ok (.aload_n 0, 1) := by decide +kernel
theorem dX11_isCutCount_7 : decode cX11_isCutCount 7 = .ok (.getfield 19, 3) := by decide +kernel
theorem dX11_isCutCount_10 : decode cX11_isCutCount 10 = .ok (.invokevirtual 102, 3) := by decide +kernel
theorem dX11_isCutCount_13 : decode cX11_isCutCount 13 = .ok (.if_icmp .ge 7, 3) := by decide +kernel
theorem dX11_isCutCount_16 : decode cX11_isCutCount 16 = .ok (.iconst 1, 1) := by decide +kernel
theorem dX11_isCutCount_17 : decode cX11_isCutCount 17 = .ok (.goto 4, 3) := by decide +kernel
theorem dX11_isCutCount_20 : decode cX11_isCutCount 20 = .ok (.iconst 0, 1) := by decide +kernel
theorem dX11_isCutCount_21 : decode cX11_isCutCount 21 = .ok (.ireturn, 1) := by decide +kernel
theorem dX11_canCut_0 : decode cX11_canCut 0 = .ok (.aload_n 0, 1) := by decide +kernel
theorem dX11_canCut_1 : decode cX11_canCut 1 = .ok (.getfield 19, 3) := by decide +kernel
theorem dX11_canCut_4 : decode cX11_canCut 4 = .ok (.iload_n 1, 1) := by decide +kernel
theorem dX11_canCut_5 : decode cX11_canCut 5 = .ok (.iload_n 1, 1) := by decide +kernel
theorem dX11_canCut_6 : decode cX11_canCut 6 = .ok (.iload_n 2, 1) := by decide +kernel
theorem dX11_canCut_7 : decode cX11_canCut 7 = .ok (.iadd, 1) := by decide +kernel
theorem dX11_canCut_8 : decode cX11_canCut 8 = .ok (.aload_n 0, 1) := by decide +kernel
theorem dX11_canCut_9 : decode cX11_canCut 9 = .ok (.getfield 10, 3) := by decide +kernel
theorem dX11_canCut_12 : decode cX11_canCut 12 = .ok (.invokevirtual 99, 3) := by decide +kernel
theorem dX11_canCut_15 : decode cX11_canCut 15 = .ok (.iconst 1, 1) := by decide +kernel
theorem dX11_canCut_16 : decode cX11_canCut 16 = .ok (.isub, 1) := by decide +kernel
theorem dX11_canCut_17 : decode cX11_canCut 17 = .ok (.invokevirtual 173, 3) := by decide +kernel
theorem dX11_canCut_20 : decode cX11_canCut 20 = .ok (.ireturn, 1) := by decide +kernel
theorem dX11_isTable_0 : decode cX11_isTable 0 = .ok (.iload_n 0, 1) := by decide +kernel
theorem dX11_isTable_1 : decode cX11_isTable 1 = .ok (.ifCond .eq 8, 3) := by decide +kernel
theorem dX11_isTable_4 : decode cX11_isTable 4 = .ok (.iload_n 0, 1) := by decide +kernel
theorem dX11_isTable_5 : decode cX11_isTable 5 = .ok (.iconst 1, 1) := by decide +kernel
theorem dX11_isTable_6 : decode cX11_isTable 6 = .ok (.if_icmp .ne 7, 3) := by decide +kernel
theorem dX11_isTable_9 : decode cX11_isTable 9 = .ok (.iconst 1, 1) := by decide +kernel
theorem dX11_isTable_10 : decode cX11_isTable 10 = .ok (.goto 4, 3) := by decide +kernel
theorem dX11_isTable_13 : decode cX11_isTable 13 = .ok (.iconst 0, 1) := by decide +kernel
theorem dX11_isTable_14 : decode cX11_isTable 14 = .ok (.ireturn, 1) := by decide +kernel
theorem dX11_tableOf_0 : decode cX11_tableOf 0 = .ok (.iload_n 1, 1) := by decide +kernel
theorem dX11_tableOf_1 : decode cX11_tableOf 1 = .ok (.ifCond .ne 10, 3) := by decide +kernel
theorem dX11_tableOf_4 : decode cX11_tableOf 4 = .ok (.aload_n 0, 1) := by decide +kernel
theorem dX11_tableOf_5 : decode cX11_tableOf 5 = .ok (.getfield 71, 3) := by decide +kernel
theorem dX11_tableOf_8 : decode cX11_tableOf 8 = .ok (.goto 7, 3) := by decide +kernel
theorem dX11_tableOf_11 : decode cX11_tableOf 11 = .ok (.aload_n 0, 1) := by decide +kernel
theorem dX11_tableOf_12 : decode cX11_tableOf 12 = .ok (.getfield 75, 3) := by decide +kernel
theorem dX11_tableOf_15 : decode cX11_tableOf 15 = .ok (.areturn, 1) := by decide +kernel
theorem dJxe99ae_isNaN_b9ae7_0 : decode cJxe99ae_isNaN_b9ae7 0 = .ok (.dload_n 0, 1) := by decide +kernel
theorem dJxe99ae_isNaN_b9ae7_1 : decode cJxe99ae_isNaN_b9ae7 1 = .ok (.dload_n 0, 1) := by decide +kernel
theorem dJxe99ae_isNaN_b9ae7_2 : decode cJxe99ae_isNaN_b9ae7 2 = .ok (.dcmp .l, 1) := by decide +kernel
theorem dJxe99ae_isNaN_b9ae7_3 : decode cJxe99ae_isNaN_b9ae7 3 = .ok (.ifCond .eq 7, 3) := by decide +kernel
theorem dJxe99ae_isNaN_b9ae7_6 : decode cJxe99ae_isNaN_b9ae7 6 = .ok (.iconst 1, 1) := by decide +kernel
theorem dJxe99ae_isNaN_b9ae7_7 : decode cJxe99ae_isNaN_b9ae7 7 = .ok (.goto 4, 3) := by decide +kernel
theorem dJxe99ae_isNaN_b9ae7_10 : decode cJxe99ae_isNaN_b9ae7 10 = .ok (.iconst 0, 1) := by decide +kernel
theorem dJxe99ae_isNaN_b9ae7_11 : decode cJxe99ae_isNaN_b9ae7 11 = .ok (.ireturn, 1) := by decide +kernel
theorem dJxe99ae_doubleToLongBits_ccdee_0 : decode cJxe99ae_doubleToLongBits_ccdee 0 = .ok (.dload_n 0, 1) := by decide +kernel
theorem dJxe99ae_doubleToLongBits_ccdee_1 : decode cJxe99ae_doubleToLongBits_ccdee 1 = .ok (.invokestatic 122, 3) := by decide +kernel
theorem dJxe99ae_doubleToLongBits_ccdee_4 : decode cJxe99ae_doubleToLongBits_ccdee 4 = .ok (.ifCond .ne 8, 3) := by decide +kernel
theorem dJxe99ae_doubleToLongBits_ccdee_7 : decode cJxe99ae_doubleToLongBits_ccdee 7 = .ok (.dload_n 0, 1) := by decide +kernel
theorem dJxe99ae_doubleToLongBits_ccdee_8 : decode cJxe99ae_doubleToLongBits_ccdee 8 = .ok (.invokestatic 134, 3) := by decide +kernel
theorem dJxe99ae_doubleToLongBits_ccdee_11 : decode cJxe99ae_doubleToLongBits_ccdee 11 = .ok (.lreturn, 1) := by decide +kernel
theorem dJxe99ae_doubleToLongBits_ccdee_12 : decode cJxe99ae_doubleToLongBits_ccdee 12 = .ok (.ldc2_w 137, 3) := by decide +kernel
theorem dJxe99ae_doubleToLongBits_ccdee_15 : decode cJxe99ae_doubleToLongBits_ccdee 15 = .ok (.lreturn, 1) := by decide +kernel
theorem dJ9_floorMod_7cf53_0 : decode cJ9_floorMod_7cf53 0 = .ok (.iload_n 0, 1) := by decide +kernel
theorem dJ9_floorMod_7cf53_1 : decode cJ9_floorMod_7cf53 1 = .ok (.iload_n 1, 1) := by decide +kernel
theorem dJ9_floorMod_7cf53_2 : decode cJ9_floorMod_7cf53 2 = .ok (.irem, 1) := by decide +kernel
theorem dJ9_floorMod_7cf53_3 : decode cJ9_floorMod_7cf53 3 = .ok (.istore_n 2, 1) := by decide +kernel
theorem dJ9_floorMod_7cf53_4 : decode cJ9_floorMod_7cf53 4 = .ok (.iload_n 0, 1) := by decide +kernel
theorem dJ9_floorMod_7cf53_5 : decode cJ9_floorMod_7cf53 5 = .ok (.iload_n 1, 1) := by decide +kernel
theorem dJ9_floorMod_7cf53_6 : decode cJ9_floorMod_7cf53 6 = .ok (.ixor, 1) := by decide +kernel
theorem dJ9_floorMod_7cf53_7 : decode cJ9_floorMod_7cf53 7 = .ok (.ifCond .ge 11, 3) := by decide +kernel
theorem dJ9_floorMod_7cf53_10 : decode cJ9_floorMod_7cf53 10 = .ok (.iload_n 2, 1) := by decide +kernel
theorem dJ9_floorMod_7cf53_11 : decode cJ9_floorMod_7cf53 11 = .ok (.ifCond .eq 7, 3) := by decide +kernel
theorem dJ9_floorMod_7cf53_14 : decode cJ9_floorMod_7cf53 14 = .ok (.iload_n 2, 1) := by decide +kernel
theorem dJ9_floorMod_7cf53_15 : decode cJ9_floorMod_7cf53 15 = .ok (.iload_n 1, 1) := by decide +kernel
theorem dJ9_floorMod_7cf53_16 : decode cJ9_floorMod_7cf53 16 = .ok (.iadd, 1) := by decide +kernel
theorem dJ9_floorMod_7cf53_17 : decode cJ9_floorMod_7cf53 17 = .ok (.ireturn, 1) := by decide +kernel
theorem dJ9_floorMod_7cf53_18 : decode cJ9_floorMod_7cf53 18 = .ok (.iload_n 2, 1) := by decide +kernel
theorem dJ9_floorMod_7cf53_19 : decode cJ9_floorMod_7cf53 19 = .ok (.ireturn, 1) := by decide +kernel
theorem dJ9_floorMod_f86c9_0 : decode cJ9_floorMod_f86c9 0 = .ok (.lload_n 0, 1) := by decide +kernel
theorem dJ9_floorMod_f86c9_1 : decode cJ9_floorMod_f86c9 1 = .ok (.lload_n 2, 1) := by decide +kernel
theorem dJ9_floorMod_f86c9_2 : decode cJ9_floorMod_f86c9 2 = .ok (.lrem, 1) := by decide +kernel
theorem dJ9_floorMod_f86c9_3 : decode cJ9_floorMod_f86c9 3 = .ok (.lstore 4, 2) := by decide +kernel
theorem dJ9_floorMod_f86c9_5 : decode cJ9_floorMod_f86c9 5 = .ok (.lload_n 0, 1) := by decide +kernel
theorem dJ9_floorMod_f86c9_6 : decode cJ9_floorMod_f86c9 6 = .ok (.lload_n 2, 1) := by decide +kernel
theorem dJ9_floorMod_f86c9_7 : decode cJ9_floorMod_f86c9 7 = .ok (.lxor, 1) := by decide +kernel
theorem dJ9_floorMod_f86c9_8 : decode cJ9_floorMod_f86c9 8 = .ok (.lconst 0, 1) := by decide +kernel
theorem dJ9_floorMod_f86c9_9 : decode cJ9_floorMod_f86c9 9 = .ok (.lcmp, 1) := by decide +kernel
theorem dJ9_floorMod_f86c9_10 : decode cJ9_floorMod_f86c9 10 = .ok (.ifCond .ge 15, 3) := by decide +kernel
theorem dJ9_floorMod_f86c9_13 : decode cJ9_floorMod_f86c9 13 = .ok (.lload 4, 2) := by decide +kernel
theorem dJ9_floorMod_f86c9_15 : decode cJ9_floorMod_f86c9 15 = .ok (.lconst 0, 1) := by decide +kernel
theorem dJ9_floorMod_f86c9_16 : decode cJ9_floorMod_f86c9 16 = .ok (.lcmp, 1) := by decide +kernel
theorem dJ9_floorMod_f86c9_17 : decode cJ9_floorMod_f86c9 17 = .ok (.ifCond .eq 8, 3) := by decide +kernel
theorem dJ9_floorMod_f86c9_20 : decode cJ9_floorMod_f86c9 20 = .ok (.lload 4, 2) := by decide +kernel
theorem dJ9_floorMod_f86c9_22 : decode cJ9_floorMod_f86c9 22 = .ok (.lload_n 2, 1) := by decide +kernel
theorem dJ9_floorMod_f86c9_23 : decode cJ9_floorMod_f86c9 23 = .ok (.ladd, 1) := by decide +kernel
theorem dJ9_floorMod_f86c9_24 : decode cJ9_floorMod_f86c9 24 = .ok (.lreturn, 1) := by decide +kernel
theorem dJ9_floorMod_f86c9_25 : decode cJ9_floorMod_f86c9 25 = .ok (.lload 4, 2) := by decide +kernel
theorem dJ9_floorMod_f86c9_27 : decode cJ9_floorMod_f86c9 27 = .ok (.lreturn, 1) := by decide +kernel
theorem dJ9_max_7cf53_0 : decode cJ9_max_7cf53 0 = .ok (.iload_n 0, 1) := by decide +kernel
theorem dJ9_max_7cf53_1 : decode cJ9_max_7cf53 1 = .ok (.iload_n 1, 1) := by decide +kernel
theorem dJ9_max_7cf53_2 : decode cJ9_max_7cf53 2 = .ok (.if_icmp .lt 7, 3) := by decide +kernel
theorem dJ9_max_7cf53_5 : decode cJ9_max_7cf53 5 = .ok (.iload_n 0, 1) := by decide +kernel
theorem dJ9_max_7cf53_6 : decode cJ9_max_7cf53 6 = .ok (.goto 4, 3) := by decide +kernel
theorem dJ9_max_7cf53_9 : decode cJ9_max_7cf53 9 = .ok (.iload_n 1, 1) := by decide +kernel
theorem dJ9_max_7cf53_10 : decode cJ9_max_7cf53 10 = .ok (.ireturn, 1) := by decide +kernel
theorem dJ9_min_7cf53_0 : decode cJ9_min_7cf53 0 = .ok (.iload_n 0, 1) := by decide +kernel
theorem dJ9_min_7cf53_1 : decode cJ9_min_7cf53 1 = .ok (.iload_n 1, 1) := by decide +kernel
theorem dJ9_min_7cf53_2 : decode cJ9_min_7cf53 2 = .ok (.if_icmp .gt 7, 3) := by decide +kernel
theorem dJ9_min_7cf53_5 : decode cJ9_min_7cf53 5 = .ok (.iload_n 0, 1) := by decide +kernel
theorem dJ9_min_7cf53_6 : decode cJ9_min_7cf53 6 = .ok (.goto 4, 3) := by decide +kernel
theorem dJ9_min_7cf53_9 : decode cJ9_min_7cf53 9 = .ok (.iload_n 1, 1) := by decide +kernel
theorem dJ9_min_7cf53_10 : decode cJ9_min_7cf53 10 = .ok (.ireturn, 1) := by decide +kernel
theorem dJ0_length_8abf5_0 : decode cJ0_length_8abf5 0 = .ok (.aload_n 0, 1) := by decide +kernel
theorem dJ0_length_8abf5_1 : decode cJ0_length_8abf5 1 = .ok (.getfield 9, 3) := by decide +kernel
theorem dJ0_length_8abf5_4 : decode cJ0_length_8abf5 4 = .ok (.arraylength, 1) := by decide +kernel
theorem dJ0_length_8abf5_5 : decode cJ0_length_8abf5 5 = .ok (.aload_n 0, 1) := by decide +kernel
theorem dJ0_length_8abf5_6 : decode cJ0_length_8abf5 6 = .ok (.invokevirtual 335, 3) := by decide +kernel
theorem dJ0_length_8abf5_9 : decode cJ0_length_8abf5 9 = .ok (.ishr, 1) := by decide +kernel
theorem dJ0_length_8abf5_10 : decode cJ0_length_8abf5 10 = .ok (.ireturn, 1) := by decide +kernel
theorem dJ0_charAt_5068e_0 : decode cJ0_charAt_5068e 0 = .ok (.aload_n 0, 1) := by decide +kernel
theorem dJ0_charAt_5068e_1 : decode cJ0_charAt_5068e 1 = .ok (.invokevirtual 492, 3) := by decide +kernel
theorem dJ0_charAt_5068e_4 : decode cJ0_charAt_5068e 4 = .ok (.ifCond .eq 12, 3) := by decide +kernel
theorem dJ0_charAt_5068e_7 : decode cJ0_charAt_5068e 7 = .ok (.aload_n 0, 1) := by decide +kernel
theorem dJ0_charAt_5068e_8 : decode cJ0_charAt_5068e 8 = .ok (.getfield 9, 3) := by decide +kernel
theorem dJ0_charAt_5068e_11 : decode cJ0_charAt_5068e 11 = .ok (.iload_n 1, 1) := by decide +kernel
theorem dJ0_charAt_5068e_12 : decode cJ0_charAt_5068e 12 = .ok (.invokestatic 495, 3) := by decide +kernel
theorem dJ0_charAt_5068e_15 : decode cJ0_charAt_5068e 15 = .ok (.ireturn, 1) := by decide +kernel
theorem dJ0_charAt_5068e_16 : decode cJ0_charAt_5068e 16 = .ok (.aload_n 0, 1) := by decide +kernel
theorem dJ0_charAt_5068e_17 : decode cJ0_charAt_5068e 17 = .ok (.getfield 9, 3) := by decide +kernel
theorem dJ0_charAt_5068e_20 : decode cJ0_charAt_5068e 20 = .ok (.iload_n 1, 1) := by decide +kernel
theorem dJ0_charAt_5068e_21 : decode cJ0_charAt_5068e 21 = .ok (.invokestatic 498, 3) := by decide +kernel
theorem dJ0_charAt_5068e_24 : decode cJ0_charAt_5068e 24 = .ok (.ireturn, 1) := by decide +kernel
theorem dJ0_coder_7d493_0 : decode cJ0_coder_7d493 0 = .ok (.getstatic 38, 3) := by decide +kernel
theorem dJ0_coder_7d493_3 : decode cJ0_coder_7d493 3 = .ok (.ifCond .eq 10, 3) := by decide +kernel
theorem dJ0_coder_7d493_6 : decode cJ0_coder_7d493 6 = .ok (.aload_n 0, 1) := by decide +kernel
theorem dJ0_coder_7d493_7 : decode cJ0_coder_7d493 7 = .ok (.getfield 15, 3) := by decide +kernel
theorem dJ0_coder_7d493_10 : decode cJ0_coder_7d493 10 = .ok (.goto 4, 3) := by decide +kernel
theorem dJ0_coder_7d493_13 : decode cJ0_coder_7d493 13 = .ok (.iconst 1, 1) := by decide +kernel
theorem dJ0_coder_7d493_14 : decode cJ0_coder_7d493 14 = .ok (.ireturn, 1) := by decide +kernel
theorem dJ0_isLatin1_aae02_0 : decode cJ0_isLatin1_aae02 0 = .ok (.getstatic 38, 3) := by decide +kernel
theorem dJ0_isLatin1_aae02_3 : decode cJ0_isLatin1_aae02 3 = .ok (.ifCond .eq 14, 3) := by decide +kernel
theorem dJ0_isLatin1_aae02_6 : decode cJ0_isLatin1_aae02 6 = .ok (.aload_n 0, 1) := by decide +kernel
theorem dJ0_isLatin1_aae02_7 : decode cJ0_isLatin1_aae02 7 = .ok (.getfield 15, 3) := by decide +kernel
theorem dJ0_isLatin1_aae02_10 : decode cJ0_isLatin1_aae02 10 = .ok (.ifCond .ne 7, 3) := by decide +kernel
theorem dJ0_isLatin1_aae02_13 : decode cJ0_isLatin1_aae02 13 = .ok (.iconst 1, 1) := by decide +kernel
theorem dJ0_isLatin1_aae02_14 : decode cJ0_isLatin1_aae02 14 = .ok (.goto 4, 3) := by decide +kernel
theorem dJ0_isLatin1_aae02_17 : decode cJ0_isLatin1_aae02 17 = .ok (.iconst 0, 1) := by decide +kernel
theorem dJ0_isLatin1_aae02_18 : decode cJ0_isLatin1_aae02 18 = .ok (.ireturn, 1) := by decide +kernel
theorem dJ0_checkIndex_df160_0 : decode cJ0_checkIndex_df160 0 = .ok (.iload_n 0, 1) := by decide +kernel
theorem dJ0_checkIndex_df160_1 : decode cJ0_checkIndex_df160 1 = .ok (.iload_n 1, 1) := by decide +kernel
theorem dJ0_checkIndex_df160_2 : decode cJ0_checkIndex_df160 2 = .ok (.getstatic 1053, 3) := by decide +kernel
theorem dJ0_checkIndex_df160_5 : decode cJ0_checkIndex_df160 5 = .ok (.invokestatic 1059, 3) := by decide +kernel
theorem dJ0_checkIndex_df160_8 : decode cJ0_checkIndex_df160 8 = .ok (.pop, 1) := by decide +kernel
theorem dJ0_checkIndex_df160_9 : decode cJ0_checkIndex_df160 9 = .ok (.return_, 1) := by decide +kernel
theorem dJ1_charAt_3b067_0 : decode cJ1_charAt_3b067 0 = .ok (.iload_n 1, 1) := by decide +kernel
theorem dJ1_charAt_3b067_1 : decode cJ1_charAt_3b067 1 = .ok (.aload_n 0, 1) := by decide +kernel
theorem dJ1_charAt_3b067_2 : decode cJ1_charAt_3b067 2 = .ok (.arraylength, 1) := by decide +kernel
theorem dJ1_charAt_3b067_3 : decode cJ1_charAt_3b067 3 = .ok (.invokestatic 9, 3) := by decide +kernel
theorem dJ1_charAt_3b067_6 : decode cJ1_charAt_3b067 6 = .ok (.aload_n 0, 1) := by decide +kernel
theorem dJ1_charAt_3b067_7 : decode cJ1_charAt_3b067 7 = .ok (.iload_n 1, 1) := by decide +kernel
theorem dJ1_charAt_3b067_8 : decode cJ1_charAt_3b067 8 = .ok (.baload, 1) := by decide +kernel
theorem dJ1_charAt_3b067_9 : decode cJ1_charAt_3b067 9 = .ok (.sipush 255, 3) := by decide +kernel
theorem dJ1_charAt_3b067_12 : decode cJ1_charAt_3b067 12 = .ok (.iand, 1) := by decide +kernel
theorem dJ1_charAt_3b067_13 : decode cJ1_charAt_3b067 13 = .ok (.i2c, 1) := by decide +kernel
theorem dJ1_charAt_3b067_14 : decode cJ1_charAt_3b067 14 = .ok (.ireturn, 1) := by decide +kernel
theorem dJ2_getChar_3b067_0 : decode cJ2_getChar_3b067 0 = .ok (.getstatic 44, 3) := by decide +kernel
theorem dJ2_getChar_3b067_3 : decode cJ2_getChar_3b067 3 = .ok (.ifCond .ne 25, 3) := by decide +kernel
theorem dJ2_getChar_3b067_6 : decode cJ2_getChar_3b067 6 = .ok (.iload_n 1, 1) := by decide +kernel
theorem dJ2_getChar_3b067_7 : decode cJ2_getChar_3b067 7 = .ok (.ifCond .lt 11, 3) := by decide +kernel
theorem dJ2_getChar_3b067_10 : decode cJ2_getChar_3b067 10 = .ok (.iload_n 1, 1) := by decide +kernel
theorem dJ2_getChar_3b067_11 : decode cJ2_getChar_3b067 11 = .ok (.aload_n 0, 1) := by decide +kernel
theorem dJ2_getChar_3b067_12 : decode cJ2_getChar_3b067 12 = .ok (.invokestatic 48, 3) := by decide +kernel
theorem dJ2_getChar_3b067_15 : decode cJ2_getChar_3b067 15 = .ok (.if_icmp .lt 13, 3) := by decide +kernel
theorem dJ2_getChar_3b067_18 : decode cJ2_getChar_3b067 18 = .ok (.new 52, 3) := by decide +kernel
theorem dJ2_getChar_3b067_21 : decode cJ2_getChar_3b067 21 = .ok (.dup, 1) := by decide +kernel
theorem dJ2_getChar_3b067_22 : decode cJ2_getChar_3b067 22 = .ok (.ldc 54, 2) := by decide +kernel
theorem dJ2_getChar_3b067_24 : decode cJ2_getChar_3b067 24 = .ok (.invokespecial 56, 3) := by decide +kernel
theorem dJ2_getChar_3b067_27 : decode cJ2_getChar_3b067 27 = .ok (.athrow, 1) := by decide +kernel
theorem dJ2_getChar_3b067_28 : decode cJ2_getChar_3b067 28 = .ok (.iload_n 1, 1) := by decide +kernel
theorem dJ2_getChar_3b067_29 : decode cJ2_getChar_3b067 29 = .ok (.iconst 1, 1) := by decide +kernel
theorem dJ2_getChar_3b067_30 : decode cJ2_getChar_3b067 30 = .ok (.ishl, 1) := by decide +kernel
theorem dJ2_getChar_3b067_31 : decode cJ2_getChar_3b067 31 = .ok (.istore_n 1, 1) := by decide +kernel
theorem dJ2_getChar_3b067_32 : decode cJ2_getChar_3b067 32 = .ok (.aload_n 0, 1) := by decide +kernel
theorem dJ2_getChar_3b067_33 : decode cJ2_getChar_3b067 33 = .ok (.iload_n 1, 1) := by decide +kernel
theorem dJ2_getChar_3b067_34 : decode cJ2_getChar_3b067 34 = .ok (.iinc 1 1, 3) := by decide +kernel
theorem dJ2_getChar_3b067_37 : decode cJ2_getChar_3b067 37 = .ok (.baload, 1) := by decide +kernel
theorem dJ2_getChar_3b067_38 : decode cJ2_getChar_3b067 38 = .ok (.sipush 255, 3) := by decide +kernel
theorem dJ2_getChar_3b067_41 : decode cJ2_getChar_3b067 41 = .ok (.iand, 1) := by decide +kernel
theorem dJ2_getChar_3b067_42 : decode cJ2_getChar_3b067 42 = .ok (.getstatic 59, 3) := by decide +kernel
theorem dJ2_getChar_3b067_45 : decode cJ2_getChar_3b067 45 = .ok (.ishl, 1) := by decide +kernel
theorem dJ2_getChar_3b067_46 : decode cJ2_getChar_3b067 46 = .ok (.aload_n 0, 1) := by decide +kernel
theorem dJ2_getChar_3b067_47 : decode cJ2_getChar_3b067 47 = .ok (.iload_n 1, 1) := by decide +kernel
theorem dJ2_getChar_3b067_48 : decode cJ2_getChar_3b067 48 = .ok (.baload, 1) := by decide +kernel
theorem dJ2_getChar_3b067_49 : decode cJ2_getChar_3b067 49 = .ok (.sipush 255, 3) := by decide +kernel
theorem dJ2_getChar_3b067_52 : decode cJ2_getChar_3b067 52 = .ok (.iand, 1) := by decide +kernel
theorem dJ2_getChar_3b067_53 : decode cJ2_getChar_3b067 53 = .ok (.getstatic 63, 3) := by decide +kernel
theorem dJ2_getChar_3b067_56 : decode cJ2_getChar_3b067 56 = .ok (.ishl, 1) := by decide +kernel
theorem dJ2_getChar_3b067_57 : decode cJ2_getChar_3b067 57 = .ok (.ior, 1) := by decide +kernel
theorem dJ2_getChar_3b067_58 : decode cJ2_getChar_3b067 58 = .ok (.i2c, 1) := by decide +kernel
theorem dJ2_getChar_3b067_59 : decode cJ2_getChar_3b067 59 = .ok (.ireturn, 1) := by decide +kernel
theorem dJ2_length_9d52b_0 : decode cJ2_length_9d52b 0 = .ok (.aload_n 0, 1) := by decide +kernel
theorem dJ2_length_9d52b_1 : decode cJ2_length_9d52b 1 = .ok (.arraylength, 1) := by decide +kernel
theorem dJ2_length_9d52b_2 : decode cJ2_length_9d52b 2 = .ok (.iconst 1, 1) := by decide +kernel
theorem dJ2_length_9d52b_3 : decode cJ2_length_9d52b 3 = .ok (.ishr, 1) := by decide +kernel
theorem dJ2_length_9d52b_4 : decode cJ2_length_9d52b 4 = .ok (.ireturn, 1) := by decide +kernel
theorem dJ2_charAt_3b067_0 : decode cJ2_charAt_3b067 0 = .ok (.iload_n 1, 1) := by decide +kernel
theorem dJ2_charAt_3b067_1 : decode cJ2_charAt_3b067 1 = .ok (.aload_n 0, 1) := by decide +kernel
theorem dJ2_charAt_3b067_2 : decode cJ2_charAt_3b067 2 = .ok (.invokestatic 67, 3) := by decide +kernel
theorem dJ2_charAt_3b067_5 : decode cJ2_charAt_3b067 5 = .ok (.aload_n 0, 1) := by decide +kernel
theorem dJ2_charAt_3b067_6 : decode cJ2_charAt_3b067 6 = .ok (.iload_n 1, 1) := by decide +kernel
theorem dJ2_charAt_3b067_7 : decode cJ2_charAt_3b067 7 = .ok (.invokestatic 71, 3) := by decide +kernel
theorem dJ2_charAt_3b067_10 : decode cJ2_charAt_3b067 10 = .ok (.ireturn, 1) := by decide +kernel
theorem dJ2_checkIndex_2214a_0 : decode cJ2_checkIndex_2214a 0 = .ok (.iload_n 0, 1) := by decide +kernel
theorem dJ2_checkIndex_2214a_1 : decode cJ2_checkIndex_2214a 1 = .ok (.aload_n 1, 1) := by decide +kernel
theorem dJ2_checkIndex_2214a_2 : decode cJ2_checkIndex_2214a 2 = .ok (.invokestatic 48, 3) := by decide +kernel
theorem dJ2_checkIndex_2214a_5 : decode cJ2_checkIndex_2214a 5 = .ok (.invokestatic 414, 3) := by decide +kernel
theorem dJ2_checkIndex_2214a_8 : decode cJ2_checkIndex_2214a 8 = .ok (.return_, 1) := by decide +kernel
theorem dJ3_checkIndex_8e157_0 : decode cJ3_checkIndex_8e157 0 = .ok (.iload_n 0, 1) := by decide +kernel
theorem dJ3_checkIndex_8e157_1 : decode cJ3_checkIndex_8e157 1 = .ok (.ifCond .lt 8, 3) := by decide +kernel
theorem dJ3_checkIndex_8e157_4 : decode cJ3_checkIndex_8e157 4 = .ok (.iload_n 0, 1) := by decide +kernel
theorem dJ3_checkIndex_8e157_5 : decode cJ3_checkIndex_8e157 5 = .ok (.iload_n 1, 1) := by decide +kernel
theorem dJ3_checkIndex_8e157_6 : decode cJ3_checkIndex_8e157 6 = .ok (.if_icmp .lt 10, 3) := by decide +kernel
theorem dJ3_checkIndex_8e157_9 : decode cJ3_checkIndex_8e157 9 = .ok (.aload_n 2, 1) := by decide +kernel
theorem dJ3_checkIndex_8e157_10 : decode cJ3_checkIndex_8e157 10 = .ok (.iload_n 0, 1) := by decide +kernel
theorem dJ3_checkIndex_8e157_11 : decode cJ3_checkIndex_8e157 11 = .ok (.iload_n 1, 1) := by decide +kernel
theorem dJ3_checkIndex_8e157_12 : decode cJ3_checkIndex_8e157 12 = .ok (.invokestatic 95, 3) := by decide +kernel
theorem dJ3_checkIndex_8e157_15 : decode cJ3_checkIndex_8e157 15 = .ok (.athrow, 1) := by decide +kernel
theorem dJ3_checkIndex_8e157_16 : decode cJ3_checkIndex_8e157 16 = .ok (.iload_n 0, 1) := by decide +kernel
theorem dJ3_checkIndex_8e157_17 : decode cJ3_checkIndex_8e157 17 = .ok (.ireturn, 1) := by decide +kernel
