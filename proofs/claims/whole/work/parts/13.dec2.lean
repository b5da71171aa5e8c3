theorem dX8_standsFor_28 : decode cX8_standsFor 28 = .ok (.iadd, 1) := by decide +kernel
theorem dX8_standsFor_29 : decode cX8_standsFor 29 = .ok (.iaload, 1) := by decide +kernel
theorem dX8_standsFor_30 : decode cX8_standsFor 30 = .ok (.ireturn, 1) := by decide +kernel
theorem dX8_fillOn_0 : decode cX8_fillOn 0 = .ok (.iload 6, 2) := by decide +kernel
theorem dX8_fillOn_2 : decode cX8_fillOn 2 = .ok (.aload_n 0, 1) := by decide +kernel
theorem dX8_fillOn_3 : decode cX8_fillOn 3 = .ok (.getfield 346, 3) := by decide +kernel
theorem dX8_fillOn_6 : decode cX8_fillOn 6 = .ok (.if_icmp .lt 4, 3) := by decide +kernel
theorem dX8_fillOn_9 : decode cX8_fillOn 9 = .ok (.return_, 1) := by decide +kernel
theorem dX8_fillOn_10 : decode cX8_fillOn 10 = .ok (.iload_n 3, 1) := by decide +kernel
theorem dX8_fillOn_11 : decode cX8_fillOn 11 = .ok (.aload_n 0, 1) := by decide +kernel
theorem dX8_fillOn_12 : decode cX8_fillOn 12 = .ok (.getfield 57, 3) := by decide +kernel
theorem dX8_fillOn_15 : decode cX8_fillOn 15 = .ok (.iload_n 1, 1) := by decide +kernel
theorem dX8_fillOn_16 : decode cX8_fillOn 16 = .ok (.iaload, 1) := by decide +kernel
theorem dX8_fillOn_17 : decode cX8_fillOn 17 = .ok (.if_icmp .ne 39, 3) := by decide +kernel
theorem dX8_fillOn_20 : decode cX8_fillOn 20 = .ok (.aload_n 0, 1) := by decide +kernel
theorem dX8_fillOn_21 : decode cX8_fillOn 21 = .ok (.iload 6, 2) := by decide +kernel
theorem dX8_fillOn_23 : decode cX8_fillOn 23 = .ok (.putfield 346, 3) := by decide +kernel
theorem dX8_fillOn_26 : decode cX8_fillOn 26 = .ok (.iconst 0, 1) := by decide +kernel
theorem dX8_fillOn_27 : decode cX8_fillOn 27 = .ok (.istore 7, 2) := by decide +kernel
theorem dX8_fillOn_29 : decode cX8_fillOn 29 = .ok (.iload 7, 2) := by decide +kernel
theorem dX8_fillOn_31 : decode cX8_fillOn 31 = .ok (.iload_n 3, 1) := by decide +kernel
theorem dX8_fillOn_32 : decode cX8_fillOn 32 = .ok (.if_icmp .ge 23, 3) := by decide +kernel
theorem dX8_fillOn_35 : decode cX8_fillOn 35 = .ok (.aload_n 0, 1) := by decide +kernel
theorem dX8_fillOn_36 : decode cX8_fillOn 36 = .ok (.getfield 88, 3) := by decide +kernel
theorem dX8_fillOn_39 : decode cX8_fillOn 39 = .ok (.iload 7, 2) := by decide +kernel
theorem dX8_fillOn_41 : decode cX8_fillOn 41 = .ok (.aload_n 0, 1) := by decide +kernel
theorem dX8_fillOn_42 : decode cX8_fillOn 42 = .ok (.getfield 85, 3) := by decide +kernel
theorem dX8_fillOn_45 : decode cX8_fillOn 45 = .ok (.iload 7, 2) := by decide +kernel
theorem dX8_fillOn_47 : decode cX8_fillOn 47 = .ok (.iaload, 1) := by decide +kernel
theorem dX8_fillOn_48 : decode cX8_fillOn 48 = .ok (.iastore, 1) := by decide +kernel
theorem dX8_fillOn_49 : decode cX8_fillOn 49 = .ok (.iinc 7 1, 3) := by decide +kernel
theorem dX8_fillOn_52 : decode cX8_fillOn 52 = .ok (.goto (-23), 3) := by decide +kernel
theorem dX8_fillOn_55 : decode cX8_fillOn 55 = .ok (.return_, 1) := by decide +kernel
theorem dX8_fillOn_56 : decode cX8_fillOn 56 = .ok (.iconst 0, 1) := by decide +kernel
theorem dX8_fillOn_57 : decode cX8_fillOn 57 = .ok (.istore 7, 2) := by decide +kernel
theorem dX8_fillOn_59 : decode cX8_fillOn 59 = .ok (.iload 7, 2) := by decide +kernel
theorem dX8_fillOn_61 : decode cX8_fillOn 61 = .ok (.bipush 10, 2) := by decide +kernel
theorem dX8_fillOn_63 : decode cX8_fillOn 63 = .ok (.if_icmp .gt 82, 3) := by decide +kernel
theorem dX8_fillOn_66 : decode cX8_fillOn 66 = .ok (.iload 4, 2) := by decide +kernel
theorem dX8_fillOn_68 : decode cX8_fillOn 68 = .ok (.iload 7, 2) := by decide +kernel
theorem dX8_fillOn_70 : decode cX8_fillOn 70 = .ok (.ishr, 1) := by decide +kernel
theorem dX8_fillOn_71 : decode cX8_fillOn 71 = .ok (.iconst 1, 1) := by decide +kernel
theorem dX8_fillOn_72 : decode cX8_fillOn 72 = .ok (.iand, 1) := by decide +kernel
theorem dX8_fillOn_73 : decode cX8_fillOn 73 = .ok (.ifCond .ne 6, 3) := by decide +kernel
theorem dX8_fillOn_76 : decode cX8_fillOn 76 = .ok (.goto 63, 3) := by decide +kernel
theorem dX8_fillOn_79 : decode cX8_fillOn 79 = .ok (.aload_n 0, 1) := by decide +kernel
theorem dX8_fillOn_80 : decode cX8_fillOn 80 = .ok (.iload 7, 2) := by decide +kernel
theorem dX8_fillOn_82 : decode cX8_fillOn 82 = .ok (.aload_n 0, 1) := by decide +kernel
theorem dX8_fillOn_83 : decode cX8_fillOn 83 = .ok (.getfield 54, 3) := by decide +kernel
theorem dX8_fillOn_86 : decode cX8_fillOn 86 = .ok (.iconst 4, 1) := by decide +kernel
theorem dX8_fillOn_87 : decode cX8_fillOn 87 = .ok (.iload_n 1, 1) := by decide +kernel
theorem dX8_fillOn_88 : decode cX8_fillOn 88 = .ok (.imul, 1) := by decide +kernel
theorem dX8_fillOn_89 : decode cX8_fillOn 89 = .ok (.iload_n 3, 1) := by decide +kernel
theorem dX8_fillOn_90 : decode cX8_fillOn 90 = .ok (.iadd, 1) := by decide +kernel
theorem dX8_fillOn_91 : decode cX8_fillOn 91 = .ok (.iaload, 1) := by decide +kernel
theorem dX8_fillOn_92 : decode cX8_fillOn 92 = .ok (.invokevirtual 349, 3) := by decide +kernel
theorem dX8_fillOn_95 : decode cX8_fillOn 95 = .ok (.istore 8, 2) := by decide +kernel
theorem dX8_fillOn_97 : decode cX8_fillOn 97 = .ok (.iload 8, 2) := by decide +kernel
theorem dX8_fillOn_99 : decode cX8_fillOn 99 = .ok (.iconst (-1), 1) := by decide +kernel
theorem dX8_fillOn_100 : decode cX8_fillOn 100 = .ok (.if_icmp .ne 6, 3) := by decide +kernel
theorem dX8_fillOn_103 : decode cX8_fillOn 103 = .ok (.goto 36, 3) := by decide +kernel
theorem dX8_fillOn_106 : decode cX8_fillOn 106 = .ok (.aload_n 0, 1) := by decide +kernel
theorem dX8_fillOn_107 : decode cX8_fillOn 107 = .ok (.getfield 85, 3) := by decide +kernel
theorem dX8_fillOn_110 : decode cX8_fillOn 110 = .ok (.iload_n 3, 1) := by decide +kernel
theorem dX8_fillOn_111 : decode cX8_fillOn 111 = .ok (.iload 7, 2) := by decide +kernel
theorem dX8_fillOn_113 : decode cX8_fillOn 113 = .ok (.iastore, 1) := by decide +kernel
theorem dX8_fillOn_114 : decode cX8_fillOn 114 = .ok (.aload_n 0, 1) := by decide +kernel
theorem dX8_fillOn_115 : decode cX8_fillOn 115 = .ok (.iload_n 1, 1) := by decide +kernel
theorem dX8_fillOn_116 : decode cX8_fillOn 116 = .ok (.iload_n 2, 1) := by decide +kernel
theorem dX8_fillOn_117 : decode cX8_fillOn 117 = .ok (.iload_n 3, 1) := by decide +kernel
theorem dX8_fillOn_118 : decode cX8_fillOn 118 = .ok (.iconst 1, 1) := by decide +kernel
theorem dX8_fillOn_119 : decode cX8_fillOn 119 = .ok (.iadd, 1) := by decide +kernel
theorem dX8_fillOn_120 : decode cX8_fillOn 120 = .ok (.iload 4, 2) := by decide +kernel
theorem dX8_fillOn_122 : decode cX8_fillOn 122 = .ok (.iconst 1, 1) := by decide +kernel
theorem dX8_fillOn_123 : decode cX8_fillOn 123 = .ok (.iload 7, 2) := by decide +kernel
theorem dX8_fillOn_125 : decode cX8_fillOn 125 = .ok (.ishl, 1) := by decide +kernel
theorem dX8_fillOn_126 : decode cX8_fillOn 126 = .ok (.iconst (-1), 1) := by decide +kernel
theorem dX8_fillOn_127 : decode cX8_fillOn 127 = .ok (.ixor, 1) := by decide +kernel
theorem dX8_fillOn_128 : decode cX8_fillOn 128 = .ok (.iand, 1) := by decide +kernel
theorem dX8_fillOn_129 : decode cX8_fillOn 129 = .ok (.iload 5, 2) := by decide +kernel
theorem dX8_fillOn_131 : decode cX8_fillOn 131 = .ok (.iload 6, 2) := by decide +kernel
theorem dX8_fillOn_133 : decode cX8_fillOn 133 = .ok (.iload 8, 2) := by decide +kernel
theorem dX8_fillOn_135 : decode cX8_fillOn 135 = .ok (.iadd, 1) := by decide +kernel
theorem dX8_fillOn_136 : decode cX8_fillOn 136 = .ok (.invokevirtual 352, 3) := by decide +kernel
theorem dX8_fillOn_139 : decode cX8_fillOn 139 = .ok (.iinc 7 1, 3) := by decide +kernel
theorem dX8_fillOn_142 : decode cX8_fillOn 142 = .ok (.goto (-83), 3) := by decide +kernel
theorem dX8_fillOn_145 : decode cX8_fillOn 145 = .ok (.iload 5, 2) := by decide +kernel
theorem dX8_fillOn_147 : decode cX8_fillOn 147 = .ok (.aload_n 0, 1) := by decide +kernel
theorem dX8_fillOn_148 : decode cX8_fillOn 148 = .ok (.getfield 33, 3) := by decide +kernel
theorem dX8_fillOn_151 : decode cX8_fillOn 151 = .ok (.iload_n 2, 1) := by decide +kernel
theorem dX8_fillOn_152 : decode cX8_fillOn 152 = .ok (.iaload, 1) := by decide +kernel
theorem dX8_fillOn_153 : decode cX8_fillOn 153 = .ok (.if_icmp .ne 4, 3) := by decide +kernel
theorem dX8_fillOn_156 : decode cX8_fillOn 156 = .ok (.return_, 1) := by decide +kernel
theorem dX8_fillOn_157 : decode cX8_fillOn 157 = .ok (.aload_n 0, 1) := by decide +kernel
theorem dX8_fillOn_158 : decode cX8_fillOn 158 = .ok (.getfield 85, 3) := by decide +kernel
theorem dX8_fillOn_161 : decode cX8_fillOn 161 = .ok (.iload_n 3, 1) := by decide +kernel
theorem dX8_fillOn_162 : decode cX8_fillOn 162 = .ok (.bipush 99, 2) := by decide +kernel
theorem dX8_fillOn_164 : decode cX8_fillOn 164 = .ok (.iastore, 1) := by decide +kernel
theorem dX8_fillOn_165 : decode cX8_fillOn 165 = .ok (.aload_n 0, 1) := by decide +kernel
theorem dX8_fillOn_166 : decode cX8_fillOn 166 = .ok (.iload_n 1, 1) := by decide +kernel
theorem dX8_fillOn_167 : decode cX8_fillOn 167 = .ok (.iload_n 2, 1) := by decide +kernel
theorem dX8_fillOn_168 : decode cX8_fillOn 168 = .ok (.iload_n 3, 1) := by decide +kernel
theorem dX8_fillOn_169 : decode cX8_fillOn 169 = .ok (.iconst 1, 1) := by decide +kernel
theorem dX8_fillOn_170 : decode cX8_fillOn 170 = .ok (.iadd, 1) := by decide +kernel
theorem dX8_fillOn_171 : decode cX8_fillOn 171 = .ok (.iload 4, 2) := by decide +kernel
theorem dX8_fillOn_173 : decode cX8_fillOn 173 = .ok (.iload 5, 2) := by decide +kernel
theorem dX8_fillOn_175 : decode cX8_fillOn 175 = .ok (.iconst 1, 1) := by decide +kernel
theorem dX8_fillOn_176 : decode cX8_fillOn 176 = .ok (.iadd, 1) := by decide +kernel
theorem dX8_fillOn_177 : decode cX8_fillOn 177 = .ok (.iload 6, 2) := by decide +kernel
theorem dX8_fillOn_179 : decode cX8_fillOn 179 = .ok (.aload_n 0, 1) := by decide +kernel
theorem dX8_fillOn_180 : decode cX8_fillOn 180 = .ok (.getfield 36, 3) := by decide +kernel
theorem dX8_fillOn_183 : decode cX8_fillOn 183 = .ok (.iload_n 2, 1) := by decide +kernel
theorem dX8_fillOn_184 : decode cX8_fillOn 184 = .ok (.iaload, 1) := by decide +kernel
theorem dX8_fillOn_185 : decode cX8_fillOn 185 = .ok (.iadd, 1) := by decide +kernel
theorem dX8_fillOn_186 : decode cX8_fillOn 186 = .ok (.invokevirtual 352, 3) := by decide +kernel
theorem dX8_fillOn_189 : decode cX8_fillOn 189 = .ok (.return_, 1) := by decide +kernel
theorem dX8_priceOf_0 : decode cX8_priceOf 0 = .ok (.aload_n 0, 1) := by decide +kernel
theorem dX8_priceOf_1 : decode cX8_priceOf 1 = .ok (.ldc_w 316, 3) := by decide +kernel
theorem dX8_priceOf_4 : decode cX8_priceOf 4 = .ok (.putfield 346, 3) := by decide +kernel
theorem dX8_priceOf_7 : decode cX8_priceOf 7 = .ok (.aload_n 0, 1) := by decide +kernel
theorem dX8_priceOf_8 : decode cX8_priceOf 8 = .ok (.iload_n 1, 1) := by decide +kernel
theorem dX8_priceOf_9 : decode cX8_priceOf 9 = .ok (.iload_n 2, 1) := by decide +kernel
theorem dX8_priceOf_10 : decode cX8_priceOf 10 = .ok (.iconst 0, 1) := by decide +kernel
theorem dX8_priceOf_11 : decode cX8_priceOf 11 = .ok (.iload_n 3, 1) := by decide +kernel
theorem dX8_priceOf_12 : decode cX8_priceOf 12 = .ok (.iconst 0, 1) := by decide +kernel
theorem dX8_priceOf_13 : decode cX8_priceOf 13 = .ok (.iconst 0, 1) := by decide +kernel
theorem dX8_priceOf_14 : decode cX8_priceOf 14 = .ok (.invokevirtual 352, 3) := by decide +kernel
theorem dX8_priceOf_17 : decode cX8_priceOf 17 = .ok (.aload_n 0, 1) := by decide +kernel
theorem dX8_priceOf_18 : decode cX8_priceOf 18 = .ok (.getfield 346, 3) := by decide +kernel
theorem dX8_priceOf_21 : decode cX8_priceOf 21 = .ok (.ldc_w 316, 3) := by decide +kernel
theorem dX8_priceOf_24 : decode cX8_priceOf 24 = .ok (.if_icmp .ne 7, 3) := by decide +kernel
theorem dX8_priceOf_27 : decode cX8_priceOf 27 = .ok (.iconst (-1), 1) := by decide +kernel
theorem dX8_priceOf_28 : decode cX8_priceOf 28 = .ok (.goto 7, 3) := by decide +kernel
theorem dX8_priceOf_31 : decode cX8_priceOf 31 = .ok (.aload_n 0, 1) := by decide +kernel
theorem dX8_priceOf_32 : decode cX8_priceOf 32 = .ok (.getfield 346, 3) := by decide +kernel
theorem dX8_priceOf_35 : decode cX8_priceOf 35 = .ok (.ireturn, 1) := by decide +kernel
theorem dX8_price_0 : decode cX8_price 0 = .ok (.aload_n 0, 1) := by decide +kernel
theorem dX8_price_1 : decode cX8_price 1 = .ok (.iconst 0, 1) := by decide +kernel
theorem dX8_price_2 : decode cX8_price 2 = .ok (.putfield 149, 3) := by decide +kernel
theorem dX8_price_5 : decode cX8_price 5 = .ok (.aload_n 0, 1) := by decide +kernel
theorem dX8_price_6 : decode cX8_price 6 = .ok (.iload_n 1, 1) := by decide +kernel
theorem dX8_price_7 : decode cX8_price 7 = .ok (.invokevirtual 356, 3) := by decide +kernel
theorem dX8_price_10 : decode cX8_price 10 = .ok (.ifCond .eq 11, 3) := by decide +kernel
theorem dX8_price_13 : decode cX8_price 13 = .ok (.aload_n 0, 1) := by decide +kernel
theorem dX8_price_14 : decode cX8_price 14 = .ok (.iload_n 2, 1) := by decide +kernel
theorem dX8_price_15 : decode cX8_price 15 = .ok (.invokevirtual 304, 3) := by decide +kernel
theorem dX8_price_18 : decode cX8_price 18 = .ok (.ifCond .ne 9, 3) := by decide +kernel
theorem dX8_price_21 : decode cX8_price 21 = .ok (.aload_n 0, 1) := by decide +kernel
theorem dX8_price_22 : decode cX8_price 22 = .ok (.iconst 1, 1) := by decide +kernel
theorem dX8_price_23 : decode cX8_price 23 = .ok (.invokevirtual 268, 3) := by decide +kernel
theorem dX8_price_26 : decode cX8_price 26 = .ok (.ireturn, 1) := by decide +kernel
theorem dX8_price_27 : decode cX8_price 27 = .ok (.iload_n 3, 1) := by decide +kernel
theorem dX8_price_28 : decode cX8_price 28 = .ok (.iconst 0, 1) := by decide +kernel
theorem dX8_price_29 : decode cX8_price 29 = .ok (.iconst 1, 1) := by decide +kernel
theorem dX8_price_30 : decode cX8_price 30 = .ok (.aload_n 0, 1) := by decide +kernel
theorem dX8_price_31 : decode cX8_price 31 = .ok (.getfield 23, 3) := by decide +kernel
theorem dX8_price_34 : decode cX8_price 34 = .ok (.iconst 2, 1) := by decide +kernel
theorem dX8_price_35 : decode cX8_price 35 = .ok (.iaload, 1) := by decide +kernel
theorem dX8_price_36 : decode cX8_price 36 = .ok (.ishl, 1) := by decide +kernel
theorem dX8_price_37 : decode cX8_price 37 = .ok (.iconst 1, 1) := by decide +kernel
theorem dX8_price_38 : decode cX8_price 38 = .ok (.isub, 1) := by decide +kernel
theorem dX8_price_39 : decode cX8_price 39 = .ok (.invokestatic 152, 3) := by decide +kernel
theorem dX8_price_42 : decode cX8_price 42 = .ok (.ifCond .eq 13, 3) := by decide +kernel
theorem dX8_price_45 : decode cX8_price 45 = .ok (.aload_n 0, 1) := by decide +kernel
theorem dX8_price_46 : decode cX8_price 46 = .ok (.iload_n 1, 1) := by decide +kernel
theorem dX8_price_47 : decode cX8_price 47 = .ok (.iload_n 2, 1) := by decide +kernel
theorem dX8_price_48 : decode cX8_price 48 = .ok (.iload_n 3, 1) := by decide +kernel
theorem dX8_price_49 : decode cX8_price 49 = .ok (.invokevirtual 359, 3) := by decide +kernel
theorem dX8_price_52 : decode cX8_price 52 = .ok (.goto 8, 3) := by decide +kernel
theorem dX8_price_55 : decode cX8_price 55 = .ok (.aload_n 0, 1) := by decide +kernel
theorem dX8_price_56 : decode cX8_price 56 = .ok (.iconst 2, 1) := by decide +kernel
theorem dX8_price_57 : decode cX8_price 57 = .ok (.invokevirtual 268, 3) := by decide +kernel
theorem dX8_price_60 : decode cX8_price 60 = .ok (.ireturn, 1) := by decide +kernel
theorem dX8_filled_0 : decode cX8_filled 0 = .ok (.aload_n 0, 1) := by decide +kernel
theorem dX8_filled_1 : decode cX8_filled 1 = .ok (.iconst 0, 1) := by decide +kernel
theorem dX8_filled_2 : decode cX8_filled 2 = .ok (.putfield 149, 3) := by decide +kernel
theorem dX8_filled_5 : decode cX8_filled 5 = .ok (.aload_n 0, 1) := by decide +kernel
theorem dX8_filled_6 : decode cX8_filled 6 = .ok (.iload_n 1, 1) := by decide +kernel
theorem dX8_filled_7 : decode cX8_filled 7 = .ok (.invokevirtual 356, 3) := by decide +kernel
theorem dX8_filled_10 : decode cX8_filled 10 = .ok (.ifCond .eq 27, 3) := by decide +kernel
theorem dX8_filled_13 : decode cX8_filled 13 = .ok (.aload_n 0, 1) := by decide +kernel
theorem dX8_filled_14 : decode cX8_filled 14 = .ok (.iload_n 2, 1) := by decide +kernel
theorem dX8_filled_15 : decode cX8_filled 15 = .ok (.invokevirtual 304, 3) := by decide +kernel
theorem dX8_filled_18 : decode cX8_filled 18 = .ok (.ifCond .eq 19, 3) := by decide +kernel
theorem dX8_filled_21 : decode cX8_filled 21 = .ok (.iload_n 3, 1) := by decide +kernel
theorem dX8_filled_22 : decode cX8_filled 22 = .ok (.iconst 0, 1) := by decide +kernel
theorem dX8_filled_23 : decode cX8_filled 23 = .ok (.aload_n 0, 1) := by decide +kernel
theorem dX8_filled_24 : decode cX8_filled 24 = .ok (.getfield 57, 3) := by decide +kernel
theorem dX8_filled_27 : decode cX8_filled 27 = .ok (.iload_n 1, 1) := by decide +kernel
theorem dX8_filled_28 : decode cX8_filled 28 = .ok (.iaload, 1) := by decide +kernel
theorem dX8_filled_29 : decode cX8_filled 29 = .ok (.iconst 1, 1) := by decide +kernel
theorem dX8_filled_30 : decode cX8_filled 30 = .ok (.isub, 1) := by decide +kernel
theorem dX8_filled_31 : decode cX8_filled 31 = .ok (.invokestatic 152, 3) := by decide +kernel
theorem dX8_filled_34 : decode cX8_filled 34 = .ok (.ifCond .ne 9, 3) := by decide +kernel
theorem dX8_filled_37 : decode cX8_filled 37 = .ok (.aload_n 0, 1) := by decide +kernel
theorem dX8_filled_38 : decode cX8_filled 38 = .ok (.iconst 1, 1) := by decide +kernel
theorem dX8_filled_39 : decode cX8_filled 39 = .ok (.invokevirtual 268, 3) := by decide +kernel
theorem dX8_filled_42 : decode cX8_filled 42 = .ok (.ireturn, 1) := by decide +kernel
theorem dX8_filled_43 : decode cX8_filled 43 = .ok (.aload_n 0, 1) := by decide +kernel
theorem dX8_filled_44 : decode cX8_filled 44 = .ok (.iload_n 1, 1) := by decide +kernel
theorem dX8_filled_45 : decode cX8_filled 45 = .ok (.iload_n 2, 1) := by decide +kernel
theorem dX8_filled_46 : decode cX8_filled 46 = .ok (.aload_n 0, 1) := by decide +kernel
theorem dX8_filled_47 : decode cX8_filled 47 = .ok (.aload_n 0, 1) := by decide +kernel
theorem dX8_filled_48 : decode cX8_filled 48 = .ok (.iload_n 2, 1) := by decide +kernel
theorem dX8_filled_49 : decode cX8_filled 49 = .ok (.invokevirtual 307, 3) := by decide +kernel
theorem dX8_filled_52 : decode cX8_filled 52 = .ok (.invokevirtual 310, 3) := by decide +kernel
theorem dX8_filled_55 : decode cX8_filled 55 = .ok (.invokevirtual 359, 3) := by decide +kernel
theorem dX8_filled_58 : decode cX8_filled 58 = .ok (.iconst (-1), 1) := by decide +kernel
theorem dX8_filled_59 : decode cX8_filled 59 = .ok (.if_icmp .ne 7, 3) := by decide +kernel
theorem dX8_filled_62 : decode cX8_filled 62 = .ok (.iconst (-1), 1) := by decide +kernel
theorem dX8_filled_63 : decode cX8_filled 63 = .ok (.goto 9, 3) := by decide +kernel
theorem dX8_filled_66 : decode cX8_filled 66 = .ok (.aload_n 0, 1) := by decide +kernel
theorem dX8_filled_67 : decode cX8_filled 67 = .ok (.getfield 88, 3) := by decide +kernel
theorem dX8_filled_70 : decode cX8_filled 70 = .ok (.iload_n 3, 1) := by decide +kernel
theorem dX8_filled_71 : decode cX8_filled 71 = .ok (.iaload, 1) := by decide +kernel
theorem dX8_filled_72 : decode cX8_filled 72 = .ok (.ireturn, 1) := by decide +kernel
theorem dX8_tonight_0 : decode cX8_tonight 0 = .ok (.aload_n 0, 1) := by decide +kernel
theorem dX8_tonight_1 : decode cX8_tonight 1 = .ok (.iconst 0, 1) := by decide +kernel
theorem dX8_tonight_2 : decode cX8_tonight 2 = .ok (.putfield 149, 3) := by decide +kernel
theorem dX8_tonight_5 : decode cX8_tonight 5 = .ok (.aload_n 0, 1) := by decide +kernel
theorem dX8_tonight_6 : decode cX8_tonight 6 = .ok (.iload_n 1, 1) := by decide +kernel
theorem dX8_tonight_7 : decode cX8_tonight 7 = .ok (.invokevirtual 304, 3) := by decide +kernel
theorem dX8_tonight_10 : decode cX8_tonight 10 = .ok (.ifCond .eq 12, 3) := by decide +kernel
theorem dX8_tonight_13 : decode cX8_tonight 13 = .ok (.iload_n 2, 1) := by decide +kernel
theorem dX8_tonight_14 : decode cX8_tonight 14 = .ok (.ifCond .lt 8, 3) := by decide +kernel
theorem dX8_tonight_17 : decode cX8_tonight 17 = .ok (.iload_n 2, 1) := by decide +kernel
theorem dX8_tonight_18 : decode cX8_tonight 18 = .ok (.iconst 1, 1) := by decide +kernel
theorem dX8_tonight_19 : decode cX8_tonight 19 = .ok (.if_icmp .le 9, 3) := by decide +kernel
theorem dX8_tonight_22 : decode cX8_tonight 22 = .ok (.aload_n 0, 1) := by decide +kernel
theorem dX8_tonight_23 : decode cX8_tonight 23 = .ok (.iconst 1, 1) := by decide +kernel
theorem dX8_tonight_24 : decode cX8_tonight 24 = .ok (.invokevirtual 268, 3) := by decide +kernel
theorem dX8_tonight_27 : decode cX8_tonight 27 = .ok (.ireturn, 1) := by decide +kernel
theorem dX8_tonight_28 : decode cX8_tonight 28 = .ok (.iconst (-1), 1) := by decide +kernel
theorem dX8_tonight_29 : decode cX8_tonight 29 = .ok (.istore_n 3, 1) := by decide +kernel
theorem dX8_tonight_30 : decode cX8_tonight 30 = .ok (.iconst (-1), 1) := by decide +kernel
theorem dX8_tonight_31 : decode cX8_tonight 31 = .ok (.istore 4, 2) := by decide +kernel
theorem dX8_tonight_33 : decode cX8_tonight 33 = .ok (.iconst 0, 1) := by decide +kernel
theorem dX8_tonight_34 : decode cX8_tonight 34 = .ok (.istore 5, 2) := by decide +kernel
theorem dX8_tonight_36 : decode cX8_tonight 36 = .ok (.iload 5, 2) := by decide +kernel
theorem dX8_tonight_38 : decode cX8_tonight 38 = .ok (.aload_n 0, 1) := by decide +kernel
theorem dX8_tonight_39 : decode cX8_tonight 39 = .ok (.getfield 23, 3) := by decide +kernel
theorem dX8_tonight_42 : decode cX8_tonight 42 = .ok (.iconst 3, 1) := by decide +kernel
theorem dX8_tonight_43 : decode cX8_tonight 43 = .ok (.iaload, 1) := by decide +kernel
theorem dX8_tonight_44 : decode cX8_tonight 44 = .ok (.if_icmp .ge 75, 3) := by decide +kernel
theorem dX8_tonight_47 : decode cX8_tonight 47 = .ok (.aload_n 0, 1) := by decide +kernel
theorem dX8_tonight_48 : decode cX8_tonight 48 = .ok (.getfield 51, 3) := by decide +kernel
theorem dX8_tonight_51 : decode cX8_tonight 51 = .ok (.iload 5, 2) := by decide +kernel
theorem dX8_tonight_53 : decode cX8_tonight 53 = .ok (.iaload, 1) := by decide +kernel
theorem dX8_tonight_54 : decode cX8_tonight 54 = .ok (.aload_n 0, 1) := by decide +kernel
theorem dX8_tonight_55 : decode cX8_tonight 55 = .ok (.getfield 23, 3) := by decide +kernel
theorem dX8_tonight_58 : decode cX8_tonight 58 = .ok (.iconst 4, 1) := by decide +kernel
theorem dX8_tonight_59 : decode cX8_tonight 59 = .ok (.iaload, 1) := by decide +kernel
theorem dX8_tonight_60 : decode cX8_tonight 60 = .ok (.if_icmp .gt 22, 3) := by decide +kernel
theorem dX8_tonight_63 : decode cX8_tonight 63 = .ok (.aload_n 0, 1) := by decide +kernel
theorem dX8_tonight_64 : decode cX8_tonight 64 = .ok (.iload 5, 2) := by decide +kernel
theorem dX8_tonight_66 : decode cX8_tonight 66 = .ok (.iload_n 1, 1) := by decide +kernel
theorem dX8_tonight_67 : decode cX8_tonight 67 = .ok (.aload_n 0, 1) := by decide +kernel
theorem dX8_tonight_68 : decode cX8_tonight 68 = .ok (.aload_n 0, 1) := by decide +kernel
theorem dX8_tonight_69 : decode cX8_tonight 69 = .ok (.iload_n 1, 1) := by decide +kernel
theorem dX8_tonight_70 : decode cX8_tonight 70 = .ok (.invokevirtual 307, 3) := by decide +kernel
theorem dX8_tonight_73 : decode cX8_tonight 73 = .ok (.invokevirtual 310, 3) := by decide +kernel
theorem dX8_tonight_76 : decode cX8_tonight 76 = .ok (.invokevirtual 359, 3) := by decide +kernel
theorem dX8_tonight_79 : decode cX8_tonight 79 = .ok (.goto 4, 3) := by decide +kernel
theorem dX8_tonight_82 : decode cX8_tonight 82 = .ok (.iconst (-1), 1) := by decide +kernel
theorem dX8_tonight_83 : decode cX8_tonight 83 = .ok (.istore 6, 2) := by decide +kernel
theorem dX8_tonight_85 : decode cX8_tonight 85 = .ok (.iload 6, 2) := by decide +kernel
theorem dX8_tonight_87 : decode cX8_tonight 87 = .ok (.iconst (-1), 1) := by decide +kernel
theorem dX8_tonight_88 : decode cX8_tonight 88 = .ok (.if_icmp .eq 25, 3) := by decide +kernel
theorem dX8_tonight_91 : decode cX8_tonight 91 = .ok (.iload_n 3, 1) := by decide +kernel
theorem dX8_tonight_92 : decode cX8_tonight 92 = .ok (.iconst (-1), 1) := by decide +kernel
theorem dX8_tonight_93 : decode cX8_tonight 93 = .ok (.if_icmp .eq 13, 3) := by decide +kernel
theorem dX8_tonight_96 : decode cX8_tonight 96 = .ok (.iload 6, 2) := by decide +kernel
theorem dX8_tonight_98 : decode cX8_tonight 98 = .ok (.iload 4, 2) := by decide +kernel
theorem dX8_tonight_100 : decode cX8_tonight 100 = .ok (.if_icmp .lt 6, 3) := by decide +kernel
theorem dX8_tonight_103 : decode cX8_tonight 103 = .ok (.goto 10, 3) := by decide +kernel
theorem dX8_tonight_106 : decode cX8_tonight 106 = .ok (.iload 5, 2) := by decide +kernel
theorem dX8_tonight_108 : decode cX8_tonight 108 = .ok (.istore_n 3, 1) := by decide +kernel
theorem dX8_tonight_109 : decode cX8_tonight 109 = .ok (.iload 6, 2) := by decide +kernel
theorem dX8_tonight_111 : decode cX8_tonight 111 = .ok (.istore 4, 2) := by decide +kernel
theorem dX8_tonight_113 : decode cX8_tonight 113 = .ok (.iinc 5 1, 3) := by decide +kernel
theorem dX8_tonight_116 : decode cX8_tonight 116 = .ok (.goto (-80), 3) := by decide +kernel
theorem dX8_tonight_119 : decode cX8_tonight 119 = .ok (.iload_n 2, 1) := by decide +kernel
theorem dX8_tonight_120 : decode cX8_tonight 120 = .ok (.ifCond .ne 7, 3) := by decide +kernel
theorem dX8_tonight_123 : decode cX8_tonight 123 = .ok (.iload_n 3, 1) := by decide +kernel
theorem dX8_tonight_124 : decode cX8_tonight 124 = .ok (.goto 5, 3) := by decide +kernel
theorem dX8_tonight_127 : decode cX8_tonight 127 = .ok (.iload 4, 2) := by decide +kernel
theorem dX8_tonight_129 : decode cX8_tonight 129 = .ok (.ireturn, 1) := by decide +kernel
theorem dX8_both_0 : decode cX8_both 0 = .ok (.aload_n 0, 1) := by decide +kernel
theorem dX8_both_1 : decode cX8_both 1 = .ok (.iconst 0, 1) := by decide +kernel
theorem dX8_both_2 : decode cX8_both 2 = .ok (.putfield 149, 3) := by decide +kernel
theorem dX8_both_5 : decode cX8_both 5 = .ok (.aload_n 0, 1) := by decide +kernel
theorem dX8_both_6 : decode cX8_both 6 = .ok (.iload_n 1, 1) := by decide +kernel
theorem dX8_both_7 : decode cX8_both 7 = .ok (.invokevirtual 304, 3) := by decide +kernel
theorem dX8_both_10 : decode cX8_both 10 = .ok (.ifCond .eq 20, 3) := by decide +kernel
theorem dX8_both_13 : decode cX8_both 13 = .ok (.aload_n 0, 1) := by decide +kernel
theorem dX8_both_14 : decode cX8_both 14 = .ok (.iload_n 2, 1) := by decide +kernel
theorem dX8_both_15 : decode cX8_both 15 = .ok (.invokevirtual 304, 3) := by decide +kernel
theorem dX8_both_18 : decode cX8_both 18 = .ok (.ifCond .eq 12, 3) := by decide +kernel
theorem dX8_both_21 : decode cX8_both 21 = .ok (.iload_n 3, 1) := by decide +kernel
theorem dX8_both_22 : decode cX8_both 22 = .ok (.ifCond .lt 8, 3) := by decide +kernel
theorem dX8_both_25 : decode cX8_both 25 = .ok (.iload_n 3, 1) := by decide +kernel
theorem dX8_both_26 : decode cX8_both 26 = .ok (.iconst 1, 1) := by decide +kernel
theorem dX8_both_27 : decode cX8_both 27 = .ok (.if_icmp .le 9, 3) := by decide +kernel
theorem dX8_both_30 : decode cX8_both 30 = .ok (.aload_n 0, 1) := by decide +kernel
theorem dX8_both_31 : decode cX8_both 31 = .ok (.iconst 1, 1) := by decide +kernel
theorem dX8_both_32 : decode cX8_both 32 = .ok (.invokevirtual 268, 3) := by decide +kernel
theorem dX8_both_35 : decode cX8_both 35 = .ok (.ireturn, 1) := by decide +kernel
theorem dX8_both_36 : decode cX8_both 36 = .ok (.iconst (-1), 1) := by decide +kernel
theorem dX8_both_37 : decode cX8_both 37 = .ok (.istore 4, 2) := by decide +kernel
theorem dX8_both_39 : decode cX8_both 39 = .ok (.iconst (-1), 1) := by decide +kernel
theorem dX8_both_40 : decode cX8_both 40 = .ok (.istore 5, 2) := by decide +kernel
theorem dX8_both_42 : decode cX8_both 42 = .ok (.iconst 0, 1) := by decide +kernel
theorem dX8_both_43 : decode cX8_both 43 = .ok (.istore 6, 2) := by decide +kernel
theorem dX8_both_45 : decode cX8_both 45 = .ok (.iload 6, 2) := by decide +kernel
theorem dX8_both_47 : decode cX8_both 47 = .ok (.aload_n 0, 1) := by decide +kernel
theorem dX8_both_48 : decode cX8_both 48 = .ok (.getfield 23, 3) := by decide +kernel
theorem dX8_both_51 : decode cX8_both 51 = .ok (.iconst 3, 1) := by decide +kernel
theorem dX8_both_52 : decode cX8_both 52 = .ok (.iaload, 1) := by decide +kernel
theorem dX8_both_53 : decode cX8_both 53 = .ok (.aload_n 0, 1) := by decide +kernel
theorem dX8_both_54 : decode cX8_both 54 = .ok (.getfield 23, 3) := by decide +kernel
theorem dX8_both_57 : decode cX8_both 57 = .ok (.iconst 3, 1) := by decide +kernel
theorem dX8_both_58 : decode cX8_both 58 = .ok (.iaload, 1) := by decide +kernel
theorem dX8_both_59 : decode cX8_both 59 = .ok (.imul, 1) := by decide +kernel
theorem dX8_both_60 : decode cX8_both 60 = .ok (.if_icmp .ge 147, 3) := by decide +kernel
theorem dX8_both_63 : decode cX8_both 63 = .ok (.iload_n 1, 1) := by decide +kernel
theorem dX8_both_64 : decode cX8_both 64 = .ok (.iload_n 2, 1) := by decide +kernel
theorem dX8_both_65 : decode cX8_both 65 = .ok (.if_icmp .eq 142, 3) := by decide +kernel
theorem dX8_both_68 : decode cX8_both 68 = .ok (.iload 6, 2) := by decide +kernel
theorem dX8_both_70 : decode cX8_both 70 = .ok (.aload_n 0, 1) := by decide +kernel
theorem dX8_both_71 : decode cX8_both 71 = .ok (.getfield 23, 3) := by decide +kernel
theorem dX8_both_74 : decode cX8_both 74 = .ok (.iconst 3, 1) := by decide +kernel
theorem dX8_both_75 : decode cX8_both 75 = .ok (.iaload, 1) := by decide +kernel
theorem dX8_both_76 : decode cX8_both 76 = .ok (.idiv, 1) := by decide +kernel
theorem dX8_both_77 : decode cX8_both 77 = .ok (.istore 7, 2) := by decide +kernel
theorem dX8_both_79 : decode cX8_both 79 = .ok (.iload 6, 2) := by decide +kernel
theorem dX8_both_81 : decode cX8_both 81 = .ok (.aload_n 0, 1) := by decide +kernel
theorem dX8_both_82 : decode cX8_both 82 = .ok (.getfield 23, 3) := by decide +kernel
theorem dX8_both_85 : decode cX8_both 85 = .ok (.iconst 3, 1) := by decide +kernel
theorem dX8_both_86 : decode cX8_both 86 = .ok (.iaload, 1) := by decide +kernel
theorem dX8_both_87 : decode cX8_both 87 = .ok (.irem, 1) := by decide +kernel
theorem dX8_both_88 : decode cX8_both 88 = .ok (.istore 8, 2) := by decide +kernel
theorem dX8_both_90 : decode cX8_both 90 = .ok (.aload_n 0, 1) := by decide +kernel
theorem dX8_both_91 : decode cX8_both 91 = .ok (.getfield 51, 3) := by decide +kernel
theorem dX8_both_94 : decode cX8_both 94 = .ok (.iload 7, 2) := by decide +kernel
theorem dX8_both_96 : decode cX8_both 96 = .ok (.iaload, 1) := by decide +kernel
theorem dX8_both_97 : decode cX8_both 97 = .ok (.aload_n 0, 1) := by decide +kernel
theorem dX8_both_98 : decode cX8_both 98 = .ok (.getfield 51, 3) := by decide +kernel
theorem dX8_both_101 : decode cX8_both 101 = .ok (.iload 8, 2) := by decide +kernel
theorem dX8_both_103 : decode cX8_both 103 = .ok (.iaload, 1) := by decide +kernel
theorem dX8_both_104 : decode cX8_both 104 = .ok (.iadd, 1) := by decide +kernel
theorem dX8_both_105 : decode cX8_both 105 = .ok (.aload_n 0, 1) := by decide +kernel
theorem dX8_both_106 : decode cX8_both 106 = .ok (.getfield 23, 3) := by decide +kernel
theorem dX8_both_109 : decode cX8_both 109 = .ok (.iconst 4, 1) := by decide +kernel
theorem dX8_both_110 : decode cX8_both 110 = .ok (.iaload, 1) := by decide +kernel
theorem dX8_both_111 : decode cX8_both 111 = .ok (.if_icmp .le 6, 3) := by decide +kernel
theorem dX8_both_114 : decode cX8_both 114 = .ok (.goto 87, 3) := by decide +kernel
theorem dX8_both_117 : decode cX8_both 117 = .ok (.aload_n 0, 1) := by decide +kernel
theorem dX8_both_118 : decode cX8_both 118 = .ok (.iload 7, 2) := by decide +kernel
theorem dX8_both_120 : decode cX8_both 120 = .ok (.iload_n 1, 1) := by decide +kernel
theorem dX8_both_121 : decode cX8_both 121 = .ok (.aload_n 0, 1) := by decide +kernel
theorem dX8_both_122 : decode cX8_both 122 = .ok (.aload_n 0, 1) := by decide +kernel
theorem dX8_both_123 : decode cX8_both 123 = .ok (.iload_n 1, 1) := by decide +kernel
theorem dX8_both_124 : decode cX8_both 124 = .ok (.invokevirtual 307, 3) := by decide +kernel
theorem dX8_both_127 : decode cX8_both 127 = .ok (.invokevirtual 310, 3) := by decide +kernel
theorem dX8_both_130 : decode cX8_both 130 = .ok (.invokevirtual 359, 3) := by decide +kernel
theorem dX8_both_133 : decode cX8_both 133 = .ok (.istore 9, 2) := by decide +kernel
theorem dX8_both_135 : decode cX8_both 135 = .ok (.aload_n 0, 1) := by decide +kernel
theorem dX8_both_136 : decode cX8_both 136 = .ok (.iload 8, 2) := by decide +kernel
theorem dX8_both_138 : decode cX8_both 138 = .ok (.iload_n 2, 1) := by decide +kernel
theorem dX8_both_139 : decode cX8_both 139 = .ok (.aload_n 0, 1) := by decide +kernel
theorem dX8_both_140 : decode cX8_both 140 = .ok (.aload_n 0, 1) := by decide +kernel
theorem dX8_both_141 : decode cX8_both 141 = .ok (.iload_n 2, 1) := by decide +kernel
theorem dX8_both_142 : decode cX8_both 142 = .ok (.invokevirtual 307, 3) := by decide +kernel
theorem dX8_both_145 : decode cX8_both 145 = .ok (.invokevirtual 310, 3) := by decide +kernel
theorem dX8_both_148 : decode cX8_both 148 = .ok (.invokevirtual 359, 3) := by decide +kernel
theorem dX8_both_151 : decode cX8_both 151 = .ok (.istore 10, 2) := by decide +kernel
theorem dX8_both_153 : decode cX8_both 153 = .ok (.iload 9, 2) := by decide +kernel
theorem dX8_both_155 : decode cX8_both 155 = .ok (.iconst (-1), 1) := by decide +kernel
theorem dX8_both_156 : decode cX8_both 156 = .ok (.if_icmp .eq 45, 3) := by decide +kernel
theorem dX8_both_159 : decode cX8_both 159 = .ok (.iload 10, 2) := by decide +kernel
theorem dX8_both_161 : decode cX8_both 161 = .ok (.iconst (-1), 1) := by decide +kernel
theorem dX8_both_162 : decode cX8_both 162 = .ok (.if_icmp .eq 39, 3) := by decide +kernel
theorem dX8_both_165 : decode cX8_both 165 = .ok (.iload 4, 2) := by decide +kernel
theorem dX8_both_167 : decode cX8_both 167 = .ok (.iconst (-1), 1) := by decide +kernel
theorem dX8_both_168 : decode cX8_both 168 = .ok (.if_icmp .eq 16, 3) := by decide +kernel
theorem dX8_both_171 : decode cX8_both 171 = .ok (.iload 9, 2) := by decide +kernel
theorem dX8_both_173 : decode cX8_both 173 = .ok (.iload 10, 2) := by decide +kernel
theorem dX8_both_175 : decode cX8_both 175 = .ok (.iadd, 1) := by decide +kernel
theorem dX8_both_176 : decode cX8_both 176 = .ok (.iload 5, 2) := by decide +kernel
theorem dX8_both_178 : decode cX8_both 178 = .ok (.if_icmp .lt 6, 3) := by decide +kernel
theorem dX8_both_181 : decode cX8_both 181 = .ok (.goto 20, 3) := by decide +kernel
theorem dX8_both_184 : decode cX8_both 184 = .ok (.bipush 8, 2) := by decide +kernel
theorem dX8_both_186 : decode cX8_both 186 = .ok (.iload 7, 2) := by decide +kernel
theorem dX8_both_188 : decode cX8_both 188 = .ok (.imul, 1) := by decide +kernel
theorem dX8_both_189 : decode cX8_both 189 = .ok (.iload 8, 2) := by decide +kernel
theorem dX8_both_191 : decode cX8_both 191 = .ok (.iadd, 1) := by decide +kernel
theorem dX8_both_192 : decode cX8_both 192 = .ok (.istore 4, 2) := by decide +kernel
theorem dX8_both_194 : decode cX8_both 194 = .ok (.iload 9, 2) := by decide +kernel
theorem dX8_both_196 : decode cX8_both 196 = .ok (.iload 10, 2) := by decide +kernel
theorem dX8_both_198 : decode cX8_both 198 = .ok (.iadd, 1) := by decide +kernel
theorem dX8_both_199 : decode cX8_both 199 = .ok (.istore 5, 2) := by decide +kernel
theorem dX8_both_201 : decode cX8_both 201 = .ok (.iinc 6 1, 3) := by decide +kernel
theorem dX8_both_204 : decode cX8_both 204 = .ok (.goto (-159), 3) := by decide +kernel
theorem dX8_both_207 : decode cX8_both 207 = .ok (.iload_n 3, 1) := by decide +kernel
theorem dX8_both_208 : decode cX8_both 208 = .ok (.ifCond .ne 8, 3) := by decide +kernel
theorem dX8_both_211 : decode cX8_both 211 = .ok (.iload 4, 2) := by decide +kernel
theorem dX8_both_213 : decode cX8_both 213 = .ok (.goto 5, 3) := by decide +kernel
theorem dX8_both_216 : decode cX8_both 216 = .ok (.iload 5, 2) := by decide +kernel
theorem dX8_both_218 : decode cX8_both 218 = .ok (.ireturn, 1) := by decide +kernel
theorem dX8_note_0 : decode cX8_note 0 = .ok (.aload_n 0, 1) := by decide +kernel
theorem dX8_note_1 : decode cX8_note 1 = .ok (.getfield 289, 3) := by decide +kernel
theorem dX8_note_4 : decode cX8_note 4 = .ok (.bipush 100, 2) := by decide +kernel
theorem dX8_note_6 : decode cX8_note 6 = .ok (.if_icmp .ne 113, 3) := by decide +kernel
theorem dX8_note_9 : decode cX8_note 9 = .ok (.iconst 0, 1) := by decide +kernel
theorem dX8_note_10 : decode cX8_note 10 = .ok (.istore_n 2, 1) := by decide +kernel
theorem dX8_note_11 : decode cX8_note 11 = .ok (.iload_n 2, 1) := by decide +kernel
theorem dX8_note_12 : decode cX8_note 12 = .ok (.iconst 1, 1) := by decide +kernel
theorem dX8_note_13 : decode cX8_note 13 = .ok (.iadd, 1) := by decide +kernel
theorem dX8_note_14 : decode cX8_note 14 = .ok (.bipush 100, 2) := by decide +kernel
theorem dX8_note_16 : decode cX8_note 16 = .ok (.if_icmp .ge 93, 3) := by decide +kernel
theorem dX8_note_19 : decode cX8_note 19 = .ok (.aload_n 0, 1) := by decide +kernel
theorem dX8_note_20 : decode cX8_note 20 = .ok (.getfield 91, 3) := by decide +kernel
theorem dX8_note_23 : decode cX8_note 23 = .ok (.iload_n 2, 1) := by decide +kernel
theorem dX8_note_24 : decode cX8_note 24 = .ok (.aload_n 0, 1) := by decide +kernel
theorem dX8_note_25 : decode cX8_note 25 = .ok (.getfield 91, 3) := by decide +kernel
theorem dX8_note_28 : decode cX8_note 28 = .ok (.iload_n 2, 1) := by decide +kernel
theorem dX8_note_29 : decode cX8_note 29 = .ok (.iconst 1, 1) := by decide +kernel
theorem dX8_note_30 : decode cX8_note 30 = .ok (.iadd, 1) := by decide +kernel
theorem dX8_note_31 : decode cX8_note 31 = .ok (.iaload, 1) := by decide +kernel
theorem dX8_note_32 : decode cX8_note 32 = .ok (.iastore, 1) := by decide +kernel
theorem dX8_note_33 : decode cX8_note 33 = .ok (.aload_n 0, 1) := by decide +kernel
theorem dX8_note_34 : decode cX8_note 34 = .ok (.getfield 94, 3) := by decide +kernel
theorem dX8_note_37 : decode cX8_note 37 = .ok (.iload_n 2, 1) := by decide +kernel
theorem dX8_note_38 : decode cX8_note 38 = .ok (.aload_n 0, 1) := by decide +kernel
theorem dX8_note_39 : decode cX8_note 39 = .ok (.getfield 94, 3) := by decide +kernel
theorem dX8_note_42 : decode cX8_note 42 = .ok (.iload_n 2, 1) := by decide +kernel
theorem dX8_note_43 : decode cX8_note 43 = .ok (.iconst 1, 1) := by decide +kernel
theorem dX8_note_44 : decode cX8_note 44 = .ok (.iadd, 1) := by decide +kernel
theorem dX8_note_45 : decode cX8_note 45 = .ok (.iaload, 1) := by decide +kernel
theorem dX8_note_46 : decode cX8_note 46 = .ok (.iastore, 1) := by decide +kernel
theorem dX8_note_47 : decode cX8_note 47 = .ok (.aload_n 0, 1) := by decide +kernel
theorem dX8_note_48 : decode cX8_note 48 = .ok (.getfield 97, 3) := by decide +kernel
theorem dX8_note_51 : decode cX8_note 51 = .ok (.iload_n 2, 1) := by decide +kernel
theorem dX8_note_52 : decode cX8_note 52 = .ok (.aload_n 0, 1) := by decide +kernel
theorem dX8_note_53 : decode cX8_note 53 = .ok (.getfield 97, 3) := by decide +kernel
theorem dX8_note_56 : decode cX8_note 56 = .ok (.iload_n 2, 1) := by decide +kernel
theorem dX8_note_57 : decode cX8_note 57 = .ok (.iconst 1, 1) := by decide +kernel
theorem dX8_note_58 : decode cX8_note 58 = .ok (.iadd, 1) := by decide +kernel
theorem dX8_note_59 : decode cX8_note 59 = .ok (.iaload, 1) := by decide +kernel
theorem dX8_note_60 : decode cX8_note 60 = .ok (.iastore, 1) := by decide +kernel
theorem dX8_note_61 : decode cX8_note 61 = .ok (.aload_n 0, 1) := by decide +kernel
theorem dX8_note_62 : decode cX8_note 62 = .ok (.getfield 100, 3) := by decide +kernel
theorem dX8_note_65 : decode cX8_note 65 = .ok (.iload_n 2, 1) := by decide +kernel
theorem dX8_note_66 : decode cX8_note 66 = .ok (.aload_n 0, 1) := by decide +kernel
theorem dX8_note_67 : decode cX8_note 67 = .ok (.getfield 100, 3) := by decide +kernel
theorem dX8_note_70 : decode cX8_note 70 = .ok (.iload_n 2, 1) := by decide +kernel
theorem dX8_note_71 : decode cX8_note 71 = .ok (.iconst 1, 1) := by decide +kernel
theorem dX8_note_72 : decode cX8_note 72 = .ok (.iadd, 1) := by decide +kernel
theorem dX8_note_73 : decode cX8_note 73 = .ok (.iaload, 1) := by decide +kernel
theorem dX8_note_74 : decode cX8_note 74 = .ok (.iastore, 1) := by decide +kernel
theorem dX8_note_75 : decode cX8_note 75 = .ok (.aload_n 0, 1) := by decide +kernel
theorem dX8_note_76 : decode cX8_note 76 = .ok (.getfield 103, 3) := by decide +kernel
theorem dX8_note_79 : decode cX8_note 79 = .ok (.iload_n 2, 1) := by decide +kernel
theorem dX8_note_80 : decode cX8_note 80 = .ok (.aload_n 0, 1) := by decide +kernel
theorem dX8_note_81 : decode cX8_note 81 = .ok (.getfield 103, 3) := by decide +kernel
theorem dX8_note_84 : decode cX8_note 84 = .ok (.iload_n 2, 1) := by decide +kernel
theorem dX8_note_85 : decode cX8_note 85 = .ok (.iconst 1, 1) := by decide +kernel
theorem dX8_note_86 : decode cX8_note 86 = .ok (.iadd, 1) := by decide +kernel
theorem dX8_note_87 : decode cX8_note 87 = .ok (.iaload, 1) := by decide +kernel
theorem dX8_note_88 : decode cX8_note 88 = .ok (.iastore, 1) := by decide +kernel
theorem dX8_note_89 : decode cX8_note 89 = .ok (.aload_n 0, 1) := by decide +kernel
theorem dX8_note_90 : decode cX8_note 90 = .ok (.getfield 106, 3) := by decide +kernel
theorem dX8_note_93 : decode cX8_note 93 = .ok (.iload_n 2, 1) := by decide +kernel
theorem dX8_note_94 : decode cX8_note 94 = .ok (.aload_n 0, 1) := by decide +kernel
theorem dX8_note_95 : decode cX8_note 95 = .ok (.getfield 106, 3) := by decide +kernel
theorem dX8_note_98 : decode cX8_note 98 = .ok (.iload_n 2, 1) := by decide +kernel
theorem dX8_note_99 : decode cX8_note 99 = .ok (.iconst 1, 1) := by decide +kernel
theorem dX8_note_100 : decode cX8_note 100 = .ok (.iadd, 1) := by decide +kernel
theorem dX8_note_101 : decode cX8_note 101 = .ok (.baload, 1) := by decide +kernel
theorem dX8_note_102 : decode cX8_note 102 = .ok (.bastore, 1) := by decide +kernel
theorem dX8_note_103 : decode cX8_note 103 = .ok (.iinc 2 1, 3) := by decide +kernel
theorem dX8_note_106 : decode cX8_note 106 = .ok (.goto (-95), 3) := by decide +kernel
theorem dX8_note_109 : decode cX8_note 109 = .ok (.aload_n 0, 1) := by decide +kernel
theorem dX8_note_110 : decode cX8_note 110 = .ok (.dup, 1) := by decide +kernel
theorem dX8_note_111 : decode cX8_note 111 = .ok (.getfield 289, 3) := by decide +kernel
theorem dX8_note_114 : decode cX8_note 114 = .ok (.iconst 1, 1) := by decide +kernel
theorem dX8_note_115 : decode cX8_note 115 = .ok (.isub, 1) := by decide +kernel
theorem dX8_note_116 : decode cX8_note 116 = .ok (.putfield 289, 3) := by decide +kernel
theorem dX8_note_119 : decode cX8_note 119 = .ok (.aload_n 0, 1) := by decide +kernel
theorem dX8_note_120 : decode cX8_note 120 = .ok (.getfield 91, 3) := by decide +kernel
theorem dX8_note_123 : decode cX8_note 123 = .ok (.aload_n 0, 1) := by decide +kernel
theorem dX8_note_124 : decode cX8_note 124 = .ok (.getfield 289, 3) := by decide +kernel
theorem dX8_note_127 : decode cX8_note 127 = .ok (.iload_n 1, 1) := by decide +kernel
theorem dX8_note_128 : decode cX8_note 128 = .ok (.iastore, 1) := by decide +kernel
theorem dX8_note_129 : decode cX8_note 129 = .ok (.aload_n 0, 1) := by decide +kernel
theorem dX8_note_130 : decode cX8_note 130 = .ok (.getfield 94, 3) := by decide +kernel
theorem dX8_note_133 : decode cX8_note 133 = .ok (.aload_n 0, 1) := by decide +kernel
theorem dX8_note_134 : decode cX8_note 134 = .ok (.getfield 289, 3) := by decide +kernel
theorem dX8_note_137 : decode cX8_note 137 = .ok (.iload_n 1, 1) := by decide +kernel
theorem dX8_note_138 : decode cX8_note 138 = .ok (.iconst (-1), 1) := by decide +kernel
theorem dX8_note_139 : decode cX8_note 139 = .ok (.if_icmp .ne 7, 3) := by decide +kernel
theorem dX8_note_142 : decode cX8_note 142 = .ok (.iconst 0, 1) := by decide +kernel
theorem dX8_note_143 : decode cX8_note 143 = .ok (.goto 9, 3) := by decide +kernel
theorem dX8_note_146 : decode cX8_note 146 = .ok (.aload_n 0, 1) := by decide +kernel
theorem dX8_note_147 : decode cX8_note 147 = .ok (.getfield 73, 3) := by decide +kernel
theorem dX8_note_150 : decode cX8_note 150 = .ok (.iload_n 1, 1) := by decide +kernel
theorem dX8_note_151 : decode cX8_note 151 = .ok (.iaload, 1) := by decide +kernel
theorem dX8_note_152 : decode cX8_note 152 = .ok (.iastore, 1) := by decide +kernel
theorem dX8_note_153 : decode cX8_note 153 = .ok (.aload_n 0, 1) := by decide +kernel
theorem dX8_note_154 : decode cX8_note 154 = .ok (.getfield 97, 3) := by decide +kernel
theorem dX8_note_157 : decode cX8_note 157 = .ok (.aload_n 0, 1) := by decide +kernel
theorem dX8_note_158 : decode cX8_note 158 = .ok (.getfield 289, 3) := by decide +kernel
theorem dX8_note_161 : decode cX8_note 161 = .ok (.iload_n 1, 1) := by decide +kernel
theorem dX8_note_162 : decode cX8_note 162 = .ok (.iconst (-1), 1) := by decide +kernel
theorem dX8_note_163 : decode cX8_note 163 = .ok (.if_icmp .ne 7, 3) := by decide +kernel
theorem dX8_note_166 : decode cX8_note 166 = .ok (.iconst 0, 1) := by decide +kernel
theorem dX8_note_167 : decode cX8_note 167 = .ok (.goto 9, 3) := by decide +kernel
theorem dX8_note_170 : decode cX8_note 170 = .ok (.aload_n 0, 1) := by decide +kernel
theorem dX8_note_171 : decode cX8_note 171 = .ok (.getfield 76, 3) := by decide +kernel
theorem dX8_note_174 : decode cX8_note 174 = .ok (.iload_n 1, 1) := by decide +kernel
theorem dX8_note_175 : decode cX8_note 175 = .ok (.iaload, 1) := by decide +kernel
theorem dX8_note_176 : decode cX8_note 176 = .ok (.iastore, 1) := by decide +kernel
theorem dX8_note_177 : decode cX8_note 177 = .ok (.aload_n 0, 1) := by decide +kernel
theorem dX8_note_178 : decode cX8_note 178 = .ok (.getfield 100, 3) := by decide +kernel
theorem dX8_note_181 : decode cX8_note 181 = .ok (.aload_n 0, 1) := by decide +kernel
theorem dX8_note_182 : decode cX8_note 182 = .ok (.getfield 289, 3) := by decide +kernel
theorem dX8_note_185 : decode cX8_note 185 = .ok (.aload_n 0, 1) := by decide +kernel
theorem dX8_note_186 : decode cX8_note 186 = .ok (.getfield 282, 3) := by decide +kernel
theorem dX8_note_189 : decode cX8_note 189 = .ok (.iastore, 1) := by decide +kernel
theorem dX8_note_190 : decode cX8_note 190 = .ok (.aload_n 0, 1) := by decide +kernel
theorem dX8_note_191 : decode cX8_note 191 = .ok (.getfield 103, 3) := by decide +kernel
theorem dX8_note_194 : decode cX8_note 194 = .ok (.aload_n 0, 1) := by decide +kernel
theorem dX8_note_195 : decode cX8_note 195 = .ok (.getfield 289, 3) := by decide +kernel
theorem dX8_note_198 : decode cX8_note 198 = .ok (.aload_n 0, 1) := by decide +kernel
theorem dX8_note_199 : decode cX8_note 199 = .ok (.getfield 362, 3) := by decide +kernel
theorem dX8_note_202 : decode cX8_note 202 = .ok (.iastore, 1) := by decide +kernel
theorem dX8_note_203 : decode cX8_note 203 = .ok (.aload_n 0, 1) := by decide +kernel
theorem dX8_note_204 : decode cX8_note 204 = .ok (.getfield 106, 3) := by decide +kernel
theorem dX8_note_207 : decode cX8_note 207 = .ok (.aload_n 0, 1) := by decide +kernel
theorem dX8_note_208 : decode cX8_note 208 = .ok (.getfield 289, 3) := by decide +kernel
theorem dX8_note_211 : decode cX8_note 211 = .ok (.aload_n 0, 1) := by decide +kernel
theorem dX8_note_212 : decode cX8_note 212 = .ok (.getfield 285, 3) := by decide +kernel
theorem dX8_note_215 : decode cX8_note 215 = .ok (.bastore, 1) := by decide +kernel
theorem dX8_note_216 : decode cX8_note 216 = .ok (.aload_n 0, 1) := by decide +kernel
theorem dX8_note_217 : decode cX8_note 217 = .ok (.dup, 1) := by decide +kernel
theorem dX8_note_218 : decode cX8_note 218 = .ok (.getfield 289, 3) := by decide +kernel
theorem dX8_note_221 : decode cX8_note 221 = .ok (.iconst 1, 1) := by decide +kernel
theorem dX8_note_222 : decode cX8_note 222 = .ok (.iadd, 1) := by decide +kernel
theorem dX8_note_223 : decode cX8_note 223 = .ok (.putfield 289, 3) := by decide +kernel
theorem dX8_note_226 : decode cX8_note 226 = .ok (.return_, 1) := by decide +kernel
theorem dX8_slips_0 : decode cX8_slips 0 = .ok (.aload_n 0, 1) := by decide +kernel
theorem dX8_slips_1 : decode cX8_slips 1 = .ok (.getfield 285, 3) := by decide +kernel
theorem dX8_slips_4 : decode cX8_slips 4 = .ok (.ifCond .ne 5, 3) := by decide +kernel
theorem dX8_slips_7 : decode cX8_slips 7 = .ok (.iconst 0, 1) := by decide +kernel
theorem dX8_slips_8 : decode cX8_slips 8 = .ok (.ireturn, 1) := by decide +kernel
theorem dX8_slips_9 : decode cX8_slips 9 = .ok (.aload_n 0, 1) := by decide +kernel
theorem dX8_slips_10 : decode cX8_slips 10 = .ok (.aload_n 0, 1) := by decide +kernel
theorem dX8_slips_11 : decode cX8_slips 11 = .ok (.getfield 362, 3) := by decide +kernel
theorem dX8_slips_14 : decode cX8_slips 14 = .ok (.ldc_w 365, 3) := by decide +kernel
theorem dX8_slips_17 : decode cX8_slips 17 = .ok (.imul, 1) := by decide +kernel
theorem dX8_slips_18 : decode cX8_slips 18 = .ok (.sipush 12345, 3) := by decide +kernel
theorem dX8_slips_21 : decode cX8_slips 21 = .ok (.iadd, 1) := by decide +kernel
theorem dX8_slips_22 : decode cX8_slips 22 = .ok (.putfield 362, 3) := by decide +kernel
theorem dX8_slips_25 : decode cX8_slips 25 = .ok (.aload_n 0, 1) := by decide +kernel
theorem dX8_slips_26 : decode cX8_slips 26 = .ok (.getfield 362, 3) := by decide +kernel
theorem dX8_slips_29 : decode cX8_slips 29 = .ok (.bipush 16, 2) := by decide +kernel
theorem dX8_slips_31 : decode cX8_slips 31 = .ok (.ishr, 1) := by decide +kernel
theorem dX8_slips_32 : decode cX8_slips 32 = .ok (.sipush 32767, 3) := by decide +kernel
theorem dX8_slips_35 : decode cX8_slips 35 = .ok (.iand, 1) := by decide +kernel
theorem dX8_slips_36 : decode cX8_slips 36 = .ok (.sipush 1000, 3) := by decide +kernel
theorem dX8_slips_39 : decode cX8_slips 39 = .ok (.irem, 1) := by decide +kernel
theorem dX8_slips_40 : decode cX8_slips 40 = .ok (.aload_n 0, 1) := by decide +kernel
theorem dX8_slips_41 : decode cX8_slips 41 = .ok (.getfield 30, 3) := by decide +kernel
theorem dX8_slips_44 : decode cX8_slips 44 = .ok (.iload_n 1, 1) := by decide +kernel
theorem dX8_slips_45 : decode cX8_slips 45 = .ok (.iaload, 1) := by decide +kernel
theorem dX8_slips_46 : decode cX8_slips 46 = .ok (.if_icmp .ge 7, 3) := by decide +kernel
theorem dX8_slips_49 : decode cX8_slips 49 = .ok (.iconst 1, 1) := by decide +kernel
theorem dX8_slips_50 : decode cX8_slips 50 = .ok (.goto 4, 3) := by decide +kernel
theorem dX8_slips_53 : decode cX8_slips 53 = .ok (.iconst 0, 1) := by decide +kernel
theorem dX8_slips_54 : decode cX8_slips 54 = .ok (.ireturn, 1) := by decide +kernel
theorem dX8_send_0 : decode cX8_send 0 = .ok (.aload_n 0, 1) := by decide +kernel
theorem dX8_send_1 : decode cX8_send 1 = .ok (.iconst 0, 1) := by decide +kernel
theorem dX8_send_2 : decode cX8_send 2 = .ok (.putfield 149, 3) := by decide +kernel
theorem dX8_send_5 : decode cX8_send 5 = .ok (.aload_n 0, 1) := by decide +kernel
theorem dX8_send_6 : decode cX8_send 6 = .ok (.iload_n 1, 1) := by decide +kernel
theorem dX8_send_7 : decode cX8_send 7 = .ok (.invokevirtual 313, 3) := by decide +kernel
theorem dX8_send_10 : decode cX8_send 10 = .ok (.ifCond .eq 11, 3) := by decide +kernel
theorem dX8_send_13 : decode cX8_send 13 = .ok (.aload_n 0, 1) := by decide +kernel
theorem dX8_send_14 : decode cX8_send 14 = .ok (.iload_n 2, 1) := by decide +kernel
theorem dX8_send_15 : decode cX8_send 15 = .ok (.invokevirtual 304, 3) := by decide +kernel
theorem dX8_send_18 : decode cX8_send 18 = .ok (.ifCond .ne 9, 3) := by decide +kernel
theorem dX8_send_21 : decode cX8_send 21 = .ok (.aload_n 0, 1) := by decide +kernel
theorem dX8_send_22 : decode cX8_send 22 = .ok (.iconst 1, 1) := by decide +kernel
theorem dX8_send_23 : decode cX8_send 23 = .ok (.invokevirtual 268, 3) := by decide +kernel
theorem dX8_send_26 : decode cX8_send 26 = .ok (.ireturn, 1) := by decide +kernel
theorem dX8_send_27 : decode cX8_send 27 = .ok (.aload_n 0, 1) := by decide +kernel
theorem dX8_send_28 : decode cX8_send 28 = .ok (.getfield 76, 3) := by decide +kernel
theorem dX8_send_31 : decode cX8_send 31 = .ok (.iload_n 1, 1) := by decide +kernel
theorem dX8_send_32 : decode cX8_send 32 = .ok (.iaload, 1) := by decide +kernel
theorem dX8_send_33 : decode cX8_send 33 = .ok (.aload_n 0, 1) := by decide +kernel
theorem dX8_send_34 : decode cX8_send 34 = .ok (.getfield 282, 3) := by decide +kernel
theorem dX8_send_37 : decode cX8_send 37 = .ok (.if_icmp .gt 27, 3) := by decide +kernel
theorem dX8_send_40 : decode cX8_send 40 = .ok (.aload_n 0, 1) := by decide +kernel
theorem dX8_send_41 : decode cX8_send 41 = .ok (.getfield 73, 3) := by decide +kernel
theorem dX8_send_44 : decode cX8_send 44 = .ok (.iload_n 1, 1) := by decide +kernel
theorem dX8_send_45 : decode cX8_send 45 = .ok (.iaload, 1) := by decide +kernel
theorem dX8_send_46 : decode cX8_send 46 = .ok (.iload_n 2, 1) := by decide +kernel
theorem dX8_send_47 : decode cX8_send 47 = .ok (.if_icmp .eq 17, 3) := by decide +kernel
theorem dX8_send_50 : decode cX8_send 50 = .ok (.aload_n 0, 1) := by decide +kernel
theorem dX8_send_51 : decode cX8_send 51 = .ok (.aload_n 0, 1) := by decide +kernel
theorem dX8_send_52 : decode cX8_send 52 = .ok (.getfield 73, 3) := by decide +kernel
theorem dX8_send_55 : decode cX8_send 55 = .ok (.iload_n 1, 1) := by decide +kernel
theorem dX8_send_56 : decode cX8_send 56 = .ok (.iaload, 1) := by decide +kernel
theorem dX8_send_57 : decode cX8_send 57 = .ok (.iload_n 2, 1) := by decide +kernel
theorem dX8_send_58 : decode cX8_send 58 = .ok (.invokevirtual 320, 3) := by decide +kernel
theorem dX8_send_61 : decode cX8_send 61 = .ok (.ifCond .ne 15, 3) := by decide +kernel
theorem dX8_send_64 : decode cX8_send 64 = .ok (.aload_n 0, 1) := by decide +kernel
theorem dX8_send_65 : decode cX8_send 65 = .ok (.getfield 63, 3) := by decide +kernel
theorem dX8_send_68 : decode cX8_send 68 = .ok (.iconst 1, 1) := by decide +kernel
theorem dX8_send_69 : decode cX8_send 69 = .ok (.dup2, 1) := by decide +kernel
theorem dX8_send_70 : decode cX8_send 70 = .ok (.iaload, 1) := by decide +kernel
theorem dX8_send_71 : decode cX8_send 71 = .ok (.iconst 1, 1) := by decide +kernel
theorem dX8_send_72 : decode cX8_send 72 = .ok (.iadd, 1) := by decide +kernel
theorem dX8_send_73 : decode cX8_send 73 = .ok (.iastore, 1) := by decide +kernel
theorem dX8_send_74 : decode cX8_send 74 = .ok (.iconst (-1), 1) := by decide +kernel
theorem dX8_send_75 : decode cX8_send 75 = .ok (.ireturn, 1) := by decide +kernel
theorem dX8_send_76 : decode cX8_send 76 = .ok (.aload_n 0, 1) := by decide +kernel
theorem dX8_send_77 : decode cX8_send 77 = .ok (.iload_n 1, 1) := by decide +kernel
theorem dX8_send_78 : decode cX8_send 78 = .ok (.invokevirtual 366, 3) := by decide +kernel
theorem dX8_send_81 : decode cX8_send 81 = .ok (.aload_n 0, 1) := by decide +kernel
theorem dX8_send_82 : decode cX8_send 82 = .ok (.getfield 73, 3) := by decide +kernel
theorem dX8_send_85 : decode cX8_send 85 = .ok (.iload_n 1, 1) := by decide +kernel
theorem dX8_send_86 : decode cX8_send 86 = .ok (.iaload, 1) := by decide +kernel
theorem dX8_send_87 : decode cX8_send 87 = .ok (.istore_n 3, 1) := by decide +kernel
theorem dX8_send_88 : decode cX8_send 88 = .ok (.aload_n 0, 1) := by decide +kernel
theorem dX8_send_89 : decode cX8_send 89 = .ok (.getfield 282, 3) := by decide +kernel
theorem dX8_send_92 : decode cX8_send 92 = .ok (.istore 4, 2) := by decide +kernel
theorem dX8_send_94 : decode cX8_send 94 = .ok (.iconst 1, 1) := by decide +kernel
theorem dX8_send_95 : decode cX8_send 95 = .ok (.istore 5, 2) := by decide +kernel
theorem dX8_send_97 : decode cX8_send 97 = .ok (.iload 5, 2) := by decide +kernel
theorem dX8_send_99 : decode cX8_send 99 = .ok (.ifCond .eq 144, 3) := by decide +kernel
theorem dX8_send_102 : decode cX8_send 102 = .ok (.iload_n 3, 1) := by decide +kernel
theorem dX8_send_103 : decode cX8_send 103 = .ok (.iload_n 2, 1) := by decide +kernel
theorem dX8_send_104 : decode cX8_send 104 = .ok (.if_icmp .eq 139, 3) := by decide +kernel
theorem dX8_send_107 : decode cX8_send 107 = .ok (.aload_n 0, 1) := by decide +kernel
theorem dX8_send_108 : decode cX8_send 108 = .ok (.iload_n 3, 1) := by decide +kernel
theorem dX8_send_109 : decode cX8_send 109 = .ok (.invokevirtual 369, 3) := by decide +kernel
theorem dX8_send_112 : decode cX8_send 112 = .ok (.istore 6, 2) := by decide +kernel
theorem dX8_send_114 : decode cX8_send 114 = .ok (.aload_n 0, 1) := by decide +kernel
theorem dX8_send_115 : decode cX8_send 115 = .ok (.getfield 82, 3) := by decide +kernel
theorem dX8_send_118 : decode cX8_send 118 = .ok (.iconst 5, 1) := by decide +kernel
theorem dX8_send_119 : decode cX8_send 119 = .ok (.iload_n 3, 1) := by decide +kernel
theorem dX8_send_120 : decode cX8_send 120 = .ok (.imul, 1) := by decide +kernel
theorem dX8_send_121 : decode cX8_send 121 = .ok (.iload_n 2, 1) := by decide +kernel
theorem dX8_send_122 : decode cX8_send 122 = .ok (.iadd, 1) := by decide +kernel
theorem dX8_send_123 : decode cX8_send 123 = .ok (.iaload, 1) := by decide +kernel
theorem dX8_send_124 : decode cX8_send 124 = .ok (.istore 7, 2) := by decide +kernel
theorem dX8_send_126 : decode cX8_send 126 = .ok (.aload_n 0, 1) := by decide +kernel
theorem dX8_send_127 : decode cX8_send 127 = .ok (.iload_n 3, 1) := by decide +kernel
theorem dX8_send_128 : decode cX8_send 128 = .ok (.iload 7, 2) := by decide +kernel
theorem dX8_send_130 : decode cX8_send 130 = .ok (.invokevirtual 330, 3) := by decide +kernel
theorem dX8_send_133 : decode cX8_send 133 = .ok (.istore 8, 2) := by decide +kernel
theorem dX8_send_135 : decode cX8_send 135 = .ok (.iload 6, 2) := by decide +kernel
theorem dX8_send_137 : decode cX8_send 137 = .ok (.ifCond .eq 29, 3) := by decide +kernel
theorem dX8_send_140 : decode cX8_send 140 = .ok (.aload_n 0, 1) := by decide +kernel
theorem dX8_send_141 : decode cX8_send 141 = .ok (.getfield 27, 3) := by decide +kernel
theorem dX8_send_144 : decode cX8_send 144 = .ok (.iload_n 3, 1) := by decide +kernel
theorem dX8_send_145 : decode cX8_send 145 = .ok (.iaload, 1) := by decide +kernel
theorem dX8_send_146 : decode cX8_send 146 = .ok (.iconst 3, 1) := by decide +kernel
theorem dX8_send_147 : decode cX8_send 147 = .ok (.if_icmp .eq 23, 3) := by decide +kernel
theorem dX8_send_150 : decode cX8_send 150 = .ok (.aload_n 0, 1) := by decide +kernel
theorem dX8_send_151 : decode cX8_send 151 = .ok (.getfield 27, 3) := by decide +kernel
theorem dX8_send_154 : decode cX8_send 154 = .ok (.iload_n 3, 1) := by decide +kernel
theorem dX8_send_155 : decode cX8_send 155 = .ok (.iaload, 1) := by decide +kernel
theorem dX8_send_156 : decode cX8_send 156 = .ok (.iconst 1, 1) := by decide +kernel
theorem dX8_send_157 : decode cX8_send 157 = .ok (.if_icmp .ne 9, 3) := by decide +kernel
theorem dX8_send_160 : decode cX8_send 160 = .ok (.iload 8, 2) := by decide +kernel
theorem dX8_send_162 : decode cX8_send 162 = .ok (.iconst (-1), 1) := by decide +kernel
theorem dX8_send_163 : decode cX8_send 163 = .ok (.if_icmp .ne 7, 3) := by decide +kernel
theorem dX8_send_166 : decode cX8_send 166 = .ok (.iconst 1, 1) := by decide +kernel
theorem dX8_send_167 : decode cX8_send 167 = .ok (.goto 4, 3) := by decide +kernel
theorem dX8_send_170 : decode cX8_send 170 = .ok (.iconst 0, 1) := by decide +kernel
theorem dX8_send_171 : decode cX8_send 171 = .ok (.istore 5, 2) := by decide +kernel
theorem dX8_send_173 : decode cX8_send 173 = .ok (.iload 6, 2) := by decide +kernel
theorem dX8_send_175 : decode cX8_send 175 = .ok (.ifCond .eq 16, 3) := by decide +kernel
theorem dX8_send_178 : decode cX8_send 178 = .ok (.aload_n 0, 1) := by decide +kernel
theorem dX8_send_179 : decode cX8_send 179 = .ok (.getfield 27, 3) := by decide +kernel
theorem dX8_send_182 : decode cX8_send 182 = .ok (.iload_n 3, 1) := by decide +kernel
theorem dX8_send_183 : decode cX8_send 183 = .ok (.iaload, 1) := by decide +kernel
theorem dX8_send_184 : decode cX8_send 184 = .ok (.iconst 3, 1) := by decide +kernel
theorem dX8_send_185 : decode cX8_send 185 = .ok (.if_icmp .ne 6, 3) := by decide +kernel
theorem dX8_send_188 : decode cX8_send 188 = .ok (.goto (-91), 3) := by decide +kernel
theorem dX8_send_191 : decode cX8_send 191 = .ok (.iload 5, 2) := by decide +kernel
theorem dX8_send_193 : decode cX8_send 193 = .ok (.ifCond .ne 7, 3) := by decide +kernel
theorem dX8_send_196 : decode cX8_send 196 = .ok (.iload 8, 2) := by decide +kernel
theorem dX8_send_198 : decode cX8_send 198 = .ok (.istore 7, 2) := by decide +kernel
theorem dX8_send_200 : decode cX8_send 200 = .ok (.iload 4, 2) := by decide +kernel
theorem dX8_send_202 : decode cX8_send 202 = .ok (.aload_n 0, 1) := by decide +kernel
theorem dX8_send_203 : decode cX8_send 203 = .ok (.getfield 39, 3) := by decide +kernel
theorem dX8_send_206 : decode cX8_send 206 = .ok (.iconst 5, 1) := by decide +kernel
theorem dX8_send_207 : decode cX8_send 207 = .ok (.iload_n 3, 1) := by decide +kernel
theorem dX8_send_208 : decode cX8_send 208 = .ok (.imul, 1) := by decide +kernel
theorem dX8_send_209 : decode cX8_send 209 = .ok (.iload 7, 2) := by decide +kernel
theorem dX8_send_211 : decode cX8_send 211 = .ok (.iadd, 1) := by decide +kernel
theorem dX8_send_212 : decode cX8_send 212 = .ok (.iaload, 1) := by decide +kernel
theorem dX8_send_213 : decode cX8_send 213 = .ok (.iload 6, 2) := by decide +kernel
theorem dX8_send_215 : decode cX8_send 215 = .ok (.ifCond .eq 17, 3) := by decide +kernel
theorem dX8_send_218 : decode cX8_send 218 = .ok (.aload_n 0, 1) := by decide +kernel
theorem dX8_send_219 : decode cX8_send 219 = .ok (.getfield 27, 3) := by decide +kernel
theorem dX8_send_222 : decode cX8_send 222 = .ok (.iload_n 3, 1) := by decide +kernel
theorem dX8_send_223 : decode cX8_send 223 = .ok (.iaload, 1) := by decide +kernel
theorem dX8_send_224 : decode cX8_send 224 = .ok (.iconst 2, 1) := by decide +kernel
theorem dX8_send_225 : decode cX8_send 225 = .ok (.if_icmp .ne 7, 3) := by decide +kernel
theorem dX8_send_228 : decode cX8_send 228 = .ok (.iconst 1, 1) := by decide +kernel
theorem dX8_send_229 : decode cX8_send 229 = .ok (.goto 4, 3) := by decide +kernel
theorem dX8_send_232 : decode cX8_send 232 = .ok (.iconst 0, 1) := by decide +kernel
theorem dX8_send_233 : decode cX8_send 233 = .ok (.iadd, 1) := by decide +kernel
theorem dX8_send_234 : decode cX8_send 234 = .ok (.iadd, 1) := by decide +kernel
theorem dX8_send_235 : decode cX8_send 235 = .ok (.istore 4, 2) := by decide +kernel
theorem dX8_send_237 : decode cX8_send 237 = .ok (.iload 7, 2) := by decide +kernel
theorem dX8_send_239 : decode cX8_send 239 = .ok (.istore_n 3, 1) := by decide +kernel
theorem dX8_send_240 : decode cX8_send 240 = .ok (.goto (-143), 3) := by decide +kernel
theorem dX8_send_243 : decode cX8_send 243 = .ok (.aload_n 0, 1) := by decide +kernel
theorem dX8_send_244 : decode cX8_send 244 = .ok (.getfield 73, 3) := by decide +kernel
theorem dX8_send_247 : decode cX8_send 247 = .ok (.iload_n 1, 1) := by decide +kernel
theorem dX8_send_248 : decode cX8_send 248 = .ok (.iload_n 3, 1) := by decide +kernel
theorem dX8_send_249 : decode cX8_send 249 = .ok (.iastore, 1) := by decide +kernel
theorem dX8_send_250 : decode cX8_send 250 = .ok (.aload_n 0, 1) := by decide +kernel
theorem dX8_send_251 : decode cX8_send 251 = .ok (.getfield 76, 3) := by decide +kernel
theorem dX8_send_254 : decode cX8_send 254 = .ok (.iload_n 1, 1) := by decide +kernel
theorem dX8_send_255 : decode cX8_send 255 = .ok (.iload 4, 2) := by decide +kernel
theorem dX8_send_257 : decode cX8_send 257 = .ok (.iastore, 1) := by decide +kernel
theorem dX8_send_258 : decode cX8_send 258 = .ok (.iload 4, 2) := by decide +kernel
theorem dX8_send_260 : decode cX8_send 260 = .ok (.ireturn, 1) := by decide +kernel
theorem dX8_seed_0 : decode cX8_seed 0 = .ok (.aload_n 0, 1) := by decide +kernel
theorem dX8_seed_1 : decode cX8_seed 1 = .ok (.iconst 0, 1) := by decide +kernel
theorem dX8_seed_2 : decode cX8_seed 2 = .ok (.putfield 149, 3) := by decide +kernel
theorem dX8_seed_5 : decode cX8_seed 5 = .ok (.aload_n 0, 1) := by decide +kernel
theorem dX8_seed_6 : decode cX8_seed 6 = .ok (.iload_n 1, 1) := by decide +kernel
theorem dX8_seed_7 : decode cX8_seed 7 = .ok (.putfield 362, 3) := by decide +kernel
theorem dX8_seed_10 : decode cX8_seed 10 = .ok (.aload_n 0, 1) := by decide +kernel
theorem dX8_seed_11 : decode cX8_seed 11 = .ok (.iconst 1, 1) := by decide +kernel
theorem dX8_seed_12 : decode cX8_seed 12 = .ok (.putfield 285, 3) := by decide +kernel
theorem dX8_seed_15 : decode cX8_seed 15 = .ok (.return_, 1) := by decide +kernel
theorem dX8_days_0 : decode cX8_days 0 = .ok (.aload_n 0, 1) := by decide +kernel
theorem dX8_days_1 : decode cX8_days 1 = .ok (.iconst 0, 1) := by decide +kernel
theorem dX8_days_2 : decode cX8_days 2 = .ok (.putfield 149, 3) := by decide +kernel
theorem dX8_days_5 : decode cX8_days 5 = .ok (.iload_n 1, 1) := by decide +kernel
theorem dX8_days_6 : decode cX8_days 6 = .ok (.iconst 0, 1) := by decide +kernel
theorem dX8_days_7 : decode cX8_days 7 = .ok (.bipush 99, 2) := by decide +kernel
theorem dX8_days_9 : decode cX8_days 9 = .ok (.invokestatic 152, 3) := by decide +kernel
theorem dX8_days_12 : decode cX8_days 12 = .ok (.ifCond .ne 9, 3) := by decide +kernel
theorem dX8_days_15 : decode cX8_days 15 = .ok (.aload_n 0, 1) := by decide +kernel
theorem dX8_days_16 : decode cX8_days 16 = .ok (.iconst 1, 1) := by decide +kernel
theorem dX8_days_17 : decode cX8_days 17 = .ok (.invokevirtual 268, 3) := by decide +kernel
theorem dX8_days_20 : decode cX8_days 20 = .ok (.ireturn, 1) := by decide +kernel
theorem dX8_days_21 : decode cX8_days 21 = .ok (.aload_n 0, 1) := by decide +kernel
theorem dX8_days_22 : decode cX8_days 22 = .ok (.iconst (-1), 1) := by decide +kernel
theorem dX8_days_23 : decode cX8_days 23 = .ok (.invokevirtual 366, 3) := by decide +kernel
theorem dX8_days_26 : decode cX8_days 26 = .ok (.aload_n 0, 1) := by decide +kernel
theorem dX8_days_27 : decode cX8_days 27 = .ok (.dup, 1) := by decide +kernel
theorem dX8_days_28 : decode cX8_days 28 = .ok (.getfield 282, 3) := by decide +kernel
theorem dX8_days_31 : decode cX8_days 31 = .ok (.iload_n 1, 1) := by decide +kernel
theorem dX8_days_32 : decode cX8_days 32 = .ok (.iadd, 1) := by decide +kernel
theorem dX8_days_33 : decode cX8_days 33 = .ok (.putfield 282, 3) := by decide +kernel
theorem dX8_days_36 : decode cX8_days 36 = .ok (.aload_n 0, 1) := by decide +kernel
theorem dX8_days_37 : decode cX8_days 37 = .ok (.getfield 282, 3) := by decide +kernel
theorem dX8_days_40 : decode cX8_days 40 = .ok (.ireturn, 1) := by decide +kernel
theorem dX8_undo_0 : decode cX8_undo 0 = .ok (.aload_n 0, 1) := by decide +kernel
theorem dX8_undo_1 : decode cX8_undo 1 = .ok (.iconst 0, 1) := by decide +kernel
theorem dX8_undo_2 : decode cX8_undo 2 = .ok (.putfield 149, 3) := by decide +kernel
theorem dX8_undo_5 : decode cX8_undo 5 = .ok (.aload_n 0, 1) := by decide +kernel
theorem dX8_undo_6 : decode cX8_undo 6 = .ok (.getfield 289, 3) := by decide +kernel
theorem dX8_undo_9 : decode cX8_undo 9 = .ok (.ifCond .ne 5, 3) := by decide +kernel
theorem dX8_undo_12 : decode cX8_undo 12 = .ok (.iconst 0, 1) := by decide +kernel
theorem dX8_undo_13 : decode cX8_undo 13 = .ok (.ireturn, 1) := by decide +kernel
theorem dX8_undo_14 : decode cX8_undo 14 = .ok (.aload_n 0, 1) := by decide +kernel
theorem dX8_undo_15 : decode cX8_undo 15 = .ok (.dup, 1) := by decide +kernel
theorem dX8_undo_16 : decode cX8_undo 16 = .ok (.getfield 289, 3) := by decide +kernel
theorem dX8_undo_19 : decode cX8_undo 19 = .ok (.iconst 1, 1) := by decide +kernel
theorem dX8_undo_20 : decode cX8_undo 20 = .ok (.isub, 1) := by decide +kernel
theorem dX8_undo_21 : decode cX8_undo 21 = .ok (.putfield 289, 3) := by decide +kernel
theorem dX8_undo_24 : decode cX8_undo 24 = .ok (.aload_n 0, 1) := by decide +kernel
theorem dX8_undo_25 : decode cX8_undo 25 = .ok (.getfield 91, 3) := by decide +kernel
theorem dX8_undo_28 : decode cX8_undo 28 = .ok (.aload_n 0, 1) := by decide +kernel
theorem dX8_undo_29 : decode cX8_undo 29 = .ok (.getfield 289, 3) := by decide +kernel
theorem dX8_undo_32 : decode cX8_undo 32 = .ok (.iaload, 1) := by decide +kernel
theorem dX8_undo_33 : decode cX8_undo 33 = .ok (.istore_n 1, 1) := by decide +kernel
theorem dX8_undo_34 : decode cX8_undo 34 = .ok (.iload_n 1, 1) := by decide +kernel
theorem dX8_undo_35 : decode cX8_undo 35 = .ok (.iconst (-1), 1) := by decide +kernel
theorem dX8_undo_36 : decode cX8_undo 36 = .ok (.if_icmp .eq 33, 3) := by decide +kernel
theorem dX8_undo_39 : decode cX8_undo 39 = .ok (.aload_n 0, 1) := by decide +kernel
theorem dX8_undo_40 : decode cX8_undo 40 = .ok (.getfield 73, 3) := by decide +kernel
theorem dX8_undo_43 : decode cX8_undo 43 = .ok (.iload_n 1, 1) := by decide +kernel
theorem dX8_undo_44 : decode cX8_undo 44 = .ok (.aload_n 0, 1) := by decide +kernel
theorem dX8_undo_45 : decode cX8_undo 45 = .ok (.getfield 94, 3) := by decide +kernel
theorem dX8_undo_48 : decode cX8_undo 48 = .ok (.aload_n 0, 1) := by decide +kernel
theorem dX8_undo_49 : decode cX8_undo 49 = .ok (.getfield 289, 3) := by decide +kernel
theorem dX8_undo_52 : decode cX8_undo 52 = .ok (.iaload, 1) := by decide +kernel
theorem dX8_undo_53 : decode cX8_undo 53 = .ok (.iastore, 1) := by decide +kernel
theorem dX8_undo_54 : decode cX8_undo 54 = .ok (.aload_n 0, 1) := by decide +kernel
theorem dX8_undo_55 : decode cX8_undo 55 = .ok (.getfield 76, 3) := by decide +kernel
theorem dX8_undo_58 : decode cX8_undo 58 = .ok (.iload_n 1, 1) := by decide +kernel
theorem dX8_undo_59 : decode cX8_undo 59 = .ok (.aload_n 0, 1) := by decide +kernel
theorem dX8_undo_60 : decode cX8_undo 60 = .ok (.getfield 97, 3) := by decide +kernel
theorem dX8_undo_63 : decode cX8_undo 63 = .ok (.aload_n 0, 1) := by decide +kernel
theorem dX8_undo_64 : decode cX8_undo 64 = .ok (.getfield 289, 3) := by decide +kernel
theorem dX8_undo_67 : decode cX8_undo 67 = .ok (.iaload, 1) := by decide +kernel
theorem dX8_undo_68 : decode cX8_undo 68 = .ok (.iastore, 1) := by decide +kernel
theorem dX8_undo_69 : decode cX8_undo 69 = .ok (.aload_n 0, 1) := by decide +kernel
theorem dX8_undo_70 : decode cX8_undo 70 = .ok (.aload_n 0, 1) := by decide +kernel
theorem dX8_undo_71 : decode cX8_undo 71 = .ok (.getfield 100, 3) := by decide +kernel
theorem dX8_undo_74 : decode cX8_undo 74 = .ok (.aload_n 0, 1) := by decide +kernel
theorem dX8_undo_75 : decode cX8_undo 75 = .ok (.getfield 289, 3) := by decide +kernel
theorem dX8_undo_78 : decode cX8_undo 78 = .ok (.iaload, 1) := by decide +kernel
theorem dX8_undo_79 : decode cX8_undo 79 = .ok (.putfield 282, 3) := by decide +kernel
theorem dX8_undo_82 : decode cX8_undo 82 = .ok (.aload_n 0, 1) := by decide +kernel
theorem dX8_undo_83 : decode cX8_undo 83 = .ok (.aload_n 0, 1) := by decide +kernel
theorem dX8_undo_84 : decode cX8_undo 84 = .ok (.getfield 103, 3) := by decide +kernel
theorem dX8_undo_87 : decode cX8_undo 87 = .ok (.aload_n 0, 1) := by decide +kernel
theorem dX8_undo_88 : decode cX8_undo 88 = .ok (.getfield 289, 3) := by decide +kernel
theorem dX8_undo_91 : decode cX8_undo 91 = .ok (.iaload, 1) := by decide +kernel
theorem dX8_undo_92 : decode cX8_undo 92 = .ok (.putfield 362, 3) := by decide +kernel
theorem dX8_undo_95 : decode cX8_undo 95 = .ok (.aload_n 0, 1) := by decide +kernel
theorem dX8_undo_96 : decode cX8_undo 96 = .ok (.aload_n 0, 1) := by decide +kernel
theorem dX8_undo_97 : decode cX8_undo 97 = .ok (.getfield 106, 3) := by decide +kernel
theorem dX8_undo_100 : decode cX8_undo 100 = .ok (.aload_n 0, 1) := by decide +kernel
theorem dX8_undo_101 : decode cX8_undo 101 = .ok (.getfield 289, 3) := by decide +kernel
theorem dX8_undo_104 : decode cX8_undo 104 = .ok (.baload, 1) := by decide +kernel
theorem dX8_undo_105 : decode cX8_undo 105 = .ok (.putfield 285, 3) := by decide +kernel
theorem dX8_undo_108 : decode cX8_undo 108 = .ok (.iconst 1, 1) := by decide +kernel
theorem dX8_undo_109 : decode cX8_undo 109 = .ok (.ireturn, 1) := by decide +kernel
theorem dX8_night_0 : decode cX8_night 0 = .ok (.aload_n 0, 1) := by decide +kernel
theorem dX8_night_1 : decode cX8_night 1 = .ok (.iconst 0, 1) := by decide +kernel
theorem dX8_night_2 : decode cX8_night 2 = .ok (.putfield 149, 3) := by decide +kernel
theorem dX8_night_5 : decode cX8_night 5 = .ok (.aload_n 0, 1) := by decide +kernel
theorem dX8_night_6 : decode cX8_night 6 = .ok (.iload_n 2, 1) := by decide +kernel
theorem dX8_night_7 : decode cX8_night 7 = .ok (.invokevirtual 304, 3) := by decide +kernel
theorem dX8_night_10 : decode cX8_night 10 = .ok (.ifCond .eq 11, 3) := by decide +kernel
theorem dX8_night_13 : decode cX8_night 13 = .ok (.aload_n 0, 1) := by decide +kernel
theorem dX8_night_14 : decode cX8_night 14 = .ok (.iload_n 3, 1) := by decide +kernel
theorem dX8_night_15 : decode cX8_night 15 = .ok (.invokevirtual 356, 3) := by decide +kernel
theorem dX8_night_18 : decode cX8_night 18 = .ok (.ifCond .ne 9, 3) := by decide +kernel
theorem dX8_night_21 : decode cX8_night 21 = .ok (.aload_n 0, 1) := by decide +kernel
theorem dX8_night_22 : decode cX8_night 22 = .ok (.iconst 1, 1) := by decide +kernel
theorem dX8_night_23 : decode cX8_night 23 = .ok (.invokevirtual 268, 3) := by decide +kernel
theorem dX8_night_26 : decode cX8_night 26 = .ok (.ireturn, 1) := by decide +kernel
theorem dX8_night_27 : decode cX8_night 27 = .ok (.aload_n 0, 1) := by decide +kernel
theorem dX8_night_28 : decode cX8_night 28 = .ok (.getfield 292, 3) := by decide +kernel
theorem dX8_night_31 : decode cX8_night 31 = .ok (.iconst 4, 1) := by decide +kernel
theorem dX8_night_32 : decode cX8_night 32 = .ok (.if_icmp .eq 34, 3) := by decide +kernel
theorem dX8_night_35 : decode cX8_night 35 = .ok (.iload_n 1, 1) := by decide +kernel
theorem dX8_night_36 : decode cX8_night 36 = .ok (.aload_n 0, 1) := by decide +kernel
theorem dX8_night_37 : decode cX8_night 37 = .ok (.getfield 292, 3) := by decide +kernel
theorem dX8_night_40 : decode cX8_night 40 = .ok (.ifCond .ne 7, 3) := by decide +kernel
theorem dX8_night_43 : decode cX8_night 43 = .ok (.iconst 0, 1) := by decide +kernel
theorem dX8_night_44 : decode cX8_night 44 = .ok (.goto 14, 3) := by decide +kernel
theorem dX8_night_47 : decode cX8_night 47 = .ok (.aload_n 0, 1) := by decide +kernel
theorem dX8_night_48 : decode cX8_night 48 = .ok (.getfield 110, 3) := by decide +kernel
theorem dX8_night_51 : decode cX8_night 51 = .ok (.aload_n 0, 1) := by decide +kernel
theorem dX8_night_52 : decode cX8_night 52 = .ok (.getfield 292, 3) := by decide +kernel
theorem dX8_night_55 : decode cX8_night 55 = .ok (.iconst 1, 1) := by decide +kernel
theorem dX8_night_56 : decode cX8_night 56 = .ok (.isub, 1) := by decide +kernel
theorem dX8_night_57 : decode cX8_night 57 = .ok (.iaload, 1) := by decide +kernel
theorem dX8_night_58 : decode cX8_night 58 = .ok (.bipush 99, 2) := by decide +kernel
theorem dX8_night_60 : decode cX8_night 60 = .ok (.invokestatic 152, 3) := by decide +kernel
theorem dX8_night_63 : decode cX8_night 63 = .ok (.ifCond .ne 15, 3) := by decide +kernel
theorem dX8_night_66 : decode cX8_night 66 = .ok (.aload_n 0, 1) := by decide +kernel
theorem dX8_night_67 : decode cX8_night 67 = .ok (.getfield 63, 3) := by decide +kernel
theorem dX8_night_70 : decode cX8_night 70 = .ok (.iconst 2, 1) := by decide +kernel
theorem dX8_night_71 : decode cX8_night 71 = .ok (.dup2, 1) := by decide +kernel
theorem dX8_night_72 : decode cX8_night 72 = .ok (.iaload, 1) := by decide +kernel
theorem dX8_night_73 : decode cX8_night 73 = .ok (.iconst 1, 1) := by decide +kernel
theorem dX8_night_74 : decode cX8_night 74 = .ok (.iadd, 1) := by decide +kernel
theorem dX8_night_75 : decode cX8_night 75 = .ok (.iastore, 1) := by decide +kernel
theorem dX8_night_76 : decode cX8_night 76 = .ok (.iconst (-1), 1) := by decide +kernel
theorem dX8_night_77 : decode cX8_night 77 = .ok (.ireturn, 1) := by decide +kernel
theorem dX8_night_78 : decode cX8_night 78 = .ok (.aload_n 0, 1) := by decide +kernel
theorem dX8_night_79 : decode cX8_night 79 = .ok (.getfield 110, 3) := by decide +kernel
theorem dX8_night_82 : decode cX8_night 82 = .ok (.aload_n 0, 1) := by decide +kernel
theorem dX8_night_83 : decode cX8_night 83 = .ok (.getfield 292, 3) := by decide +kernel
theorem dX8_night_86 : decode cX8_night 86 = .ok (.iload_n 1, 1) := by decide +kernel
theorem dX8_night_87 : decode cX8_night 87 = .ok (.iastore, 1) := by decide +kernel
theorem dX8_night_88 : decode cX8_night 88 = .ok (.aload_n 0, 1) := by decide +kernel
theorem dX8_night_89 : decode cX8_night 89 = .ok (.getfield 113, 3) := by decide +kernel
theorem dX8_night_92 : decode cX8_night 92 = .ok (.aload_n 0, 1) := by decide +kernel
theorem dX8_night_93 : decode cX8_night 93 = .ok (.getfield 292, 3) := by decide +kernel
theorem dX8_night_96 : decode cX8_night 96 = .ok (.iload_n 2, 1) := by decide +kernel
theorem dX8_night_97 : decode cX8_night 97 = .ok (.iastore, 1) := by decide +kernel
theorem dX8_night_98 : decode cX8_night 98 = .ok (.aload_n 0, 1) := by decide +kernel
theorem dX8_night_99 : decode cX8_night 99 = .ok (.getfield 116, 3) := by decide +kernel
theorem dX8_night_102 : decode cX8_night 102 = .ok (.aload_n 0, 1) := by decide +kernel
theorem dX8_night_103 : decode cX8_night 103 = .ok (.getfield 292, 3) := by decide +kernel
theorem dX8_night_106 : decode cX8_night 106 = .ok (.iload_n 3, 1) := by decide +kernel
theorem dX8_night_107 : decode cX8_night 107 = .ok (.iastore, 1) := by decide +kernel
theorem dX8_night_108 : decode cX8_night 108 = .ok (.aload_n 0, 1) := by decide +kernel
theorem dX8_night_109 : decode cX8_night 109 = .ok (.dup, 1) := by decide +kernel
theorem dX8_night_110 : decode cX8_night 110 = .ok (.getfield 292, 3) := by decide +kernel
theorem dX8_night_113 : decode cX8_night 113 = .ok (.iconst 1, 1) := by decide +kernel
theorem dX8_night_114 : decode cX8_night 114 = .ok (.iadd, 1) := by decide +kernel
theorem dX8_night_115 : decode cX8_night 115 = .ok (.putfield 292, 3) := by decide +kernel
theorem dX8_night_118 : decode cX8_night 118 = .ok (.aload_n 0, 1) := by decide +kernel
theorem dX8_night_119 : decode cX8_night 119 = .ok (.getfield 292, 3) := by decide +kernel
theorem dX8_night_122 : decode cX8_night 122 = .ok (.ireturn, 1) := by decide +kernel
theorem dX8_forget_0 : decode cX8_forget 0 = .ok (.aload_n 0, 1) := by decide +kernel
theorem dX8_forget_1 : decode cX8_forget 1 = .ok (.iconst 0, 1) := by decide +kernel
theorem dX8_forget_2 : decode cX8_forget 2 = .ok (.putfield 149, 3) := by decide +kernel
theorem dX8_forget_5 : decode cX8_forget 5 = .ok (.aload_n 0, 1) := by decide +kernel
theorem dX8_forget_6 : decode cX8_forget 6 = .ok (.iconst 0, 1) := by decide +kernel
theorem dX8_forget_7 : decode cX8_forget 7 = .ok (.putfield 292, 3) := by decide +kernel
theorem dX8_forget_10 : decode cX8_forget 10 = .ok (.return_, 1) := by decide +kernel
theorem dX8_canBe_0 : decode cX8_canBe 0 = .ok (.aload_n 0, 1) := by decide +kernel
theorem dX8_canBe_1 : decode cX8_canBe 1 = .ok (.getfield 73, 3) := by decide +kernel
theorem dX8_canBe_4 : decode cX8_canBe 4 = .ok (.iload_n 1, 1) := by decide +kernel
theorem dX8_canBe_5 : decode cX8_canBe 5 = .ok (.iaload, 1) := by decide +kernel
theorem dX8_canBe_6 : decode cX8_canBe 6 = .ok (.istore_n 3, 1) := by decide +kernel
theorem dX8_canBe_7 : decode cX8_canBe 7 = .ok (.aload_n 0, 1) := by decide +kernel
theorem dX8_canBe_8 : decode cX8_canBe 8 = .ok (.getfield 282, 3) := by decide +kernel
theorem dX8_canBe_11 : decode cX8_canBe 11 = .ok (.aload_n 0, 1) := by decide +kernel
theorem dX8_canBe_12 : decode cX8_canBe 12 = .ok (.getfield 76, 3) := by decide +kernel
theorem dX8_canBe_15 : decode cX8_canBe 15 = .ok (.iload_n 1, 1) := by decide +kernel
theorem dX8_canBe_16 : decode cX8_canBe 16 = .ok (.iaload, 1) := by decide +kernel
theorem dX8_canBe_17 : decode cX8_canBe 17 = .ok (.invokestatic 372, 3) := by decide +kernel
theorem dX8_canBe_20 : decode cX8_canBe 20 = .ok (.istore 4, 2) := by decide +kernel
theorem dX8_canBe_22 : decode cX8_canBe 22 = .ok (.iconst 0, 1) := by decide +kernel
theorem dX8_canBe_23 : decode cX8_canBe 23 = .ok (.istore 5, 2) := by decide +kernel
theorem dX8_canBe_25 : decode cX8_canBe 25 = .ok (.iload 5, 2) := by decide +kernel
theorem dX8_canBe_27 : decode cX8_canBe 27 = .ok (.aload_n 0, 1) := by decide +kernel
theorem dX8_canBe_28 : decode cX8_canBe 28 = .ok (.getfield 292, 3) := by decide +kernel
theorem dX8_canBe_31 : decode cX8_canBe 31 = .ok (.if_icmp .ge 92, 3) := by decide +kernel
theorem dX8_canBe_34 : decode cX8_canBe 34 = .ok (.iload_n 2, 1) := by decide +kernel
theorem dX8_canBe_35 : decode cX8_canBe 35 = .ok (.iload 5, 2) := by decide +kernel
theorem dX8_canBe_37 : decode cX8_canBe 37 = .ok (.ishr, 1) := by decide +kernel
theorem dX8_canBe_38 : decode cX8_canBe 38 = .ok (.iconst 1, 1) := by decide +kernel
theorem dX8_canBe_39 : decode cX8_canBe 39 = .ok (.iand, 1) := by decide +kernel
theorem dX8_canBe_40 : decode cX8_canBe 40 = .ok (.ifCond .ne 6, 3) := by decide +kernel
theorem dX8_canBe_43 : decode cX8_canBe 43 = .ok (.goto 74, 3) := by decide +kernel
theorem dX8_canBe_46 : decode cX8_canBe 46 = .ok (.aload_n 0, 1) := by decide +kernel
theorem dX8_canBe_47 : decode cX8_canBe 47 = .ok (.getfield 113, 3) := by decide +kernel
theorem dX8_canBe_50 : decode cX8_canBe 50 = .ok (.iload 5, 2) := by decide +kernel
theorem dX8_canBe_52 : decode cX8_canBe 52 = .ok (.iaload, 1) := by decide +kernel
theorem dX8_canBe_53 : decode cX8_canBe 53 = .ok (.istore 6, 2) := by decide +kernel
theorem dX8_canBe_55 : decode cX8_canBe 55 = .ok (.aload_n 0, 1) := by decide +kernel
theorem dX8_canBe_56 : decode cX8_canBe 56 = .ok (.getfield 110, 3) := by decide +kernel
theorem dX8_canBe_59 : decode cX8_canBe 59 = .ok (.iload 5, 2) := by decide +kernel
theorem dX8_canBe_61 : decode cX8_canBe 61 = .ok (.iaload, 1) := by decide +kernel
theorem dX8_canBe_62 : decode cX8_canBe 62 = .ok (.aload_n 0, 1) := by decide +kernel
theorem dX8_canBe_63 : decode cX8_canBe 63 = .ok (.getfield 282, 3) := by decide +kernel
theorem dX8_canBe_66 : decode cX8_canBe 66 = .ok (.if_icmp .lt 37, 3) := by decide +kernel
theorem dX8_canBe_69 : decode cX8_canBe 69 = .ok (.aload_n 0, 1) := by decide +kernel
theorem dX8_canBe_70 : decode cX8_canBe 70 = .ok (.iload_n 3, 1) := by decide +kernel
theorem dX8_canBe_71 : decode cX8_canBe 71 = .ok (.iload 6, 2) := by decide +kernel
theorem dX8_canBe_73 : decode cX8_canBe 73 = .ok (.invokevirtual 320, 3) := by decide +kernel
theorem dX8_canBe_76 : decode cX8_canBe 76 = .ok (.ifCond .eq 27, 3) := by decide +kernel
theorem dX8_canBe_79 : decode cX8_canBe 79 = .ok (.iload 4, 2) := by decide +kernel
theorem dX8_canBe_81 : decode cX8_canBe 81 = .ok (.aload_n 0, 1) := by decide +kernel
theorem dX8_canBe_82 : decode cX8_canBe 82 = .ok (.getfield 79, 3) := by decide +kernel
theorem dX8_canBe_85 : decode cX8_canBe 85 = .ok (.iconst 5, 1) := by decide +kernel
theorem dX8_canBe_86 : decode cX8_canBe 86 = .ok (.iload_n 3, 1) := by decide +kernel
theorem dX8_canBe_87 : decode cX8_canBe 87 = .ok (.imul, 1) := by decide +kernel
theorem dX8_canBe_88 : decode cX8_canBe 88 = .ok (.iload 6, 2) := by decide +kernel
theorem dX8_canBe_90 : decode cX8_canBe 90 = .ok (.iadd, 1) := by decide +kernel
theorem dX8_canBe_91 : decode cX8_canBe 91 = .ok (.iaload, 1) := by decide +kernel
theorem dX8_canBe_92 : decode cX8_canBe 92 = .ok (.iadd, 1) := by decide +kernel
theorem dX8_canBe_93 : decode cX8_canBe 93 = .ok (.aload_n 0, 1) := by decide +kernel
theorem dX8_canBe_94 : decode cX8_canBe 94 = .ok (.getfield 110, 3) := by decide +kernel
theorem dX8_canBe_97 : decode cX8_canBe 97 = .ok (.iload 5, 2) := by decide +kernel
theorem dX8_canBe_99 : decode cX8_canBe 99 = .ok (.iaload, 1) := by decide +kernel
theorem dX8_canBe_100 : decode cX8_canBe 100 = .ok (.if_icmp .le 5, 3) := by decide +kernel
theorem dX8_canBe_103 : decode cX8_canBe 103 = .ok (.iconst 0, 1) := by decide +kernel
theorem dX8_canBe_104 : decode cX8_canBe 104 = .ok (.ireturn, 1) := by decide +kernel
theorem dX8_canBe_105 : decode cX8_canBe 105 = .ok (.iload 6, 2) := by decide +kernel
theorem dX8_canBe_107 : decode cX8_canBe 107 = .ok (.istore_n 3, 1) := by decide +kernel
theorem dX8_canBe_108 : decode cX8_canBe 108 = .ok (.aload_n 0, 1) := by decide +kernel
theorem dX8_canBe_109 : decode cX8_canBe 109 = .ok (.getfield 110, 3) := by decide +kernel
theorem dX8_canBe_112 : decode cX8_canBe 112 = .ok (.iload 5, 2) := by decide +kernel
theorem dX8_canBe_114 : decode cX8_canBe 114 = .ok (.iaload, 1) := by decide +kernel
theorem dX8_canBe_115 : decode cX8_canBe 115 = .ok (.istore 4, 2) := by decide +kernel
theorem dX8_canBe_117 : decode cX8_canBe 117 = .ok (.iinc 5 1, 3) := by decide +kernel
theorem dX8_canBe_120 : decode cX8_canBe 120 = .ok (.goto (-95), 3) := by decide +kernel
theorem dX8_canBe_123 : decode cX8_canBe 123 = .ok (.iconst 1, 1) := by decide +kernel
theorem dX8_canBe_124 : decode cX8_canBe 124 = .ok (.ireturn, 1) := by decide +kernel
theorem dX8_tourOn_0 : decode cX8_tourOn 0 = .ok (.iload_n 1, 1) := by decide +kernel
theorem dX8_tourOn_1 : decode cX8_tourOn 1 = .ok (.aload_n 0, 1) := by decide +kernel
theorem dX8_tourOn_2 : decode cX8_tourOn 2 = .ok (.getfield 23, 3) := by decide +kernel
theorem dX8_tourOn_5 : decode cX8_tourOn 5 = .ok (.iconst 1, 1) := by decide +kernel
theorem dX8_tourOn_6 : decode cX8_tourOn 6 = .ok (.iaload, 1) := by decide +kernel
theorem dX8_tourOn_7 : decode cX8_tourOn 7 = .ok (.if_icmp .ne 147, 3) := by decide +kernel
theorem dX8_tourOn_10 : decode cX8_tourOn 10 = .ok (.iconst 0, 1) := by decide +kernel
theorem dX8_tourOn_11 : decode cX8_tourOn 11 = .ok (.istore_n 3, 1) := by decide +kernel
theorem dX8_tourOn_12 : decode cX8_tourOn 12 = .ok (.iconst 0, 1) := by decide +kernel
theorem dX8_tourOn_13 : decode cX8_tourOn 13 = .ok (.istore 4, 2) := by decide +kernel
theorem dX8_tourOn_15 : decode cX8_tourOn 15 = .ok (.iload 4, 2) := by decide +kernel
theorem dX8_tourOn_17 : decode cX8_tourOn 17 = .ok (.aload_n 0, 1) := by decide +kernel
theorem dX8_tourOn_18 : decode cX8_tourOn 18 = .ok (.getfield 292, 3) := by decide +kernel
theorem dX8_tourOn_21 : decode cX8_tourOn 21 = .ok (.if_icmp .ge 81, 3) := by decide +kernel
theorem dX8_tourOn_24 : decode cX8_tourOn 24 = .ok (.iconst 0, 1) := by decide +kernel
theorem dX8_tourOn_25 : decode cX8_tourOn 25 = .ok (.istore 5, 2) := by decide +kernel
theorem dX8_tourOn_27 : decode cX8_tourOn 27 = .ok (.iconst 0, 1) := by decide +kernel
theorem dX8_tourOn_28 : decode cX8_tourOn 28 = .ok (.istore 6, 2) := by decide +kernel
theorem dX8_tourOn_30 : decode cX8_tourOn 30 = .ok (.iload 6, 2) := by decide +kernel
theorem dX8_tourOn_32 : decode cX8_tourOn 32 = .ok (.iload_n 1, 1) := by decide +kernel
theorem dX8_tourOn_33 : decode cX8_tourOn 33 = .ok (.if_icmp .ge 29, 3) := by decide +kernel
theorem dX8_tourOn_36 : decode cX8_tourOn 36 = .ok (.iload 5, 2) := by decide +kernel
theorem dX8_tourOn_38 : decode cX8_tourOn 38 = .ok (.aload_n 0, 1) := by decide +kernel
theorem dX8_tourOn_39 : decode cX8_tourOn 39 = .ok (.getfield 122, 3) := by decide +kernel
theorem dX8_tourOn_42 : decode cX8_tourOn 42 = .ok (.iload 6, 2) := by decide +kernel
theorem dX8_tourOn_44 : decode cX8_tourOn 44 = .ok (.iaload, 1) := by decide +kernel
theorem dX8_tourOn_45 : decode cX8_tourOn 45 = .ok (.iload 4, 2) := by decide +kernel
theorem dX8_tourOn_47 : decode cX8_tourOn 47 = .ok (.ishr, 1) := by decide +kernel
theorem dX8_tourOn_48 : decode cX8_tourOn 48 = .ok (.iconst 1, 1) := by decide +kernel
theorem dX8_tourOn_49 : decode cX8_tourOn 49 = .ok (.iand, 1) := by decide +kernel
theorem dX8_tourOn_50 : decode cX8_tourOn 50 = .ok (.iload 6, 2) := by decide +kernel
theorem dX8_tourOn_52 : decode cX8_tourOn 52 = .ok (.ishl, 1) := by decide +kernel
theorem dX8_tourOn_53 : decode cX8_tourOn 53 = .ok (.ior, 1) := by decide +kernel
theorem dX8_tourOn_54 : decode cX8_tourOn 54 = .ok (.istore 5, 2) := by decide +kernel
theorem dX8_tourOn_56 : decode cX8_tourOn 56 = .ok (.iinc 6 1, 3) := by decide +kernel
theorem dX8_tourOn_59 : decode cX8_tourOn 59 = .ok (.goto (-29), 3) := by decide +kernel
theorem dX8_tourOn_62 : decode cX8_tourOn 62 = .ok (.aload_n 0, 1) := by decide +kernel
theorem dX8_tourOn_63 : decode cX8_tourOn 63 = .ok (.getfield 119, 3) := by decide +kernel
theorem dX8_tourOn_66 : decode cX8_tourOn 66 = .ok (.bipush 32, 2) := by decide +kernel
theorem dX8_tourOn_68 : decode cX8_tourOn 68 = .ok (.iload 4, 2) := by decide +kernel
theorem dX8_tourOn_70 : decode cX8_tourOn 70 = .ok (.imul, 1) := by decide +kernel
theorem dX8_tourOn_71 : decode cX8_tourOn 71 = .ok (.iload 5, 2) := by decide +kernel
theorem dX8_tourOn_73 : decode cX8_tourOn 73 = .ok (.iadd, 1) := by decide +kernel
theorem dX8_tourOn_74 : decode cX8_tourOn 74 = .ok (.iaload, 1) := by decide +kernel
theorem dX8_tourOn_75 : decode cX8_tourOn 75 = .ok (.iconst (-1), 1) := by decide +kernel
theorem dX8_tourOn_76 : decode cX8_tourOn 76 = .ok (.if_icmp .ne 4, 3) := by decide +kernel
theorem dX8_tourOn_79 : decode cX8_tourOn 79 = .ok (.return_, 1) := by decide +kernel
theorem dX8_tourOn_80 : decode cX8_tourOn 80 = .ok (.iload_n 3, 1) := by decide +kernel
theorem dX8_tourOn_81 : decode cX8_tourOn 81 = .ok (.aload_n 0, 1) := by decide +kernel
theorem dX8_tourOn_82 : decode cX8_tourOn 82 = .ok (.getfield 119, 3) := by decide +kernel
theorem dX8_tourOn_85 : decode cX8_tourOn 85 = .ok (.bipush 32, 2) := by decide +kernel
theorem dX8_tourOn_87 : decode cX8_tourOn 87 = .ok (.iload 4, 2) := by decide +kernel
theorem dX8_tourOn_89 : decode cX8_tourOn 89 = .ok (.imul, 1) := by decide +kernel
theorem dX8_tourOn_90 : decode cX8_tourOn 90 = .ok (.iload 5, 2) := by decide +kernel
theorem dX8_tourOn_92 : decode cX8_tourOn 92 = .ok (.iadd, 1) := by decide +kernel
theorem dX8_tourOn_93 : decode cX8_tourOn 93 = .ok (.iaload, 1) := by decide +kernel
theorem dX8_tourOn_94 : decode cX8_tourOn 94 = .ok (.iadd, 1) := by decide +kernel
theorem dX8_tourOn_95 : decode cX8_tourOn 95 = .ok (.istore_n 3, 1) := by decide +kernel
theorem dX8_tourOn_96 : decode cX8_tourOn 96 = .ok (.iinc 4 1, 3) := by decide +kernel
theorem dX8_tourOn_99 : decode cX8_tourOn 99 = .ok (.goto (-84), 3) := by decide +kernel
theorem dX8_tourOn_102 : decode cX8_tourOn 102 = .ok (.aload_n 0, 1) := by decide +kernel
theorem dX8_tourOn_103 : decode cX8_tourOn 103 = .ok (.getfield 375, 3) := by decide +kernel
theorem dX8_tourOn_106 : decode cX8_tourOn 106 = .ok (.iconst (-1), 1) := by decide +kernel
theorem dX8_tourOn_107 : decode cX8_tourOn 107 = .ok (.if_icmp .eq 12, 3) := by decide +kernel
theorem dX8_tourOn_110 : decode cX8_tourOn 110 = .ok (.iload_n 3, 1) := by decide +kernel
theorem dX8_tourOn_111 : decode cX8_tourOn 111 = .ok (.aload_n 0, 1) := by decide +kernel
theorem dX8_tourOn_112 : decode cX8_tourOn 112 = .ok (.getfield 375, 3) := by decide +kernel
theorem dX8_tourOn_115 : decode cX8_tourOn 115 = .ok (.if_icmp .lt 4, 3) := by decide +kernel
theorem dX8_tourOn_118 : decode cX8_tourOn 118 = .ok (.return_, 1) := by decide +kernel
theorem dX8_tourOn_119 : decode cX8_tourOn 119 = .ok (.aload_n 0, 1) := by decide +kernel
theorem dX8_tourOn_120 : decode cX8_tourOn 120 = .ok (.iload_n 3, 1) := by decide +kernel
theorem dX8_tourOn_121 : decode cX8_tourOn 121 = .ok (.putfield 375, 3) := by decide +kernel
theorem dX8_tourOn_124 : decode cX8_tourOn 124 = .ok (.iconst 0, 1) := by decide +kernel
theorem dX8_tourOn_125 : decode cX8_tourOn 125 = .ok (.istore 4, 2) := by decide +kernel
theorem dX8_tourOn_127 : decode cX8_tourOn 127 = .ok (.iload 4, 2) := by decide +kernel
theorem dX8_tourOn_129 : decode cX8_tourOn 129 = .ok (.iload_n 1, 1) := by decide +kernel
theorem dX8_tourOn_130 : decode cX8_tourOn 130 = .ok (.if_icmp .ge 23, 3) := by decide +kernel
theorem dX8_tourOn_133 : decode cX8_tourOn 133 = .ok (.aload_n 0, 1) := by decide +kernel
theorem dX8_tourOn_134 : decode cX8_tourOn 134 = .ok (.getfield 125, 3) := by decide +kernel
theorem dX8_tourOn_137 : decode cX8_tourOn 137 = .ok (.iload 4, 2) := by decide +kernel
theorem dX8_tourOn_139 : decode cX8_tourOn 139 = .ok (.aload_n 0, 1) := by decide +kernel
theorem dX8_tourOn_140 : decode cX8_tourOn 140 = .ok (.getfield 122, 3) := by decide +kernel
theorem dX8_tourOn_143 : decode cX8_tourOn 143 = .ok (.iload 4, 2) := by decide +kernel
theorem dX8_tourOn_145 : decode cX8_tourOn 145 = .ok (.iaload, 1) := by decide +kernel
theorem dX8_tourOn_146 : decode cX8_tourOn 146 = .ok (.iastore, 1) := by decide +kernel
theorem dX8_tourOn_147 : decode cX8_tourOn 147 = .ok (.iinc 4 1, 3) := by decide +kernel
theorem dX8_tourOn_150 : decode cX8_tourOn 150 = .ok (.goto (-23), 3) := by decide +kernel
theorem dX8_tourOn_153 : decode cX8_tourOn 153 = .ok (.return_, 1) := by decide +kernel
theorem dX8_tourOn_154 : decode cX8_tourOn 154 = .ok (.iconst 0, 1) := by decide +kernel
theorem dX8_tourOn_155 : decode cX8_tourOn 155 = .ok (.istore_n 3, 1) := by decide +kernel
theorem dX8_tourOn_156 : decode cX8_tourOn 156 = .ok (.iload_n 3, 1) := by decide +kernel
theorem dX8_tourOn_157 : decode cX8_tourOn 157 = .ok (.iload_n 1, 1) := by decide +kernel
theorem dX8_tourOn_158 : decode cX8_tourOn 158 = .ok (.iload_n 2, 1) := by decide +kernel
theorem dX8_tourOn_159 : decode cX8_tourOn 159 = .ok (.if_icmp .ne 7, 3) := by decide +kernel
theorem dX8_tourOn_162 : decode cX8_tourOn 162 = .ok (.iconst 1, 1) := by decide +kernel
theorem dX8_tourOn_163 : decode cX8_tourOn 163 = .ok (.goto 9, 3) := by decide +kernel
theorem dX8_tourOn_166 : decode cX8_tourOn 166 = .ok (.iconst 1, 1) := by decide +kernel
theorem dX8_tourOn_167 : decode cX8_tourOn 167 = .ok (.aload_n 0, 1) := by decide +kernel
theorem dX8_tourOn_168 : decode cX8_tourOn 168 = .ok (.getfield 292, 3) := by decide +kernel
theorem dX8_tourOn_171 : decode cX8_tourOn 171 = .ok (.ishl, 1) := by decide +kernel
theorem dX8_tourOn_172 : decode cX8_tourOn 172 = .ok (.if_icmp .ge 36, 3) := by decide +kernel
theorem dX8_tourOn_175 : decode cX8_tourOn 175 = .ok (.aload_n 0, 1) := by decide +kernel
theorem dX8_tourOn_176 : decode cX8_tourOn 176 = .ok (.iload_n 1, 1) := by decide +kernel
theorem dX8_tourOn_177 : decode cX8_tourOn 177 = .ok (.iload_n 3, 1) := by decide +kernel
theorem dX8_tourOn_178 : decode cX8_tourOn 178 = .ok (.invokevirtual 378, 3) := by decide +kernel
theorem dX8_tourOn_181 : decode cX8_tourOn 181 = .ok (.ifCond .ne 6, 3) := by decide +kernel
theorem dX8_tourOn_184 : decode cX8_tourOn 184 = .ok (.goto 18, 3) := by decide +kernel
theorem dX8_tourOn_187 : decode cX8_tourOn 187 = .ok (.aload_n 0, 1) := by decide +kernel
theorem dX8_tourOn_188 : decode cX8_tourOn 188 = .ok (.getfield 122, 3) := by decide +kernel
theorem dX8_tourOn_191 : decode cX8_tourOn 191 = .ok (.iload_n 1, 1) := by decide +kernel
theorem dX8_tourOn_192 : decode cX8_tourOn 192 = .ok (.iload_n 3, 1) := by decide +kernel
theorem dX8_tourOn_193 : decode cX8_tourOn 193 = .ok (.iastore, 1) := by decide +kernel
theorem dX8_tourOn_194 : decode cX8_tourOn 194 = .ok (.aload_n 0, 1) := by decide +kernel
theorem dX8_tourOn_195 : decode cX8_tourOn 195 = .ok (.iload_n 1, 1) := by decide +kernel
theorem dX8_tourOn_196 : decode cX8_tourOn 196 = .ok (.iconst 1, 1) := by decide +kernel
theorem dX8_tourOn_197 : decode cX8_tourOn 197 = .ok (.iadd, 1) := by decide +kernel
theorem dX8_tourOn_198 : decode cX8_tourOn 198 = .ok (.iload_n 2, 1) := by decide +kernel
theorem dX8_tourOn_199 : decode cX8_tourOn 199 = .ok (.invokevirtual 381, 3) := by decide +kernel
theorem dX8_tourOn_202 : decode cX8_tourOn 202 = .ok (.iinc 3 1, 3) := by decide +kernel
theorem dX8_tourOn_205 : decode cX8_tourOn 205 = .ok (.goto (-49), 3) := by decide +kernel
theorem dX8_tourOn_208 : decode cX8_tourOn 208 = .ok (.return_, 1) := by decide +kernel
theorem dX8_tourWithout_0 : decode cX8_tourWithout 0 = .ok (.iconst 0, 1) := by decide +kernel
theorem dX8_tourWithout_1 : decode cX8_tourWithout 1 = .ok (.istore_n 2, 1) := by decide +kernel
theorem dX8_tourWithout_2 : decode cX8_tourWithout 2 = .ok (.iload_n 2, 1) := by decide +kernel
theorem dX8_tourWithout_3 : decode cX8_tourWithout 3 = .ok (.aload_n 0, 1) := by decide +kernel
theorem dX8_tourWithout_4 : decode cX8_tourWithout 4 = .ok (.getfield 292, 3) := by decide +kernel
theorem dX8_tourWithout_7 : decode cX8_tourWithout 7 = .ok (.if_icmp .ge 61, 3) := by decide +kernel
theorem dX8_tourWithout_10 : decode cX8_tourWithout 10 = .ok (.iconst 0, 1) := by decide +kernel
theorem dX8_tourWithout_11 : decode cX8_tourWithout 11 = .ok (.istore_n 3, 1) := by decide +kernel
theorem dX8_tourWithout_12 : decode cX8_tourWithout 12 = .ok (.iload_n 3, 1) := by decide +kernel
theorem dX8_tourWithout_13 : decode cX8_tourWithout 13 = .ok (.iconst 1, 1) := by decide +kernel
theorem dX8_tourWithout_14 : decode cX8_tourWithout 14 = .ok (.aload_n 0, 1) := by decide +kernel
theorem dX8_tourWithout_15 : decode cX8_tourWithout 15 = .ok (.getfield 23, 3) := by decide +kernel
theorem dX8_tourWithout_18 : decode cX8_tourWithout 18 = .ok (.iconst 1, 1) := by decide +kernel
theorem dX8_tourWithout_19 : decode cX8_tourWithout 19 = .ok (.iaload, 1) := by decide +kernel
theorem dX8_tourWithout_20 : decode cX8_tourWithout 20 = .ok (.ishl, 1) := by decide +kernel
theorem dX8_tourWithout_21 : decode cX8_tourWithout 21 = .ok (.if_icmp .ge 41, 3) := by decide +kernel
theorem dX8_tourWithout_24 : decode cX8_tourWithout 24 = .ok (.aload_n 0, 1) := by decide +kernel
theorem dX8_tourWithout_25 : decode cX8_tourWithout 25 = .ok (.getfield 119, 3) := by decide +kernel
theorem dX8_tourWithout_28 : decode cX8_tourWithout 28 = .ok (.bipush 32, 2) := by decide +kernel
theorem dX8_tourWithout_30 : decode cX8_tourWithout 30 = .ok (.iload_n 2, 1) := by decide +kernel
theorem dX8_tourWithout_31 : decode cX8_tourWithout 31 = .ok (.imul, 1) := by decide +kernel
theorem dX8_tourWithout_32 : decode cX8_tourWithout 32 = .ok (.iload_n 3, 1) := by decide +kernel
theorem dX8_tourWithout_33 : decode cX8_tourWithout 33 = .ok (.iadd, 1) := by decide +kernel
theorem dX8_tourWithout_34 : decode cX8_tourWithout 34 = .ok (.aload_n 0, 1) := by decide +kernel
theorem dX8_tourWithout_35 : decode cX8_tourWithout 35 = .ok (.aload_n 0, 1) := by decide +kernel
theorem dX8_tourWithout_36 : decode cX8_tourWithout 36 = .ok (.getfield 116, 3) := by decide +kernel
theorem dX8_tourWithout_39 : decode cX8_tourWithout 39 = .ok (.iload_n 2, 1) := by decide +kernel
theorem dX8_tourWithout_40 : decode cX8_tourWithout 40 = .ok (.iaload, 1) := by decide +kernel
theorem dX8_tourWithout_41 : decode cX8_tourWithout 41 = .ok (.aload_n 0, 1) := by decide +kernel
theorem dX8_tourWithout_42 : decode cX8_tourWithout 42 = .ok (.getfield 113, 3) := by decide +kernel
theorem dX8_tourWithout_45 : decode cX8_tourWithout 45 = .ok (.iload_n 2, 1) := by decide +kernel
theorem dX8_tourWithout_46 : decode cX8_tourWithout 46 = .ok (.iaload, 1) := by decide +kernel
theorem dX8_tourWithout_47 : decode cX8_tourWithout 47 = .ok (.aload_n 0, 1) := by decide +kernel
theorem dX8_tourWithout_48 : decode cX8_tourWithout 48 = .ok (.iload_n 3, 1) := by decide +kernel
theorem dX8_tourWithout_49 : decode cX8_tourWithout 49 = .ok (.invokevirtual 310, 3) := by decide +kernel
theorem dX8_tourWithout_52 : decode cX8_tourWithout 52 = .ok (.invokevirtual 359, 3) := by decide +kernel
theorem dX8_tourWithout_55 : decode cX8_tourWithout 55 = .ok (.iastore, 1) := by decide +kernel
theorem dX8_tourWithout_56 : decode cX8_tourWithout 56 = .ok (.iinc 3 1, 3) := by decide +kernel
theorem dX8_tourWithout_59 : decode cX8_tourWithout 59 = .ok (.goto (-47), 3) := by decide +kernel
theorem dX8_tourWithout_62 : decode cX8_tourWithout 62 = .ok (.iinc 2 1, 3) := by decide +kernel
theorem dX8_tourWithout_65 : decode cX8_tourWithout 65 = .ok (.goto (-63), 3) := by decide +kernel
theorem dX8_tourWithout_68 : decode cX8_tourWithout 68 = .ok (.aload_n 0, 1) := by decide +kernel
theorem dX8_tourWithout_69 : decode cX8_tourWithout 69 = .ok (.iconst (-1), 1) := by decide +kernel
theorem dX8_tourWithout_70 : decode cX8_tourWithout 70 = .ok (.putfield 375, 3) := by decide +kernel
theorem dX8_tourWithout_73 : decode cX8_tourWithout 73 = .ok (.aload_n 0, 1) := by decide +kernel
theorem dX8_tourWithout_74 : decode cX8_tourWithout 74 = .ok (.iconst 0, 1) := by decide +kernel
theorem dX8_tourWithout_75 : decode cX8_tourWithout 75 = .ok (.iload_n 1, 1) := by decide +kernel
theorem dX8_tourWithout_76 : decode cX8_tourWithout 76 = .ok (.invokevirtual 381, 3) := by decide +kernel
theorem dX8_tourWithout_79 : decode cX8_tourWithout 79 = .ok (.aload_n 0, 1) := by decide +kernel
theorem dX8_tourWithout_80 : decode cX8_tourWithout 80 = .ok (.getfield 375, 3) := by decide +kernel
theorem dX8_tourWithout_83 : decode cX8_tourWithout 83 = .ok (.ireturn, 1) := by decide +kernel
theorem dX8_tour_0 : decode cX8_tour 0 = .ok (.aload_n 0, 1) := by decide +kernel
theorem dX8_tour_1 : decode cX8_tour 1 = .ok (.iconst 0, 1) := by decide +kernel
theorem dX8_tour_2 : decode cX8_tour 2 = .ok (.putfield 149, 3) := by decide +kernel
theorem dX8_tour_5 : decode cX8_tour 5 = .ok (.aload_n 0, 1) := by decide +kernel
theorem dX8_tour_6 : decode cX8_tour 6 = .ok (.iconst (-1), 1) := by decide +kernel
theorem dX8_tour_7 : decode cX8_tour 7 = .ok (.invokevirtual 385, 3) := by decide +kernel
theorem dX8_tour_10 : decode cX8_tour 10 = .ok (.istore_n 1, 1) := by decide +kernel
theorem dX8_tour_11 : decode cX8_tour 11 = .ok (.iload_n 1, 1) := by decide +kernel
theorem dX8_tour_12 : decode cX8_tour 12 = .ok (.iconst (-1), 1) := by decide +kernel
theorem dX8_tour_13 : decode cX8_tour 13 = .ok (.if_icmp .eq 33, 3) := by decide +kernel
theorem dX8_tour_16 : decode cX8_tour 16 = .ok (.aload_n 0, 1) := by decide +kernel
theorem dX8_tour_17 : decode cX8_tour 17 = .ok (.iconst 1, 1) := by decide +kernel
theorem dX8_tour_18 : decode cX8_tour 18 = .ok (.putfield 295, 3) := by decide +kernel
theorem dX8_tour_21 : decode cX8_tour 21 = .ok (.iconst 0, 1) := by decide +kernel
theorem dX8_tour_22 : decode cX8_tour 22 = .ok (.istore_n 2, 1) := by decide +kernel
theorem dX8_tour_23 : decode cX8_tour 23 = .ok (.iload_n 2, 1) := by decide +kernel
theorem dX8_tour_24 : decode cX8_tour 24 = .ok (.iconst 5, 1) := by decide +kernel
theorem dX8_tour_25 : decode cX8_tour 25 = .ok (.if_icmp .ge 21, 3) := by decide +kernel
theorem dX8_tour_28 : decode cX8_tour 28 = .ok (.aload_n 0, 1) := by decide +kernel
theorem dX8_tour_29 : decode cX8_tour 29 = .ok (.getfield 128, 3) := by decide +kernel
theorem dX8_tour_32 : decode cX8_tour 32 = .ok (.iload_n 2, 1) := by decide +kernel
theorem dX8_tour_33 : decode cX8_tour 33 = .ok (.aload_n 0, 1) := by decide +kernel
theorem dX8_tour_34 : decode cX8_tour 34 = .ok (.getfield 125, 3) := by decide +kernel
theorem dX8_tour_37 : decode cX8_tour 37 = .ok (.iload_n 2, 1) := by decide +kernel
theorem dX8_tour_38 : decode cX8_tour 38 = .ok (.iaload, 1) := by decide +kernel
theorem dX8_tour_39 : decode cX8_tour 39 = .ok (.iastore, 1) := by decide +kernel
theorem dX8_tour_40 : decode cX8_tour 40 = .ok (.iinc 2 1, 3) := by decide +kernel
theorem dX8_tour_43 : decode cX8_tour 43 = .ok (.goto (-20), 3) := by decide +kernel
theorem dX8_tour_46 : decode cX8_tour 46 = .ok (.iload_n 1, 1) := by decide +kernel
theorem dX8_tour_47 : decode cX8_tour 47 = .ok (.ireturn, 1) := by decide +kernel
theorem dX8_rides_0 : decode cX8_rides 0 = .ok (.aload_n 0, 1) := by decide +kernel
theorem dX8_rides_1 : decode cX8_rides 1 = .ok (.iconst 0, 1) := by decide +kernel
theorem dX8_rides_2 : decode cX8_rides 2 = .ok (.putfield 149, 3) := by decide +kernel
theorem dX8_rides_5 : decode cX8_rides 5 = .ok (.aload_n 0, 1) := by decide +kernel
theorem dX8_rides_6 : decode cX8_rides 6 = .ok (.iload_n 1, 1) := by decide +kernel
theorem dX8_rides_7 : decode cX8_rides 7 = .ok (.invokevirtual 313, 3) := by decide +kernel
theorem dX8_rides_10 : decode cX8_rides 10 = .ok (.ifCond .eq 19, 3) := by decide +kernel
theorem dX8_rides_13 : decode cX8_rides 13 = .ok (.aload_n 0, 1) := by decide +kernel
theorem dX8_rides_14 : decode cX8_rides 14 = .ok (.getfield 295, 3) := by decide +kernel
theorem dX8_rides_17 : decode cX8_rides 17 = .ok (.ifCond .eq 12, 3) := by decide +kernel
theorem dX8_rides_20 : decode cX8_rides 20 = .ok (.aload_n 0, 1) := by decide +kernel
theorem dX8_rides_21 : decode cX8_rides 21 = .ok (.getfield 128, 3) := by decide +kernel
theorem dX8_rides_24 : decode cX8_rides 24 = .ok (.iload_n 1, 1) := by decide +kernel
theorem dX8_rides_25 : decode cX8_rides 25 = .ok (.iaload, 1) := by decide +kernel
theorem dX8_rides_26 : decode cX8_rides 26 = .ok (.goto 8, 3) := by decide +kernel
theorem dX8_rides_29 : decode cX8_rides 29 = .ok (.aload_n 0, 1) := by decide +kernel
theorem dX8_rides_30 : decode cX8_rides 30 = .ok (.iconst 1, 1) := by decide +kernel
theorem dX8_rides_31 : decode cX8_rides 31 = .ok (.invokevirtual 268, 3) := by decide +kernel
theorem dX8_rides_34 : decode cX8_rides 34 = .ok (.ireturn, 1) := by decide +kernel
theorem dX8_spared_0 : decode cX8_spared 0 = .ok (.aload_n 0, 1) := by decide +kernel
theorem dX8_spared_1 : decode cX8_spared 1 = .ok (.iconst 0, 1) := by decide +kernel
theorem dX8_spared_2 : decode cX8_spared 2 = .ok (.putfield 149, 3) := by decide +kernel
theorem dX8_spared_5 : decode cX8_spared 5 = .ok (.iload_n 1, 1) := by decide +kernel
theorem dX8_spared_6 : decode cX8_spared 6 = .ok (.ifCond .lt 8, 3) := by decide +kernel
theorem dX8_spared_9 : decode cX8_spared 9 = .ok (.iload_n 1, 1) := by decide +kernel
theorem dX8_spared_10 : decode cX8_spared 10 = .ok (.iconst 1, 1) := by decide +kernel
theorem dX8_spared_11 : decode cX8_spared 11 = .ok (.if_icmp .le 9, 3) := by decide +kernel
theorem dX8_spared_14 : decode cX8_spared 14 = .ok (.aload_n 0, 1) := by decide +kernel
theorem dX8_spared_15 : decode cX8_spared 15 = .ok (.iconst 1, 1) := by decide +kernel
theorem dX8_spared_16 : decode cX8_spared 16 = .ok (.invokevirtual 268, 3) := by decide +kernel
theorem dX8_spared_19 : decode cX8_spared 19 = .ok (.ireturn, 1) := by decide +kernel
theorem dX8_spared_20 : decode cX8_spared 20 = .ok (.iconst (-1), 1) := by decide +kernel
theorem dX8_spared_21 : decode cX8_spared 21 = .ok (.istore_n 2, 1) := by decide +kernel
theorem dX8_spared_22 : decode cX8_spared 22 = .ok (.iconst (-1), 1) := by decide +kernel
theorem dX8_spared_23 : decode cX8_spared 23 = .ok (.istore_n 3, 1) := by decide +kernel
theorem dX8_spared_24 : decode cX8_spared 24 = .ok (.iconst 0, 1) := by decide +kernel
theorem dX8_spared_25 : decode cX8_spared 25 = .ok (.istore 4, 2) := by decide +kernel
theorem dX8_spared_27 : decode cX8_spared 27 = .ok (.iload 4, 2) := by decide +kernel
theorem dX8_spared_29 : decode cX8_spared 29 = .ok (.aload_n 0, 1) := by decide +kernel
theorem dX8_spared_30 : decode cX8_spared 30 = .ok (.getfield 23, 3) := by decide +kernel
theorem dX8_spared_33 : decode cX8_spared 33 = .ok (.iconst 1, 1) := by decide +kernel
theorem dX8_spared_34 : decode cX8_spared 34 = .ok (.iaload, 1) := by decide +kernel
theorem dX8_spared_35 : decode cX8_spared 35 = .ok (.if_icmp .ge 43, 3) := by decide +kernel
theorem dX8_spared_38 : decode cX8_spared 38 = .ok (.aload_n 0, 1) := by decide +kernel
theorem dX8_spared_39 : decode cX8_spared 39 = .ok (.iload 4, 2) := by decide +kernel
theorem dX8_spared_41 : decode cX8_spared 41 = .ok (.invokevirtual 385, 3) := by decide +kernel
theorem dX8_spared_44 : decode cX8_spared 44 = .ok (.istore 5, 2) := by decide +kernel
theorem dX8_spared_46 : decode cX8_spared 46 = .ok (.iload 5, 2) := by decide +kernel
theorem dX8_spared_48 : decode cX8_spared 48 = .ok (.iconst (-1), 1) := by decide +kernel
theorem dX8_spared_49 : decode cX8_spared 49 = .ok (.if_icmp .eq 23, 3) := by decide +kernel
theorem dX8_spared_52 : decode cX8_spared 52 = .ok (.iload_n 2, 1) := by decide +kernel
theorem dX8_spared_53 : decode cX8_spared 53 = .ok (.iconst (-1), 1) := by decide +kernel
theorem dX8_spared_54 : decode cX8_spared 54 = .ok (.if_icmp .eq 12, 3) := by decide +kernel
theorem dX8_spared_57 : decode cX8_spared 57 = .ok (.iload 5, 2) := by decide +kernel
theorem dX8_spared_59 : decode cX8_spared 59 = .ok (.iload_n 3, 1) := by decide +kernel
theorem dX8_spared_60 : decode cX8_spared 60 = .ok (.if_icmp .lt 6, 3) := by decide +kernel
theorem dX8_spared_63 : decode cX8_spared 63 = .ok (.goto 9, 3) := by decide +kernel
theorem dX8_spared_66 : decode cX8_spared 66 = .ok (.iload 4, 2) := by decide +kernel
theorem dX8_spared_68 : decode cX8_spared 68 = .ok (.istore_n 2, 1) := by decide +kernel
theorem dX8_spared_69 : decode cX8_spared 69 = .ok (.iload 5, 2) := by decide +kernel
theorem dX8_spared_71 : decode cX8_spared 71 = .ok (.istore_n 3, 1) := by decide +kernel
theorem dX8_spared_72 : decode cX8_spared 72 = .ok (.iinc 4 1, 3) := by decide +kernel
theorem dX8_spared_75 : decode cX8_spared 75 = .ok (.goto (-48), 3) := by decide +kernel
theorem dX8_spared_78 : decode cX8_spared 78 = .ok (.iload_n 1, 1) := by decide +kernel
theorem dX8_spared_79 : decode cX8_spared 79 = .ok (.ifCond .ne 7, 3) := by decide +kernel
theorem dX8_spared_82 : decode cX8_spared 82 = .ok (.iload_n 2, 1) := by decide +kernel
theorem dX8_spared_83 : decode cX8_spared 83 = .ok (.goto 4, 3) := by decide +kernel
theorem dX8_spared_86 : decode cX8_spared 86 = .ok (.iload_n 3, 1) := by decide +kernel
theorem dX8_spared_87 : decode cX8_spared 87 = .ok (.ireturn, 1) := by decide +kernel
theorem dX8_priceWith_0 : decode cX8_priceWith 0 = .ok (.aload_n 0, 1) := by decide +kernel
theorem dX8_priceWith_1 : decode cX8_priceWith 1 = .ok (.aload_n 0, 1) := by decide +kernel
theorem dX8_priceWith_2 : decode cX8_priceWith 2 = .ok (.iload_n 2, 1) := by decide +kernel
theorem dX8_priceWith_3 : decode cX8_priceWith 3 = .ok (.invokevirtual 307, 3) := by decide +kernel
theorem dX8_priceWith_6 : decode cX8_priceWith 6 = .ok (.invokevirtual 310, 3) := by decide +kernel
theorem dX8_priceWith_9 : decode cX8_priceWith 9 = .ok (.istore 4, 2) := by decide +kernel
theorem dX8_priceWith_11 : decode cX8_priceWith 11 = .ok (.iload_n 3, 1) := by decide +kernel
theorem dX8_priceWith_12 : decode cX8_priceWith 12 = .ok (.iconst (-1), 1) := by decide +kernel
theorem dX8_priceWith_13 : decode cX8_priceWith 13 = .ok (.if_icmp .eq 19, 3) := by decide +kernel
theorem dX8_priceWith_16 : decode cX8_priceWith 16 = .ok (.aload_n 0, 1) := by decide +kernel
theorem dX8_priceWith_17 : decode cX8_priceWith 17 = .ok (.getfield 45, 3) := by decide +kernel
theorem dX8_priceWith_20 : decode cX8_priceWith 20 = .ok (.bipush 10, 2) := by decide +kernel
theorem dX8_priceWith_22 : decode cX8_priceWith 22 = .ok (.iload_n 3, 1) := by decide +kernel
theorem dX8_priceWith_23 : decode cX8_priceWith 23 = .ok (.iastore, 1) := by decide +kernel
theorem dX8_priceWith_24 : decode cX8_priceWith 24 = .ok (.iload 4, 2) := by decide +kernel
theorem dX8_priceWith_26 : decode cX8_priceWith 26 = .ok (.sipush 1024, 3) := by decide +kernel
theorem dX8_priceWith_29 : decode cX8_priceWith 29 = .ok (.ior, 1) := by decide +kernel
theorem dX8_priceWith_30 : decode cX8_priceWith 30 = .ok (.istore 4, 2) := by decide +kernel
theorem dX8_priceWith_32 : decode cX8_priceWith 32 = .ok (.aload_n 0, 1) := by decide +kernel
theorem dX8_priceWith_33 : decode cX8_priceWith 33 = .ok (.iload_n 1, 1) := by decide +kernel
theorem dX8_priceWith_34 : decode cX8_priceWith 34 = .ok (.iload_n 2, 1) := by decide +kernel
theorem dX8_priceWith_35 : decode cX8_priceWith 35 = .ok (.iload 4, 2) := by decide +kernel
theorem dX8_priceWith_37 : decode cX8_priceWith 37 = .ok (.invokevirtual 359, 3) := by decide +kernel
theorem dX8_priceWith_40 : decode cX8_priceWith 40 = .ok (.istore 5, 2) := by decide +kernel
theorem dX8_priceWith_42 : decode cX8_priceWith 42 = .ok (.iload 5, 2) := by decide +kernel
theorem dX8_priceWith_44 : decode cX8_priceWith 44 = .ok (.iconst (-1), 1) := by decide +kernel
theorem dX8_priceWith_45 : decode cX8_priceWith 45 = .ok (.if_icmp .ne 9, 3) := by decide +kernel
theorem dX8_priceWith_48 : decode cX8_priceWith 48 = .ok (.sipush 1000, 3) := by decide +kernel
theorem dX8_priceWith_51 : decode cX8_priceWith 51 = .ok (.goto 5, 3) := by decide +kernel
theorem dX8_priceWith_54 : decode cX8_priceWith 54 = .ok (.iload 5, 2) := by decide +kernel
theorem dX8_priceWith_56 : decode cX8_priceWith 56 = .ok (.ireturn, 1) := by decide +kernel
theorem dX8_unopened_0 : decode cX8_unopened 0 = .ok (.aload_n 0, 1) := by decide +kernel
theorem dX8_unopened_1 : decode cX8_unopened 1 = .ok (.iconst 0, 1) := by decide +kernel
theorem dX8_unopened_2 : decode cX8_unopened 2 = .ok (.putfield 149, 3) := by decide +kernel
theorem dX8_unopened_5 : decode cX8_unopened 5 = .ok (.aload_n 0, 1) := by decide +kernel
theorem dX8_unopened_6 : decode cX8_unopened 6 = .ok (.iload_n 1, 1) := by decide +kernel
theorem dX8_unopened_7 : decode cX8_unopened 7 = .ok (.invokevirtual 356, 3) := by decide +kernel
theorem dX8_unopened_10 : decode cX8_unopened 10 = .ok (.ifCond .eq 11, 3) := by decide +kernel
theorem dX8_unopened_13 : decode cX8_unopened 13 = .ok (.aload_n 0, 1) := by decide +kernel
theorem dX8_unopened_14 : decode cX8_unopened 14 = .ok (.iload_n 2, 1) := by decide +kernel
theorem dX8_unopened_15 : decode cX8_unopened 15 = .ok (.invokevirtual 304, 3) := by decide +kernel
theorem dX8_unopened_18 : decode cX8_unopened 18 = .ok (.ifCond .ne 9, 3) := by decide +kernel
theorem dX8_unopened_21 : decode cX8_unopened 21 = .ok (.aload_n 0, 1) := by decide +kernel
theorem dX8_unopened_22 : decode cX8_unopened 22 = .ok (.iconst 1, 1) := by decide +kernel
theorem dX8_unopened_23 : decode cX8_unopened 23 = .ok (.invokevirtual 268, 3) := by decide +kernel
theorem dX8_unopened_26 : decode cX8_unopened 26 = .ok (.ireturn, 1) := by decide +kernel
theorem dX8_unopened_27 : decode cX8_unopened 27 = .ok (.iconst 0, 1) := by decide +kernel
theorem dX8_unopened_28 : decode cX8_unopened 28 = .ok (.istore 6, 2) := by decide +kernel
theorem dX8_unopened_30 : decode cX8_unopened 30 = .ok (.iconst 0, 1) := by decide +kernel
theorem dX8_unopened_31 : decode cX8_unopened 31 = .ok (.istore 7, 2) := by decide +kernel
theorem dX8_unopened_33 : decode cX8_unopened 33 = .ok (.iconst 0, 1) := by decide +kernel
theorem dX8_unopened_34 : decode cX8_unopened 34 = .ok (.istore 8, 2) := by decide +kernel
theorem dX8_unopened_36 : decode cX8_unopened 36 = .ok (.iload 8, 2) := by decide +kernel
theorem dX8_unopened_38 : decode cX8_unopened 38 = .ok (.iconst 3, 1) := by decide +kernel
theorem dX8_unopened_39 : decode cX8_unopened 39 = .ok (.if_icmp .ge 92, 3) := by decide +kernel
theorem dX8_unopened_42 : decode cX8_unopened 42 = .ok (.iload 8, 2) := by decide +kernel
theorem dX8_unopened_44 : decode cX8_unopened 44 = .ok (.ifCond .ne 7, 3) := by decide +kernel
theorem dX8_unopened_47 : decode cX8_unopened 47 = .ok (.iload_n 3, 1) := by decide +kernel
theorem dX8_unopened_48 : decode cX8_unopened 48 = .ok (.goto 16, 3) := by decide +kernel
theorem dX8_unopened_51 : decode cX8_unopened 51 = .ok (.iload 8, 2) := by decide +kernel
theorem dX8_unopened_53 : decode cX8_unopened 53 = .ok (.iconst 1, 1) := by decide +kernel
theorem dX8_unopened_54 : decode cX8_unopened 54 = .ok (.if_icmp .ne 8, 3) := by decide +kernel
theorem dX8_unopened_57 : decode cX8_unopened 57 = .ok (.iload 4, 2) := by decide +kernel
theorem dX8_unopened_59 : decode cX8_unopened 59 = .ok (.goto 5, 3) := by decide +kernel
theorem dX8_unopened_62 : decode cX8_unopened 62 = .ok (.iload 5, 2) := by decide +kernel
theorem dX8_unopened_64 : decode cX8_unopened 64 = .ok (.istore 9, 2) := by decide +kernel
theorem dX8_unopened_66 : decode cX8_unopened 66 = .ok (.iload 9, 2) := by decide +kernel
theorem dX8_unopened_68 : decode cX8_unopened 68 = .ok (.iconst (-1), 1) := by decide +kernel
theorem dX8_unopened_69 : decode cX8_unopened 69 = .ok (.sipush 1999, 3) := by decide +kernel
theorem dX8_unopened_72 : decode cX8_unopened 72 = .ok (.invokestatic 152, 3) := by decide +kernel
theorem dX8_unopened_75 : decode cX8_unopened 75 = .ok (.ifCond .ne 9, 3) := by decide +kernel
theorem dX8_unopened_78 : decode cX8_unopened 78 = .ok (.aload_n 0, 1) := by decide +kernel
theorem dX8_unopened_79 : decode cX8_unopened 79 = .ok (.iconst 2, 1) := by decide +kernel
theorem dX8_unopened_80 : decode cX8_unopened 80 = .ok (.invokevirtual 268, 3) := by decide +kernel
theorem dX8_unopened_83 : decode cX8_unopened 83 = .ok (.ireturn, 1) := by decide +kernel
theorem dX8_unopened_84 : decode cX8_unopened 84 = .ok (.iload 9, 2) := by decide +kernel
theorem dX8_unopened_86 : decode cX8_unopened 86 = .ok (.iconst (-1), 1) := by decide +kernel
theorem dX8_unopened_87 : decode cX8_unopened 87 = .ok (.if_icmp .ne 6, 3) := by decide +kernel
theorem dX8_unopened_90 : decode cX8_unopened 90 = .ok (.goto 35, 3) := by decide +kernel
theorem dX8_unopened_93 : decode cX8_unopened 93 = .ok (.iload 6, 2) := by decide +kernel
theorem dX8_unopened_95 : decode cX8_unopened 95 = .ok (.iload 9, 2) := by decide +kernel
theorem dX8_unopened_97 : decode cX8_unopened 97 = .ok (.bipush 100, 2) := by decide +kernel
theorem dX8_unopened_99 : decode cX8_unopened 99 = .ok (.irem, 1) := by decide +kernel
theorem dX8_unopened_100 : decode cX8_unopened 100 = .ok (.iadd, 1) := by decide +kernel
theorem dX8_unopened_101 : decode cX8_unopened 101 = .ok (.istore 6, 2) := by decide +kernel
theorem dX8_unopened_103 : decode cX8_unopened 103 = .ok (.iload 7, 2) := by decide +kernel
theorem dX8_unopened_105 : decode cX8_unopened 105 = .ok (.iload 9, 2) := by decide +kernel
theorem dX8_unopened_107 : decode cX8_unopened 107 = .ok (.bipush 100, 2) := by decide +kernel
theorem dX8_unopened_109 : decode cX8_unopened 109 = .ok (.irem, 1) := by decide +kernel
theorem dX8_unopened_110 : decode cX8_unopened 110 = .ok (.aload_n 0, 1) := by decide +kernel
theorem dX8_unopened_111 : decode cX8_unopened 111 = .ok (.iload_n 1, 1) := by decide +kernel
theorem dX8_unopened_112 : decode cX8_unopened 112 = .ok (.iload_n 2, 1) := by decide +kernel
theorem dX8_unopened_113 : decode cX8_unopened 113 = .ok (.iload 9, 2) := by decide +kernel
theorem dX8_unopened_115 : decode cX8_unopened 115 = .ok (.bipush 100, 2) := by decide +kernel
theorem dX8_unopened_117 : decode cX8_unopened 117 = .ok (.idiv, 1) := by decide +kernel
theorem dX8_unopened_118 : decode cX8_unopened 118 = .ok (.invokevirtual 388, 3) := by decide +kernel
theorem dX8_unopened_121 : decode cX8_unopened 121 = .ok (.imul, 1) := by decide +kernel
theorem dX8_unopened_122 : decode cX8_unopened 122 = .ok (.iadd, 1) := by decide +kernel
theorem dX8_unopened_123 : decode cX8_unopened 123 = .ok (.istore 7, 2) := by decide +kernel
theorem dX8_unopened_125 : decode cX8_unopened 125 = .ok (.iinc 8 1, 3) := by decide +kernel
theorem dX8_unopened_128 : decode cX8_unopened 128 = .ok (.goto (-92), 3) := by decide +kernel
theorem dX8_unopened_131 : decode cX8_unopened 131 = .ok (.iload 6, 2) := by decide +kernel
theorem dX8_unopened_133 : decode cX8_unopened 133 = .ok (.ifCond .ne 11, 3) := by decide +kernel
theorem dX8_unopened_136 : decode cX8_unopened 136 = .ok (.aload_n 0, 1) := by decide +kernel
theorem dX8_unopened_137 : decode cX8_unopened 137 = .ok (.iconst 2, 1) := by decide +kernel
theorem dX8_unopened_138 : decode cX8_unopened 138 = .ok (.invokevirtual 268, 3) := by decide +kernel
theorem dX8_unopened_141 : decode cX8_unopened 141 = .ok (.goto 16, 3) := by decide +kernel
theorem dX8_unopened_144 : decode cX8_unopened 144 = .ok (.aload_n 0, 1) := by decide +kernel
theorem dX8_unopened_145 : decode cX8_unopened 145 = .ok (.iload_n 1, 1) := by decide +kernel
theorem dX8_unopened_146 : decode cX8_unopened 146 = .ok (.iload_n 2, 1) := by decide +kernel
theorem dX8_unopened_147 : decode cX8_unopened 147 = .ok (.iconst (-1), 1) := by decide +kernel
theorem dX8_unopened_148 : decode cX8_unopened 148 = .ok (.invokevirtual 388, 3) := by decide +kernel
theorem dX8_unopened_151 : decode cX8_unopened 151 = .ok (.iload 7, 2) := by decide +kernel
theorem dX8_unopened_153 : decode cX8_unopened 153 = .ok (.iload 6, 2) := by decide +kernel
theorem dX8_unopened_155 : decode cX8_unopened 155 = .ok (.idiv, 1) := by decide +kernel
theorem dX8_unopened_156 : decode cX8_unopened 156 = .ok (.isub, 1) := by decide +kernel
theorem dX8_unopened_157 : decode cX8_unopened 157 = .ok (.ireturn, 1) := by decide +kernel
theorem dX8_be_0 : decode cX8_be 0 = .ok (.iconst 0, 1) := by decide +kernel
theorem dX8_be_1 : decode cX8_be 1 = .ok (.istore_n 2, 1) := by decide +kernel
theorem dX8_be_2 : decode cX8_be 2 = .ok (.iload_n 2, 1) := by decide +kernel
theorem dX8_be_3 : decode cX8_be 3 = .ok (.aload_n 0, 1) := by decide +kernel
theorem dX8_be_4 : decode cX8_be 4 = .ok (.arraylength, 1) := by decide +kernel
theorem dX8_be_5 : decode cX8_be 5 = .ok (.if_icmp .ge 15, 3) := by decide +kernel
theorem dX8_be_8 : decode cX8_be 8 = .ok (.aload_n 0, 1) := by decide +kernel
theorem dX8_be_9 : decode cX8_be 9 = .ok (.iload_n 2, 1) := by decide +kernel
theorem dX8_be_10 : decode cX8_be 10 = .ok (.aload_n 1, 1) := by decide +kernel
theorem dX8_be_11 : decode cX8_be 11 = .ok (.iload_n 2, 1) := by decide +kernel
theorem dX8_be_12 : decode cX8_be 12 = .ok (.iaload, 1) := by decide +kernel
theorem dX8_be_13 : decode cX8_be 13 = .ok (.iastore, 1) := by decide +kernel
theorem dX8_be_14 : decode cX8_be 14 = .ok (.iinc 2 1, 3) := by decide +kernel
theorem dX8_be_17 : decode cX8_be 17 = .ok (.goto (-15), 3) := by decide +kernel
theorem dX8_be_20 : decode cX8_be 20 = .ok (.return_, 1) := by decide +kernel
theorem dX8_image_0 : decode cX8_image 0 = .ok (.aload_n 0, 1) := by decide +kernel
theorem dX8_image_1 : decode cX8_image 1 = .ok (.iconst 0, 1) := by decide +kernel
theorem dX8_image_2 : decode cX8_image 2 = .ok (.putfield 149, 3) := by decide +kernel
theorem dX8_image_5 : decode cX8_image 5 = .ok (.aload_n 0, 1) := by decide +kernel
theorem dX8_image_6 : decode cX8_image 6 = .ok (.iconst 1, 1) := by decide +kernel
theorem dX8_image_7 : decode cX8_image 7 = .ok (.putfield 298, 3) := by decide +kernel
theorem dX8_image_10 : decode cX8_image 10 = .ok (.aload_n 0, 1) := by decide +kernel
theorem dX8_image_11 : decode cX8_image 11 = .ok (.aload_n 0, 1) := by decide +kernel
theorem dX8_image_12 : decode cX8_image 12 = .ok (.getfield 285, 3) := by decide +kernel
theorem dX8_image_15 : decode cX8_image 15 = .ok (.putfield 391, 3) := by decide +kernel
theorem dX8_image_18 : decode cX8_image 18 = .ok (.aload_n 0, 1) := by decide +kernel
theorem dX8_image_19 : decode cX8_image 19 = .ok (.aload_n 0, 1) := by decide +kernel
theorem dX8_image_20 : decode cX8_image 20 = .ok (.getfield 282, 3) := by decide +kernel
theorem dX8_image_23 : decode cX8_image 23 = .ok (.putfield 394, 3) := by decide +kernel
theorem dX8_image_26 : decode cX8_image 26 = .ok (.aload_n 0, 1) := by decide +kernel
theorem dX8_image_27 : decode cX8_image 27 = .ok (.aload_n 0, 1) := by decide +kernel
theorem dX8_image_28 : decode cX8_image 28 = .ok (.getfield 362, 3) := by decide +kernel
theorem dX8_image_31 : decode cX8_image 31 = .ok (.putfield 397, 3) := by decide +kernel
theorem dX8_image_34 : decode cX8_image 34 = .ok (.aload_n 0, 1) := by decide +kernel
theorem dX8_image_35 : decode cX8_image 35 = .ok (.aload_n 0, 1) := by decide +kernel
theorem dX8_image_36 : decode cX8_image 36 = .ok (.getfield 292, 3) := by decide +kernel
theorem dX8_image_39 : decode cX8_image 39 = .ok (.putfield 400, 3) := by decide +kernel
theorem dX8_image_42 : decode cX8_image 42 = .ok (.aload_n 0, 1) := by decide +kernel
theorem dX8_image_43 : decode cX8_image 43 = .ok (.getfield 131, 3) := by decide +kernel
theorem dX8_image_46 : decode cX8_image 46 = .ok (.aload_n 0, 1) := by decide +kernel
theorem dX8_image_47 : decode cX8_image 47 = .ok (.getfield 73, 3) := by decide +kernel
theorem dX8_image_50 : decode cX8_image 50 = .ok (.invokestatic 403, 3) := by decide +kernel
theorem dX8_image_53 : decode cX8_image 53 = .ok (.aload_n 0, 1) := by decide +kernel
theorem dX8_image_54 : decode cX8_image 54 = .ok (.getfield 134, 3) := by decide +kernel
theorem dX8_image_57 : decode cX8_image 57 = .ok (.aload_n 0, 1) := by decide +kernel
theorem dX8_image_58 : decode cX8_image 58 = .ok (.getfield 76, 3) := by decide +kernel
theorem dX8_image_61 : decode cX8_image 61 = .ok (.invokestatic 403, 3) := by decide +kernel
theorem dX8_image_64 : decode cX8_image 64 = .ok (.aload_n 0, 1) := by decide +kernel
theorem dX8_image_65 : decode cX8_image 65 = .ok (.getfield 137, 3) := by decide +kernel
theorem dX8_image_68 : decode cX8_image 68 = .ok (.aload_n 0, 1) := by decide +kernel
theorem dX8_image_69 : decode cX8_image 69 = .ok (.getfield 110, 3) := by decide +kernel
theorem dX8_image_72 : decode cX8_image 72 = .ok (.invokestatic 403, 3) := by decide +kernel
theorem dX8_image_75 : decode cX8_image 75 = .ok (.aload_n 0, 1) := by decide +kernel
theorem dX8_image_76 : decode cX8_image 76 = .ok (.getfield 140, 3) := by decide +kernel
theorem dX8_image_79 : decode cX8_image 79 = .ok (.aload_n 0, 1) := by decide +kernel
theorem dX8_image_80 : decode cX8_image 80 = .ok (.getfield 113, 3) := by decide +kernel
theorem dX8_image_83 : decode cX8_image 83 = .ok (.invokestatic 403, 3) := by decide +kernel
theorem dX8_image_86 : decode cX8_image 86 = .ok (.aload_n 0, 1) := by decide +kernel
theorem dX8_image_87 : decode cX8_image 87 = .ok (.getfield 143, 3) := by decide +kernel
theorem dX8_image_90 : decode cX8_image 90 = .ok (.aload_n 0, 1) := by decide +kernel
theorem dX8_image_91 : decode cX8_image 91 = .ok (.getfield 116, 3) := by decide +kernel
theorem dX8_image_94 : decode cX8_image 94 = .ok (.invokestatic 403, 3) := by decide +kernel
theorem dX8_image_97 : decode cX8_image 97 = .ok (.aload_n 0, 1) := by decide +kernel
theorem dX8_image_98 : decode cX8_image 98 = .ok (.getfield 146, 3) := by decide +kernel
theorem dX8_image_101 : decode cX8_image 101 = .ok (.aload_n 0, 1) := by decide +kernel
theorem dX8_image_102 : decode cX8_image 102 = .ok (.getfield 63, 3) := by decide +kernel
theorem dX8_image_105 : decode cX8_image 105 = .ok (.invokestatic 403, 3) := by decide +kernel
theorem dX8_image_108 : decode cX8_image 108 = .ok (.return_, 1) := by decide +kernel
theorem dX8_restore_0 : decode cX8_restore 0 = .ok (.aload_n 0, 1) := by decide +kernel
theorem dX8_restore_1 : decode cX8_restore 1 = .ok (.iconst 0, 1) := by decide +kernel
theorem dX8_restore_2 : decode cX8_restore 2 = .ok (.putfield 149, 3) := by decide +kernel
theorem dX8_restore_5 : decode cX8_restore 5 = .ok (.aload_n 0, 1) := by decide +kernel
theorem dX8_restore_6 : decode cX8_restore 6 = .ok (.getfield 298, 3) := by decide +kernel
theorem dX8_restore_9 : decode cX8_restore 9 = .ok (.ifCond .ne 5, 3) := by decide +kernel
theorem dX8_restore_12 : decode cX8_restore 12 = .ok (.iconst 0, 1) := by decide +kernel
theorem dX8_restore_13 : decode cX8_restore 13 = .ok (.ireturn, 1) := by decide +kernel
theorem dX8_restore_14 : decode cX8_restore 14 = .ok (.aload_n 0, 1) := by decide +kernel
theorem dX8_restore_15 : decode cX8_restore 15 = .ok (.aload_n 0, 1) := by decide +kernel
theorem dX8_restore_16 : decode cX8_restore 16 = .ok (.getfield 391, 3) := by decide +kernel
theorem dX8_restore_19 : decode cX8_restore 19 = .ok (.putfield 285, 3) := by decide +kernel
theorem dX8_restore_22 : decode cX8_restore 22 = .ok (.aload_n 0, 1) := by decide +kernel
theorem dX8_restore_23 : decode cX8_restore 23 = .ok (.aload_n 0, 1) := by decide +kernel
theorem dX8_restore_24 : decode cX8_restore 24 = .ok (.getfield 394, 3) := by decide +kernel
theorem dX8_restore_27 : decode cX8_restore 27 = .ok (.putfield 282, 3) := by decide +kernel
theorem dX8_restore_30 : decode cX8_restore 30 = .ok (.aload_n 0, 1) := by decide +kernel
theorem dX8_restore_31 : decode cX8_restore 31 = .ok (.aload_n 0, 1) := by decide +kernel
theorem dX8_restore_32 : decode cX8_restore 32 = .ok (.getfield 397, 3) := by decide +kernel
theorem dX8_restore_35 : decode cX8_restore 35 = .ok (.putfield 362, 3) := by decide +kernel
theorem dX8_restore_38 : decode cX8_restore 38 = .ok (.aload_n 0, 1) := by decide +kernel
theorem dX8_restore_39 : decode cX8_restore 39 = .ok (.aload_n 0, 1) := by decide +kernel
theorem dX8_restore_40 : decode cX8_restore 40 = .ok (.getfield 400, 3) := by decide +kernel
theorem dX8_restore_43 : decode cX8_restore 43 = .ok (.putfield 292, 3) := by decide +kernel
theorem dX8_restore_46 : decode cX8_restore 46 = .ok (.aload_n 0, 1) := by decide +kernel
theorem dX8_restore_47 : decode cX8_restore 47 = .ok (.iconst 0, 1) := by decide +kernel
theorem dX8_restore_48 : decode cX8_restore 48 = .ok (.putfield 289, 3) := by decide +kernel
theorem dX8_restore_51 : decode cX8_restore 51 = .ok (.aload_n 0, 1) := by decide +kernel
theorem dX8_restore_52 : decode cX8_restore 52 = .ok (.getfield 73, 3) := by decide +kernel
theorem dX8_restore_55 : decode cX8_restore 55 = .ok (.aload_n 0, 1) := by decide +kernel
theorem dX8_restore_56 : decode cX8_restore 56 = .ok (.getfield 131, 3) := by decide +kernel
theorem dX8_restore_59 : decode cX8_restore 59 = .ok (.invokestatic 403, 3) := by decide +kernel
theorem dX8_restore_62 : decode cX8_restore 62 = .ok (.aload_n 0, 1) := by decide +kernel
theorem dX8_restore_63 : decode cX8_restore 63 = .ok (.getfield 76, 3) := by decide +kernel
theorem dX8_restore_66 : decode cX8_restore 66 = .ok (.aload_n 0, 1) := by decide +kernel
theorem dX8_restore_67 : decode cX8_restore 67 = .ok (.getfield 134, 3) := by decide +kernel
theorem dX8_restore_70 : decode cX8_restore 70 = .ok (.invokestatic 403, 3) := by decide +kernel
theorem dX8_restore_73 : decode cX8_restore 73 = .ok (.aload_n 0, 1) := by decide +kernel
theorem dX8_restore_74 : decode cX8_restore 74 = .ok (.getfield 110, 3) := by decide +kernel
theorem dX8_restore_77 : decode cX8_restore 77 = .ok (.aload_n 0, 1) := by decide +kernel
theorem dX8_restore_78 : decode cX8_restore 78 = .ok (.getfield 137, 3) := by decide +kernel
theorem dX8_restore_81 : decode cX8_restore 81 = .ok (.invokestatic 403, 3) := by decide +kernel
theorem dX8_restore_84 : decode cX8_restore 84 = .ok (.aload_n 0, 1) := by decide +kernel
theorem dX8_restore_85 : decode cX8_restore 85 = .ok (.getfield 113, 3) := by decide +kernel
theorem dX8_restore_88 : decode cX8_restore 88 = .ok (.aload_n 0, 1) := by decide +kernel
theorem dX8_restore_89 : decode cX8_restore 89 = .ok (.getfield 140, 3) := by decide +kernel
theorem dX8_restore_92 : decode cX8_restore 92 = .ok (.invokestatic 403, 3) := by decide +kernel
theorem dX8_restore_95 : decode cX8_restore 95 = .ok (.aload_n 0, 1) := by decide +kernel
theorem dX8_restore_96 : decode cX8_restore 96 = .ok (.getfield 116, 3) := by decide +kernel
theorem dX8_restore_99 : decode cX8_restore 99 = .ok (.aload_n 0, 1) := by decide +kernel
theorem dX8_restore_100 : decode cX8_restore 100 = .ok (.getfield 143, 3) := by decide +kernel
theorem dX8_restore_103 : decode cX8_restore 103 = .ok (.invokestatic 403, 3) := by decide +kernel
theorem dX8_restore_106 : decode cX8_restore 106 = .ok (.aload_n 0, 1) := by decide +kernel
theorem dX8_restore_107 : decode cX8_restore 107 = .ok (.getfield 63, 3) := by decide +kernel
theorem dX8_restore_110 : decode cX8_restore 110 = .ok (.aload_n 0, 1) := by decide +kernel
theorem dX8_restore_111 : decode cX8_restore 111 = .ok (.getfield 146, 3) := by decide +kernel
theorem dX8_restore_114 : decode cX8_restore 114 = .ok (.invokestatic 403, 3) := by decide +kernel
theorem dX8_restore_117 : decode cX8_restore 117 = .ok (.iconst 1, 1) := by decide +kernel
theorem dX8_restore_118 : decode cX8_restore 118 = .ok (.ireturn, 1) := by decide +kernel
theorem dJ6_bitCount_0f7a4_0 : decode cJ6_bitCount_0f7a4 0 = .ok (.iload_n 0, 1) := by decide +kernel
theorem dJ6_bitCount_0f7a4_1 : decode cJ6_bitCount_0f7a4 1 = .ok (.iload_n 0, 1) := by decide +kernel
theorem dJ6_bitCount_0f7a4_2 : decode cJ6_bitCount_0f7a4 2 = .ok (.iconst 1, 1) := by decide +kernel
theorem dJ6_bitCount_0f7a4_3 : decode cJ6_bitCount_0f7a4 3 = .ok (.iushr, 1) := by decide +kernel
theorem dJ6_bitCount_0f7a4_4 : decode cJ6_bitCount_0f7a4 4 = .ok (.ldc_w 265, 3) := by decide +kernel
theorem dJ6_bitCount_0f7a4_7 : decode cJ6_bitCount_0f7a4 7 = .ok (.iand, 1) := by decide +kernel
theorem dJ6_bitCount_0f7a4_8 : decode cJ6_bitCount_0f7a4 8 = .ok (.isub, 1) := by decide +kernel
theorem dJ6_bitCount_0f7a4_9 : decode cJ6_bitCount_0f7a4 9 = .ok (.istore_n 0, 1) := by decide +kernel
theorem dJ6_bitCount_0f7a4_10 : decode cJ6_bitCount_0f7a4 10 = .ok (.iload_n 0, 1) := by decide +kernel
theorem dJ6_bitCount_0f7a4_11 : decode cJ6_bitCount_0f7a4 11 = .ok (.ldc_w 266, 3) := by decide +kernel
theorem dJ6_bitCount_0f7a4_14 : decode cJ6_bitCount_0f7a4 14 = .ok (.iand, 1) := by decide +kernel
theorem dJ6_bitCount_0f7a4_15 : decode cJ6_bitCount_0f7a4 15 = .ok (.iload_n 0, 1) := by decide +kernel
theorem dJ6_bitCount_0f7a4_16 : decode cJ6_bitCount_0f7a4 16 = .ok (.iconst 2, 1) := by decide +kernel
theorem dJ6_bitCount_0f7a4_17 : decode cJ6_bitCount_0f7a4 17 = .ok (.iushr, 1) := by decide +kernel
theorem dJ6_bitCount_0f7a4_18 : decode cJ6_bitCount_0f7a4 18 = .ok (.ldc_w 266, 3) := by decide +kernel
theorem dJ6_bitCount_0f7a4_21 : decode cJ6_bitCount_0f7a4 21 = .ok (.iand, 1) := by decide +kernel
theorem dJ6_bitCount_0f7a4_22 : decode cJ6_bitCount_0f7a4 22 = .ok (.iadd, 1) := by decide +kernel
theorem dJ6_bitCount_0f7a4_23 : decode cJ6_bitCount_0f7a4 23 = .ok (.istore_n 0, 1) := by decide +kernel
theorem dJ6_bitCount_0f7a4_24 : decode cJ6_bitCount_0f7a4 24 = .ok (.iload_n 0, 1) := by decide +kernel
theorem dJ6_bitCount_0f7a4_25 : decode cJ6_bitCount_0f7a4 25 = .ok (.iload_n 0, 1) := by decide +kernel
theorem dJ6_bitCount_0f7a4_26 : decode cJ6_bitCount_0f7a4 26 = .ok (.iconst 4, 1) := by decide +kernel
theorem dJ6_bitCount_0f7a4_27 : decode cJ6_bitCount_0f7a4 27 = .ok (.iushr, 1) := by decide +kernel
theorem dJ6_bitCount_0f7a4_28 : decode cJ6_bitCount_0f7a4 28 = .ok (.iadd, 1) := by decide +kernel
theorem dJ6_bitCount_0f7a4_29 : decode cJ6_bitCount_0f7a4 29 = .ok (.ldc_w 267, 3) := by decide +kernel
theorem dJ6_bitCount_0f7a4_32 : decode cJ6_bitCount_0f7a4 32 = .ok (.iand, 1) := by decide +kernel
theorem dJ6_bitCount_0f7a4_33 : decode cJ6_bitCount_0f7a4 33 = .ok (.istore_n 0, 1) := by decide +kernel
theorem dJ6_bitCount_0f7a4_34 : decode cJ6_bitCount_0f7a4 34 = .ok (.iload_n 0, 1) := by decide +kernel
theorem dJ6_bitCount_0f7a4_35 : decode cJ6_bitCount_0f7a4 35 = .ok (.iload_n 0, 1) := by decide +kernel
theorem dJ6_bitCount_0f7a4_36 : decode cJ6_bitCount_0f7a4 36 = .ok (.bipush 8, 2) := by decide +kernel
theorem dJ6_bitCount_0f7a4_38 : decode cJ6_bitCount_0f7a4 38 = .ok (.iushr, 1) := by decide +kernel
theorem dJ6_bitCount_0f7a4_39 : decode cJ6_bitCount_0f7a4 39 = .ok (.iadd, 1) := by decide +kernel
theorem dJ6_bitCount_0f7a4_40 : decode cJ6_bitCount_0f7a4 40 = .ok (.istore_n 0, 1) := by decide +kernel
theorem dJ6_bitCount_0f7a4_41 : decode cJ6_bitCount_0f7a4 41 = .ok (.iload_n 0, 1) := by decide +kernel
theorem dJ6_bitCount_0f7a4_42 : decode cJ6_bitCount_0f7a4 42 = .ok (.iload_n 0, 1) := by decide +kernel
theorem dJ6_bitCount_0f7a4_43 : decode cJ6_bitCount_0f7a4 43 = .ok (.bipush 16, 2) := by decide +kernel
theorem dJ6_bitCount_0f7a4_45 : decode cJ6_bitCount_0f7a4 45 = .ok (.iushr, 1) := by decide +kernel
theorem dJ6_bitCount_0f7a4_46 : decode cJ6_bitCount_0f7a4 46 = .ok (.iadd, 1) := by decide +kernel
theorem dJ6_bitCount_0f7a4_47 : decode cJ6_bitCount_0f7a4 47 = .ok (.istore_n 0, 1) := by decide +kernel
theorem dJ6_bitCount_0f7a4_48 : decode cJ6_bitCount_0f7a4 48 = .ok (.iload_n 0, 1) := by decide +kernel
theorem dJ6_bitCount_0f7a4_49 : decode cJ6_bitCount_0f7a4 49 = .ok (.bipush 63, 2) := by decide +kernel
theorem dJ6_bitCount_0f7a4_51 : decode cJ6_bitCount_0f7a4 51 = .ok (.iand, 1) := by decide +kernel
theorem dJ6_bitCount_0f7a4_52 : decode cJ6_bitCount_0f7a4 52 = .ok (.ireturn, 1) := by decide +kernel
theorem dJ9_max_7cf53_0 : decode cJ9_max_7cf53 0 = .ok (.iload_n 0, 1) := by decide +kernel
theorem dJ9_max_7cf53_1 : decode cJ9_max_7cf53 1 = .ok (.iload_n 1, 1) := by decide +kernel
theorem dJ9_max_7cf53_2 : decode cJ9_max_7cf53 2 = .ok (.if_icmp .lt 7, 3) := by decide +kernel
theorem dJ9_max_7cf53_5 : decode cJ9_max_7cf53 5 = .ok (.iload_n 0, 1) := by decide +kernel
theorem dJ9_max_7cf53_6 : decode cJ9_max_7cf53 6 = .ok (.goto 4, 3) := by decide +kernel
theorem dJ9_max_7cf53_9 : decode cJ9_max_7cf53 9 = .ok (.iload_n 1, 1) := by decide +kernel
theorem dJ9_max_7cf53_10 : decode cJ9_max_7cf53 10 = .ok (.ireturn, 1) := by decide +kernel
theorem dJ9_min_7cf53_0 : decode cJ9_min_7cf53 0 = .ok (.iload_n 0, 1) := by decide +kernel
theorem dJ9_min_7cf53_1 : decode cJ9_min_7cf53 1 = .ok (.iload_n 1, 1) := by decide +kernel
theorem dJ9_min_7cf53_2 : decode cJ9_min_7cf53 2 = .ok (.if_icmp .gt 7, 3) := by decide +kernel
theorem dJ9_min_7cf53_5 : decode cJ9_min_7cf53 5 = .ok (.iload_n 0, 1) := by decide +kernel
theorem dJ9_min_7cf53_6 : decode cJ9_min_7cf53 6 = .ok (.goto 4, 3) := by decide +kernel
theorem dJ9_min_7cf53_9 : decode cJ9_min_7cf53 9 = .ok (.iload_n 1, 1) := by decide +kernel
theorem dJ9_min_7cf53_10 : decode cJ9_min_7cf53 10 = .ok (.ireturn, 1) := by decide +kernel
theorem dJ0_length_8abf5_0 : decode cJ0_length_8abf5 0 = .ok (.aload_n 0, 1) := by decide +kernel
theorem dJ0_length_8abf5_1 : decode cJ0_length_8abf5 1 = .ok (.getfield 9, 3) := by decide +kernel
theorem dJ0_length_8abf5_4 : decode cJ0_length_8abf5 4 = .ok (.arraylength, 1) := by decide +kernel
theorem dJ0_length_8abf5_5 : decode cJ0_length_8abf5 5 = .ok (.aload_n 0, 1) := by decide +kernel
theorem dJ0_length_8abf5_6 : decode cJ0_length_8abf5 6 = .ok (.invokevirtual 335, 3) := by decide +kernel
theorem dJ0_length_8abf5_9 : decode cJ0_length_8abf5 9 = .ok (.ishr, 1) := by decide +kernel
theorem dJ0_length_8abf5_10 : decode cJ0_length_8abf5 10 = .ok (.ireturn, 1) := by decide +kernel
theorem dJ0_charAt_5068e_0 : decode cJ0_charAt_5068e 0 = .ok (.aload_n 0, 1) := by decide +kernel
theorem dJ0_charAt_5068e_1 : decode cJ0_charAt_5068e 1 = .ok (.invokevirtual 492, 3) := by decide +kernel
theorem dJ0_charAt_5068e_4 : decode cJ0_charAt_5068e 4 = .ok (.ifCond .eq 12, 3) := by decide +kernel
theorem dJ0_charAt_5068e_7 : decode cJ0_charAt_5068e 7 = .ok (.aload_n 0, 1) := by decide +kernel
theorem dJ0_charAt_5068e_8 : decode cJ0_charAt_5068e 8 = .ok (.getfield 9, 3) := by decide +kernel
theorem dJ0_charAt_5068e_11 : decode cJ0_charAt_5068e 11 = .ok (.iload_n 1, 1) := by decide +kernel
theorem dJ0_charAt_5068e_12 : decode cJ0_charAt_5068e 12 = .ok (.invokestatic 495, 3) := by decide +kernel
theorem dJ0_charAt_5068e_15 : decode cJ0_charAt_5068e 15 = .ok (.ireturn, 1) := by decide +kernel
theorem dJ0_charAt_5068e_16 : decode cJ0_charAt_5068e 16 = .ok (.aload_n 0, 1) := by decide +kernel
theorem dJ0_charAt_5068e_17 : decode cJ0_charAt_5068e 17 = .ok (.getfield 9, 3) := by decide +kernel
theorem dJ0_charAt_5068e_20 : decode cJ0_charAt_5068e 20 = .ok (.iload_n 1, 1) := by decide +kernel
theorem dJ0_charAt_5068e_21 : decode cJ0_charAt_5068e 21 = .ok (.invokestatic 498, 3) := by decide +kernel
theorem dJ0_charAt_5068e_24 : decode cJ0_charAt_5068e 24 = .ok (.ireturn, 1) := by decide +kernel
theorem dJ0_coder_7d493_0 : decode cJ0_coder_7d493 0 = .ok (.getstatic 38, 3) := by decide +kernel
theorem dJ0_coder_7d493_3 : decode cJ0_coder_7d493 3 = .ok (.ifCond .eq 10, 3) := by decide +kernel
theorem dJ0_coder_7d493_6 : decode cJ0_coder_7d493 6 = .ok (.aload_n 0, 1) := by decide +kernel
theorem dJ0_coder_7d493_7 : decode cJ0_coder_7d493 7 = .ok (.getfield 15, 3) := by decide +kernel
theorem dJ0_coder_7d493_10 : decode cJ0_coder_7d493 10 = .ok (.goto 4, 3) := by decide +kernel
theorem dJ0_coder_7d493_13 : decode cJ0_coder_7d493 13 = .ok (.iconst 1, 1) := by decide +kernel
theorem dJ0_coder_7d493_14 : decode cJ0_coder_7d493 14 = .ok (.ireturn, 1) := by decide +kernel
theorem dJ0_isLatin1_aae02_0 : decode cJ0_isLatin1_aae02 0 = .ok (.getstatic 38, 3) := by decide +kernel
theorem dJ0_isLatin1_aae02_3 : decode cJ0_isLatin1_aae02 3 = .ok (.ifCond .eq 14, 3) := by decide +kernel
theorem dJ0_isLatin1_aae02_6 : decode cJ0_isLatin1_aae02 6 = .ok (.aload_n 0, 1) := by decide +kernel
theorem dJ0_isLatin1_aae02_7 : decode cJ0_isLatin1_aae02 7 = .ok (.getfield 15, 3) := by decide +kernel
theorem dJ0_isLatin1_aae02_10 : decode cJ0_isLatin1_aae02 10 = .ok (.ifCond .ne 7, 3) := by decide +kernel
theorem dJ0_isLatin1_aae02_13 : decode cJ0_isLatin1_aae02 13 = .ok (.iconst 1, 1) := by decide +kernel
theorem dJ0_isLatin1_aae02_14 : decode cJ0_isLatin1_aae02 14 = .ok (.goto 4, 3) := by decide +kernel
theorem dJ0_isLatin1_aae02_17 : decode cJ0_isLatin1_aae02 17 = .ok (.iconst 0, 1) := by decide +kernel
theorem dJ0_isLatin1_aae02_18 : decode cJ0_isLatin1_aae02 18 = .ok (.ireturn, 1) := by decide +kernel
theorem dJ0_checkIndex_df160_0 : decode cJ0_checkIndex_df160 0 = .ok (.iload_n 0, 1) := by decide +kernel
theorem dJ0_checkIndex_df160_1 : decode cJ0_checkIndex_df160 1 = .ok (.iload_n 1, 1) := by decide +kernel
theorem dJ0_checkIndex_df160_2 : decode cJ0_checkIndex_df160 2 = .ok (.getstatic 1053, 3) := by decide +kernel
theorem dJ0_checkIndex_df160_5 : decode cJ0_checkIndex_df160 5 = .ok (.invokestatic 1059, 3) := by decide +kernel
theorem dJ0_checkIndex_df160_8 : decode cJ0_checkIndex_df160 8 = .ok (.pop, 1) := by decide +kernel
theorem dJ0_checkIndex_df160_9 : decode cJ0_checkIndex_df160 9 = .ok (.return_, 1) := by decide +kernel
theorem dJ1_charAt_3b067_0 : decode cJ1_charAt_3b067 0 = .ok (.iload_n 1, 1) := by decide +kernel
theorem dJ1_charAt_3b067_1 : decode cJ1_charAt_3b067 1 = .ok (.aload_n 0, 1) := by decide +kernel
theorem dJ1_charAt_3b067_2 : decode cJ1_charAt_3b067 2 = .ok (.arraylength, 1) := by decide +kernel
theorem dJ1_charAt_3b067_3 : decode cJ1_charAt_3b067 3 = .ok (.invokestatic 9, 3) := by decide +kernel
theorem dJ1_charAt_3b067_6 : decode cJ1_charAt_3b067 6 = .ok (.aload_n 0, 1) := by decide +kernel
theorem dJ1_charAt_3b067_7 : decode cJ1_charAt_3b067 7 = .ok (.iload_n 1, 1) := by decide +kernel
theorem dJ1_charAt_3b067_8 : decode cJ1_charAt_3b067 8 = .ok (.baload, 1) := by decide +kernel
theorem dJ1_charAt_3b067_9 : decode cJ1_charAt_3b067 9 = .ok (.sipush 255, 3) := by decide +kernel
theorem dJ1_charAt_3b067_12 : decode cJ1_charAt_3b067 12 = .ok (.iand, 1) := by decide +kernel
theorem dJ1_charAt_3b067_13 : decode cJ1_charAt_3b067 13 = .ok (.i2c, 1) := by decide +kernel
theorem dJ1_charAt_3b067_14 : decode cJ1_charAt_3b067 14 = .ok (.ireturn, 1) := by decide +kernel
theorem dJ2_getChar_3b067_0 : decode cJ2_getChar_3b067 0 = .ok (.getstatic 44, 3) := by decide +kernel
theorem dJ2_getChar_3b067_3 : decode cJ2_getChar_3b067 3 = .ok (.ifCond .ne 25, 3) := by decide +kernel
theorem dJ2_getChar_3b067_6 : decode cJ2_getChar_3b067 6 = .ok (.iload_n 1, 1) := by decide +kernel
theorem dJ2_getChar_3b067_7 : decode cJ2_getChar_3b067 7 = .ok (.ifCond .lt 11, 3) := by decide +kernel
theorem dJ2_getChar_3b067_10 : decode cJ2_getChar_3b067 10 = .ok (.iload_n 1, 1) := by decide +kernel
theorem dJ2_getChar_3b067_11 : decode cJ2_getChar_3b067 11 = .ok (.aload_n 0, 1) := by decide +kernel
theorem dJ2_getChar_3b067_12 : decode cJ2_getChar_3b067 12 = .ok (.invokestatic 48, 3) := by decide +kernel
theorem dJ2_getChar_3b067_15 : decode cJ2_getChar_3b067 15 = .ok (.if_icmp .lt 13, 3) := by decide +kernel
theorem dJ2_getChar_3b067_18 : decode cJ2_getChar_3b067 18 = .ok (.new 52, 3) := by decide +kernel
theorem dJ2_getChar_3b067_21 : decode cJ2_getChar_3b067 21 = .ok (.dup, 1) := by decide +kernel
theorem dJ2_getChar_3b067_22 : decode cJ2_getChar_3b067 22 = .ok (.ldc 54, 2) := by decide +kernel
theorem dJ2_getChar_3b067_24 : decode cJ2_getChar_3b067 24 = .ok (.invokespecial 56, 3) := by decide +kernel
theorem dJ2_getChar_3b067_27 : decode cJ2_getChar_3b067 27 = .ok (.athrow, 1) := by decide +kernel
theorem dJ2_getChar_3b067_28 : decode cJ2_getChar_3b067 28 = .ok (.iload_n 1, 1) := by decide +kernel
theorem dJ2_getChar_3b067_29 : decode cJ2_getChar_3b067 29 = .ok (.iconst 1, 1) := by decide +kernel
theorem dJ2_getChar_3b067_30 : decode cJ2_getChar_3b067 30 = .ok (.ishl, 1) := by decide +kernel
theorem dJ2_getChar_3b067_31 : decode cJ2_getChar_3b067 31 = .ok (.istore_n 1, 1) := by decide +kernel
theorem dJ2_getChar_3b067_32 : decode cJ2_getChar_3b067 32 = .ok (.aload_n 0, 1) := by decide +kernel
theorem dJ2_getChar_3b067_33 : decode cJ2_getChar_3b067 33 = .ok (.iload_n 1, 1) := by decide +kernel
theorem dJ2_getChar_3b067_34 : decode cJ2_getChar_3b067 34 = .ok (.iinc 1 1, 3) := by decide +kernel
theorem dJ2_getChar_3b067_37 : decode cJ2_getChar_3b067 37 = .ok (.baload, 1) := by decide +kernel
theorem dJ2_getChar_3b067_38 : decode cJ2_getChar_3b067 38 = .ok (.sipush 255, 3) := by decide +kernel
theorem dJ2_getChar_3b067_41 : decode cJ2_getChar_3b067 41 = .ok (.iand, 1) := by decide +kernel
theorem dJ2_getChar_3b067_42 : decode cJ2_getChar_3b067 42 = .ok (.getstatic 59, 3) := by decide +kernel
theorem dJ2_getChar_3b067_45 : decode cJ2_getChar_3b067 45 = .ok (.ishl, 1) := by decide +kernel
theorem dJ2_getChar_3b067_46 : decode cJ2_getChar_3b067 46 = .ok (.aload_n 0, 1) := by decide +kernel
theorem dJ2_getChar_3b067_47 : decode cJ2_getChar_3b067 47 = .ok (.iload_n 1, 1) := by decide +kernel
theorem dJ2_getChar_3b067_48 : decode cJ2_getChar_3b067 48 = .ok (.baload, 1) := by decide +kernel
theorem dJ2_getChar_3b067_49 : decode cJ2_getChar_3b067 49 = .ok (.sipush 255, 3) := by decide +kernel
theorem dJ2_getChar_3b067_52 : decode cJ2_getChar_3b067 52 = .ok (.iand, 1) := by decide +kernel
theorem dJ2_getChar_3b067_53 : decode cJ2_getChar_3b067 53 = .ok (.getstatic 63, 3) := by decide +kernel
theorem dJ2_getChar_3b067_56 : decode cJ2_getChar_3b067 56 = .ok (.ishl, 1) := by decide +kernel
theorem dJ2_getChar_3b067_57 : decode cJ2_getChar_3b067 57 = .ok (.ior, 1) := by decide +kernel
theorem dJ2_getChar_3b067_58 : decode cJ2_getChar_3b067 58 = .ok (.i2c, 1) := by decide +kernel
theorem dJ2_getChar_3b067_59 : decode cJ2_getChar_3b067 59 = .ok (.ireturn, 1) := by decide +kernel
theorem dJ2_length_9d52b_0 : decode cJ2_length_9d52b 0 = .ok (.aload_n 0, 1) := by decide +kernel
theorem dJ2_length_9d52b_1 : decode cJ2_length_9d52b 1 = .ok (.arraylength, 1) := by decide +kernel
theorem dJ2_length_9d52b_2 : decode cJ2_length_9d52b 2 = .ok (.iconst 1, 1) := by decide +kernel
theorem dJ2_length_9d52b_3 : decode cJ2_length_9d52b 3 = .ok (.ishr, 1) := by decide +kernel
theorem dJ2_length_9d52b_4 : decode cJ2_length_9d52b 4 = .ok (.ireturn, 1) := by decide +kernel
theorem dJ2_charAt_3b067_0 : decode cJ2_charAt_3b067 0 = .ok (.iload_n 1, 1) := by decide +kernel
theorem dJ2_charAt_3b067_1 : decode cJ2_charAt_3b067 1 = .ok (.aload_n 0, 1) := by decide +kernel
theorem dJ2_charAt_3b067_2 : decode cJ2_charAt_3b067 2 = .ok (.invokestatic 67, 3) := by decide +kernel
theorem dJ2_charAt_3b067_5 : decode cJ2_charAt_3b067 5 = .ok (.aload_n 0, 1) := by decide +kernel
theorem dJ2_charAt_3b067_6 : decode cJ2_charAt_3b067 6 = .ok (.iload_n 1, 1) := by decide +kernel
theorem dJ2_charAt_3b067_7 : decode cJ2_charAt_3b067 7 = .ok (.invokestatic 71, 3) := by decide +kernel
theorem dJ2_charAt_3b067_10 : decode cJ2_charAt_3b067 10 = .ok (.ireturn, 1) := by decide +kernel
theorem dJ2_checkIndex_2214a_0 : decode cJ2_checkIndex_2214a 0 = .ok (.iload_n 0, 1) := by decide +kernel
theorem dJ2_checkIndex_2214a_1 : decode cJ2_checkIndex_2214a 1 = .ok (.aload_n 1, 1) := by decide +kernel
theorem dJ2_checkIndex_2214a_2 : decode cJ2_checkIndex_2214a 2 = .ok (.invokestatic 48, 3) := by decide +kernel
theorem dJ2_checkIndex_2214a_5 : decode cJ2_checkIndex_2214a 5 = .ok (.invokestatic 414, 3) := by decide +kernel
theorem dJ2_checkIndex_2214a_8 : decode cJ2_checkIndex_2214a 8 = .ok (.return_, 1) := by decide +kernel
theorem dJ7_fill_53178_0 : decode cJ7_fill_53178 0 = .ok (.iconst 0, 1) := by decide +kernel
theorem dJ7_fill_53178_1 : decode cJ7_fill_53178 1 = .ok (.istore_n 2, 1) := by decide +kernel
theorem dJ7_fill_53178_2 : decode cJ7_fill_53178 2 = .ok (.aload_n 0, 1) := by decide +kernel
theorem dJ7_fill_53178_3 : decode cJ7_fill_53178 3 = .ok (.arraylength, 1) := by decide +kernel
theorem dJ7_fill_53178_4 : decode cJ7_fill_53178 4 = .ok (.istore_n 3, 1) := by decide +kernel
theorem dJ7_fill_53178_5 : decode cJ7_fill_53178 5 = .ok (.iload_n 2, 1) := by decide +kernel
theorem dJ7_fill_53178_6 : decode cJ7_fill_53178 6 = .ok (.iload_n 3, 1) := by decide +kernel
theorem dJ7_fill_53178_7 : decode cJ7_fill_53178 7 = .ok (.if_icmp .ge 13, 3) := by decide +kernel
theorem dJ7_fill_53178_10 : decode cJ7_fill_53178 10 = .ok (.aload_n 0, 1) := by decide +kernel
theorem dJ7_fill_53178_11 : decode cJ7_fill_53178 11 = .ok (.iload_n 2, 1) := by decide +kernel
theorem dJ7_fill_53178_12 : decode cJ7_fill_53178 12 = .ok (.iload_n 1, 1) := by decide +kernel
theorem dJ7_fill_53178_13 : decode cJ7_fill_53178 13 = .ok (.iastore, 1) := by decide +kernel
theorem dJ7_fill_53178_14 : decode cJ7_fill_53178 14 = .ok (.iinc 2 1, 3) := by decide +kernel
theorem dJ7_fill_53178_17 : decode cJ7_fill_53178 17 = .ok (.goto (-12), 3) := by decide +kernel
theorem dJ7_fill_53178_20 : decode cJ7_fill_53178 20 = .ok (.return_, 1) := by decide +kernel
theorem dJ3_checkIndex_8e157_0 : decode cJ3_checkIndex_8e157 0 = .ok (.iload_n 0, 1) := by decide +kernel
theorem dJ3_checkIndex_8e157_1 : decode cJ3_checkIndex_8e157 1 = .ok (.ifCond .lt 8, 3) := by decide +kernel
theorem dJ3_checkIndex_8e157_4 : decode cJ3_checkIndex_8e157 4 = .ok (.iload_n 0, 1) := by decide +kernel
theorem dJ3_checkIndex_8e157_5 : decode cJ3_checkIndex_8e157 5 = .ok (.iload_n 1, 1) := by decide +kernel
theorem dJ3_checkIndex_8e157_6 : decode cJ3_checkIndex_8e157 6 = .ok (.if_icmp .lt 10, 3) := by decide +kernel
theorem dJ3_checkIndex_8e157_9 : decode cJ3_checkIndex_8e157 9 = .ok (.aload_n 2, 1) := by decide +kernel
theorem dJ3_checkIndex_8e157_10 : decode cJ3_checkIndex_8e157 10 = .ok (.iload_n 0, 1) := by decide +kernel
theorem dJ3_checkIndex_8e157_11 : decode cJ3_checkIndex_8e157 11 = .ok (.iload_n 1, 1) := by decide +kernel
theorem dJ3_checkIndex_8e157_12 : decode cJ3_checkIndex_8e157 12 = .ok (.invokestatic 95, 3) := by decide +kernel
theorem dJ3_checkIndex_8e157_15 : decode cJ3_checkIndex_8e157 15 = .ok (.athrow, 1) := by decide +kernel
theorem dJ3_checkIndex_8e157_16 : decode cJ3_checkIndex_8e157 16 = .ok (.iload_n 0, 1) := by decide +kernel
theorem dJ3_checkIndex_8e157_17 : decode cJ3_checkIndex_8e157 17 = .ok (.ireturn, 1) := by decide +kernel
theorem dL_told_0 : decode cL_told 0 = .ok (.aload_n 2, 1) := by decide +kernel
theorem dL_told_1 : decode cL_told 1 = .ok (.iconst 0, 1) := by decide +kernel
theorem dL_told_2 : decode cL_told 2 = .ok (.aload_n 0, 1) := by decide +kernel
theorem dL_told_3 : decode cL_told 3 = .ok (.iload_n 1, 1) := by decide +kernel
theorem dL_told_4 : decode cL_told 4 = .ok (.invokevirtual 7, 3) := by decide +kernel
theorem dL_told_7 : decode cL_told 7 = .ok (.i2l, 1) := by decide +kernel
theorem dL_told_8 : decode cL_told 8 = .ok (.lastore, 1) := by decide +kernel
theorem dL_told_9 : decode cL_told 9 = .ok (.goto 6, 3) := by decide +kernel
theorem dL_told_12 : decode cL_told 12 = .ok (.astore_n 3, 1) := by decide +kernel
theorem dL_told_13 : decode cL_told 13 = .ok (.iconst 1, 1) := by decide +kernel
theorem dL_told_14 : decode cL_told 14 = .ok (.ireturn, 1) := by decide +kernel
theorem dL_told_15 : decode cL_told 15 = .ok (.iconst 0, 1) := by decide +kernel
theorem dL_told_16 : decode cL_told 16 = .ok (.ireturn, 1) := by decide +kernel
theorem dL_count_0 : decode cL_count 0 = .ok (.aload_n 2, 1) := by decide +kernel
theorem dL_count_1 : decode cL_count 1 = .ok (.iconst 0, 1) := by decide +kernel
theorem dL_count_2 : decode cL_count 2 = .ok (.aload_n 0, 1) := by decide +kernel
theorem dL_count_3 : decode cL_count 3 = .ok (.iload_n 1, 1) := by decide +kernel
theorem dL_count_4 : decode cL_count 4 = .ok (.invokevirtual 15, 3) := by decide +kernel
theorem dL_count_7 : decode cL_count 7 = .ok (.i2l, 1) := by decide +kernel
theorem dL_count_8 : decode cL_count 8 = .ok (.lastore, 1) := by decide +kernel
theorem dL_count_9 : decode cL_count 9 = .ok (.goto 6, 3) := by decide +kernel
theorem dL_count_12 : decode cL_count 12 = .ok (.astore_n 3, 1) := by decide +kernel
theorem dL_count_13 : decode cL_count 13 = .ok (.iconst 1, 1) := by decide +kernel
theorem dL_count_14 : decode cL_count 14 = .ok (.ireturn, 1) := by decide +kernel
theorem dL_count_15 : decode cL_count 15 = .ok (.iconst 0, 1) := by decide +kernel
theorem dL_count_16 : decode cL_count 16 = .ok (.ireturn, 1) := by decide +kernel
theorem dL_town_0 : decode cL_town 0 = .ok (.aload_n 3, 1) := by decide +kernel
theorem dL_town_1 : decode cL_town 1 = .ok (.iconst 0, 1) := by decide +kernel
theorem dL_town_2 : decode cL_town 2 = .ok (.aload_n 0, 1) := by decide +kernel
theorem dL_town_3 : decode cL_town 3 = .ok (.iload_n 1, 1) := by decide +kernel
theorem dL_town_4 : decode cL_town 4 = .ok (.iload_n 2, 1) := by decide +kernel
theorem dL_town_5 : decode cL_town 5 = .ok (.invokevirtual 20, 3) := by decide +kernel
theorem dL_town_8 : decode cL_town 8 = .ok (.i2l, 1) := by decide +kernel
theorem dL_town_9 : decode cL_town 9 = .ok (.lastore, 1) := by decide +kernel
theorem dL_town_10 : decode cL_town 10 = .ok (.goto 7, 3) := by decide +kernel
theorem dL_town_13 : decode cL_town 13 = .ok (.astore 4, 2) := by decide +kernel
theorem dL_town_15 : decode cL_town 15 = .ok (.iconst 1, 1) := by decide +kernel
theorem dL_town_16 : decode cL_town 16 = .ok (.ireturn, 1) := by decide +kernel
theorem dL_town_17 : decode cL_town 17 = .ok (.iconst 0, 1) := by decide +kernel
theorem dL_town_18 : decode cL_town 18 = .ok (.ireturn, 1) := by decide +kernel
theorem dL_trunk_0 : decode cL_trunk 0 = .ok (.aload_n 3, 1) := by decide +kernel
theorem dL_trunk_1 : decode cL_trunk 1 = .ok (.iconst 0, 1) := by decide +kernel
theorem dL_trunk_2 : decode cL_trunk 2 = .ok (.aload_n 0, 1) := by decide +kernel
theorem dL_trunk_3 : decode cL_trunk 3 = .ok (.iload_n 1, 1) := by decide +kernel
theorem dL_trunk_4 : decode cL_trunk 4 = .ok (.iload_n 2, 1) := by decide +kernel
theorem dL_trunk_5 : decode cL_trunk 5 = .ok (.invokevirtual 24, 3) := by decide +kernel
theorem dL_trunk_8 : decode cL_trunk 8 = .ok (.i2l, 1) := by decide +kernel
theorem dL_trunk_9 : decode cL_trunk 9 = .ok (.lastore, 1) := by decide +kernel
theorem dL_trunk_10 : decode cL_trunk 10 = .ok (.goto 7, 3) := by decide +kernel
theorem dL_trunk_13 : decode cL_trunk 13 = .ok (.astore 4, 2) := by decide +kernel
theorem dL_trunk_15 : decode cL_trunk 15 = .ok (.iconst 1, 1) := by decide +kernel
theorem dL_trunk_16 : decode cL_trunk 16 = .ok (.ireturn, 1) := by decide +kernel
theorem dL_trunk_17 : decode cL_trunk 17 = .ok (.iconst 0, 1) := by decide +kernel
theorem dL_trunk_18 : decode cL_trunk 18 = .ok (.ireturn, 1) := by decide +kernel
theorem dL_way_0 : decode cL_way 0 = .ok (.aload_n 3, 1) := by decide +kernel
theorem dL_way_1 : decode cL_way 1 = .ok (.iconst 0, 1) := by decide +kernel
theorem dL_way_2 : decode cL_way 2 = .ok (.aload_n 0, 1) := by decide +kernel
theorem dL_way_3 : decode cL_way 3 = .ok (.iload_n 1, 1) := by decide +kernel
theorem dL_way_4 : decode cL_way 4 = .ok (.iload_n 2, 1) := by decide +kernel
theorem dL_way_5 : decode cL_way 5 = .ok (.invokevirtual 27, 3) := by decide +kernel
theorem dL_way_8 : decode cL_way 8 = .ok (.i2l, 1) := by decide +kernel
theorem dL_way_9 : decode cL_way 9 = .ok (.lastore, 1) := by decide +kernel
theorem dL_way_10 : decode cL_way 10 = .ok (.goto 7, 3) := by decide +kernel
theorem dL_way_13 : decode cL_way 13 = .ok (.astore 4, 2) := by decide +kernel
theorem dL_way_15 : decode cL_way 15 = .ok (.iconst 1, 1) := by decide +kernel
theorem dL_way_16 : decode cL_way 16 = .ok (.ireturn, 1) := by decide +kernel
theorem dL_way_17 : decode cL_way 17 = .ok (.iconst 0, 1) := by decide +kernel
theorem dL_way_18 : decode cL_way 18 = .ok (.ireturn, 1) := by decide +kernel
theorem dL_price_0 : decode cL_price 0 = .ok (.aload 4, 2) := by decide +kernel
theorem dL_price_2 : decode cL_price 2 = .ok (.iconst 0, 1) := by decide +kernel
theorem dL_price_3 : decode cL_price 3 = .ok (.aload_n 0, 1) := by decide +kernel
theorem dL_price_4 : decode cL_price 4 = .ok (.iload_n 1, 1) := by decide +kernel
theorem dL_price_5 : decode cL_price 5 = .ok (.iload_n 2, 1) := by decide +kernel
theorem dL_price_6 : decode cL_price 6 = .ok (.iload_n 3, 1) := by decide +kernel
theorem dL_price_7 : decode cL_price 7 = .ok (.invokevirtual 30, 3) := by decide +kernel
theorem dL_price_10 : decode cL_price 10 = .ok (.i2l, 1) := by decide +kernel
theorem dL_price_11 : decode cL_price 11 = .ok (.lastore, 1) := by decide +kernel
theorem dL_price_12 : decode cL_price 12 = .ok (.goto 11, 3) := by decide +kernel
theorem dL_price_15 : decode cL_price 15 = .ok (.astore 5, 2) := by decide +kernel
theorem dL_price_17 : decode cL_price 17 = .ok (.iconst 1, 1) := by decide +kernel
theorem dL_price_18 : decode cL_price 18 = .ok (.ireturn, 1) := by decide +kernel
theorem dL_price_19 : decode cL_price 19 = .ok (.astore 5, 2) := by decide +kernel
theorem dL_price_21 : decode cL_price 21 = .ok (.iconst 2, 1) := by decide +kernel
theorem dL_price_22 : decode cL_price 22 = .ok (.ireturn, 1) := by decide +kernel
theorem dL_price_23 : decode cL_price 23 = .ok (.iconst 0, 1) := by decide +kernel
theorem dL_price_24 : decode cL_price 24 = .ok (.ireturn, 1) := by decide +kernel
theorem dL_filled_0 : decode cL_filled 0 = .ok (.aload 4, 2) := by decide +kernel
theorem dL_filled_2 : decode cL_filled 2 = .ok (.iconst 0, 1) := by decide +kernel
theorem dL_filled_3 : decode cL_filled 3 = .ok (.aload_n 0, 1) := by decide +kernel
theorem dL_filled_4 : decode cL_filled 4 = .ok (.iload_n 1, 1) := by decide +kernel
theorem dL_filled_5 : decode cL_filled 5 = .ok (.iload_n 2, 1) := by decide +kernel
theorem dL_filled_6 : decode cL_filled 6 = .ok (.iload_n 3, 1) := by decide +kernel
theorem dL_filled_7 : decode cL_filled 7 = .ok (.invokevirtual 34, 3) := by decide +kernel
theorem dL_filled_10 : decode cL_filled 10 = .ok (.i2l, 1) := by decide +kernel
theorem dL_filled_11 : decode cL_filled 11 = .ok (.lastore, 1) := by decide +kernel
theorem dL_filled_12 : decode cL_filled 12 = .ok (.goto 7, 3) := by decide +kernel
theorem dL_filled_15 : decode cL_filled 15 = .ok (.astore 5, 2) := by decide +kernel
theorem dL_filled_17 : decode cL_filled 17 = .ok (.iconst 1, 1) := by decide +kernel
theorem dL_filled_18 : decode cL_filled 18 = .ok (.ireturn, 1) := by decide +kernel
theorem dL_filled_19 : decode cL_filled 19 = .ok (.iconst 0, 1) := by decide +kernel
theorem dL_filled_20 : decode cL_filled 20 = .ok (.ireturn, 1) := by decide +kernel
theorem dL_tonight_0 : decode cL_tonight 0 = .ok (.aload_n 3, 1) := by decide +kernel
theorem dL_tonight_1 : decode cL_tonight 1 = .ok (.iconst 0, 1) := by decide +kernel
theorem dL_tonight_2 : decode cL_tonight 2 = .ok (.aload_n 0, 1) := by decide +kernel
theorem dL_tonight_3 : decode cL_tonight 3 = .ok (.iload_n 1, 1) := by decide +kernel
theorem dL_tonight_4 : decode cL_tonight 4 = .ok (.iload_n 2, 1) := by decide +kernel
theorem dL_tonight_5 : decode cL_tonight 5 = .ok (.invokevirtual 37, 3) := by decide +kernel
theorem dL_tonight_8 : decode cL_tonight 8 = .ok (.i2l, 1) := by decide +kernel
theorem dL_tonight_9 : decode cL_tonight 9 = .ok (.lastore, 1) := by decide +kernel
theorem dL_tonight_10 : decode cL_tonight 10 = .ok (.goto 7, 3) := by decide +kernel
theorem dL_tonight_13 : decode cL_tonight 13 = .ok (.astore 4, 2) := by decide +kernel
theorem dL_tonight_15 : decode cL_tonight 15 = .ok (.iconst 1, 1) := by decide +kernel
theorem dL_tonight_16 : decode cL_tonight 16 = .ok (.ireturn, 1) := by decide +kernel
theorem dL_tonight_17 : decode cL_tonight 17 = .ok (.iconst 0, 1) := by decide +kernel
theorem dL_tonight_18 : decode cL_tonight 18 = .ok (.ireturn, 1) := by decide +kernel
theorem dL_both_0 : decode cL_both 0 = .ok (.aload 4, 2) := by decide +kernel
theorem dL_both_2 : decode cL_both 2 = .ok (.iconst 0, 1) := by decide +kernel
theorem dL_both_3 : decode cL_both 3 = .ok (.aload_n 0, 1) := by decide +kernel
theorem dL_both_4 : decode cL_both 4 = .ok (.iload_n 1, 1) := by decide +kernel
theorem dL_both_5 : decode cL_both 5 = .ok (.iload_n 2, 1) := by decide +kernel
theorem dL_both_6 : decode cL_both 6 = .ok (.iload_n 3, 1) := by decide +kernel
theorem dL_both_7 : decode cL_both 7 = .ok (.invokevirtual 40, 3) := by decide +kernel
theorem dL_both_10 : decode cL_both 10 = .ok (.i2l, 1) := by decide +kernel
theorem dL_both_11 : decode cL_both 11 = .ok (.lastore, 1) := by decide +kernel
theorem dL_both_12 : decode cL_both 12 = .ok (.goto 7, 3) := by decide +kernel
theorem dL_both_15 : decode cL_both 15 = .ok (.astore 5, 2) := by decide +kernel
theorem dL_both_17 : decode cL_both 17 = .ok (.iconst 1, 1) := by decide +kernel
theorem dL_both_18 : decode cL_both 18 = .ok (.ireturn, 1) := by decide +kernel
theorem dL_both_19 : decode cL_both 19 = .ok (.iconst 0, 1) := by decide +kernel
theorem dL_both_20 : decode cL_both 20 = .ok (.ireturn, 1) := by decide +kernel
theorem dL_send_0 : decode cL_send 0 = .ok (.aload_n 3, 1) := by decide +kernel
theorem dL_send_1 : decode cL_send 1 = .ok (.iconst 0, 1) := by decide +kernel
theorem dL_send_2 : decode cL_send 2 = .ok (.aload_n 0, 1) := by decide +kernel
theorem dL_send_3 : decode cL_send 3 = .ok (.iload_n 1, 1) := by decide +kernel
theorem dL_send_4 : decode cL_send 4 = .ok (.iload_n 2, 1) := by decide +kernel
theorem dL_send_5 : decode cL_send 5 = .ok (.invokevirtual 43, 3) := by decide +kernel
theorem dL_send_8 : decode cL_send 8 = .ok (.i2l, 1) := by decide +kernel
theorem dL_send_9 : decode cL_send 9 = .ok (.lastore, 1) := by decide +kernel
theorem dL_send_10 : decode cL_send 10 = .ok (.goto 7, 3) := by decide +kernel
theorem dL_send_13 : decode cL_send 13 = .ok (.astore 4, 2) := by decide +kernel
theorem dL_send_15 : decode cL_send 15 = .ok (.iconst 1, 1) := by decide +kernel
theorem dL_send_16 : decode cL_send 16 = .ok (.ireturn, 1) := by decide +kernel
theorem dL_send_17 : decode cL_send 17 = .ok (.iconst 0, 1) := by decide +kernel
theorem dL_send_18 : decode cL_send 18 = .ok (.ireturn, 1) := by decide +kernel
theorem dL_days_0 : decode cL_days 0 = .ok (.aload_n 2, 1) := by decide +kernel
theorem dL_days_1 : decode cL_days 1 = .ok (.iconst 0, 1) := by decide +kernel
theorem dL_days_2 : decode cL_days 2 = .ok (.aload_n 0, 1) := by decide +kernel
theorem dL_days_3 : decode cL_days 3 = .ok (.iload_n 1, 1) := by decide +kernel
theorem dL_days_4 : decode cL_days 4 = .ok (.invokevirtual 46, 3) := by decide +kernel
theorem dL_days_7 : decode cL_days 7 = .ok (.i2l, 1) := by decide +kernel
theorem dL_days_8 : decode cL_days 8 = .ok (.lastore, 1) := by decide +kernel
theorem dL_days_9 : decode cL_days 9 = .ok (.goto 6, 3) := by decide +kernel
theorem dL_days_12 : decode cL_days 12 = .ok (.astore_n 3, 1) := by decide +kernel
theorem dL_days_13 : decode cL_days 13 = .ok (.iconst 1, 1) := by decide +kernel
theorem dL_days_14 : decode cL_days 14 = .ok (.ireturn, 1) := by decide +kernel
theorem dL_days_15 : decode cL_days 15 = .ok (.iconst 0, 1) := by decide +kernel
theorem dL_days_16 : decode cL_days 16 = .ok (.ireturn, 1) := by decide +kernel
theorem dL_clerk_0 : decode cL_clerk 0 = .ok (.aload 4, 2) := by decide +kernel
theorem dL_clerk_2 : decode cL_clerk 2 = .ok (.iconst 0, 1) := by decide +kernel
theorem dL_clerk_3 : decode cL_clerk 3 = .ok (.aload_n 0, 1) := by decide +kernel
theorem dL_clerk_4 : decode cL_clerk 4 = .ok (.iload_n 1, 1) := by decide +kernel
theorem dL_clerk_5 : decode cL_clerk 5 = .ok (.iload_n 2, 1) := by decide +kernel
theorem dL_clerk_6 : decode cL_clerk 6 = .ok (.iload_n 3, 1) := by decide +kernel
theorem dL_clerk_7 : decode cL_clerk 7 = .ok (.invokevirtual 49, 3) := by decide +kernel
theorem dL_clerk_10 : decode cL_clerk 10 = .ok (.i2l, 1) := by decide +kernel
theorem dL_clerk_11 : decode cL_clerk 11 = .ok (.lastore, 1) := by decide +kernel
theorem dL_clerk_12 : decode cL_clerk 12 = .ok (.goto 7, 3) := by decide +kernel
theorem dL_clerk_15 : decode cL_clerk 15 = .ok (.astore 5, 2) := by decide +kernel
theorem dL_clerk_17 : decode cL_clerk 17 = .ok (.iconst 1, 1) := by decide +kernel
theorem dL_clerk_18 : decode cL_clerk 18 = .ok (.ireturn, 1) := by decide +kernel
theorem dL_clerk_19 : decode cL_clerk 19 = .ok (.iconst 0, 1) := by decide +kernel
theorem dL_clerk_20 : decode cL_clerk 20 = .ok (.ireturn, 1) := by decide +kernel
theorem dL_lost_0 : decode cL_lost 0 = .ok (.aload 5, 2) := by decide +kernel
theorem dL_lost_2 : decode cL_lost 2 = .ok (.iconst 0, 1) := by decide +kernel
theorem dL_lost_3 : decode cL_lost 3 = .ok (.aload_n 0, 1) := by decide +kernel
theorem dL_lost_4 : decode cL_lost 4 = .ok (.iload_n 1, 1) := by decide +kernel
theorem dL_lost_5 : decode cL_lost 5 = .ok (.iload_n 2, 1) := by decide +kernel
theorem dL_lost_6 : decode cL_lost 6 = .ok (.iload_n 3, 1) := by decide +kernel
theorem dL_lost_7 : decode cL_lost 7 = .ok (.iload 4, 2) := by decide +kernel
theorem dL_lost_9 : decode cL_lost 9 = .ok (.invokevirtual 52, 3) := by decide +kernel
theorem dL_lost_12 : decode cL_lost 12 = .ok (.lastore, 1) := by decide +kernel
theorem dL_lost_13 : decode cL_lost 13 = .ok (.goto 7, 3) := by decide +kernel
theorem dL_lost_16 : decode cL_lost 16 = .ok (.astore 6, 2) := by decide +kernel
theorem dL_lost_18 : decode cL_lost 18 = .ok (.iconst 1, 1) := by decide +kernel
theorem dL_lost_19 : decode cL_lost 19 = .ok (.ireturn, 1) := by decide +kernel
theorem dL_lost_20 : decode cL_lost 20 = .ok (.iconst 0, 1) := by decide +kernel
theorem dL_lost_21 : decode cL_lost 21 = .ok (.ireturn, 1) := by decide +kernel
theorem dL_night_0 : decode cL_night 0 = .ok (.aload 4, 2) := by decide +kernel
theorem dL_night_2 : decode cL_night 2 = .ok (.iconst 0, 1) := by decide +kernel
theorem dL_night_3 : decode cL_night 3 = .ok (.aload_n 0, 1) := by decide +kernel
theorem dL_night_4 : decode cL_night 4 = .ok (.iload_n 1, 1) := by decide +kernel
theorem dL_night_5 : decode cL_night 5 = .ok (.iload_n 2, 1) := by decide +kernel
theorem dL_night_6 : decode cL_night 6 = .ok (.iload_n 3, 1) := by decide +kernel
theorem dL_night_7 : decode cL_night 7 = .ok (.invokevirtual 56, 3) := by decide +kernel
theorem dL_night_10 : decode cL_night 10 = .ok (.i2l, 1) := by decide +kernel
theorem dL_night_11 : decode cL_night 11 = .ok (.lastore, 1) := by decide +kernel
theorem dL_night_12 : decode cL_night 12 = .ok (.goto 7, 3) := by decide +kernel
theorem dL_night_15 : decode cL_night 15 = .ok (.astore 5, 2) := by decide +kernel
theorem dL_night_17 : decode cL_night 17 = .ok (.iconst 1, 1) := by decide +kernel
theorem dL_night_18 : decode cL_night 18 = .ok (.ireturn, 1) := by decide +kernel
theorem dL_night_19 : decode cL_night 19 = .ok (.iconst 0, 1) := by decide +kernel
theorem dL_night_20 : decode cL_night 20 = .ok (.ireturn, 1) := by decide +kernel
theorem dL_rides_0 : decode cL_rides 0 = .ok (.aload_n 2, 1) := by decide +kernel
theorem dL_rides_1 : decode cL_rides 1 = .ok (.iconst 0, 1) := by decide +kernel
theorem dL_rides_2 : decode cL_rides 2 = .ok (.aload_n 0, 1) := by decide +kernel
theorem dL_rides_3 : decode cL_rides 3 = .ok (.iload_n 1, 1) := by decide +kernel
theorem dL_rides_4 : decode cL_rides 4 = .ok (.invokevirtual 59, 3) := by decide +kernel
theorem dL_rides_7 : decode cL_rides 7 = .ok (.i2l, 1) := by decide +kernel
theorem dL_rides_8 : decode cL_rides 8 = .ok (.lastore, 1) := by decide +kernel
theorem dL_rides_9 : decode cL_rides 9 = .ok (.goto 6, 3) := by decide +kernel
theorem dL_rides_12 : decode cL_rides 12 = .ok (.astore_n 3, 1) := by decide +kernel
theorem dL_rides_13 : decode cL_rides 13 = .ok (.iconst 1, 1) := by decide +kernel
theorem dL_rides_14 : decode cL_rides 14 = .ok (.ireturn, 1) := by decide +kernel
theorem dL_rides_15 : decode cL_rides 15 = .ok (.iconst 0, 1) := by decide +kernel
theorem dL_rides_16 : decode cL_rides 16 = .ok (.ireturn, 1) := by decide +kernel
theorem dL_spared_0 : decode cL_spared 0 = .ok (.aload_n 2, 1) := by decide +kernel
theorem dL_spared_1 : decode cL_spared 1 = .ok (.iconst 0, 1) := by decide +kernel
theorem dL_spared_2 : decode cL_spared 2 = .ok (.aload_n 0, 1) := by decide +kernel
theorem dL_spared_3 : decode cL_spared 3 = .ok (.iload_n 1, 1) := by decide +kernel
theorem dL_spared_4 : decode cL_spared 4 = .ok (.invokevirtual 62, 3) := by decide +kernel
theorem dL_spared_7 : decode cL_spared 7 = .ok (.i2l, 1) := by decide +kernel
theorem dL_spared_8 : decode cL_spared 8 = .ok (.lastore, 1) := by decide +kernel
theorem dL_spared_9 : decode cL_spared 9 = .ok (.goto 6, 3) := by decide +kernel
theorem dL_spared_12 : decode cL_spared 12 = .ok (.astore_n 3, 1) := by decide +kernel
theorem dL_spared_13 : decode cL_spared 13 = .ok (.iconst 1, 1) := by decide +kernel
theorem dL_spared_14 : decode cL_spared 14 = .ok (.ireturn, 1) := by decide +kernel
theorem dL_spared_15 : decode cL_spared 15 = .ok (.iconst 0, 1) := by decide +kernel
theorem dL_spared_16 : decode cL_spared 16 = .ok (.ireturn, 1) := by decide +kernel
theorem dL_unopened_0 : decode cL_unopened 0 = .ok (.aload 6, 2) := by decide +kernel
theorem dL_unopened_2 : decode cL_unopened 2 = .ok (.iconst 0, 1) := by decide +kernel
theorem dL_unopened_3 : decode cL_unopened 3 = .ok (.aload_n 0, 1) := by decide +kernel
theorem dL_unopened_4 : decode cL_unopened 4 = .ok (.iload_n 1, 1) := by decide +kernel
theorem dL_unopened_5 : decode cL_unopened 5 = .ok (.iload_n 2, 1) := by decide +kernel
theorem dL_unopened_6 : decode cL_unopened 6 = .ok (.iload_n 3, 1) := by decide +kernel
theorem dL_unopened_7 : decode cL_unopened 7 = .ok (.iload 4, 2) := by decide +kernel
theorem dL_unopened_9 : decode cL_unopened 9 = .ok (.iload 5, 2) := by decide +kernel
theorem dL_unopened_11 : decode cL_unopened 11 = .ok (.invokevirtual 65, 3) := by decide +kernel
theorem dL_unopened_14 : decode cL_unopened 14 = .ok (.i2l, 1) := by decide +kernel
theorem dL_unopened_15 : decode cL_unopened 15 = .ok (.lastore, 1) := by decide +kernel
theorem dL_unopened_16 : decode cL_unopened 16 = .ok (.goto 11, 3) := by decide +kernel
theorem dL_unopened_19 : decode cL_unopened 19 = .ok (.astore 7, 2) := by decide +kernel
theorem dL_unopened_21 : decode cL_unopened 21 = .ok (.iconst 1, 1) := by decide +kernel
theorem dL_unopened_22 : decode cL_unopened 22 = .ok (.ireturn, 1) := by decide +kernel
theorem dL_unopened_23 : decode cL_unopened 23 = .ok (.astore 7, 2) := by decide +kernel
theorem dL_unopened_25 : decode cL_unopened 25 = .ok (.iconst 2, 1) := by decide +kernel
theorem dL_unopened_26 : decode cL_unopened 26 = .ok (.ireturn, 1) := by decide +kernel
theorem dL_unopened_27 : decode cL_unopened 27 = .ok (.iconst 0, 1) := by decide +kernel
theorem dL_unopened_28 : decode cL_unopened 28 = .ok (.ireturn, 1) := by decide +kernel
theorem dL_law_0 : decode cL_law 0 = .ok (.new 8, 3) := by decide +kernel
theorem dL_law_3 : decode cL_law 3 = .ok (.dup, 1) := by decide +kernel
theorem dL_law_4 : decode cL_law 4 = .ok (.invokespecial 69, 3) := by decide +kernel
theorem dL_law_7 : decode cL_law 7 = .ok (.astore_n 1, 1) := by decide +kernel
theorem dL_law_8 : decode cL_law 8 = .ok (.new 70, 3) := by decide +kernel
theorem dL_law_11 : decode cL_law 11 = .ok (.dup, 1) := by decide +kernel
theorem dL_law_12 : decode cL_law 12 = .ok (.invokespecial 72, 3) := by decide +kernel
theorem dL_law_15 : decode cL_law 15 = .ok (.astore_n 2, 1) := by decide +kernel
theorem dL_law_16 : decode cL_law 16 = .ok (.iconst 1, 1) := by decide +kernel
theorem dL_law_17 : decode cL_law 17 = .ok (.newarray .long, 2) := by decide +kernel
theorem dL_law_19 : decode cL_law 19 = .ok (.astore_n 3, 1) := by decide +kernel
theorem dL_law_20 : decode cL_law 20 = .ok (.iconst 0, 1) := by decide +kernel
theorem dL_law_21 : decode cL_law 21 = .ok (.istore 4, 2) := by decide +kernel
theorem dL_law_23 : decode cL_law 23 = .ok (.iload 4, 2) := by decide +kernel
theorem dL_law_25 : decode cL_law 25 = .ok (.aload_n 0, 1) := by decide +kernel
theorem dL_law_26 : decode cL_law 26 = .ok (.arraylength, 1) := by decide +kernel
theorem dL_law_27 : decode cL_law 27 = .ok (.bipush 6, 2) := by decide +kernel
theorem dL_law_29 : decode cL_law 29 = .ok (.isub, 1) := by decide +kernel
theorem dL_law_30 : decode cL_law 30 = .ok (.if_icmp .gt 1517, 3) := by decide +kernel
theorem dL_law_33 : decode cL_law 33 = .ok (.aload_n 0, 1) := by decide +kernel
theorem dL_law_34 : decode cL_law 34 = .ok (.iload 4, 2) := by decide +kernel
theorem dL_law_36 : decode cL_law 36 = .ok (.iaload, 1) := by decide +kernel
theorem dL_law_37 : decode cL_law 37 = .ok (.bipush 31, 2) := by decide +kernel
theorem dL_law_39 : decode cL_law 39 = .ok (.iand, 1) := by decide +kernel
theorem dL_law_40 : decode cL_law 40 = .ok (.tableswitch 1501 0 24 #[116, 189, 245, 258, 314, 382, 450, 518, 598, 678, 746, 826, 894, 917, 973, 986, 1066, 1157, 1237, 1248, 1261, 1317, 1373, 1477, 1488], 116) := by decide +kernel
theorem dL_law_156 : decode cL_law 156 = .ok (.aload_n 1, 1) := by decide +kernel
theorem dL_law_157 : decode cL_law 157 = .ok (.aload_n 0, 1) := by decide +kernel
theorem dL_law_158 : decode cL_law 158 = .ok (.iload 4, 2) := by decide +kernel
theorem dL_law_160 : decode cL_law 160 = .ok (.iconst 1, 1) := by decide +kernel
theorem dL_law_161 : decode cL_law 161 = .ok (.iadd, 1) := by decide +kernel
theorem dL_law_162 : decode cL_law 162 = .ok (.iaload, 1) := by decide +kernel
theorem dL_law_163 : decode cL_law 163 = .ok (.aload_n 0, 1) := by decide +kernel
theorem dL_law_164 : decode cL_law 164 = .ok (.iload 4, 2) := by decide +kernel
theorem dL_law_166 : decode cL_law 166 = .ok (.iconst 2, 1) := by decide +kernel
theorem dL_law_167 : decode cL_law 167 = .ok (.iadd, 1) := by decide +kernel
theorem dL_law_168 : decode cL_law 168 = .ok (.iaload, 1) := by decide +kernel
theorem dL_law_169 : decode cL_law 169 = .ok (.aload_n 0, 1) := by decide +kernel
theorem dL_law_170 : decode cL_law 170 = .ok (.iload 4, 2) := by decide +kernel
theorem dL_law_172 : decode cL_law 172 = .ok (.iconst 3, 1) := by decide +kernel
theorem dL_law_173 : decode cL_law 173 = .ok (.iadd, 1) := by decide +kernel
theorem dL_law_174 : decode cL_law 174 = .ok (.iaload, 1) := by decide +kernel
theorem dL_law_175 : decode cL_law 175 = .ok (.aload_n 0, 1) := by decide +kernel
theorem dL_law_176 : decode cL_law 176 = .ok (.iload 4, 2) := by decide +kernel
theorem dL_law_178 : decode cL_law 178 = .ok (.iconst 4, 1) := by decide +kernel
theorem dL_law_179 : decode cL_law 179 = .ok (.iadd, 1) := by decide +kernel
theorem dL_law_180 : decode cL_law 180 = .ok (.iaload, 1) := by decide +kernel
theorem dL_law_181 : decode cL_law 181 = .ok (.aload_n 0, 1) := by decide +kernel
theorem dL_law_182 : decode cL_law 182 = .ok (.iload 4, 2) := by decide +kernel
theorem dL_law_184 : decode cL_law 184 = .ok (.iconst 5, 1) := by decide +kernel
theorem dL_law_185 : decode cL_law 185 = .ok (.iadd, 1) := by decide +kernel
theorem dL_law_186 : decode cL_law 186 = .ok (.iaload, 1) := by decide +kernel
theorem dL_law_187 : decode cL_law 187 = .ok (.invokevirtual 73, 3) := by decide +kernel
theorem dL_law_190 : decode cL_law 190 = .ok (.aload_n 2, 1) := by decide +kernel
theorem dL_law_191 : decode cL_law 191 = .ok (.aload_n 0, 1) := by decide +kernel
theorem dL_law_192 : decode cL_law 192 = .ok (.iload 4, 2) := by decide +kernel
theorem dL_law_194 : decode cL_law 194 = .ok (.iconst 1, 1) := by decide +kernel
theorem dL_law_195 : decode cL_law 195 = .ok (.iadd, 1) := by decide +kernel
theorem dL_law_196 : decode cL_law 196 = .ok (.iaload, 1) := by decide +kernel
theorem dL_law_197 : decode cL_law 197 = .ok (.aload_n 0, 1) := by decide +kernel
theorem dL_law_198 : decode cL_law 198 = .ok (.iload 4, 2) := by decide +kernel
theorem dL_law_200 : decode cL_law 200 = .ok (.iconst 2, 1) := by decide +kernel
theorem dL_law_201 : decode cL_law 201 = .ok (.iadd, 1) := by decide +kernel
theorem dL_law_202 : decode cL_law 202 = .ok (.iaload, 1) := by decide +kernel
theorem dL_law_203 : decode cL_law 203 = .ok (.aload_n 0, 1) := by decide +kernel
theorem dL_law_204 : decode cL_law 204 = .ok (.iload 4, 2) := by decide +kernel
theorem dL_law_206 : decode cL_law 206 = .ok (.iconst 3, 1) := by decide +kernel
theorem dL_law_207 : decode cL_law 207 = .ok (.iadd, 1) := by decide +kernel
theorem dL_law_208 : decode cL_law 208 = .ok (.iaload, 1) := by decide +kernel
theorem dL_law_209 : decode cL_law 209 = .ok (.aload_n 0, 1) := by decide +kernel
theorem dL_law_210 : decode cL_law 210 = .ok (.iload 4, 2) := by decide +kernel
theorem dL_law_212 : decode cL_law 212 = .ok (.iconst 4, 1) := by decide +kernel
theorem dL_law_213 : decode cL_law 213 = .ok (.iadd, 1) := by decide +kernel
theorem dL_law_214 : decode cL_law 214 = .ok (.iaload, 1) := by decide +kernel
theorem dL_law_215 : decode cL_law 215 = .ok (.aload_n 0, 1) := by decide +kernel
theorem dL_law_216 : decode cL_law 216 = .ok (.iload 4, 2) := by decide +kernel
theorem dL_law_218 : decode cL_law 218 = .ok (.iconst 5, 1) := by decide +kernel
theorem dL_law_219 : decode cL_law 219 = .ok (.iadd, 1) := by decide +kernel
theorem dL_law_220 : decode cL_law 220 = .ok (.iaload, 1) := by decide +kernel
theorem dL_law_221 : decode cL_law 221 = .ok (.invokevirtual 76, 3) := by decide +kernel
theorem dL_law_224 : decode cL_law 224 = .ok (.if_icmp .eq 1317, 3) := by decide +kernel
theorem dL_law_227 : decode cL_law 227 = .ok (.iconst 0, 1) := by decide +kernel
theorem dL_law_228 : decode cL_law 228 = .ok (.ireturn, 1) := by decide +kernel
theorem dL_law_229 : decode cL_law 229 = .ok (.aload_n 1, 1) := by decide +kernel
theorem dL_law_230 : decode cL_law 230 = .ok (.aload_n 0, 1) := by decide +kernel
theorem dL_law_231 : decode cL_law 231 = .ok (.iload 4, 2) := by decide +kernel
theorem dL_law_233 : decode cL_law 233 = .ok (.iconst 1, 1) := by decide +kernel
theorem dL_law_234 : decode cL_law 234 = .ok (.iadd, 1) := by decide +kernel
theorem dL_law_235 : decode cL_law 235 = .ok (.iaload, 1) := by decide +kernel
theorem dL_law_236 : decode cL_law 236 = .ok (.aload_n 3, 1) := by decide +kernel
theorem dL_law_237 : decode cL_law 237 = .ok (.invokestatic 77, 3) := by decide +kernel
theorem dL_law_240 : decode cL_law 240 = .ok (.istore 5, 2) := by decide +kernel
theorem dL_law_242 : decode cL_law 242 = .ok (.aload_n 2, 1) := by decide +kernel
theorem dL_law_243 : decode cL_law 243 = .ok (.aload_n 0, 1) := by decide +kernel
theorem dL_law_244 : decode cL_law 244 = .ok (.iload 4, 2) := by decide +kernel
theorem dL_law_246 : decode cL_law 246 = .ok (.iconst 1, 1) := by decide +kernel
theorem dL_law_247 : decode cL_law 247 = .ok (.iadd, 1) := by decide +kernel
theorem dL_law_248 : decode cL_law 248 = .ok (.iaload, 1) := by decide +kernel
theorem dL_law_249 : decode cL_law 249 = .ok (.invokevirtual 82, 3) := by decide +kernel
theorem dL_law_252 : decode cL_law 252 = .ok (.istore 6, 2) := by decide +kernel
theorem dL_law_254 : decode cL_law 254 = .ok (.aload_n 2, 1) := by decide +kernel
theorem dL_law_255 : decode cL_law 255 = .ok (.invokevirtual 83, 3) := by decide +kernel
theorem dL_law_258 : decode cL_law 258 = .ok (.iload 5, 2) := by decide +kernel
theorem dL_law_260 : decode cL_law 260 = .ok (.if_icmp .eq 5, 3) := by decide +kernel
theorem dL_law_263 : decode cL_law 263 = .ok (.iconst 0, 1) := by decide +kernel
theorem dL_law_264 : decode cL_law 264 = .ok (.ireturn, 1) := by decide +kernel
theorem dL_law_265 : decode cL_law 265 = .ok (.iload 5, 2) := by decide +kernel
theorem dL_law_267 : decode cL_law 267 = .ok (.ifCond .ne 15, 3) := by decide +kernel
theorem dL_law_270 : decode cL_law 270 = .ok (.aload_n 3, 1) := by decide +kernel
theorem dL_law_271 : decode cL_law 271 = .ok (.iconst 0, 1) := by decide +kernel
theorem dL_law_272 : decode cL_law 272 = .ok (.laload, 1) := by decide +kernel
theorem dL_law_273 : decode cL_law 273 = .ok (.iload 6, 2) := by decide +kernel
theorem dL_law_275 : decode cL_law 275 = .ok (.i2l, 1) := by decide +kernel
theorem dL_law_276 : decode cL_law 276 = .ok (.lcmp, 1) := by decide +kernel
theorem dL_law_277 : decode cL_law 277 = .ok (.ifCond .eq 5, 3) := by decide +kernel
theorem dL_law_280 : decode cL_law 280 = .ok (.iconst 0, 1) := by decide +kernel
theorem dL_law_281 : decode cL_law 281 = .ok (.ireturn, 1) := by decide +kernel
theorem dL_law_282 : decode cL_law 282 = .ok (.goto 1259, 3) := by decide +kernel
theorem dL_law_285 : decode cL_law 285 = .ok (.aload_n 1, 1) := by decide +kernel
theorem dL_law_286 : decode cL_law 286 = .ok (.invokevirtual 87, 3) := by decide +kernel
theorem dL_law_289 : decode cL_law 289 = .ok (.aload_n 2, 1) := by decide +kernel
theorem dL_law_290 : decode cL_law 290 = .ok (.invokevirtual 90, 3) := by decide +kernel
theorem dL_law_293 : decode cL_law 293 = .ok (.if_icmp .eq 1248, 3) := by decide +kernel
theorem dL_law_296 : decode cL_law 296 = .ok (.iconst 0, 1) := by decide +kernel
theorem dL_law_297 : decode cL_law 297 = .ok (.ireturn, 1) := by decide +kernel
theorem dL_law_298 : decode cL_law 298 = .ok (.aload_n 1, 1) := by decide +kernel
theorem dL_law_299 : decode cL_law 299 = .ok (.aload_n 0, 1) := by decide +kernel
theorem dL_law_300 : decode cL_law 300 = .ok (.iload 4, 2) := by decide +kernel
theorem dL_law_302 : decode cL_law 302 = .ok (.iconst 1, 1) := by decide +kernel
theorem dL_law_303 : decode cL_law 303 = .ok (.iadd, 1) := by decide +kernel
theorem dL_law_304 : decode cL_law 304 = .ok (.iaload, 1) := by decide +kernel
theorem dL_law_305 : decode cL_law 305 = .ok (.aload_n 3, 1) := by decide +kernel
theorem dL_law_306 : decode cL_law 306 = .ok (.invokestatic 91, 3) := by decide +kernel
theorem dL_law_309 : decode cL_law 309 = .ok (.istore 5, 2) := by decide +kernel
theorem dL_law_311 : decode cL_law 311 = .ok (.aload_n 2, 1) := by decide +kernel
theorem dL_law_312 : decode cL_law 312 = .ok (.aload_n 0, 1) := by decide +kernel
theorem dL_law_313 : decode cL_law 313 = .ok (.iload 4, 2) := by decide +kernel
theorem dL_law_315 : decode cL_law 315 = .ok (.iconst 1, 1) := by decide +kernel
theorem dL_law_316 : decode cL_law 316 = .ok (.iadd, 1) := by decide +kernel
theorem dL_law_317 : decode cL_law 317 = .ok (.iaload, 1) := by decide +kernel
theorem dL_law_318 : decode cL_law 318 = .ok (.invokevirtual 93, 3) := by decide +kernel
theorem dL_law_321 : decode cL_law 321 = .ok (.istore 6, 2) := by decide +kernel
theorem dL_law_323 : decode cL_law 323 = .ok (.aload_n 2, 1) := by decide +kernel
theorem dL_law_324 : decode cL_law 324 = .ok (.invokevirtual 83, 3) := by decide +kernel
theorem dL_law_327 : decode cL_law 327 = .ok (.iload 5, 2) := by decide +kernel
theorem dL_law_329 : decode cL_law 329 = .ok (.if_icmp .eq 5, 3) := by decide +kernel
theorem dL_law_332 : decode cL_law 332 = .ok (.iconst 0, 1) := by decide +kernel
theorem dL_law_333 : decode cL_law 333 = .ok (.ireturn, 1) := by decide +kernel
theorem dL_law_334 : decode cL_law 334 = .ok (.iload 5, 2) := by decide +kernel
theorem dL_law_336 : decode cL_law 336 = .ok (.ifCond .ne 15, 3) := by decide +kernel
theorem dL_law_339 : decode cL_law 339 = .ok (.aload_n 3, 1) := by decide +kernel
theorem dL_law_340 : decode cL_law 340 = .ok (.iconst 0, 1) := by decide +kernel
theorem dL_law_341 : decode cL_law 341 = .ok (.laload, 1) := by decide +kernel
theorem dL_law_342 : decode cL_law 342 = .ok (.iload 6, 2) := by decide +kernel
theorem dL_law_344 : decode cL_law 344 = .ok (.i2l, 1) := by decide +kernel
theorem dL_law_345 : decode cL_law 345 = .ok (.lcmp, 1) := by decide +kernel
theorem dL_law_346 : decode cL_law 346 = .ok (.ifCond .eq 5, 3) := by decide +kernel
theorem dL_law_349 : decode cL_law 349 = .ok (.iconst 0, 1) := by decide +kernel
theorem dL_law_350 : decode cL_law 350 = .ok (.ireturn, 1) := by decide +kernel
theorem dL_law_351 : decode cL_law 351 = .ok (.goto 1190, 3) := by decide +kernel
theorem dL_law_354 : decode cL_law 354 = .ok (.aload_n 1, 1) := by decide +kernel
theorem dL_law_355 : decode cL_law 355 = .ok (.aload_n 0, 1) := by decide +kernel
theorem dL_law_356 : decode cL_law 356 = .ok (.iload 4, 2) := by decide +kernel
theorem dL_law_358 : decode cL_law 358 = .ok (.iconst 1, 1) := by decide +kernel
theorem dL_law_359 : decode cL_law 359 = .ok (.iadd, 1) := by decide +kernel
theorem dL_law_360 : decode cL_law 360 = .ok (.iaload, 1) := by decide +kernel
theorem dL_law_361 : decode cL_law 361 = .ok (.aload_n 0, 1) := by decide +kernel
theorem dL_law_362 : decode cL_law 362 = .ok (.iload 4, 2) := by decide +kernel
theorem dL_law_364 : decode cL_law 364 = .ok (.iconst 2, 1) := by decide +kernel
theorem dL_law_365 : decode cL_law 365 = .ok (.iadd, 1) := by decide +kernel
theorem dL_law_366 : decode cL_law 366 = .ok (.iaload, 1) := by decide +kernel
theorem dL_law_367 : decode cL_law 367 = .ok (.aload_n 3, 1) := by decide +kernel
theorem dL_law_368 : decode cL_law 368 = .ok (.invokestatic 94, 3) := by decide +kernel
theorem dL_law_371 : decode cL_law 371 = .ok (.istore 5, 2) := by decide +kernel
theorem dL_law_373 : decode cL_law 373 = .ok (.aload_n 2, 1) := by decide +kernel
theorem dL_law_374 : decode cL_law 374 = .ok (.aload_n 0, 1) := by decide +kernel
theorem dL_law_375 : decode cL_law 375 = .ok (.iload 4, 2) := by decide +kernel
theorem dL_law_377 : decode cL_law 377 = .ok (.iconst 1, 1) := by decide +kernel
theorem dL_law_378 : decode cL_law 378 = .ok (.iadd, 1) := by decide +kernel
theorem dL_law_379 : decode cL_law 379 = .ok (.iaload, 1) := by decide +kernel
theorem dL_law_380 : decode cL_law 380 = .ok (.aload_n 0, 1) := by decide +kernel
theorem dL_law_381 : decode cL_law 381 = .ok (.iload 4, 2) := by decide +kernel
theorem dL_law_383 : decode cL_law 383 = .ok (.iconst 2, 1) := by decide +kernel
theorem dL_law_384 : decode cL_law 384 = .ok (.iadd, 1) := by decide +kernel
theorem dL_law_385 : decode cL_law 385 = .ok (.iaload, 1) := by decide +kernel
theorem dL_law_386 : decode cL_law 386 = .ok (.invokevirtual 97, 3) := by decide +kernel
theorem dL_law_389 : decode cL_law 389 = .ok (.istore 6, 2) := by decide +kernel
theorem dL_law_391 : decode cL_law 391 = .ok (.aload_n 2, 1) := by decide +kernel
theorem dL_law_392 : decode cL_law 392 = .ok (.invokevirtual 83, 3) := by decide +kernel
theorem dL_law_395 : decode cL_law 395 = .ok (.iload 5, 2) := by decide +kernel
theorem dL_law_397 : decode cL_law 397 = .ok (.if_icmp .eq 5, 3) := by decide +kernel
theorem dL_law_400 : decode cL_law 400 = .ok (.iconst 0, 1) := by decide +kernel
theorem dL_law_401 : decode cL_law 401 = .ok (.ireturn, 1) := by decide +kernel
theorem dL_law_402 : decode cL_law 402 = .ok (.iload 5, 2) := by decide +kernel
theorem dL_law_404 : decode cL_law 404 = .ok (.ifCond .ne 15, 3) := by decide +kernel
theorem dL_law_407 : decode cL_law 407 = .ok (.aload_n 3, 1) := by decide +kernel
theorem dL_law_408 : decode cL_law 408 = .ok (.iconst 0, 1) := by decide +kernel
theorem dL_law_409 : decode cL_law 409 = .ok (.laload, 1) := by decide +kernel
theorem dL_law_410 : decode cL_law 410 = .ok (.iload 6, 2) := by decide +kernel
theorem dL_law_412 : decode cL_law 412 = .ok (.i2l, 1) := by decide +kernel
theorem dL_law_413 : decode cL_law 413 = .ok (.lcmp, 1) := by decide +kernel
theorem dL_law_414 : decode cL_law 414 = .ok (.ifCond .eq 5, 3) := by decide +kernel
theorem dL_law_417 : decode cL_law 417 = .ok (.iconst 0, 1) := by decide +kernel
theorem dL_law_418 : decode cL_law 418 = .ok (.ireturn, 1) := by decide +kernel
theorem dL_law_419 : decode cL_law 419 = .ok (.goto 1122, 3) := by decide +kernel
theorem dL_law_422 : decode cL_law 422 = .ok (.aload_n 1, 1) := by decide +kernel
theorem dL_law_423 : decode cL_law 423 = .ok (.aload_n 0, 1) := by decide +kernel
theorem dL_law_424 : decode cL_law 424 = .ok (.iload 4, 2) := by decide +kernel
theorem dL_law_426 : decode cL_law 426 = .ok (.iconst 1, 1) := by decide +kernel
theorem dL_law_427 : decode cL_law 427 = .ok (.iadd, 1) := by decide +kernel
theorem dL_law_428 : decode cL_law 428 = .ok (.iaload, 1) := by decide +kernel
theorem dL_law_429 : decode cL_law 429 = .ok (.aload_n 0, 1) := by decide +kernel
theorem dL_law_430 : decode cL_law 430 = .ok (.iload 4, 2) := by decide +kernel
theorem dL_law_432 : decode cL_law 432 = .ok (.iconst 2, 1) := by decide +kernel
theorem dL_law_433 : decode cL_law 433 = .ok (.iadd, 1) := by decide +kernel
theorem dL_law_434 : decode cL_law 434 = .ok (.iaload, 1) := by decide +kernel
theorem dL_law_435 : decode cL_law 435 = .ok (.aload_n 3, 1) := by decide +kernel
theorem dL_law_436 : decode cL_law 436 = .ok (.invokestatic 98, 3) := by decide +kernel
theorem dL_law_439 : decode cL_law 439 = .ok (.istore 5, 2) := by decide +kernel
theorem dL_law_441 : decode cL_law 441 = .ok (.aload_n 2, 1) := by decide +kernel
theorem dL_law_442 : decode cL_law 442 = .ok (.aload_n 0, 1) := by decide +kernel
theorem dL_law_443 : decode cL_law 443 = .ok (.iload 4, 2) := by decide +kernel
theorem dL_law_445 : decode cL_law 445 = .ok (.iconst 1, 1) := by decide +kernel
theorem dL_law_446 : decode cL_law 446 = .ok (.iadd, 1) := by decide +kernel
theorem dL_law_447 : decode cL_law 447 = .ok (.iaload, 1) := by decide +kernel
theorem dL_law_448 : decode cL_law 448 = .ok (.aload_n 0, 1) := by decide +kernel
theorem dL_law_449 : decode cL_law 449 = .ok (.iload 4, 2) := by decide +kernel
theorem dL_law_451 : decode cL_law 451 = .ok (.iconst 2, 1) := by decide +kernel
theorem dL_law_452 : decode cL_law 452 = .ok (.iadd, 1) := by decide +kernel
theorem dL_law_453 : decode cL_law 453 = .ok (.iaload, 1) := by decide +kernel
theorem dL_law_454 : decode cL_law 454 = .ok (.invokevirtual 100, 3) := by decide +kernel
theorem dL_law_457 : decode cL_law 457 = .ok (.istore 6, 2) := by decide +kernel
theorem dL_law_459 : decode cL_law 459 = .ok (.aload_n 2, 1) := by decide +kernel
theorem dL_law_460 : decode cL_law 460 = .ok (.invokevirtual 83, 3) := by decide +kernel
theorem dL_law_463 : decode cL_law 463 = .ok (.iload 5, 2) := by decide +kernel
theorem dL_law_465 : decode cL_law 465 = .ok (.if_icmp .eq 5, 3) := by decide +kernel
theorem dL_law_468 : decode cL_law 468 = .ok (.iconst 0, 1) := by decide +kernel
theorem dL_law_469 : decode cL_law 469 = .ok (.ireturn, 1) := by decide +kernel
theorem dL_law_470 : decode cL_law 470 = .ok (.iload 5, 2) := by decide +kernel
theorem dL_law_472 : decode cL_law 472 = .ok (.ifCond .ne 15, 3) := by decide +kernel
theorem dL_law_475 : decode cL_law 475 = .ok (.aload_n 3, 1) := by decide +kernel
theorem dL_law_476 : decode cL_law 476 = .ok (.iconst 0, 1) := by decide +kernel
theorem dL_law_477 : decode cL_law 477 = .ok (.laload, 1) := by decide +kernel
theorem dL_law_478 : decode cL_law 478 = .ok (.iload 6, 2) := by decide +kernel
theorem dL_law_480 : decode cL_law 480 = .ok (.i2l, 1) := by decide +kernel
theorem dL_law_481 : decode cL_law 481 = .ok (.lcmp, 1) := by decide +kernel
theorem dL_law_482 : decode cL_law 482 = .ok (.ifCond .eq 5, 3) := by decide +kernel
theorem dL_law_485 : decode cL_law 485 = .ok (.iconst 0, 1) := by decide +kernel
theorem dL_law_486 : decode cL_law 486 = .ok (.ireturn, 1) := by decide +kernel
theorem dL_law_487 : decode cL_law 487 = .ok (.goto 1054, 3) := by decide +kernel
theorem dL_law_490 : decode cL_law 490 = .ok (.aload_n 1, 1) := by decide +kernel
theorem dL_law_491 : decode cL_law 491 = .ok (.aload_n 0, 1) := by decide +kernel
theorem dL_law_492 : decode cL_law 492 = .ok (.iload 4, 2) := by decide +kernel
theorem dL_law_494 : decode cL_law 494 = .ok (.iconst 1, 1) := by decide +kernel
theorem dL_law_495 : decode cL_law 495 = .ok (.iadd, 1) := by decide +kernel
theorem dL_law_496 : decode cL_law 496 = .ok (.iaload, 1) := by decide +kernel
theorem dL_law_497 : decode cL_law 497 = .ok (.aload_n 0, 1) := by decide +kernel
theorem dL_law_498 : decode cL_law 498 = .ok (.iload 4, 2) := by decide +kernel
theorem dL_law_500 : decode cL_law 500 = .ok (.iconst 2, 1) := by decide +kernel
theorem dL_law_501 : decode cL_law 501 = .ok (.iadd, 1) := by decide +kernel
theorem dL_law_502 : decode cL_law 502 = .ok (.iaload, 1) := by decide +kernel
theorem dL_law_503 : decode cL_law 503 = .ok (.aload_n 3, 1) := by decide +kernel
theorem dL_law_504 : decode cL_law 504 = .ok (.invokestatic 101, 3) := by decide +kernel
theorem dL_law_507 : decode cL_law 507 = .ok (.istore 5, 2) := by decide +kernel
theorem dL_law_509 : decode cL_law 509 = .ok (.aload_n 2, 1) := by decide +kernel
theorem dL_law_510 : decode cL_law 510 = .ok (.aload_n 0, 1) := by decide +kernel
theorem dL_law_511 : decode cL_law 511 = .ok (.iload 4, 2) := by decide +kernel
theorem dL_law_513 : decode cL_law 513 = .ok (.iconst 1, 1) := by decide +kernel
theorem dL_law_514 : decode cL_law 514 = .ok (.iadd, 1) := by decide +kernel
theorem dL_law_515 : decode cL_law 515 = .ok (.iaload, 1) := by decide +kernel
theorem dL_law_516 : decode cL_law 516 = .ok (.aload_n 0, 1) := by decide +kernel
theorem dL_law_517 : decode cL_law 517 = .ok (.iload 4, 2) := by decide +kernel
theorem dL_law_519 : decode cL_law 519 = .ok (.iconst 2, 1) := by decide +kernel
theorem dL_law_520 : decode cL_law 520 = .ok (.iadd, 1) := by decide +kernel
theorem dL_law_521 : decode cL_law 521 = .ok (.iaload, 1) := by decide +kernel
theorem dL_law_522 : decode cL_law 522 = .ok (.invokevirtual 103, 3) := by decide +kernel
theorem dL_law_525 : decode cL_law 525 = .ok (.istore 6, 2) := by decide +kernel
theorem dL_law_527 : decode cL_law 527 = .ok (.aload_n 2, 1) := by decide +kernel
theorem dL_law_528 : decode cL_law 528 = .ok (.invokevirtual 83, 3) := by decide +kernel
theorem dL_law_531 : decode cL_law 531 = .ok (.iload 5, 2) := by decide +kernel
theorem dL_law_533 : decode cL_law 533 = .ok (.if_icmp .eq 5, 3) := by decide +kernel
theorem dL_law_536 : decode cL_law 536 = .ok (.iconst 0, 1) := by decide +kernel
theorem dL_law_537 : decode cL_law 537 = .ok (.ireturn, 1) := by decide +kernel
theorem dL_law_538 : decode cL_law 538 = .ok (.iload 5, 2) := by decide +kernel
theorem dL_law_540 : decode cL_law 540 = .ok (.ifCond .ne 15, 3) := by decide +kernel
theorem dL_law_543 : decode cL_law 543 = .ok (.aload_n 3, 1) := by decide +kernel
theorem dL_law_544 : decode cL_law 544 = .ok (.iconst 0, 1) := by decide +kernel
theorem dL_law_545 : decode cL_law 545 = .ok (.laload, 1) := by decide +kernel
theorem dL_law_546 : decode cL_law 546 = .ok (.iload 6, 2) := by decide +kernel
theorem dL_law_548 : decode cL_law 548 = .ok (.i2l, 1) := by decide +kernel
theorem dL_law_549 : decode cL_law 549 = .ok (.lcmp, 1) := by decide +kernel
theorem dL_law_550 : decode cL_law 550 = .ok (.ifCond .eq 5, 3) := by decide +kernel
theorem dL_law_553 : decode cL_law 553 = .ok (.iconst 0, 1) := by decide +kernel
theorem dL_law_554 : decode cL_law 554 = .ok (.ireturn, 1) := by decide +kernel
theorem dL_law_555 : decode cL_law 555 = .ok (.goto 986, 3) := by decide +kernel
theorem dL_law_558 : decode cL_law 558 = .ok (.aload_n 1, 1) := by decide +kernel
theorem dL_law_559 : decode cL_law 559 = .ok (.aload_n 0, 1) := by decide +kernel
theorem dL_law_560 : decode cL_law 560 = .ok (.iload 4, 2) := by decide +kernel
theorem dL_law_562 : decode cL_law 562 = .ok (.iconst 1, 1) := by decide +kernel
theorem dL_law_563 : decode cL_law 563 = .ok (.iadd, 1) := by decide +kernel
theorem dL_law_564 : decode cL_law 564 = .ok (.iaload, 1) := by decide +kernel
theorem dL_law_565 : decode cL_law 565 = .ok (.aload_n 0, 1) := by decide +kernel
theorem dL_law_566 : decode cL_law 566 = .ok (.iload 4, 2) := by decide +kernel
theorem dL_law_568 : decode cL_law 568 = .ok (.iconst 2, 1) := by decide +kernel
theorem dL_law_569 : decode cL_law 569 = .ok (.iadd, 1) := by decide +kernel
theorem dL_law_570 : decode cL_law 570 = .ok (.iaload, 1) := by decide +kernel
theorem dL_law_571 : decode cL_law 571 = .ok (.aload_n 0, 1) := by decide +kernel
theorem dL_law_572 : decode cL_law 572 = .ok (.iload 4, 2) := by decide +kernel
theorem dL_law_574 : decode cL_law 574 = .ok (.iconst 3, 1) := by decide +kernel
theorem dL_law_575 : decode cL_law 575 = .ok (.iadd, 1) := by decide +kernel
theorem dL_law_576 : decode cL_law 576 = .ok (.iaload, 1) := by decide +kernel
theorem dL_law_577 : decode cL_law 577 = .ok (.aload_n 3, 1) := by decide +kernel
theorem dL_law_578 : decode cL_law 578 = .ok (.invokestatic 104, 3) := by decide +kernel
theorem dL_law_581 : decode cL_law 581 = .ok (.istore 5, 2) := by decide +kernel
theorem dL_law_583 : decode cL_law 583 = .ok (.aload_n 2, 1) := by decide +kernel
theorem dL_law_584 : decode cL_law 584 = .ok (.aload_n 0, 1) := by decide +kernel
theorem dL_law_585 : decode cL_law 585 = .ok (.iload 4, 2) := by decide +kernel
theorem dL_law_587 : decode cL_law 587 = .ok (.iconst 1, 1) := by decide +kernel
theorem dL_law_588 : decode cL_law 588 = .ok (.iadd, 1) := by decide +kernel
theorem dL_law_589 : decode cL_law 589 = .ok (.iaload, 1) := by decide +kernel
theorem dL_law_590 : decode cL_law 590 = .ok (.aload_n 0, 1) := by decide +kernel
theorem dL_law_591 : decode cL_law 591 = .ok (.iload 4, 2) := by decide +kernel
theorem dL_law_593 : decode cL_law 593 = .ok (.iconst 2, 1) := by decide +kernel
theorem dL_law_594 : decode cL_law 594 = .ok (.iadd, 1) := by decide +kernel
theorem dL_law_595 : decode cL_law 595 = .ok (.iaload, 1) := by decide +kernel
theorem dL_law_596 : decode cL_law 596 = .ok (.aload_n 0, 1) := by decide +kernel
theorem dL_law_597 : decode cL_law 597 = .ok (.iload 4, 2) := by decide +kernel
theorem dL_law_599 : decode cL_law 599 = .ok (.iconst 3, 1) := by decide +kernel
theorem dL_law_600 : decode cL_law 600 = .ok (.iadd, 1) := by decide +kernel
theorem dL_law_601 : decode cL_law 601 = .ok (.iaload, 1) := by decide +kernel
theorem dL_law_602 : decode cL_law 602 = .ok (.invokevirtual 107, 3) := by decide +kernel
theorem dL_law_605 : decode cL_law 605 = .ok (.istore 6, 2) := by decide +kernel
theorem dL_law_607 : decode cL_law 607 = .ok (.aload_n 2, 1) := by decide +kernel
theorem dL_law_608 : decode cL_law 608 = .ok (.invokevirtual 83, 3) := by decide +kernel
theorem dL_law_611 : decode cL_law 611 = .ok (.iload 5, 2) := by decide +kernel
theorem dL_law_613 : decode cL_law 613 = .ok (.if_icmp .eq 5, 3) := by decide +kernel
theorem dL_law_616 : decode cL_law 616 = .ok (.iconst 0, 1) := by decide +kernel
theorem dL_law_617 : decode cL_law 617 = .ok (.ireturn, 1) := by decide +kernel
theorem dL_law_618 : decode cL_law 618 = .ok (.iload 5, 2) := by decide +kernel
theorem dL_law_620 : decode cL_law 620 = .ok (.ifCond .ne 15, 3) := by decide +kernel
theorem dL_law_623 : decode cL_law 623 = .ok (.aload_n 3, 1) := by decide +kernel
theorem dL_law_624 : decode cL_law 624 = .ok (.iconst 0, 1) := by decide +kernel
theorem dL_law_625 : decode cL_law 625 = .ok (.laload, 1) := by decide +kernel
theorem dL_law_626 : decode cL_law 626 = .ok (.iload 6, 2) := by decide +kernel
theorem dL_law_628 : decode cL_law 628 = .ok (.i2l, 1) := by decide +kernel
theorem dL_law_629 : decode cL_law 629 = .ok (.lcmp, 1) := by decide +kernel
theorem dL_law_630 : decode cL_law 630 = .ok (.ifCond .eq 5, 3) := by decide +kernel
theorem dL_law_633 : decode cL_law 633 = .ok (.iconst 0, 1) := by decide +kernel
theorem dL_law_634 : decode cL_law 634 = .ok (.ireturn, 1) := by decide +kernel
theorem dL_law_635 : decode cL_law 635 = .ok (.goto 906, 3) := by decide +kernel
theorem dL_law_638 : decode cL_law 638 = .ok (.aload_n 1, 1) := by decide +kernel
theorem dL_law_639 : decode cL_law 639 = .ok (.aload_n 0, 1) := by decide +kernel
theorem dL_law_640 : decode cL_law 640 = .ok (.iload 4, 2) := by decide +kernel
theorem dL_law_642 : decode cL_law 642 = .ok (.iconst 1, 1) := by decide +kernel
theorem dL_law_643 : decode cL_law 643 = .ok (.iadd, 1) := by decide +kernel
theorem dL_law_644 : decode cL_law 644 = .ok (.iaload, 1) := by decide +kernel
theorem dL_law_645 : decode cL_law 645 = .ok (.aload_n 0, 1) := by decide +kernel
theorem dL_law_646 : decode cL_law 646 = .ok (.iload 4, 2) := by decide +kernel
theorem dL_law_648 : decode cL_law 648 = .ok (.iconst 2, 1) := by decide +kernel
theorem dL_law_649 : decode cL_law 649 = .ok (.iadd, 1) := by decide +kernel
theorem dL_law_650 : decode cL_law 650 = .ok (.iaload, 1) := by decide +kernel
theorem dL_law_651 : decode cL_law 651 = .ok (.aload_n 0, 1) := by decide +kernel
theorem dL_law_652 : decode cL_law 652 = .ok (.iload 4, 2) := by decide +kernel
theorem dL_law_654 : decode cL_law 654 = .ok (.iconst 3, 1) := by decide +kernel
theorem dL_law_655 : decode cL_law 655 = .ok (.iadd, 1) := by decide +kernel
theorem dL_law_656 : decode cL_law 656 = .ok (.iaload, 1) := by decide +kernel
theorem dL_law_657 : decode cL_law 657 = .ok (.aload_n 3, 1) := by decide +kernel
theorem dL_law_658 : decode cL_law 658 = .ok (.invokestatic 108, 3) := by decide +kernel
theorem dL_law_661 : decode cL_law 661 = .ok (.istore 5, 2) := by decide +kernel
theorem dL_law_663 : decode cL_law 663 = .ok (.aload_n 2, 1) := by decide +kernel
theorem dL_law_664 : decode cL_law 664 = .ok (.aload_n 0, 1) := by decide +kernel
theorem dL_law_665 : decode cL_law 665 = .ok (.iload 4, 2) := by decide +kernel
theorem dL_law_667 : decode cL_law 667 = .ok (.iconst 1, 1) := by decide +kernel
theorem dL_law_668 : decode cL_law 668 = .ok (.iadd, 1) := by decide +kernel
theorem dL_law_669 : decode cL_law 669 = .ok (.iaload, 1) := by decide +kernel
theorem dL_law_670 : decode cL_law 670 = .ok (.aload_n 0, 1) := by decide +kernel
theorem dL_law_671 : decode cL_law 671 = .ok (.iload 4, 2) := by decide +kernel
theorem dL_law_673 : decode cL_law 673 = .ok (.iconst 2, 1) := by decide +kernel
theorem dL_law_674 : decode cL_law 674 = .ok (.iadd, 1) := by decide +kernel
theorem dL_law_675 : decode cL_law 675 = .ok (.iaload, 1) := by decide +kernel
theorem dL_law_676 : decode cL_law 676 = .ok (.aload_n 0, 1) := by decide +kernel
theorem dL_law_677 : decode cL_law 677 = .ok (.iload 4, 2) := by decide +kernel
theorem dL_law_679 : decode cL_law 679 = .ok (.iconst 3, 1) := by decide +kernel
theorem dL_law_680 : decode cL_law 680 = .ok (.iadd, 1) := by decide +kernel
theorem dL_law_681 : decode cL_law 681 = .ok (.iaload, 1) := by decide +kernel
theorem dL_law_682 : decode cL_law 682 = .ok (.invokevirtual 110, 3) := by decide +kernel
theorem dL_law_685 : decode cL_law 685 = .ok (.istore 6, 2) := by decide +kernel
theorem dL_law_687 : decode cL_law 687 = .ok (.aload_n 2, 1) := by decide +kernel
theorem dL_law_688 : decode cL_law 688 = .ok (.invokevirtual 83, 3) := by decide +kernel
theorem dL_law_691 : decode cL_law 691 = .ok (.iload 5, 2) := by decide +kernel
theorem dL_law_693 : decode cL_law 693 = .ok (.if_icmp .eq 5, 3) := by decide +kernel
theorem dL_law_696 : decode cL_law 696 = .ok (.iconst 0, 1) := by decide +kernel
theorem dL_law_697 : decode cL_law 697 = .ok (.ireturn, 1) := by decide +kernel
theorem dL_law_698 : decode cL_law 698 = .ok (.iload 5, 2) := by decide +kernel
theorem dL_law_700 : decode cL_law 700 = .ok (.ifCond .ne 15, 3) := by decide +kernel
theorem dL_law_703 : decode cL_law 703 = .ok (.aload_n 3, 1) := by decide +kernel
theorem dL_law_704 : decode cL_law 704 = .ok (.iconst 0, 1) := by decide +kernel
theorem dL_law_705 : decode cL_law 705 = .ok (.laload, 1) := by decide +kernel
theorem dL_law_706 : decode cL_law 706 = .ok (.iload 6, 2) := by decide +kernel
theorem dL_law_708 : decode cL_law 708 = .ok (.i2l, 1) := by decide +kernel
theorem dL_law_709 : decode cL_law 709 = .ok (.lcmp, 1) := by decide +kernel
theorem dL_law_710 : decode cL_law 710 = .ok (.ifCond .eq 5, 3) := by decide +kernel
theorem dL_law_713 : decode cL_law 713 = .ok (.iconst 0, 1) := by decide +kernel
theorem dL_law_714 : decode cL_law 714 = .ok (.ireturn, 1) := by decide +kernel
theorem dL_law_715 : decode cL_law 715 = .ok (.goto 826, 3) := by decide +kernel
theorem dL_law_718 : decode cL_law 718 = .ok (.aload_n 1, 1) := by decide +kernel
theorem dL_law_719 : decode cL_law 719 = .ok (.aload_n 0, 1) := by decide +kernel
theorem dL_law_720 : decode cL_law 720 = .ok (.iload 4, 2) := by decide +kernel
theorem dL_law_722 : decode cL_law 722 = .ok (.iconst 1, 1) := by decide +kernel
theorem dL_law_723 : decode cL_law 723 = .ok (.iadd, 1) := by decide +kernel
theorem dL_law_724 : decode cL_law 724 = .ok (.iaload, 1) := by decide +kernel
theorem dL_law_725 : decode cL_law 725 = .ok (.aload_n 0, 1) := by decide +kernel
theorem dL_law_726 : decode cL_law 726 = .ok (.iload 4, 2) := by decide +kernel
theorem dL_law_728 : decode cL_law 728 = .ok (.iconst 2, 1) := by decide +kernel
theorem dL_law_729 : decode cL_law 729 = .ok (.iadd, 1) := by decide +kernel
theorem dL_law_730 : decode cL_law 730 = .ok (.iaload, 1) := by decide +kernel
theorem dL_law_731 : decode cL_law 731 = .ok (.aload_n 3, 1) := by decide +kernel
theorem dL_law_732 : decode cL_law 732 = .ok (.invokestatic 111, 3) := by decide +kernel
theorem dL_law_735 : decode cL_law 735 = .ok (.istore 5, 2) := by decide +kernel
theorem dL_law_737 : decode cL_law 737 = .ok (.aload_n 2, 1) := by decide +kernel
theorem dL_law_738 : decode cL_law 738 = .ok (.aload_n 0, 1) := by decide +kernel
theorem dL_law_739 : decode cL_law 739 = .ok (.iload 4, 2) := by decide +kernel
theorem dL_law_741 : decode cL_law 741 = .ok (.iconst 1, 1) := by decide +kernel
theorem dL_law_742 : decode cL_law 742 = .ok (.iadd, 1) := by decide +kernel
theorem dL_law_743 : decode cL_law 743 = .ok (.iaload, 1) := by decide +kernel
theorem dL_law_744 : decode cL_law 744 = .ok (.aload_n 0, 1) := by decide +kernel
theorem dL_law_745 : decode cL_law 745 = .ok (.iload 4, 2) := by decide +kernel
theorem dL_law_747 : decode cL_law 747 = .ok (.iconst 2, 1) := by decide +kernel
theorem dL_law_748 : decode cL_law 748 = .ok (.iadd, 1) := by decide +kernel
theorem dL_law_749 : decode cL_law 749 = .ok (.iaload, 1) := by decide +kernel
theorem dL_law_750 : decode cL_law 750 = .ok (.invokevirtual 113, 3) := by decide +kernel
theorem dL_law_753 : decode cL_law 753 = .ok (.istore 6, 2) := by decide +kernel
theorem dL_law_755 : decode cL_law 755 = .ok (.aload_n 2, 1) := by decide +kernel
theorem dL_law_756 : decode cL_law 756 = .ok (.invokevirtual 83, 3) := by decide +kernel
theorem dL_law_759 : decode cL_law 759 = .ok (.iload 5, 2) := by decide +kernel
theorem dL_law_761 : decode cL_law 761 = .ok (.if_icmp .eq 5, 3) := by decide +kernel
theorem dL_law_764 : decode cL_law 764 = .ok (.iconst 0, 1) := by decide +kernel
theorem dL_law_765 : decode cL_law 765 = .ok (.ireturn, 1) := by decide +kernel
theorem dL_law_766 : decode cL_law 766 = .ok (.iload 5, 2) := by decide +kernel
theorem dL_law_768 : decode cL_law 768 = .ok (.ifCond .ne 15, 3) := by decide +kernel
theorem dL_law_771 : decode cL_law 771 = .ok (.aload_n 3, 1) := by decide +kernel
theorem dL_law_772 : decode cL_law 772 = .ok (.iconst 0, 1) := by decide +kernel
theorem dL_law_773 : decode cL_law 773 = .ok (.laload, 1) := by decide +kernel
theorem dL_law_774 : decode cL_law 774 = .ok (.iload 6, 2) := by decide +kernel
theorem dL_law_776 : decode cL_law 776 = .ok (.i2l, 1) := by decide +kernel
theorem dL_law_777 : decode cL_law 777 = .ok (.lcmp, 1) := by decide +kernel
theorem dL_law_778 : decode cL_law 778 = .ok (.ifCond .eq 5, 3) := by decide +kernel
theorem dL_law_781 : decode cL_law 781 = .ok (.iconst 0, 1) := by decide +kernel
theorem dL_law_782 : decode cL_law 782 = .ok (.ireturn, 1) := by decide +kernel
theorem dL_law_783 : decode cL_law 783 = .ok (.goto 758, 3) := by decide +kernel
theorem dL_law_786 : decode cL_law 786 = .ok (.aload_n 1, 1) := by decide +kernel
theorem dL_law_787 : decode cL_law 787 = .ok (.aload_n 0, 1) := by decide +kernel
theorem dL_law_788 : decode cL_law 788 = .ok (.iload 4, 2) := by decide +kernel
theorem dL_law_790 : decode cL_law 790 = .ok (.iconst 1, 1) := by decide +kernel
theorem dL_law_791 : decode cL_law 791 = .ok (.iadd, 1) := by decide +kernel
theorem dL_law_792 : decode cL_law 792 = .ok (.iaload, 1) := by decide +kernel
theorem dL_law_793 : decode cL_law 793 = .ok (.aload_n 0, 1) := by decide +kernel
theorem dL_law_794 : decode cL_law 794 = .ok (.iload 4, 2) := by decide +kernel
theorem dL_law_796 : decode cL_law 796 = .ok (.iconst 2, 1) := by decide +kernel
theorem dL_law_797 : decode cL_law 797 = .ok (.iadd, 1) := by decide +kernel
theorem dL_law_798 : decode cL_law 798 = .ok (.iaload, 1) := by decide +kernel
theorem dL_law_799 : decode cL_law 799 = .ok (.aload_n 0, 1) := by decide +kernel
theorem dL_law_800 : decode cL_law 800 = .ok (.iload 4, 2) := by decide +kernel
theorem dL_law_802 : decode cL_law 802 = .ok (.iconst 3, 1) := by decide +kernel
theorem dL_law_803 : decode cL_law 803 = .ok (.iadd, 1) := by decide +kernel
theorem dL_law_804 : decode cL_law 804 = .ok (.iaload, 1) := by decide +kernel
theorem dL_law_805 : decode cL_law 805 = .ok (.aload_n 3, 1) := by decide +kernel
theorem dL_law_806 : decode cL_law 806 = .ok (.invokestatic 114, 3) := by decide +kernel
theorem dL_law_809 : decode cL_law 809 = .ok (.istore 5, 2) := by decide +kernel
theorem dL_law_811 : decode cL_law 811 = .ok (.aload_n 2, 1) := by decide +kernel
theorem dL_law_812 : decode cL_law 812 = .ok (.aload_n 0, 1) := by decide +kernel
theorem dL_law_813 : decode cL_law 813 = .ok (.iload 4, 2) := by decide +kernel
theorem dL_law_815 : decode cL_law 815 = .ok (.iconst 1, 1) := by decide +kernel
theorem dL_law_816 : decode cL_law 816 = .ok (.iadd, 1) := by decide +kernel
theorem dL_law_817 : decode cL_law 817 = .ok (.iaload, 1) := by decide +kernel
theorem dL_law_818 : decode cL_law 818 = .ok (.aload_n 0, 1) := by decide +kernel
theorem dL_law_819 : decode cL_law 819 = .ok (.iload 4, 2) := by decide +kernel
theorem dL_law_821 : decode cL_law 821 = .ok (.iconst 2, 1) := by decide +kernel
theorem dL_law_822 : decode cL_law 822 = .ok (.iadd, 1) := by decide +kernel
theorem dL_law_823 : decode cL_law 823 = .ok (.iaload, 1) := by decide +kernel
theorem dL_law_824 : decode cL_law 824 = .ok (.aload_n 0, 1) := by decide +kernel
theorem dL_law_825 : decode cL_law 825 = .ok (.iload 4, 2) := by decide +kernel
theorem dL_law_827 : decode cL_law 827 = .ok (.iconst 3, 1) := by decide +kernel
theorem dL_law_828 : decode cL_law 828 = .ok (.iadd, 1) := by decide +kernel
theorem dL_law_829 : decode cL_law 829 = .ok (.iaload, 1) := by decide +kernel
theorem dL_law_830 : decode cL_law 830 = .ok (.invokevirtual 116, 3) := by decide +kernel
theorem dL_law_833 : decode cL_law 833 = .ok (.istore 6, 2) := by decide +kernel
theorem dL_law_835 : decode cL_law 835 = .ok (.aload_n 2, 1) := by decide +kernel
theorem dL_law_836 : decode cL_law 836 = .ok (.invokevirtual 83, 3) := by decide +kernel
theorem dL_law_839 : decode cL_law 839 = .ok (.iload 5, 2) := by decide +kernel
theorem dL_law_841 : decode cL_law 841 = .ok (.if_icmp .eq 5, 3) := by decide +kernel
theorem dL_law_844 : decode cL_law 844 = .ok (.iconst 0, 1) := by decide +kernel
theorem dL_law_845 : decode cL_law 845 = .ok (.ireturn, 1) := by decide +kernel
theorem dL_law_846 : decode cL_law 846 = .ok (.iload 5, 2) := by decide +kernel
theorem dL_law_848 : decode cL_law 848 = .ok (.ifCond .ne 15, 3) := by decide +kernel
theorem dL_law_851 : decode cL_law 851 = .ok (.aload_n 3, 1) := by decide +kernel
theorem dL_law_852 : decode cL_law 852 = .ok (.iconst 0, 1) := by decide +kernel
theorem dL_law_853 : decode cL_law 853 = .ok (.laload, 1) := by decide +kernel
theorem dL_law_854 : decode cL_law 854 = .ok (.iload 6, 2) := by decide +kernel
theorem dL_law_856 : decode cL_law 856 = .ok (.i2l, 1) := by decide +kernel
theorem dL_law_857 : decode cL_law 857 = .ok (.lcmp, 1) := by decide +kernel
theorem dL_law_858 : decode cL_law 858 = .ok (.ifCond .eq 5, 3) := by decide +kernel
theorem dL_law_861 : decode cL_law 861 = .ok (.iconst 0, 1) := by decide +kernel
theorem dL_law_862 : decode cL_law 862 = .ok (.ireturn, 1) := by decide +kernel
theorem dL_law_863 : decode cL_law 863 = .ok (.goto 678, 3) := by decide +kernel
theorem dL_law_866 : decode cL_law 866 = .ok (.aload_n 1, 1) := by decide +kernel
theorem dL_law_867 : decode cL_law 867 = .ok (.aload_n 0, 1) := by decide +kernel
theorem dL_law_868 : decode cL_law 868 = .ok (.iload 4, 2) := by decide +kernel
theorem dL_law_870 : decode cL_law 870 = .ok (.iconst 1, 1) := by decide +kernel
theorem dL_law_871 : decode cL_law 871 = .ok (.iadd, 1) := by decide +kernel
theorem dL_law_872 : decode cL_law 872 = .ok (.iaload, 1) := by decide +kernel
theorem dL_law_873 : decode cL_law 873 = .ok (.aload_n 0, 1) := by decide +kernel
theorem dL_law_874 : decode cL_law 874 = .ok (.iload 4, 2) := by decide +kernel
theorem dL_law_876 : decode cL_law 876 = .ok (.iconst 2, 1) := by decide +kernel
theorem dL_law_877 : decode cL_law 877 = .ok (.iadd, 1) := by decide +kernel
theorem dL_law_878 : decode cL_law 878 = .ok (.iaload, 1) := by decide +kernel
theorem dL_law_879 : decode cL_law 879 = .ok (.aload_n 3, 1) := by decide +kernel
theorem dL_law_880 : decode cL_law 880 = .ok (.invokestatic 117, 3) := by decide +kernel
theorem dL_law_883 : decode cL_law 883 = .ok (.istore 5, 2) := by decide +kernel
theorem dL_law_885 : decode cL_law 885 = .ok (.aload_n 2, 1) := by decide +kernel
theorem dL_law_886 : decode cL_law 886 = .ok (.aload_n 0, 1) := by decide +kernel
theorem dL_law_887 : decode cL_law 887 = .ok (.iload 4, 2) := by decide +kernel
theorem dL_law_889 : decode cL_law 889 = .ok (.iconst 1, 1) := by decide +kernel
theorem dL_law_890 : decode cL_law 890 = .ok (.iadd, 1) := by decide +kernel
theorem dL_law_891 : decode cL_law 891 = .ok (.iaload, 1) := by decide +kernel
theorem dL_law_892 : decode cL_law 892 = .ok (.aload_n 0, 1) := by decide +kernel
theorem dL_law_893 : decode cL_law 893 = .ok (.iload 4, 2) := by decide +kernel
theorem dL_law_895 : decode cL_law 895 = .ok (.iconst 2, 1) := by decide +kernel
theorem dL_law_896 : decode cL_law 896 = .ok (.iadd, 1) := by decide +kernel
theorem dL_law_897 : decode cL_law 897 = .ok (.iaload, 1) := by decide +kernel
theorem dL_law_898 : decode cL_law 898 = .ok (.invokevirtual 119, 3) := by decide +kernel
theorem dL_law_901 : decode cL_law 901 = .ok (.istore 6, 2) := by decide +kernel
theorem dL_law_903 : decode cL_law 903 = .ok (.aload_n 2, 1) := by decide +kernel
theorem dL_law_904 : decode cL_law 904 = .ok (.invokevirtual 83, 3) := by decide +kernel
theorem dL_law_907 : decode cL_law 907 = .ok (.iload 5, 2) := by decide +kernel
theorem dL_law_909 : decode cL_law 909 = .ok (.if_icmp .eq 5, 3) := by decide +kernel
theorem dL_law_912 : decode cL_law 912 = .ok (.iconst 0, 1) := by decide +kernel
theorem dL_law_913 : decode cL_law 913 = .ok (.ireturn, 1) := by decide +kernel
theorem dL_law_914 : decode cL_law 914 = .ok (.iload 5, 2) := by decide +kernel
theorem dL_law_916 : decode cL_law 916 = .ok (.ifCond .ne 15, 3) := by decide +kernel
theorem dL_law_919 : decode cL_law 919 = .ok (.aload_n 3, 1) := by decide +kernel
theorem dL_law_920 : decode cL_law 920 = .ok (.iconst 0, 1) := by decide +kernel
theorem dL_law_921 : decode cL_law 921 = .ok (.laload, 1) := by decide +kernel
theorem dL_law_922 : decode cL_law 922 = .ok (.iload 6, 2) := by decide +kernel
theorem dL_law_924 : decode cL_law 924 = .ok (.i2l, 1) := by decide +kernel
theorem dL_law_925 : decode cL_law 925 = .ok (.lcmp, 1) := by decide +kernel
theorem dL_law_926 : decode cL_law 926 = .ok (.ifCond .eq 5, 3) := by decide +kernel
theorem dL_law_929 : decode cL_law 929 = .ok (.iconst 0, 1) := by decide +kernel
theorem dL_law_930 : decode cL_law 930 = .ok (.ireturn, 1) := by decide +kernel
theorem dL_law_931 : decode cL_law 931 = .ok (.goto 610, 3) := by decide +kernel
theorem dL_law_934 : decode cL_law 934 = .ok (.aload_n 1, 1) := by decide +kernel
theorem dL_law_935 : decode cL_law 935 = .ok (.aload_n 0, 1) := by decide +kernel
theorem dL_law_936 : decode cL_law 936 = .ok (.iload 4, 2) := by decide +kernel
theorem dL_law_938 : decode cL_law 938 = .ok (.iconst 1, 1) := by decide +kernel
theorem dL_law_939 : decode cL_law 939 = .ok (.iadd, 1) := by decide +kernel
theorem dL_law_940 : decode cL_law 940 = .ok (.iaload, 1) := by decide +kernel
theorem dL_law_941 : decode cL_law 941 = .ok (.invokevirtual 120, 3) := by decide +kernel
theorem dL_law_944 : decode cL_law 944 = .ok (.aload_n 2, 1) := by decide +kernel
theorem dL_law_945 : decode cL_law 945 = .ok (.aload_n 0, 1) := by decide +kernel
theorem dL_law_946 : decode cL_law 946 = .ok (.iload 4, 2) := by decide +kernel
theorem dL_law_948 : decode cL_law 948 = .ok (.iconst 1, 1) := by decide +kernel
theorem dL_law_949 : decode cL_law 949 = .ok (.iadd, 1) := by decide +kernel
theorem dL_law_950 : decode cL_law 950 = .ok (.iaload, 1) := by decide +kernel
theorem dL_law_951 : decode cL_law 951 = .ok (.invokevirtual 124, 3) := by decide +kernel
theorem dL_law_954 : decode cL_law 954 = .ok (.goto 587, 3) := by decide +kernel
theorem dL_law_957 : decode cL_law 957 = .ok (.aload_n 1, 1) := by decide +kernel
theorem dL_law_958 : decode cL_law 958 = .ok (.aload_n 0, 1) := by decide +kernel
theorem dL_law_959 : decode cL_law 959 = .ok (.iload 4, 2) := by decide +kernel
theorem dL_law_961 : decode cL_law 961 = .ok (.iconst 1, 1) := by decide +kernel
theorem dL_law_962 : decode cL_law 962 = .ok (.iadd, 1) := by decide +kernel
theorem dL_law_963 : decode cL_law 963 = .ok (.iaload, 1) := by decide +kernel
theorem dL_law_964 : decode cL_law 964 = .ok (.aload_n 3, 1) := by decide +kernel
theorem dL_law_965 : decode cL_law 965 = .ok (.invokestatic 125, 3) := by decide +kernel
theorem dL_law_968 : decode cL_law 968 = .ok (.istore 5, 2) := by decide +kernel
theorem dL_law_970 : decode cL_law 970 = .ok (.aload_n 2, 1) := by decide +kernel
theorem dL_law_971 : decode cL_law 971 = .ok (.aload_n 0, 1) := by decide +kernel
theorem dL_law_972 : decode cL_law 972 = .ok (.iload 4, 2) := by decide +kernel
theorem dL_law_974 : decode cL_law 974 = .ok (.iconst 1, 1) := by decide +kernel
theorem dL_law_975 : decode cL_law 975 = .ok (.iadd, 1) := by decide +kernel
theorem dL_law_976 : decode cL_law 976 = .ok (.iaload, 1) := by decide +kernel
theorem dL_law_977 : decode cL_law 977 = .ok (.invokevirtual 127, 3) := by decide +kernel
theorem dL_law_980 : decode cL_law 980 = .ok (.istore 6, 2) := by decide +kernel
theorem dL_law_982 : decode cL_law 982 = .ok (.aload_n 2, 1) := by decide +kernel
theorem dL_law_983 : decode cL_law 983 = .ok (.invokevirtual 83, 3) := by decide +kernel
theorem dL_law_986 : decode cL_law 986 = .ok (.iload 5, 2) := by decide +kernel
theorem dL_law_988 : decode cL_law 988 = .ok (.if_icmp .eq 5, 3) := by decide +kernel
theorem dL_law_991 : decode cL_law 991 = .ok (.iconst 0, 1) := by decide +kernel
theorem dL_law_992 : decode cL_law 992 = .ok (.ireturn, 1) := by decide +kernel
theorem dL_law_993 : decode cL_law 993 = .ok (.iload 5, 2) := by decide +kernel
theorem dL_law_995 : decode cL_law 995 = .ok (.ifCond .ne 15, 3) := by decide +kernel
theorem dL_law_998 : decode cL_law 998 = .ok (.aload_n 3, 1) := by decide +kernel
theorem dL_law_999 : decode cL_law 999 = .ok (.iconst 0, 1) := by decide +kernel
theorem dL_law_1000 : decode cL_law 1000 = .ok (.laload, 1) := by decide +kernel
theorem dL_law_1001 : decode cL_law 1001 = .ok (.iload 6, 2) := by decide +kernel
theorem dL_law_1003 : decode cL_law 1003 = .ok (.i2l, 1) := by decide +kernel
theorem dL_law_1004 : decode cL_law 1004 = .ok (.lcmp, 1) := by decide +kernel
theorem dL_law_1005 : decode cL_law 1005 = .ok (.ifCond .eq 5, 3) := by decide +kernel
theorem dL_law_1008 : decode cL_law 1008 = .ok (.iconst 0, 1) := by decide +kernel
theorem dL_law_1009 : decode cL_law 1009 = .ok (.ireturn, 1) := by decide +kernel
theorem dL_law_1010 : decode cL_law 1010 = .ok (.goto 531, 3) := by decide +kernel
theorem dL_law_1013 : decode cL_law 1013 = .ok (.aload_n 1, 1) := by decide +kernel
theorem dL_law_1014 : decode cL_law 1014 = .ok (.invokevirtual 128, 3) := by decide +kernel
theorem dL_law_1017 : decode cL_law 1017 = .ok (.aload_n 2, 1) := by decide +kernel
theorem dL_law_1018 : decode cL_law 1018 = .ok (.invokevirtual 132, 3) := by decide +kernel
theorem dL_law_1021 : decode cL_law 1021 = .ok (.if_icmp .eq 520, 3) := by decide +kernel
theorem dL_law_1024 : decode cL_law 1024 = .ok (.iconst 0, 1) := by decide +kernel
theorem dL_law_1025 : decode cL_law 1025 = .ok (.ireturn, 1) := by decide +kernel
theorem dL_law_1026 : decode cL_law 1026 = .ok (.aload_n 1, 1) := by decide +kernel
theorem dL_law_1027 : decode cL_law 1027 = .ok (.aload_n 0, 1) := by decide +kernel
theorem dL_law_1028 : decode cL_law 1028 = .ok (.iload 4, 2) := by decide +kernel
theorem dL_law_1030 : decode cL_law 1030 = .ok (.iconst 1, 1) := by decide +kernel
theorem dL_law_1031 : decode cL_law 1031 = .ok (.iadd, 1) := by decide +kernel
theorem dL_law_1032 : decode cL_law 1032 = .ok (.iaload, 1) := by decide +kernel
theorem dL_law_1033 : decode cL_law 1033 = .ok (.aload_n 0, 1) := by decide +kernel
theorem dL_law_1034 : decode cL_law 1034 = .ok (.iload 4, 2) := by decide +kernel
theorem dL_law_1036 : decode cL_law 1036 = .ok (.iconst 2, 1) := by decide +kernel
theorem dL_law_1037 : decode cL_law 1037 = .ok (.iadd, 1) := by decide +kernel
theorem dL_law_1038 : decode cL_law 1038 = .ok (.iaload, 1) := by decide +kernel
theorem dL_law_1039 : decode cL_law 1039 = .ok (.aload_n 0, 1) := by decide +kernel
theorem dL_law_1040 : decode cL_law 1040 = .ok (.iload 4, 2) := by decide +kernel
theorem dL_law_1042 : decode cL_law 1042 = .ok (.iconst 3, 1) := by decide +kernel
theorem dL_law_1043 : decode cL_law 1043 = .ok (.iadd, 1) := by decide +kernel
theorem dL_law_1044 : decode cL_law 1044 = .ok (.iaload, 1) := by decide +kernel
theorem dL_law_1045 : decode cL_law 1045 = .ok (.aload_n 3, 1) := by decide +kernel
theorem dL_law_1046 : decode cL_law 1046 = .ok (.invokestatic 133, 3) := by decide +kernel
theorem dL_law_1049 : decode cL_law 1049 = .ok (.istore 5, 2) := by decide +kernel
theorem dL_law_1051 : decode cL_law 1051 = .ok (.aload_n 2, 1) := by decide +kernel
theorem dL_law_1052 : decode cL_law 1052 = .ok (.aload_n 0, 1) := by decide +kernel
theorem dL_law_1053 : decode cL_law 1053 = .ok (.iload 4, 2) := by decide +kernel
theorem dL_law_1055 : decode cL_law 1055 = .ok (.iconst 1, 1) := by decide +kernel
theorem dL_law_1056 : decode cL_law 1056 = .ok (.iadd, 1) := by decide +kernel
theorem dL_law_1057 : decode cL_law 1057 = .ok (.iaload, 1) := by decide +kernel
theorem dL_law_1058 : decode cL_law 1058 = .ok (.aload_n 0, 1) := by decide +kernel
theorem dL_law_1059 : decode cL_law 1059 = .ok (.iload 4, 2) := by decide +kernel
theorem dL_law_1061 : decode cL_law 1061 = .ok (.iconst 2, 1) := by decide +kernel
theorem dL_law_1062 : decode cL_law 1062 = .ok (.iadd, 1) := by decide +kernel
theorem dL_law_1063 : decode cL_law 1063 = .ok (.iaload, 1) := by decide +kernel
theorem dL_law_1064 : decode cL_law 1064 = .ok (.aload_n 0, 1) := by decide +kernel
theorem dL_law_1065 : decode cL_law 1065 = .ok (.iload 4, 2) := by decide +kernel
theorem dL_law_1067 : decode cL_law 1067 = .ok (.iconst 3, 1) := by decide +kernel
theorem dL_law_1068 : decode cL_law 1068 = .ok (.iadd, 1) := by decide +kernel
theorem dL_law_1069 : decode cL_law 1069 = .ok (.iaload, 1) := by decide +kernel
theorem dL_law_1070 : decode cL_law 1070 = .ok (.invokevirtual 135, 3) := by decide +kernel
theorem dL_law_1073 : decode cL_law 1073 = .ok (.istore 6, 2) := by decide +kernel
theorem dL_law_1075 : decode cL_law 1075 = .ok (.aload_n 2, 1) := by decide +kernel
theorem dL_law_1076 : decode cL_law 1076 = .ok (.invokevirtual 83, 3) := by decide +kernel
theorem dL_law_1079 : decode cL_law 1079 = .ok (.iload 5, 2) := by decide +kernel
theorem dL_law_1081 : decode cL_law 1081 = .ok (.if_icmp .eq 5, 3) := by decide +kernel
theorem dL_law_1084 : decode cL_law 1084 = .ok (.iconst 0, 1) := by decide +kernel
theorem dL_law_1085 : decode cL_law 1085 = .ok (.ireturn, 1) := by decide +kernel
theorem dL_law_1086 : decode cL_law 1086 = .ok (.iload 5, 2) := by decide +kernel
theorem dL_law_1088 : decode cL_law 1088 = .ok (.ifCond .ne 15, 3) := by decide +kernel
theorem dL_law_1091 : decode cL_law 1091 = .ok (.aload_n 3, 1) := by decide +kernel
theorem dL_law_1092 : decode cL_law 1092 = .ok (.iconst 0, 1) := by decide +kernel
theorem dL_law_1093 : decode cL_law 1093 = .ok (.laload, 1) := by decide +kernel
theorem dL_law_1094 : decode cL_law 1094 = .ok (.iload 6, 2) := by decide +kernel
theorem dL_law_1096 : decode cL_law 1096 = .ok (.i2l, 1) := by decide +kernel
theorem dL_law_1097 : decode cL_law 1097 = .ok (.lcmp, 1) := by decide +kernel
theorem dL_law_1098 : decode cL_law 1098 = .ok (.ifCond .eq 5, 3) := by decide +kernel
theorem dL_law_1101 : decode cL_law 1101 = .ok (.iconst 0, 1) := by decide +kernel
theorem dL_law_1102 : decode cL_law 1102 = .ok (.ireturn, 1) := by decide +kernel
theorem dL_law_1103 : decode cL_law 1103 = .ok (.goto 438, 3) := by decide +kernel
theorem dL_law_1106 : decode cL_law 1106 = .ok (.aload_n 1, 1) := by decide +kernel
theorem dL_law_1107 : decode cL_law 1107 = .ok (.aload_n 0, 1) := by decide +kernel
theorem dL_law_1108 : decode cL_law 1108 = .ok (.iload 4, 2) := by decide +kernel
theorem dL_law_1110 : decode cL_law 1110 = .ok (.iconst 1, 1) := by decide +kernel
theorem dL_law_1111 : decode cL_law 1111 = .ok (.iadd, 1) := by decide +kernel
theorem dL_law_1112 : decode cL_law 1112 = .ok (.iaload, 1) := by decide +kernel
theorem dL_law_1113 : decode cL_law 1113 = .ok (.aload_n 0, 1) := by decide +kernel
theorem dL_law_1114 : decode cL_law 1114 = .ok (.iload 4, 2) := by decide +kernel
theorem dL_law_1116 : decode cL_law 1116 = .ok (.iconst 2, 1) := by decide +kernel
theorem dL_law_1117 : decode cL_law 1117 = .ok (.iadd, 1) := by decide +kernel
theorem dL_law_1118 : decode cL_law 1118 = .ok (.iaload, 1) := by decide +kernel
theorem dL_law_1119 : decode cL_law 1119 = .ok (.aload_n 0, 1) := by decide +kernel
theorem dL_law_1120 : decode cL_law 1120 = .ok (.iload 4, 2) := by decide +kernel
theorem dL_law_1122 : decode cL_law 1122 = .ok (.iconst 3, 1) := by decide +kernel
theorem dL_law_1123 : decode cL_law 1123 = .ok (.iadd, 1) := by decide +kernel
theorem dL_law_1124 : decode cL_law 1124 = .ok (.iaload, 1) := by decide +kernel
theorem dL_law_1125 : decode cL_law 1125 = .ok (.aload_n 0, 1) := by decide +kernel
theorem dL_law_1126 : decode cL_law 1126 = .ok (.iload 4, 2) := by decide +kernel
theorem dL_law_1128 : decode cL_law 1128 = .ok (.iconst 4, 1) := by decide +kernel
theorem dL_law_1129 : decode cL_law 1129 = .ok (.iadd, 1) := by decide +kernel
theorem dL_law_1130 : decode cL_law 1130 = .ok (.iaload, 1) := by decide +kernel
theorem dL_law_1131 : decode cL_law 1131 = .ok (.aload_n 3, 1) := by decide +kernel
theorem dL_law_1132 : decode cL_law 1132 = .ok (.invokestatic 136, 3) := by decide +kernel
theorem dL_law_1135 : decode cL_law 1135 = .ok (.istore 5, 2) := by decide +kernel
theorem dL_law_1137 : decode cL_law 1137 = .ok (.aload_n 2, 1) := by decide +kernel
theorem dL_law_1138 : decode cL_law 1138 = .ok (.aload_n 0, 1) := by decide +kernel
theorem dL_law_1139 : decode cL_law 1139 = .ok (.iload 4, 2) := by decide +kernel
theorem dL_law_1141 : decode cL_law 1141 = .ok (.iconst 1, 1) := by decide +kernel
theorem dL_law_1142 : decode cL_law 1142 = .ok (.iadd, 1) := by decide +kernel
theorem dL_law_1143 : decode cL_law 1143 = .ok (.iaload, 1) := by decide +kernel
theorem dL_law_1144 : decode cL_law 1144 = .ok (.aload_n 0, 1) := by decide +kernel
theorem dL_law_1145 : decode cL_law 1145 = .ok (.iload 4, 2) := by decide +kernel
theorem dL_law_1147 : decode cL_law 1147 = .ok (.iconst 2, 1) := by decide +kernel
theorem dL_law_1148 : decode cL_law 1148 = .ok (.iadd, 1) := by decide +kernel
theorem dL_law_1149 : decode cL_law 1149 = .ok (.iaload, 1) := by decide +kernel
theorem dL_law_1150 : decode cL_law 1150 = .ok (.aload_n 0, 1) := by decide +kernel
theorem dL_law_1151 : decode cL_law 1151 = .ok (.iload 4, 2) := by decide +kernel
theorem dL_law_1153 : decode cL_law 1153 = .ok (.iconst 3, 1) := by decide +kernel
theorem dL_law_1154 : decode cL_law 1154 = .ok (.iadd, 1) := by decide +kernel
theorem dL_law_1155 : decode cL_law 1155 = .ok (.iaload, 1) := by decide +kernel
theorem dL_law_1156 : decode cL_law 1156 = .ok (.aload_n 0, 1) := by decide +kernel
theorem dL_law_1157 : decode cL_law 1157 = .ok (.iload 4, 2) := by decide +kernel
theorem dL_law_1159 : decode cL_law 1159 = .ok (.iconst 4, 1) := by decide +kernel
theorem dL_law_1160 : decode cL_law 1160 = .ok (.iadd, 1) := by decide +kernel
theorem dL_law_1161 : decode cL_law 1161 = .ok (.iaload, 1) := by decide +kernel
theorem dL_law_1162 : decode cL_law 1162 = .ok (.invokevirtual 139, 3) := by decide +kernel
theorem dL_law_1165 : decode cL_law 1165 = .ok (.lstore 6, 2) := by decide +kernel
theorem dL_law_1167 : decode cL_law 1167 = .ok (.aload_n 2, 1) := by decide +kernel
theorem dL_law_1168 : decode cL_law 1168 = .ok (.invokevirtual 83, 3) := by decide +kernel
theorem dL_law_1171 : decode cL_law 1171 = .ok (.iload 5, 2) := by decide +kernel
theorem dL_law_1173 : decode cL_law 1173 = .ok (.if_icmp .eq 5, 3) := by decide +kernel
theorem dL_law_1176 : decode cL_law 1176 = .ok (.iconst 0, 1) := by decide +kernel
theorem dL_law_1177 : decode cL_law 1177 = .ok (.ireturn, 1) := by decide +kernel
theorem dL_law_1178 : decode cL_law 1178 = .ok (.iload 5, 2) := by decide +kernel
theorem dL_law_1180 : decode cL_law 1180 = .ok (.ifCond .ne 14, 3) := by decide +kernel
theorem dL_law_1183 : decode cL_law 1183 = .ok (.aload_n 3, 1) := by decide +kernel
theorem dL_law_1184 : decode cL_law 1184 = .ok (.iconst 0, 1) := by decide +kernel
theorem dL_law_1185 : decode cL_law 1185 = .ok (.laload, 1) := by decide +kernel
theorem dL_law_1186 : decode cL_law 1186 = .ok (.lload 6, 2) := by decide +kernel
theorem dL_law_1188 : decode cL_law 1188 = .ok (.lcmp, 1) := by decide +kernel
theorem dL_law_1189 : decode cL_law 1189 = .ok (.ifCond .eq 5, 3) := by decide +kernel
theorem dL_law_1192 : decode cL_law 1192 = .ok (.iconst 0, 1) := by decide +kernel
theorem dL_law_1193 : decode cL_law 1193 = .ok (.ireturn, 1) := by decide +kernel
theorem dL_law_1194 : decode cL_law 1194 = .ok (.goto 347, 3) := by decide +kernel
theorem dL_law_1197 : decode cL_law 1197 = .ok (.aload_n 1, 1) := by decide +kernel
theorem dL_law_1198 : decode cL_law 1198 = .ok (.aload_n 0, 1) := by decide +kernel
theorem dL_law_1199 : decode cL_law 1199 = .ok (.iload 4, 2) := by decide +kernel
theorem dL_law_1201 : decode cL_law 1201 = .ok (.iconst 1, 1) := by decide +kernel
theorem dL_law_1202 : decode cL_law 1202 = .ok (.iadd, 1) := by decide +kernel
theorem dL_law_1203 : decode cL_law 1203 = .ok (.iaload, 1) := by decide +kernel
theorem dL_law_1204 : decode cL_law 1204 = .ok (.aload_n 0, 1) := by decide +kernel
theorem dL_law_1205 : decode cL_law 1205 = .ok (.iload 4, 2) := by decide +kernel
theorem dL_law_1207 : decode cL_law 1207 = .ok (.iconst 2, 1) := by decide +kernel
theorem dL_law_1208 : decode cL_law 1208 = .ok (.iadd, 1) := by decide +kernel
theorem dL_law_1209 : decode cL_law 1209 = .ok (.iaload, 1) := by decide +kernel
theorem dL_law_1210 : decode cL_law 1210 = .ok (.aload_n 0, 1) := by decide +kernel
theorem dL_law_1211 : decode cL_law 1211 = .ok (.iload 4, 2) := by decide +kernel
theorem dL_law_1213 : decode cL_law 1213 = .ok (.iconst 3, 1) := by decide +kernel
theorem dL_law_1214 : decode cL_law 1214 = .ok (.iadd, 1) := by decide +kernel
theorem dL_law_1215 : decode cL_law 1215 = .ok (.iaload, 1) := by decide +kernel
theorem dL_law_1216 : decode cL_law 1216 = .ok (.aload_n 3, 1) := by decide +kernel
theorem dL_law_1217 : decode cL_law 1217 = .ok (.invokestatic 140, 3) := by decide +kernel
theorem dL_law_1220 : decode cL_law 1220 = .ok (.istore 5, 2) := by decide +kernel
theorem dL_law_1222 : decode cL_law 1222 = .ok (.aload_n 2, 1) := by decide +kernel
theorem dL_law_1223 : decode cL_law 1223 = .ok (.aload_n 0, 1) := by decide +kernel
theorem dL_law_1224 : decode cL_law 1224 = .ok (.iload 4, 2) := by decide +kernel
theorem dL_law_1226 : decode cL_law 1226 = .ok (.iconst 1, 1) := by decide +kernel
theorem dL_law_1227 : decode cL_law 1227 = .ok (.iadd, 1) := by decide +kernel
theorem dL_law_1228 : decode cL_law 1228 = .ok (.iaload, 1) := by decide +kernel
theorem dL_law_1229 : decode cL_law 1229 = .ok (.aload_n 0, 1) := by decide +kernel
theorem dL_law_1230 : decode cL_law 1230 = .ok (.iload 4, 2) := by decide +kernel
theorem dL_law_1232 : decode cL_law 1232 = .ok (.iconst 2, 1) := by decide +kernel
theorem dL_law_1233 : decode cL_law 1233 = .ok (.iadd, 1) := by decide +kernel
theorem dL_law_1234 : decode cL_law 1234 = .ok (.iaload, 1) := by decide +kernel
theorem dL_law_1235 : decode cL_law 1235 = .ok (.aload_n 0, 1) := by decide +kernel
theorem dL_law_1236 : decode cL_law 1236 = .ok (.iload 4, 2) := by decide +kernel
theorem dL_law_1238 : decode cL_law 1238 = .ok (.iconst 3, 1) := by decide +kernel
theorem dL_law_1239 : decode cL_law 1239 = .ok (.iadd, 1) := by decide +kernel
theorem dL_law_1240 : decode cL_law 1240 = .ok (.iaload, 1) := by decide +kernel
theorem dL_law_1241 : decode cL_law 1241 = .ok (.invokevirtual 142, 3) := by decide +kernel
theorem dL_law_1244 : decode cL_law 1244 = .ok (.istore 6, 2) := by decide +kernel
theorem dL_law_1246 : decode cL_law 1246 = .ok (.aload_n 2, 1) := by decide +kernel
theorem dL_law_1247 : decode cL_law 1247 = .ok (.invokevirtual 83, 3) := by decide +kernel
theorem dL_law_1250 : decode cL_law 1250 = .ok (.iload 5, 2) := by decide +kernel
theorem dL_law_1252 : decode cL_law 1252 = .ok (.if_icmp .eq 5, 3) := by decide +kernel
theorem dL_law_1255 : decode cL_law 1255 = .ok (.iconst 0, 1) := by decide +kernel
theorem dL_law_1256 : decode cL_law 1256 = .ok (.ireturn, 1) := by decide +kernel
theorem dL_law_1257 : decode cL_law 1257 = .ok (.iload 5, 2) := by decide +kernel
theorem dL_law_1259 : decode cL_law 1259 = .ok (.ifCond .ne 15, 3) := by decide +kernel
theorem dL_law_1262 : decode cL_law 1262 = .ok (.aload_n 3, 1) := by decide +kernel
theorem dL_law_1263 : decode cL_law 1263 = .ok (.iconst 0, 1) := by decide +kernel
theorem dL_law_1264 : decode cL_law 1264 = .ok (.laload, 1) := by decide +kernel
theorem dL_law_1265 : decode cL_law 1265 = .ok (.iload 6, 2) := by decide +kernel
theorem dL_law_1267 : decode cL_law 1267 = .ok (.i2l, 1) := by decide +kernel
theorem dL_law_1268 : decode cL_law 1268 = .ok (.lcmp, 1) := by decide +kernel
theorem dL_law_1269 : decode cL_law 1269 = .ok (.ifCond .eq 5, 3) := by decide +kernel
theorem dL_law_1272 : decode cL_law 1272 = .ok (.iconst 0, 1) := by decide +kernel
theorem dL_law_1273 : decode cL_law 1273 = .ok (.ireturn, 1) := by decide +kernel
theorem dL_law_1274 : decode cL_law 1274 = .ok (.goto 267, 3) := by decide +kernel
theorem dL_law_1277 : decode cL_law 1277 = .ok (.aload_n 1, 1) := by decide +kernel
theorem dL_law_1278 : decode cL_law 1278 = .ok (.invokevirtual 143, 3) := by decide +kernel
theorem dL_law_1281 : decode cL_law 1281 = .ok (.aload_n 2, 1) := by decide +kernel
theorem dL_law_1282 : decode cL_law 1282 = .ok (.invokevirtual 146, 3) := by decide +kernel
theorem dL_law_1285 : decode cL_law 1285 = .ok (.goto 256, 3) := by decide +kernel
theorem dL_law_1288 : decode cL_law 1288 = .ok (.aload_n 1, 1) := by decide +kernel
theorem dL_law_1289 : decode cL_law 1289 = .ok (.invokevirtual 147, 3) := by decide +kernel
theorem dL_law_1292 : decode cL_law 1292 = .ok (.aload_n 2, 1) := by decide +kernel
theorem dL_law_1293 : decode cL_law 1293 = .ok (.invokevirtual 150, 3) := by decide +kernel
theorem dL_law_1296 : decode cL_law 1296 = .ok (.if_icmp .eq 245, 3) := by decide +kernel
theorem dL_law_1299 : decode cL_law 1299 = .ok (.iconst 0, 1) := by decide +kernel
theorem dL_law_1300 : decode cL_law 1300 = .ok (.ireturn, 1) := by decide +kernel
theorem dL_law_1301 : decode cL_law 1301 = .ok (.aload_n 1, 1) := by decide +kernel
theorem dL_law_1302 : decode cL_law 1302 = .ok (.aload_n 0, 1) := by decide +kernel
theorem dL_law_1303 : decode cL_law 1303 = .ok (.iload 4, 2) := by decide +kernel
theorem dL_law_1305 : decode cL_law 1305 = .ok (.iconst 1, 1) := by decide +kernel
theorem dL_law_1306 : decode cL_law 1306 = .ok (.iadd, 1) := by decide +kernel
theorem dL_law_1307 : decode cL_law 1307 = .ok (.iaload, 1) := by decide +kernel
theorem dL_law_1308 : decode cL_law 1308 = .ok (.aload_n 3, 1) := by decide +kernel
theorem dL_law_1309 : decode cL_law 1309 = .ok (.invokestatic 151, 3) := by decide +kernel
theorem dL_law_1312 : decode cL_law 1312 = .ok (.istore 5, 2) := by decide +kernel
theorem dL_law_1314 : decode cL_law 1314 = .ok (.aload_n 2, 1) := by decide +kernel
theorem dL_law_1315 : decode cL_law 1315 = .ok (.aload_n 0, 1) := by decide +kernel
theorem dL_law_1316 : decode cL_law 1316 = .ok (.iload 4, 2) := by decide +kernel
theorem dL_law_1318 : decode cL_law 1318 = .ok (.iconst 1, 1) := by decide +kernel
theorem dL_law_1319 : decode cL_law 1319 = .ok (.iadd, 1) := by decide +kernel
theorem dL_law_1320 : decode cL_law 1320 = .ok (.iaload, 1) := by decide +kernel
theorem dL_law_1321 : decode cL_law 1321 = .ok (.invokevirtual 153, 3) := by decide +kernel
theorem dL_law_1324 : decode cL_law 1324 = .ok (.istore 6, 2) := by decide +kernel
theorem dL_law_1326 : decode cL_law 1326 = .ok (.aload_n 2, 1) := by decide +kernel
theorem dL_law_1327 : decode cL_law 1327 = .ok (.invokevirtual 83, 3) := by decide +kernel
theorem dL_law_1330 : decode cL_law 1330 = .ok (.iload 5, 2) := by decide +kernel
theorem dL_law_1332 : decode cL_law 1332 = .ok (.if_icmp .eq 5, 3) := by decide +kernel
theorem dL_law_1335 : decode cL_law 1335 = .ok (.iconst 0, 1) := by decide +kernel
theorem dL_law_1336 : decode cL_law 1336 = .ok (.ireturn, 1) := by decide +kernel
theorem dL_law_1337 : decode cL_law 1337 = .ok (.iload 5, 2) := by decide +kernel
theorem dL_law_1339 : decode cL_law 1339 = .ok (.ifCond .ne 15, 3) := by decide +kernel
theorem dL_law_1342 : decode cL_law 1342 = .ok (.aload_n 3, 1) := by decide +kernel
theorem dL_law_1343 : decode cL_law 1343 = .ok (.iconst 0, 1) := by decide +kernel
theorem dL_law_1344 : decode cL_law 1344 = .ok (.laload, 1) := by decide +kernel
theorem dL_law_1345 : decode cL_law 1345 = .ok (.iload 6, 2) := by decide +kernel
theorem dL_law_1347 : decode cL_law 1347 = .ok (.i2l, 1) := by decide +kernel
theorem dL_law_1348 : decode cL_law 1348 = .ok (.lcmp, 1) := by decide +kernel
theorem dL_law_1349 : decode cL_law 1349 = .ok (.ifCond .eq 5, 3) := by decide +kernel
theorem dL_law_1352 : decode cL_law 1352 = .ok (.iconst 0, 1) := by decide +kernel
theorem dL_law_1353 : decode cL_law 1353 = .ok (.ireturn, 1) := by decide +kernel
theorem dL_law_1354 : decode cL_law 1354 = .ok (.goto 187, 3) := by decide +kernel
theorem dL_law_1357 : decode cL_law 1357 = .ok (.aload_n 1, 1) := by decide +kernel
theorem dL_law_1358 : decode cL_law 1358 = .ok (.aload_n 0, 1) := by decide +kernel
theorem dL_law_1359 : decode cL_law 1359 = .ok (.iload 4, 2) := by decide +kernel
theorem dL_law_1361 : decode cL_law 1361 = .ok (.iconst 1, 1) := by decide +kernel
theorem dL_law_1362 : decode cL_law 1362 = .ok (.iadd, 1) := by decide +kernel
theorem dL_law_1363 : decode cL_law 1363 = .ok (.iaload, 1) := by decide +kernel
theorem dL_law_1364 : decode cL_law 1364 = .ok (.aload_n 3, 1) := by decide +kernel
theorem dL_law_1365 : decode cL_law 1365 = .ok (.invokestatic 154, 3) := by decide +kernel
theorem dL_law_1368 : decode cL_law 1368 = .ok (.istore 5, 2) := by decide +kernel
theorem dL_law_1370 : decode cL_law 1370 = .ok (.aload_n 2, 1) := by decide +kernel
theorem dL_law_1371 : decode cL_law 1371 = .ok (.aload_n 0, 1) := by decide +kernel
theorem dL_law_1372 : decode cL_law 1372 = .ok (.iload 4, 2) := by decide +kernel
theorem dL_law_1374 : decode cL_law 1374 = .ok (.iconst 1, 1) := by decide +kernel
theorem dL_law_1375 : decode cL_law 1375 = .ok (.iadd, 1) := by decide +kernel
theorem dL_law_1376 : decode cL_law 1376 = .ok (.iaload, 1) := by decide +kernel
theorem dL_law_1377 : decode cL_law 1377 = .ok (.invokevirtual 156, 3) := by decide +kernel
theorem dL_law_1380 : decode cL_law 1380 = .ok (.istore 6, 2) := by decide +kernel
theorem dL_law_1382 : decode cL_law 1382 = .ok (.aload_n 2, 1) := by decide +kernel
theorem dL_law_1383 : decode cL_law 1383 = .ok (.invokevirtual 83, 3) := by decide +kernel
theorem dL_law_1386 : decode cL_law 1386 = .ok (.iload 5, 2) := by decide +kernel
theorem dL_law_1388 : decode cL_law 1388 = .ok (.if_icmp .eq 5, 3) := by decide +kernel
theorem dL_law_1391 : decode cL_law 1391 = .ok (.iconst 0, 1) := by decide +kernel
theorem dL_law_1392 : decode cL_law 1392 = .ok (.ireturn, 1) := by decide +kernel
theorem dL_law_1393 : decode cL_law 1393 = .ok (.iload 5, 2) := by decide +kernel
theorem dL_law_1395 : decode cL_law 1395 = .ok (.ifCond .ne 15, 3) := by decide +kernel
theorem dL_law_1398 : decode cL_law 1398 = .ok (.aload_n 3, 1) := by decide +kernel
theorem dL_law_1399 : decode cL_law 1399 = .ok (.iconst 0, 1) := by decide +kernel
theorem dL_law_1400 : decode cL_law 1400 = .ok (.laload, 1) := by decide +kernel
theorem dL_law_1401 : decode cL_law 1401 = .ok (.iload 6, 2) := by decide +kernel
theorem dL_law_1403 : decode cL_law 1403 = .ok (.i2l, 1) := by decide +kernel
theorem dL_law_1404 : decode cL_law 1404 = .ok (.lcmp, 1) := by decide +kernel
theorem dL_law_1405 : decode cL_law 1405 = .ok (.ifCond .eq 5, 3) := by decide +kernel
theorem dL_law_1408 : decode cL_law 1408 = .ok (.iconst 0, 1) := by decide +kernel
theorem dL_law_1409 : decode cL_law 1409 = .ok (.ireturn, 1) := by decide +kernel
theorem dL_law_1410 : decode cL_law 1410 = .ok (.goto 131, 3) := by decide +kernel
theorem dL_law_1413 : decode cL_law 1413 = .ok (.aload_n 1, 1) := by decide +kernel
theorem dL_law_1414 : decode cL_law 1414 = .ok (.aload_n 0, 1) := by decide +kernel
theorem dL_law_1415 : decode cL_law 1415 = .ok (.iload 4, 2) := by decide +kernel
theorem dL_law_1417 : decode cL_law 1417 = .ok (.iconst 1, 1) := by decide +kernel
theorem dL_law_1418 : decode cL_law 1418 = .ok (.iadd, 1) := by decide +kernel
theorem dL_law_1419 : decode cL_law 1419 = .ok (.iaload, 1) := by decide +kernel
theorem dL_law_1420 : decode cL_law 1420 = .ok (.aload_n 0, 1) := by decide +kernel
theorem dL_law_1421 : decode cL_law 1421 = .ok (.iload 4, 2) := by decide +kernel
theorem dL_law_1423 : decode cL_law 1423 = .ok (.iconst 2, 1) := by decide +kernel
theorem dL_law_1424 : decode cL_law 1424 = .ok (.iadd, 1) := by decide +kernel
theorem dL_law_1425 : decode cL_law 1425 = .ok (.iaload, 1) := by decide +kernel
theorem dL_law_1426 : decode cL_law 1426 = .ok (.aload_n 0, 1) := by decide +kernel
theorem dL_law_1427 : decode cL_law 1427 = .ok (.iload 4, 2) := by decide +kernel
theorem dL_law_1429 : decode cL_law 1429 = .ok (.iconst 3, 1) := by decide +kernel
theorem dL_law_1430 : decode cL_law 1430 = .ok (.iadd, 1) := by decide +kernel
theorem dL_law_1431 : decode cL_law 1431 = .ok (.iaload, 1) := by decide +kernel
theorem dL_law_1432 : decode cL_law 1432 = .ok (.aload_n 0, 1) := by decide +kernel
theorem dL_law_1433 : decode cL_law 1433 = .ok (.iload 4, 2) := by decide +kernel
theorem dL_law_1435 : decode cL_law 1435 = .ok (.iconst 4, 1) := by decide +kernel
theorem dL_law_1436 : decode cL_law 1436 = .ok (.iadd, 1) := by decide +kernel
theorem dL_law_1437 : decode cL_law 1437 = .ok (.iaload, 1) := by decide +kernel
theorem dL_law_1438 : decode cL_law 1438 = .ok (.aload_n 0, 1) := by decide +kernel
theorem dL_law_1439 : decode cL_law 1439 = .ok (.iload 4, 2) := by decide +kernel
theorem dL_law_1441 : decode cL_law 1441 = .ok (.iconst 5, 1) := by decide +kernel
theorem dL_law_1442 : decode cL_law 1442 = .ok (.iadd, 1) := by decide +kernel
theorem dL_law_1443 : decode cL_law 1443 = .ok (.iaload, 1) := by decide +kernel
theorem dL_law_1444 : decode cL_law 1444 = .ok (.aload_n 3, 1) := by decide +kernel
theorem dL_law_1445 : decode cL_law 1445 = .ok (.invokestatic 157, 3) := by decide +kernel
theorem dL_law_1448 : decode cL_law 1448 = .ok (.istore 5, 2) := by decide +kernel
theorem dL_law_1450 : decode cL_law 1450 = .ok (.aload_n 2, 1) := by decide +kernel
theorem dL_law_1451 : decode cL_law 1451 = .ok (.aload_n 0, 1) := by decide +kernel
theorem dL_law_1452 : decode cL_law 1452 = .ok (.iload 4, 2) := by decide +kernel
theorem dL_law_1454 : decode cL_law 1454 = .ok (.iconst 1, 1) := by decide +kernel
theorem dL_law_1455 : decode cL_law 1455 = .ok (.iadd, 1) := by decide +kernel
theorem dL_law_1456 : decode cL_law 1456 = .ok (.iaload, 1) := by decide +kernel
theorem dL_law_1457 : decode cL_law 1457 = .ok (.aload_n 0, 1) := by decide +kernel
theorem dL_law_1458 : decode cL_law 1458 = .ok (.iload 4, 2) := by decide +kernel
theorem dL_law_1460 : decode cL_law 1460 = .ok (.iconst 2, 1) := by decide +kernel
theorem dL_law_1461 : decode cL_law 1461 = .ok (.iadd, 1) := by decide +kernel
theorem dL_law_1462 : decode cL_law 1462 = .ok (.iaload, 1) := by decide +kernel
theorem dL_law_1463 : decode cL_law 1463 = .ok (.aload_n 0, 1) := by decide +kernel
theorem dL_law_1464 : decode cL_law 1464 = .ok (.iload 4, 2) := by decide +kernel
theorem dL_law_1466 : decode cL_law 1466 = .ok (.iconst 3, 1) := by decide +kernel
theorem dL_law_1467 : decode cL_law 1467 = .ok (.iadd, 1) := by decide +kernel
theorem dL_law_1468 : decode cL_law 1468 = .ok (.iaload, 1) := by decide +kernel
theorem dL_law_1469 : decode cL_law 1469 = .ok (.aload_n 0, 1) := by decide +kernel
theorem dL_law_1470 : decode cL_law 1470 = .ok (.iload 4, 2) := by decide +kernel
theorem dL_law_1472 : decode cL_law 1472 = .ok (.iconst 4, 1) := by decide +kernel
theorem dL_law_1473 : decode cL_law 1473 = .ok (.iadd, 1) := by decide +kernel
theorem dL_law_1474 : decode cL_law 1474 = .ok (.iaload, 1) := by decide +kernel
theorem dL_law_1475 : decode cL_law 1475 = .ok (.aload_n 0, 1) := by decide +kernel
theorem dL_law_1476 : decode cL_law 1476 = .ok (.iload 4, 2) := by decide +kernel
theorem dL_law_1478 : decode cL_law 1478 = .ok (.iconst 5, 1) := by decide +kernel
theorem dL_law_1479 : decode cL_law 1479 = .ok (.iadd, 1) := by decide +kernel
theorem dL_law_1480 : decode cL_law 1480 = .ok (.iaload, 1) := by decide +kernel
theorem dL_law_1481 : decode cL_law 1481 = .ok (.invokevirtual 160, 3) := by decide +kernel
theorem dL_law_1484 : decode cL_law 1484 = .ok (.istore 6, 2) := by decide +kernel
theorem dL_law_1486 : decode cL_law 1486 = .ok (.aload_n 2, 1) := by decide +kernel
theorem dL_law_1487 : decode cL_law 1487 = .ok (.invokevirtual 83, 3) := by decide +kernel
theorem dL_law_1490 : decode cL_law 1490 = .ok (.iload 5, 2) := by decide +kernel
theorem dL_law_1492 : decode cL_law 1492 = .ok (.if_icmp .eq 5, 3) := by decide +kernel
theorem dL_law_1495 : decode cL_law 1495 = .ok (.iconst 0, 1) := by decide +kernel
theorem dL_law_1496 : decode cL_law 1496 = .ok (.ireturn, 1) := by decide +kernel
theorem dL_law_1497 : decode cL_law 1497 = .ok (.iload 5, 2) := by decide +kernel
theorem dL_law_1499 : decode cL_law 1499 = .ok (.ifCond .ne 15, 3) := by decide +kernel
theorem dL_law_1502 : decode cL_law 1502 = .ok (.aload_n 3, 1) := by decide +kernel
theorem dL_law_1503 : decode cL_law 1503 = .ok (.iconst 0, 1) := by decide +kernel
theorem dL_law_1504 : decode cL_law 1504 = .ok (.laload, 1) := by decide +kernel
theorem dL_law_1505 : decode cL_law 1505 = .ok (.iload 6, 2) := by decide +kernel
theorem dL_law_1507 : decode cL_law 1507 = .ok (.i2l, 1) := by decide +kernel
theorem dL_law_1508 : decode cL_law 1508 = .ok (.lcmp, 1) := by decide +kernel
theorem dL_law_1509 : decode cL_law 1509 = .ok (.ifCond .eq 5, 3) := by decide +kernel
theorem dL_law_1512 : decode cL_law 1512 = .ok (.iconst 0, 1) := by decide +kernel
theorem dL_law_1513 : decode cL_law 1513 = .ok (.ireturn, 1) := by decide +kernel
theorem dL_law_1514 : decode cL_law 1514 = .ok (.goto 27, 3) := by decide +kernel
theorem dL_law_1517 : decode cL_law 1517 = .ok (.aload_n 1, 1) := by decide +kernel
theorem dL_law_1518 : decode cL_law 1518 = .ok (.invokevirtual 161, 3) := by decide +kernel
theorem dL_law_1521 : decode cL_law 1521 = .ok (.aload_n 2, 1) := by decide +kernel
theorem dL_law_1522 : decode cL_law 1522 = .ok (.invokevirtual 164, 3) := by decide +kernel
theorem dL_law_1525 : decode cL_law 1525 = .ok (.goto 16, 3) := by decide +kernel
theorem dL_law_1528 : decode cL_law 1528 = .ok (.aload_n 1, 1) := by decide +kernel
theorem dL_law_1529 : decode cL_law 1529 = .ok (.invokevirtual 165, 3) := by decide +kernel
theorem dL_law_1532 : decode cL_law 1532 = .ok (.aload_n 2, 1) := by decide +kernel
theorem dL_law_1533 : decode cL_law 1533 = .ok (.invokevirtual 168, 3) := by decide +kernel
theorem dL_law_1536 : decode cL_law 1536 = .ok (.if_icmp .eq 5, 3) := by decide +kernel
theorem dL_law_1539 : decode cL_law 1539 = .ok (.iconst 0, 1) := by decide +kernel
theorem dL_law_1540 : decode cL_law 1540 = .ok (.ireturn, 1) := by decide +kernel
theorem dL_law_1541 : decode cL_law 1541 = .ok (.iinc 4 6, 3) := by decide +kernel
theorem dL_law_1544 : decode cL_law 1544 = .ok (.goto (-1521), 3) := by decide +kernel
theorem dL_law_1547 : decode cL_law 1547 = .ok (.iconst 1, 1) := by decide +kernel
theorem dL_law_1548 : decode cL_law 1548 = .ok (.ireturn, 1) := by decide +kernel
