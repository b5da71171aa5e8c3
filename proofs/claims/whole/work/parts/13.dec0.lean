theorem dX0_init_0 : decode cX0_init 0 = .ok (.aload_n 0, 1) := by decide +kernel
theorem dX0_init_1 : decode cX0_init 1 = .ok (.invokespecial 3, 3) := by decide +kernel
theorem dX0_init_4 : decode cX0_init 4 = .ok (.aload_n 0, 1) := by decide +kernel
theorem dX0_init_5 : decode cX0_init 5 = .ok (.sipush 1300, 3) := by decide +kernel
theorem dX0_init_8 : decode cX0_init 8 = .ok (.newarray .int, 2) := by decide +kernel
theorem dX0_init_10 : decode cX0_init 10 = .ok (.putfield 11, 3) := by decide +kernel
theorem dX0_init_13 : decode cX0_init 13 = .ok (.aload_n 0, 1) := by decide +kernel
theorem dX0_init_14 : decode cX0_init 14 = .ok (.iconst 0, 1) := by decide +kernel
theorem dX0_init_15 : decode cX0_init 15 = .ok (.putfield 15, 3) := by decide +kernel
theorem dX0_init_18 : decode cX0_init 18 = .ok (.aload_n 0, 1) := by decide +kernel
theorem dX0_init_19 : decode cX0_init 19 = .ok (.iconst 0, 1) := by decide +kernel
theorem dX0_init_20 : decode cX0_init 20 = .ok (.putfield 19, 3) := by decide +kernel
theorem dX0_init_23 : decode cX0_init 23 = .ok (.return_, 1) := by decide +kernel
theorem dX0_size_0 : decode cX0_size 0 = .ok (.aload_n 0, 1) := by decide +kernel
theorem dX0_size_1 : decode cX0_size 1 = .ok (.getfield 19, 3) := by decide +kernel
theorem dX0_size_4 : decode cX0_size 4 = .ok (.ireturn, 1) := by decide +kernel
theorem dX0_clear_0 : decode cX0_clear 0 = .ok (.aload_n 0, 1) := by decide +kernel
theorem dX0_clear_1 : decode cX0_clear 1 = .ok (.iconst 0, 1) := by decide +kernel
theorem dX0_clear_2 : decode cX0_clear 2 = .ok (.putfield 19, 3) := by decide +kernel
theorem dX0_clear_5 : decode cX0_clear 5 = .ok (.return_, 1) := by decide +kernel
theorem dX0_keep_0 : decode cX0_keep 0 = .ok (.aload_n 0, 1) := by decide +kernel
theorem dX0_keep_1 : decode cX0_keep 1 = .ok (.aload_n 0, 1) := by decide +kernel
theorem dX0_keep_2 : decode cX0_keep 2 = .ok (.getfield 15, 3) := by decide +kernel
theorem dX0_keep_5 : decode cX0_keep 5 = .ok (.iconst 1, 1) := by decide +kernel
theorem dX0_keep_6 : decode cX0_keep 6 = .ok (.iadd, 1) := by decide +kernel
theorem dX0_keep_7 : decode cX0_keep 7 = .ok (.bipush 100, 2) := by decide +kernel
theorem dX0_keep_9 : decode cX0_keep 9 = .ok (.if_icmp .ge 12, 3) := by decide +kernel
theorem dX0_keep_12 : decode cX0_keep 12 = .ok (.aload_n 0, 1) := by decide +kernel
theorem dX0_keep_13 : decode cX0_keep 13 = .ok (.getfield 15, 3) := by decide +kernel
theorem dX0_keep_16 : decode cX0_keep 16 = .ok (.iconst 1, 1) := by decide +kernel
theorem dX0_keep_17 : decode cX0_keep 17 = .ok (.iadd, 1) := by decide +kernel
theorem dX0_keep_18 : decode cX0_keep 18 = .ok (.goto 4, 3) := by decide +kernel
theorem dX0_keep_21 : decode cX0_keep 21 = .ok (.iconst 0, 1) := by decide +kernel
theorem dX0_keep_22 : decode cX0_keep 22 = .ok (.putfield 15, 3) := by decide +kernel
theorem dX0_keep_25 : decode cX0_keep 25 = .ok (.aload_n 0, 1) := by decide +kernel
theorem dX0_keep_26 : decode cX0_keep 26 = .ok (.aload_n 0, 1) := by decide +kernel
theorem dX0_keep_27 : decode cX0_keep 27 = .ok (.getfield 19, 3) := by decide +kernel
theorem dX0_keep_30 : decode cX0_keep 30 = .ok (.iconst 1, 1) := by decide +kernel
theorem dX0_keep_31 : decode cX0_keep 31 = .ok (.iadd, 1) := by decide +kernel
theorem dX0_keep_32 : decode cX0_keep 32 = .ok (.bipush 100, 2) := by decide +kernel
theorem dX0_keep_34 : decode cX0_keep 34 = .ok (.invokestatic 22, 3) := by decide +kernel
theorem dX0_keep_37 : decode cX0_keep 37 = .ok (.putfield 19, 3) := by decide +kernel
theorem dX0_keep_40 : decode cX0_keep 40 = .ok (.aload_n 0, 1) := by decide +kernel
theorem dX0_keep_41 : decode cX0_keep 41 = .ok (.getfield 15, 3) := by decide +kernel
theorem dX0_keep_44 : decode cX0_keep 44 = .ok (.bipush 13, 2) := by decide +kernel
theorem dX0_keep_46 : decode cX0_keep 46 = .ok (.imul, 1) := by decide +kernel
theorem dX0_keep_47 : decode cX0_keep 47 = .ok (.istore_n 2, 1) := by decide +kernel
theorem dX0_keep_48 : decode cX0_keep 48 = .ok (.aload_n 0, 1) := by decide +kernel
theorem dX0_keep_49 : decode cX0_keep 49 = .ok (.getfield 11, 3) := by decide +kernel
theorem dX0_keep_52 : decode cX0_keep 52 = .ok (.iload_n 2, 1) := by decide +kernel
theorem dX0_keep_53 : decode cX0_keep 53 = .ok (.aload_n 1, 1) := by decide +kernel
theorem dX0_keep_54 : decode cX0_keep 54 = .ok (.getfield 28, 3) := by decide +kernel
theorem dX0_keep_57 : decode cX0_keep 57 = .ok (.invokestatic 33, 3) := by decide +kernel
theorem dX0_keep_60 : decode cX0_keep 60 = .ok (.aload_n 0, 1) := by decide +kernel
theorem dX0_keep_61 : decode cX0_keep 61 = .ok (.getfield 11, 3) := by decide +kernel
theorem dX0_keep_64 : decode cX0_keep 64 = .ok (.iload_n 2, 1) := by decide +kernel
theorem dX0_keep_65 : decode cX0_keep 65 = .ok (.iconst 1, 1) := by decide +kernel
theorem dX0_keep_66 : decode cX0_keep 66 = .ok (.iadd, 1) := by decide +kernel
theorem dX0_keep_67 : decode cX0_keep 67 = .ok (.aload_n 1, 1) := by decide +kernel
theorem dX0_keep_68 : decode cX0_keep 68 = .ok (.getfield 37, 3) := by decide +kernel
theorem dX0_keep_71 : decode cX0_keep 71 = .ok (.ifCond .eq 7, 3) := by decide +kernel
theorem dX0_keep_74 : decode cX0_keep 74 = .ok (.iconst 1, 1) := by decide +kernel
theorem dX0_keep_75 : decode cX0_keep 75 = .ok (.goto 4, 3) := by decide +kernel
theorem dX0_keep_78 : decode cX0_keep 78 = .ok (.iconst 0, 1) := by decide +kernel
theorem dX0_keep_79 : decode cX0_keep 79 = .ok (.invokestatic 33, 3) := by decide +kernel
theorem dX0_keep_82 : decode cX0_keep 82 = .ok (.aload_n 0, 1) := by decide +kernel
theorem dX0_keep_83 : decode cX0_keep 83 = .ok (.getfield 11, 3) := by decide +kernel
theorem dX0_keep_86 : decode cX0_keep 86 = .ok (.iload_n 2, 1) := by decide +kernel
theorem dX0_keep_87 : decode cX0_keep 87 = .ok (.iconst 2, 1) := by decide +kernel
theorem dX0_keep_88 : decode cX0_keep 88 = .ok (.iadd, 1) := by decide +kernel
theorem dX0_keep_89 : decode cX0_keep 89 = .ok (.aload_n 1, 1) := by decide +kernel
theorem dX0_keep_90 : decode cX0_keep 90 = .ok (.getfield 41, 3) := by decide +kernel
theorem dX0_keep_93 : decode cX0_keep 93 = .ok (.invokestatic 33, 3) := by decide +kernel
theorem dX0_keep_96 : decode cX0_keep 96 = .ok (.iconst 0, 1) := by decide +kernel
theorem dX0_keep_97 : decode cX0_keep 97 = .ok (.istore_n 3, 1) := by decide +kernel
theorem dX0_keep_98 : decode cX0_keep 98 = .ok (.iload_n 3, 1) := by decide +kernel
theorem dX0_keep_99 : decode cX0_keep 99 = .ok (.iconst 5, 1) := by decide +kernel
theorem dX0_keep_100 : decode cX0_keep 100 = .ok (.if_icmp .ge 53, 3) := by decide +kernel
theorem dX0_keep_103 : decode cX0_keep 103 = .ok (.aload_n 0, 1) := by decide +kernel
theorem dX0_keep_104 : decode cX0_keep 104 = .ok (.getfield 11, 3) := by decide +kernel
theorem dX0_keep_107 : decode cX0_keep 107 = .ok (.iload_n 2, 1) := by decide +kernel
theorem dX0_keep_108 : decode cX0_keep 108 = .ok (.iconst 3, 1) := by decide +kernel
theorem dX0_keep_109 : decode cX0_keep 109 = .ok (.iadd, 1) := by decide +kernel
theorem dX0_keep_110 : decode cX0_keep 110 = .ok (.iconst 2, 1) := by decide +kernel
theorem dX0_keep_111 : decode cX0_keep 111 = .ok (.iload_n 3, 1) := by decide +kernel
theorem dX0_keep_112 : decode cX0_keep 112 = .ok (.imul, 1) := by decide +kernel
theorem dX0_keep_113 : decode cX0_keep 113 = .ok (.iadd, 1) := by decide +kernel
theorem dX0_keep_114 : decode cX0_keep 114 = .ok (.aload_n 1, 1) := by decide +kernel
theorem dX0_keep_115 : decode cX0_keep 115 = .ok (.getfield 44, 3) := by decide +kernel
theorem dX0_keep_118 : decode cX0_keep 118 = .ok (.iload_n 3, 1) := by decide +kernel
theorem dX0_keep_119 : decode cX0_keep 119 = .ok (.invokestatic 47, 3) := by decide +kernel
theorem dX0_keep_122 : decode cX0_keep 122 = .ok (.invokestatic 33, 3) := by decide +kernel
theorem dX0_keep_125 : decode cX0_keep 125 = .ok (.aload_n 0, 1) := by decide +kernel
theorem dX0_keep_126 : decode cX0_keep 126 = .ok (.getfield 11, 3) := by decide +kernel
theorem dX0_keep_129 : decode cX0_keep 129 = .ok (.iload_n 2, 1) := by decide +kernel
theorem dX0_keep_130 : decode cX0_keep 130 = .ok (.iconst 4, 1) := by decide +kernel
theorem dX0_keep_131 : decode cX0_keep 131 = .ok (.iadd, 1) := by decide +kernel
theorem dX0_keep_132 : decode cX0_keep 132 = .ok (.iconst 2, 1) := by decide +kernel
theorem dX0_keep_133 : decode cX0_keep 133 = .ok (.iload_n 3, 1) := by decide +kernel
theorem dX0_keep_134 : decode cX0_keep 134 = .ok (.imul, 1) := by decide +kernel
theorem dX0_keep_135 : decode cX0_keep 135 = .ok (.iadd, 1) := by decide +kernel
theorem dX0_keep_136 : decode cX0_keep 136 = .ok (.aload_n 1, 1) := by decide +kernel
theorem dX0_keep_137 : decode cX0_keep 137 = .ok (.getfield 51, 3) := by decide +kernel
theorem dX0_keep_140 : decode cX0_keep 140 = .ok (.iload_n 3, 1) := by decide +kernel
theorem dX0_keep_141 : decode cX0_keep 141 = .ok (.invokestatic 47, 3) := by decide +kernel
theorem dX0_keep_144 : decode cX0_keep 144 = .ok (.invokestatic 33, 3) := by decide +kernel
theorem dX0_keep_147 : decode cX0_keep 147 = .ok (.iinc 3 1, 3) := by decide +kernel
theorem dX0_keep_150 : decode cX0_keep 150 = .ok (.goto (-52), 3) := by decide +kernel
theorem dX0_keep_153 : decode cX0_keep 153 = .ok (.return_, 1) := by decide +kernel
theorem dX0_bringBack_0 : decode cX0_bringBack 0 = .ok (.aload_n 0, 1) := by decide +kernel
theorem dX0_bringBack_1 : decode cX0_bringBack 1 = .ok (.getfield 19, 3) := by decide +kernel
theorem dX0_bringBack_4 : decode cX0_bringBack 4 = .ok (.ifCond .gt 5, 3) := by decide +kernel
theorem dX0_bringBack_7 : decode cX0_bringBack 7 = .ok (.iconst 0, 1) := by decide +kernel
theorem dX0_bringBack_8 : decode cX0_bringBack 8 = .ok (.ireturn, 1) := by decide +kernel
theorem dX0_bringBack_9 : decode cX0_bringBack 9 = .ok (.aload_n 0, 1) := by decide +kernel
theorem dX0_bringBack_10 : decode cX0_bringBack 10 = .ok (.getfield 15, 3) := by decide +kernel
theorem dX0_bringBack_13 : decode cX0_bringBack 13 = .ok (.bipush 13, 2) := by decide +kernel
theorem dX0_bringBack_15 : decode cX0_bringBack 15 = .ok (.imul, 1) := by decide +kernel
theorem dX0_bringBack_16 : decode cX0_bringBack 16 = .ok (.istore_n 2, 1) := by decide +kernel
theorem dX0_bringBack_17 : decode cX0_bringBack 17 = .ok (.aload_n 1, 1) := by decide +kernel
theorem dX0_bringBack_18 : decode cX0_bringBack 18 = .ok (.aload_n 0, 1) := by decide +kernel
theorem dX0_bringBack_19 : decode cX0_bringBack 19 = .ok (.getfield 11, 3) := by decide +kernel
theorem dX0_bringBack_22 : decode cX0_bringBack 22 = .ok (.iload_n 2, 1) := by decide +kernel
theorem dX0_bringBack_23 : decode cX0_bringBack 23 = .ok (.invokestatic 47, 3) := by decide +kernel
theorem dX0_bringBack_26 : decode cX0_bringBack 26 = .ok (.putfield 28, 3) := by decide +kernel
theorem dX0_bringBack_29 : decode cX0_bringBack 29 = .ok (.aload_n 1, 1) := by decide +kernel
theorem dX0_bringBack_30 : decode cX0_bringBack 30 = .ok (.aload_n 0, 1) := by decide +kernel
theorem dX0_bringBack_31 : decode cX0_bringBack 31 = .ok (.getfield 11, 3) := by decide +kernel
theorem dX0_bringBack_34 : decode cX0_bringBack 34 = .ok (.iload_n 2, 1) := by decide +kernel
theorem dX0_bringBack_35 : decode cX0_bringBack 35 = .ok (.iconst 1, 1) := by decide +kernel
theorem dX0_bringBack_36 : decode cX0_bringBack 36 = .ok (.iadd, 1) := by decide +kernel
theorem dX0_bringBack_37 : decode cX0_bringBack 37 = .ok (.invokestatic 47, 3) := by decide +kernel
theorem dX0_bringBack_40 : decode cX0_bringBack 40 = .ok (.iconst 1, 1) := by decide +kernel
theorem dX0_bringBack_41 : decode cX0_bringBack 41 = .ok (.if_icmp .ne 7, 3) := by decide +kernel
theorem dX0_bringBack_44 : decode cX0_bringBack 44 = .ok (.iconst 1, 1) := by decide +kernel
theorem dX0_bringBack_45 : decode cX0_bringBack 45 = .ok (.goto 4, 3) := by decide +kernel
theorem dX0_bringBack_48 : decode cX0_bringBack 48 = .ok (.iconst 0, 1) := by decide +kernel
theorem dX0_bringBack_49 : decode cX0_bringBack 49 = .ok (.putfield 37, 3) := by decide +kernel
theorem dX0_bringBack_52 : decode cX0_bringBack 52 = .ok (.aload_n 1, 1) := by decide +kernel
theorem dX0_bringBack_53 : decode cX0_bringBack 53 = .ok (.aload_n 0, 1) := by decide +kernel
theorem dX0_bringBack_54 : decode cX0_bringBack 54 = .ok (.getfield 11, 3) := by decide +kernel
theorem dX0_bringBack_57 : decode cX0_bringBack 57 = .ok (.iload_n 2, 1) := by decide +kernel
theorem dX0_bringBack_58 : decode cX0_bringBack 58 = .ok (.iconst 2, 1) := by decide +kernel
theorem dX0_bringBack_59 : decode cX0_bringBack 59 = .ok (.iadd, 1) := by decide +kernel
theorem dX0_bringBack_60 : decode cX0_bringBack 60 = .ok (.invokestatic 47, 3) := by decide +kernel
theorem dX0_bringBack_63 : decode cX0_bringBack 63 = .ok (.putfield 41, 3) := by decide +kernel
theorem dX0_bringBack_66 : decode cX0_bringBack 66 = .ok (.iconst 0, 1) := by decide +kernel
theorem dX0_bringBack_67 : decode cX0_bringBack 67 = .ok (.istore_n 3, 1) := by decide +kernel
theorem dX0_bringBack_68 : decode cX0_bringBack 68 = .ok (.iload_n 3, 1) := by decide +kernel
theorem dX0_bringBack_69 : decode cX0_bringBack 69 = .ok (.iconst 5, 1) := by decide +kernel
theorem dX0_bringBack_70 : decode cX0_bringBack 70 = .ok (.if_icmp .ge 42, 3) := by decide +kernel
theorem dX0_bringBack_73 : decode cX0_bringBack 73 = .ok (.aload_n 1, 1) := by decide +kernel
theorem dX0_bringBack_74 : decode cX0_bringBack 74 = .ok (.iload_n 3, 1) := by decide +kernel
theorem dX0_bringBack_75 : decode cX0_bringBack 75 = .ok (.aload_n 0, 1) := by decide +kernel
theorem dX0_bringBack_76 : decode cX0_bringBack 76 = .ok (.getfield 11, 3) := by decide +kernel
theorem dX0_bringBack_79 : decode cX0_bringBack 79 = .ok (.iload_n 2, 1) := by decide +kernel
theorem dX0_bringBack_80 : decode cX0_bringBack 80 = .ok (.iconst 3, 1) := by decide +kernel
theorem dX0_bringBack_81 : decode cX0_bringBack 81 = .ok (.iadd, 1) := by decide +kernel
theorem dX0_bringBack_82 : decode cX0_bringBack 82 = .ok (.iconst 2, 1) := by decide +kernel
theorem dX0_bringBack_83 : decode cX0_bringBack 83 = .ok (.iload_n 3, 1) := by decide +kernel
theorem dX0_bringBack_84 : decode cX0_bringBack 84 = .ok (.imul, 1) := by decide +kernel
theorem dX0_bringBack_85 : decode cX0_bringBack 85 = .ok (.iadd, 1) := by decide +kernel
theorem dX0_bringBack_86 : decode cX0_bringBack 86 = .ok (.invokestatic 47, 3) := by decide +kernel
theorem dX0_bringBack_89 : decode cX0_bringBack 89 = .ok (.aload_n 0, 1) := by decide +kernel
theorem dX0_bringBack_90 : decode cX0_bringBack 90 = .ok (.getfield 11, 3) := by decide +kernel
theorem dX0_bringBack_93 : decode cX0_bringBack 93 = .ok (.iload_n 2, 1) := by decide +kernel
theorem dX0_bringBack_94 : decode cX0_bringBack 94 = .ok (.iconst 4, 1) := by decide +kernel
theorem dX0_bringBack_95 : decode cX0_bringBack 95 = .ok (.iadd, 1) := by decide +kernel
theorem dX0_bringBack_96 : decode cX0_bringBack 96 = .ok (.iconst 2, 1) := by decide +kernel
theorem dX0_bringBack_97 : decode cX0_bringBack 97 = .ok (.iload_n 3, 1) := by decide +kernel
theorem dX0_bringBack_98 : decode cX0_bringBack 98 = .ok (.imul, 1) := by decide +kernel
theorem dX0_bringBack_99 : decode cX0_bringBack 99 = .ok (.iadd, 1) := by decide +kernel
theorem dX0_bringBack_100 : decode cX0_bringBack 100 = .ok (.invokestatic 47, 3) := by decide +kernel
theorem dX0_bringBack_103 : decode cX0_bringBack 103 = .ok (.invokevirtual 54, 3) := by decide +kernel
theorem dX0_bringBack_106 : decode cX0_bringBack 106 = .ok (.iinc 3 1, 3) := by decide +kernel
theorem dX0_bringBack_109 : decode cX0_bringBack 109 = .ok (.goto (-41), 3) := by decide +kernel
theorem dX0_bringBack_112 : decode cX0_bringBack 112 = .ok (.aload_n 0, 1) := by decide +kernel
theorem dX0_bringBack_113 : decode cX0_bringBack 113 = .ok (.aload_n 0, 1) := by decide +kernel
theorem dX0_bringBack_114 : decode cX0_bringBack 114 = .ok (.getfield 15, 3) := by decide +kernel
theorem dX0_bringBack_117 : decode cX0_bringBack 117 = .ok (.ifCond .le 12, 3) := by decide +kernel
theorem dX0_bringBack_120 : decode cX0_bringBack 120 = .ok (.aload_n 0, 1) := by decide +kernel
theorem dX0_bringBack_121 : decode cX0_bringBack 121 = .ok (.getfield 15, 3) := by decide +kernel
theorem dX0_bringBack_124 : decode cX0_bringBack 124 = .ok (.iconst 1, 1) := by decide +kernel
theorem dX0_bringBack_125 : decode cX0_bringBack 125 = .ok (.isub, 1) := by decide +kernel
theorem dX0_bringBack_126 : decode cX0_bringBack 126 = .ok (.goto 5, 3) := by decide +kernel
theorem dX0_bringBack_129 : decode cX0_bringBack 129 = .ok (.bipush 99, 2) := by decide +kernel
theorem dX0_bringBack_131 : decode cX0_bringBack 131 = .ok (.putfield 15, 3) := by decide +kernel
theorem dX0_bringBack_134 : decode cX0_bringBack 134 = .ok (.aload_n 0, 1) := by decide +kernel
theorem dX0_bringBack_135 : decode cX0_bringBack 135 = .ok (.dup, 1) := by decide +kernel
theorem dX0_bringBack_136 : decode cX0_bringBack 136 = .ok (.getfield 19, 3) := by decide +kernel
theorem dX0_bringBack_139 : decode cX0_bringBack 139 = .ok (.iconst 1, 1) := by decide +kernel
theorem dX0_bringBack_140 : decode cX0_bringBack 140 = .ok (.isub, 1) := by decide +kernel
theorem dX0_bringBack_141 : decode cX0_bringBack 141 = .ok (.putfield 19, 3) := by decide +kernel
theorem dX0_bringBack_144 : decode cX0_bringBack 144 = .ok (.iconst 1, 1) := by decide +kernel
theorem dX0_bringBack_145 : decode cX0_bringBack 145 = .ok (.ireturn, 1) := by decide +kernel
theorem dX1_init_0 : decode cX1_init 0 = .ok (.aload_n 0, 1) := by decide +kernel
theorem dX1_init_1 : decode cX1_init 1 = .ok (.invokespecial 3, 3) := by decide +kernel
theorem dX1_init_4 : decode cX1_init 4 = .ok (.aload_n 0, 1) := by decide +kernel
theorem dX1_init_5 : decode cX1_init 5 = .ok (.bipush 80, 2) := by decide +kernel
theorem dX1_init_7 : decode cX1_init 7 = .ok (.newarray .int, 2) := by decide +kernel
theorem dX1_init_9 : decode cX1_init 9 = .ok (.putfield 11, 3) := by decide +kernel
theorem dX1_init_12 : decode cX1_init 12 = .ok (.aload_n 0, 1) := by decide +kernel
theorem dX1_init_13 : decode cX1_init 13 = .ok (.sipush 128, 3) := by decide +kernel
theorem dX1_init_16 : decode cX1_init 16 = .ok (.newarray .int, 2) := by decide +kernel
theorem dX1_init_18 : decode cX1_init 18 = .ok (.putfield 15, 3) := by decide +kernel
theorem dX1_init_21 : decode cX1_init 21 = .ok (.aload_n 0, 1) := by decide +kernel
theorem dX1_init_22 : decode cX1_init 22 = .ok (.iconst 5, 1) := by decide +kernel
theorem dX1_init_23 : decode cX1_init 23 = .ok (.newarray .int, 2) := by decide +kernel
theorem dX1_init_25 : decode cX1_init 25 = .ok (.putfield 18, 3) := by decide +kernel
theorem dX1_init_28 : decode cX1_init 28 = .ok (.aload_n 0, 1) := by decide +kernel
theorem dX1_init_29 : decode cX1_init 29 = .ok (.iconst 0, 1) := by decide +kernel
theorem dX1_init_30 : decode cX1_init 30 = .ok (.putfield 21, 3) := by decide +kernel
theorem dX1_init_33 : decode cX1_init 33 = .ok (.aload_n 0, 1) := by decide +kernel
theorem dX1_init_34 : decode cX1_init 34 = .ok (.iconst (-1), 1) := by decide +kernel
theorem dX1_init_35 : decode cX1_init 35 = .ok (.putfield 25, 3) := by decide +kernel
theorem dX1_init_38 : decode cX1_init 38 = .ok (.aload_n 0, 1) := by decide +kernel
theorem dX1_init_39 : decode cX1_init 39 = .ok (.iconst (-1), 1) := by decide +kernel
theorem dX1_init_40 : decode cX1_init 40 = .ok (.putfield 29, 3) := by decide +kernel
theorem dX1_init_43 : decode cX1_init 43 = .ok (.aload_n 0, 1) := by decide +kernel
theorem dX1_init_44 : decode cX1_init 44 = .ok (.aload_n 1, 1) := by decide +kernel
theorem dX1_init_45 : decode cX1_init 45 = .ok (.putfield 32, 3) := by decide +kernel
theorem dX1_init_48 : decode cX1_init 48 = .ok (.aload_n 0, 1) := by decide +kernel
theorem dX1_init_49 : decode cX1_init 49 = .ok (.aload_n 2, 1) := by decide +kernel
theorem dX1_init_50 : decode cX1_init 50 = .ok (.putfield 36, 3) := by decide +kernel
theorem dX1_init_53 : decode cX1_init 53 = .ok (.aload_n 0, 1) := by decide +kernel
theorem dX1_init_54 : decode cX1_init 54 = .ok (.aload_n 3, 1) := by decide +kernel
theorem dX1_init_55 : decode cX1_init 55 = .ok (.putfield 40, 3) := by decide +kernel
theorem dX1_init_58 : decode cX1_init 58 = .ok (.aload_n 0, 1) := by decide +kernel
theorem dX1_init_59 : decode cX1_init 59 = .ok (.aload 4, 2) := by decide +kernel
theorem dX1_init_61 : decode cX1_init 61 = .ok (.putfield 44, 3) := by decide +kernel
theorem dX1_init_64 : decode cX1_init 64 = .ok (.return_, 1) := by decide +kernel
theorem dX1_drop_0 : decode cX1_drop 0 = .ok (.aload_n 0, 1) := by decide +kernel
theorem dX1_drop_1 : decode cX1_drop 1 = .ok (.iconst 0, 1) := by decide +kernel
theorem dX1_drop_2 : decode cX1_drop 2 = .ok (.putfield 21, 3) := by decide +kernel
theorem dX1_drop_5 : decode cX1_drop 5 = .ok (.return_, 1) := by decide +kernel
theorem dX1_hasPlan_0 : decode cX1_hasPlan 0 = .ok (.aload_n 0, 1) := by decide +kernel
theorem dX1_hasPlan_1 : decode cX1_hasPlan 1 = .ok (.getfield 21, 3) := by decide +kernel
theorem dX1_hasPlan_4 : decode cX1_hasPlan 4 = .ok (.ireturn, 1) := by decide +kernel
theorem dX1_nightsOf_0 : decode cX1_nightsOf 0 = .ok (.aload_n 0, 1) := by decide +kernel
theorem dX1_nightsOf_1 : decode cX1_nightsOf 1 = .ok (.getfield 18, 3) := by decide +kernel
theorem dX1_nightsOf_4 : decode cX1_nightsOf 4 = .ok (.iload_n 1, 1) := by decide +kernel
theorem dX1_nightsOf_5 : decode cX1_nightsOf 5 = .ok (.invokestatic 48, 3) := by decide +kernel
theorem dX1_nightsOf_8 : decode cX1_nightsOf 8 = .ok (.ireturn, 1) := by decide +kernel
theorem dX1_sparedTrunk_0 : decode cX1_sparedTrunk 0 = .ok (.aload_n 0, 1) := by decide +kernel
theorem dX1_sparedTrunk_1 : decode cX1_sparedTrunk 1 = .ok (.getfield 25, 3) := by decide +kernel
theorem dX1_sparedTrunk_4 : decode cX1_sparedTrunk 4 = .ok (.ireturn, 1) := by decide +kernel
theorem dX1_sparedPrice_0 : decode cX1_sparedPrice 0 = .ok (.aload_n 0, 1) := by decide +kernel
theorem dX1_sparedPrice_1 : decode cX1_sparedPrice 1 = .ok (.getfield 29, 3) := by decide +kernel
theorem dX1_sparedPrice_4 : decode cX1_sparedPrice 4 = .ok (.ireturn, 1) := by decide +kernel
theorem dX1_plan_0 : decode cX1_plan 0 = .ok (.aload_n 0, 1) := by decide +kernel
theorem dX1_plan_1 : decode cX1_plan 1 = .ok (.invokevirtual 52, 3) := by decide +kernel
theorem dX1_plan_4 : decode cX1_plan 4 = .ok (.aload_n 0, 1) := by decide +kernel
theorem dX1_plan_5 : decode cX1_plan 5 = .ok (.invokevirtual 55, 3) := by decide +kernel
theorem dX1_plan_8 : decode cX1_plan 8 = .ok (.aload_n 0, 1) := by decide +kernel
theorem dX1_plan_9 : decode cX1_plan 9 = .ok (.iconst 0, 1) := by decide +kernel
theorem dX1_plan_10 : decode cX1_plan 10 = .ok (.iconst 0, 1) := by decide +kernel
theorem dX1_plan_11 : decode cX1_plan 11 = .ok (.iconst (-1), 1) := by decide +kernel
theorem dX1_plan_12 : decode cX1_plan 12 = .ok (.invokevirtual 58, 3) := by decide +kernel
theorem dX1_plan_15 : decode cX1_plan 15 = .ok (.istore_n 1, 1) := by decide +kernel
theorem dX1_plan_16 : decode cX1_plan 16 = .ok (.iload_n 1, 1) := by decide +kernel
theorem dX1_plan_17 : decode cX1_plan 17 = .ok (.iconst (-1), 1) := by decide +kernel
theorem dX1_plan_18 : decode cX1_plan 18 = .ok (.if_icmp .ne 5, 3) := by decide +kernel
theorem dX1_plan_21 : decode cX1_plan 21 = .ok (.iconst (-1), 1) := by decide +kernel
theorem dX1_plan_22 : decode cX1_plan 22 = .ok (.ireturn, 1) := by decide +kernel
theorem dX1_plan_23 : decode cX1_plan 23 = .ok (.iconst 0, 1) := by decide +kernel
theorem dX1_plan_24 : decode cX1_plan 24 = .ok (.istore_n 2, 1) := by decide +kernel
theorem dX1_plan_25 : decode cX1_plan 25 = .ok (.iconst 0, 1) := by decide +kernel
theorem dX1_plan_26 : decode cX1_plan 26 = .ok (.istore_n 3, 1) := by decide +kernel
theorem dX1_plan_27 : decode cX1_plan 27 = .ok (.iload_n 3, 1) := by decide +kernel
theorem dX1_plan_28 : decode cX1_plan 28 = .ok (.aload_n 0, 1) := by decide +kernel
theorem dX1_plan_29 : decode cX1_plan 29 = .ok (.getfield 32, 3) := by decide +kernel
theorem dX1_plan_32 : decode cX1_plan 32 = .ok (.getfield 62, 3) := by decide +kernel
theorem dX1_plan_35 : decode cX1_plan 35 = .ok (.if_icmp .ge 37, 3) := by decide +kernel
theorem dX1_plan_38 : decode cX1_plan 38 = .ok (.aload_n 0, 1) := by decide +kernel
theorem dX1_plan_39 : decode cX1_plan 39 = .ok (.iload_n 3, 1) := by decide +kernel
theorem dX1_plan_40 : decode cX1_plan 40 = .ok (.iload_n 2, 1) := by decide +kernel
theorem dX1_plan_41 : decode cX1_plan 41 = .ok (.iload_n 1, 1) := by decide +kernel
theorem dX1_plan_42 : decode cX1_plan 42 = .ok (.invokevirtual 67, 3) := by decide +kernel
theorem dX1_plan_45 : decode cX1_plan 45 = .ok (.istore 4, 2) := by decide +kernel
theorem dX1_plan_47 : decode cX1_plan 47 = .ok (.aload_n 0, 1) := by decide +kernel
theorem dX1_plan_48 : decode cX1_plan 48 = .ok (.getfield 18, 3) := by decide +kernel
theorem dX1_plan_51 : decode cX1_plan 51 = .ok (.iload_n 3, 1) := by decide +kernel
theorem dX1_plan_52 : decode cX1_plan 52 = .ok (.iload 4, 2) := by decide +kernel
theorem dX1_plan_54 : decode cX1_plan 54 = .ok (.invokestatic 70, 3) := by decide +kernel
theorem dX1_plan_57 : decode cX1_plan 57 = .ok (.iload_n 2, 1) := by decide +kernel
theorem dX1_plan_58 : decode cX1_plan 58 = .ok (.iload 4, 2) := by decide +kernel
theorem dX1_plan_60 : decode cX1_plan 60 = .ok (.iload_n 3, 1) := by decide +kernel
theorem dX1_plan_61 : decode cX1_plan 61 = .ok (.invokestatic 74, 3) := by decide +kernel
theorem dX1_plan_64 : decode cX1_plan 64 = .ok (.ior, 1) := by decide +kernel
theorem dX1_plan_65 : decode cX1_plan 65 = .ok (.istore_n 2, 1) := by decide +kernel
theorem dX1_plan_66 : decode cX1_plan 66 = .ok (.iinc 3 1, 3) := by decide +kernel
theorem dX1_plan_69 : decode cX1_plan 69 = .ok (.goto (-42), 3) := by decide +kernel
theorem dX1_plan_72 : decode cX1_plan 72 = .ok (.aload_n 0, 1) := by decide +kernel
theorem dX1_plan_73 : decode cX1_plan 73 = .ok (.iconst 1, 1) := by decide +kernel
theorem dX1_plan_74 : decode cX1_plan 74 = .ok (.putfield 21, 3) := by decide +kernel
theorem dX1_plan_77 : decode cX1_plan 77 = .ok (.iload_n 1, 1) := by decide +kernel
theorem dX1_plan_78 : decode cX1_plan 78 = .ok (.ireturn, 1) := by decide +kernel
theorem dX1_findSpared_0 : decode cX1_findSpared 0 = .ok (.aload_n 0, 1) := by decide +kernel
theorem dX1_findSpared_1 : decode cX1_findSpared 1 = .ok (.invokevirtual 52, 3) := by decide +kernel
theorem dX1_findSpared_4 : decode cX1_findSpared 4 = .ok (.aload_n 0, 1) := by decide +kernel
theorem dX1_findSpared_5 : decode cX1_findSpared 5 = .ok (.invokevirtual 55, 3) := by decide +kernel
theorem dX1_findSpared_8 : decode cX1_findSpared 8 = .ok (.aload_n 0, 1) := by decide +kernel
theorem dX1_findSpared_9 : decode cX1_findSpared 9 = .ok (.iconst (-1), 1) := by decide +kernel
theorem dX1_findSpared_10 : decode cX1_findSpared 10 = .ok (.putfield 25, 3) := by decide +kernel
theorem dX1_findSpared_13 : decode cX1_findSpared 13 = .ok (.aload_n 0, 1) := by decide +kernel
theorem dX1_findSpared_14 : decode cX1_findSpared 14 = .ok (.iconst (-1), 1) := by decide +kernel
theorem dX1_findSpared_15 : decode cX1_findSpared 15 = .ok (.putfield 29, 3) := by decide +kernel
theorem dX1_findSpared_18 : decode cX1_findSpared 18 = .ok (.iconst 0, 1) := by decide +kernel
theorem dX1_findSpared_19 : decode cX1_findSpared 19 = .ok (.istore_n 1, 1) := by decide +kernel
theorem dX1_findSpared_20 : decode cX1_findSpared 20 = .ok (.iload_n 1, 1) := by decide +kernel
theorem dX1_findSpared_21 : decode cX1_findSpared 21 = .ok (.aload_n 0, 1) := by decide +kernel
theorem dX1_findSpared_22 : decode cX1_findSpared 22 = .ok (.getfield 32, 3) := by decide +kernel
theorem dX1_findSpared_25 : decode cX1_findSpared 25 = .ok (.getfield 62, 3) := by decide +kernel
theorem dX1_findSpared_28 : decode cX1_findSpared 28 = .ok (.if_icmp .ge 38, 3) := by decide +kernel
theorem dX1_findSpared_31 : decode cX1_findSpared 31 = .ok (.aload_n 0, 1) := by decide +kernel
theorem dX1_findSpared_32 : decode cX1_findSpared 32 = .ok (.iconst 0, 1) := by decide +kernel
theorem dX1_findSpared_33 : decode cX1_findSpared 33 = .ok (.iconst 0, 1) := by decide +kernel
theorem dX1_findSpared_34 : decode cX1_findSpared 34 = .ok (.iload_n 1, 1) := by decide +kernel
theorem dX1_findSpared_35 : decode cX1_findSpared 35 = .ok (.invokevirtual 58, 3) := by decide +kernel
theorem dX1_findSpared_38 : decode cX1_findSpared 38 = .ok (.istore_n 2, 1) := by decide +kernel
theorem dX1_findSpared_39 : decode cX1_findSpared 39 = .ok (.iload_n 2, 1) := by decide +kernel
theorem dX1_findSpared_40 : decode cX1_findSpared 40 = .ok (.aload_n 0, 1) := by decide +kernel
theorem dX1_findSpared_41 : decode cX1_findSpared 41 = .ok (.getfield 29, 3) := by decide +kernel
theorem dX1_findSpared_44 : decode cX1_findSpared 44 = .ok (.invokestatic 78, 3) := by decide +kernel
theorem dX1_findSpared_47 : decode cX1_findSpared 47 = .ok (.ifCond .eq 13, 3) := by decide +kernel
theorem dX1_findSpared_50 : decode cX1_findSpared 50 = .ok (.aload_n 0, 1) := by decide +kernel
theorem dX1_findSpared_51 : decode cX1_findSpared 51 = .ok (.iload_n 2, 1) := by decide +kernel
theorem dX1_findSpared_52 : decode cX1_findSpared 52 = .ok (.putfield 29, 3) := by decide +kernel
theorem dX1_findSpared_55 : decode cX1_findSpared 55 = .ok (.aload_n 0, 1) := by decide +kernel
theorem dX1_findSpared_56 : decode cX1_findSpared 56 = .ok (.iload_n 1, 1) := by decide +kernel
theorem dX1_findSpared_57 : decode cX1_findSpared 57 = .ok (.putfield 25, 3) := by decide +kernel
theorem dX1_findSpared_60 : decode cX1_findSpared 60 = .ok (.iinc 1 1, 3) := by decide +kernel
theorem dX1_findSpared_63 : decode cX1_findSpared 63 = .ok (.goto (-43), 3) := by decide +kernel
theorem dX1_findSpared_66 : decode cX1_findSpared 66 = .ok (.return_, 1) := by decide +kernel
theorem dX1_findFits_0 : decode cX1_findFits 0 = .ok (.iconst 0, 1) := by decide +kernel
theorem dX1_findFits_1 : decode cX1_findFits 1 = .ok (.istore_n 1, 1) := by decide +kernel
theorem dX1_findFits_2 : decode cX1_findFits 2 = .ok (.iload_n 1, 1) := by decide +kernel
theorem dX1_findFits_3 : decode cX1_findFits 3 = .ok (.aload_n 0, 1) := by decide +kernel
theorem dX1_findFits_4 : decode cX1_findFits 4 = .ok (.getfield 32, 3) := by decide +kernel
theorem dX1_findFits_7 : decode cX1_findFits 7 = .ok (.getfield 62, 3) := by decide +kernel
theorem dX1_findFits_10 : decode cX1_findFits 10 = .ok (.if_icmp .ge 62, 3) := by decide +kernel
theorem dX1_findFits_13 : decode cX1_findFits 13 = .ok (.bipush 15, 2) := by decide +kernel
theorem dX1_findFits_15 : decode cX1_findFits 15 = .ok (.istore_n 2, 1) := by decide +kernel
theorem dX1_findFits_16 : decode cX1_findFits 16 = .ok (.iload_n 2, 1) := by decide +kernel
theorem dX1_findFits_17 : decode cX1_findFits 17 = .ok (.ifCond .lt 49, 3) := by decide +kernel
theorem dX1_findFits_20 : decode cX1_findFits 20 = .ok (.iconst 0, 1) := by decide +kernel
theorem dX1_findFits_21 : decode cX1_findFits 21 = .ok (.istore_n 3, 1) := by decide +kernel
theorem dX1_findFits_22 : decode cX1_findFits 22 = .ok (.aload_n 0, 1) := by decide +kernel
theorem dX1_findFits_23 : decode cX1_findFits 23 = .ok (.iload_n 1, 1) := by decide +kernel
theorem dX1_findFits_24 : decode cX1_findFits 24 = .ok (.iload_n 2, 1) := by decide +kernel
theorem dX1_findFits_25 : decode cX1_findFits 25 = .ok (.invokevirtual 82, 3) := by decide +kernel
theorem dX1_findFits_28 : decode cX1_findFits 28 = .ok (.ifCond .eq 18, 3) := by decide +kernel
theorem dX1_findFits_31 : decode cX1_findFits 31 = .ok (.aload_n 0, 1) := by decide +kernel
theorem dX1_findFits_32 : decode cX1_findFits 32 = .ok (.iload_n 1, 1) := by decide +kernel
theorem dX1_findFits_33 : decode cX1_findFits 33 = .ok (.iload_n 2, 1) := by decide +kernel
theorem dX1_findFits_34 : decode cX1_findFits 34 = .ok (.invokevirtual 85, 3) := by decide +kernel
theorem dX1_findFits_37 : decode cX1_findFits 37 = .ok (.ifCond .eq 7, 3) := by decide +kernel
theorem dX1_findFits_40 : decode cX1_findFits 40 = .ok (.iconst 1, 1) := by decide +kernel
theorem dX1_findFits_41 : decode cX1_findFits 41 = .ok (.goto 4, 3) := by decide +kernel
theorem dX1_findFits_44 : decode cX1_findFits 44 = .ok (.iconst 2, 1) := by decide +kernel
theorem dX1_findFits_45 : decode cX1_findFits 45 = .ok (.istore_n 3, 1) := by decide +kernel
theorem dX1_findFits_46 : decode cX1_findFits 46 = .ok (.aload_n 0, 1) := by decide +kernel
theorem dX1_findFits_47 : decode cX1_findFits 47 = .ok (.getfield 11, 3) := by decide +kernel
theorem dX1_findFits_50 : decode cX1_findFits 50 = .ok (.iload_n 1, 1) := by decide +kernel
theorem dX1_findFits_51 : decode cX1_findFits 51 = .ok (.bipush 16, 2) := by decide +kernel
theorem dX1_findFits_53 : decode cX1_findFits 53 = .ok (.imul, 1) := by decide +kernel
theorem dX1_findFits_54 : decode cX1_findFits 54 = .ok (.iload_n 2, 1) := by decide +kernel
theorem dX1_findFits_55 : decode cX1_findFits 55 = .ok (.iadd, 1) := by decide +kernel
theorem dX1_findFits_56 : decode cX1_findFits 56 = .ok (.iload_n 3, 1) := by decide +kernel
theorem dX1_findFits_57 : decode cX1_findFits 57 = .ok (.invokestatic 70, 3) := by decide +kernel
theorem dX1_findFits_60 : decode cX1_findFits 60 = .ok (.iinc 2 (-1), 3) := by decide +kernel
theorem dX1_findFits_63 : decode cX1_findFits 63 = .ok (.goto (-47), 3) := by decide +kernel
theorem dX1_findFits_66 : decode cX1_findFits 66 = .ok (.iinc 1 1, 3) := by decide +kernel
theorem dX1_findFits_69 : decode cX1_findFits 69 = .ok (.goto (-67), 3) := by decide +kernel
theorem dX1_findFits_72 : decode cX1_findFits 72 = .ok (.return_, 1) := by decide +kernel
theorem dX1_findCosts_0 : decode cX1_findCosts 0 = .ok (.iconst 0, 1) := by decide +kernel
theorem dX1_findCosts_1 : decode cX1_findCosts 1 = .ok (.istore_n 1, 1) := by decide +kernel
theorem dX1_findCosts_2 : decode cX1_findCosts 2 = .ok (.iload_n 1, 1) := by decide +kernel
theorem dX1_findCosts_3 : decode cX1_findCosts 3 = .ok (.aload_n 0, 1) := by decide +kernel
theorem dX1_findCosts_4 : decode cX1_findCosts 4 = .ok (.getfield 44, 3) := by decide +kernel
theorem dX1_findCosts_7 : decode cX1_findCosts 7 = .ok (.getfield 88, 3) := by decide +kernel
theorem dX1_findCosts_10 : decode cX1_findCosts 10 = .ok (.if_icmp .ge 120, 3) := by decide +kernel
theorem dX1_findCosts_13 : decode cX1_findCosts 13 = .ok (.iconst 0, 1) := by decide +kernel
theorem dX1_findCosts_14 : decode cX1_findCosts 14 = .ok (.istore_n 2, 1) := by decide +kernel
theorem dX1_findCosts_15 : decode cX1_findCosts 15 = .ok (.iconst 0, 1) := by decide +kernel
theorem dX1_findCosts_16 : decode cX1_findCosts 16 = .ok (.istore_n 3, 1) := by decide +kernel
theorem dX1_findCosts_17 : decode cX1_findCosts 17 = .ok (.iload_n 3, 1) := by decide +kernel
theorem dX1_findCosts_18 : decode cX1_findCosts 18 = .ok (.aload_n 0, 1) := by decide +kernel
theorem dX1_findCosts_19 : decode cX1_findCosts 19 = .ok (.getfield 32, 3) := by decide +kernel
theorem dX1_findCosts_22 : decode cX1_findCosts 22 = .ok (.getfield 62, 3) := by decide +kernel
theorem dX1_findCosts_25 : decode cX1_findCosts 25 = .ok (.if_icmp .ge 30, 3) := by decide +kernel
theorem dX1_findCosts_28 : decode cX1_findCosts 28 = .ok (.iload_n 2, 1) := by decide +kernel
theorem dX1_findCosts_29 : decode cX1_findCosts 29 = .ok (.aload_n 0, 1) := by decide +kernel
theorem dX1_findCosts_30 : decode cX1_findCosts 30 = .ok (.iload_n 3, 1) := by decide +kernel
theorem dX1_findCosts_31 : decode cX1_findCosts 31 = .ok (.iconst 1, 1) := by decide +kernel
theorem dX1_findCosts_32 : decode cX1_findCosts 32 = .ok (.iload_n 1, 1) := by decide +kernel
theorem dX1_findCosts_33 : decode cX1_findCosts 33 = .ok (.ishl, 1) := by decide +kernel
theorem dX1_findCosts_34 : decode cX1_findCosts 34 = .ok (.invokevirtual 93, 3) := by decide +kernel
theorem dX1_findCosts_37 : decode cX1_findCosts 37 = .ok (.ifCond .ne 7, 3) := by decide +kernel
theorem dX1_findCosts_40 : decode cX1_findCosts 40 = .ok (.iconst 0, 1) := by decide +kernel
theorem dX1_findCosts_41 : decode cX1_findCosts 41 = .ok (.goto 6, 3) := by decide +kernel
theorem dX1_findCosts_44 : decode cX1_findCosts 44 = .ok (.iconst 1, 1) := by decide +kernel
theorem dX1_findCosts_45 : decode cX1_findCosts 45 = .ok (.iload_n 3, 1) := by decide +kernel
theorem dX1_findCosts_46 : decode cX1_findCosts 46 = .ok (.ishl, 1) := by decide +kernel
theorem dX1_findCosts_47 : decode cX1_findCosts 47 = .ok (.ior, 1) := by decide +kernel
theorem dX1_findCosts_48 : decode cX1_findCosts 48 = .ok (.istore_n 2, 1) := by decide +kernel
theorem dX1_findCosts_49 : decode cX1_findCosts 49 = .ok (.iinc 3 1, 3) := by decide +kernel
theorem dX1_findCosts_52 : decode cX1_findCosts 52 = .ok (.goto (-35), 3) := by decide +kernel
theorem dX1_findCosts_55 : decode cX1_findCosts 55 = .ok (.iconst 0, 1) := by decide +kernel
theorem dX1_findCosts_56 : decode cX1_findCosts 56 = .ok (.istore_n 3, 1) := by decide +kernel
theorem dX1_findCosts_57 : decode cX1_findCosts 57 = .ok (.iload_n 3, 1) := by decide +kernel
theorem dX1_findCosts_58 : decode cX1_findCosts 58 = .ok (.bipush 32, 2) := by decide +kernel
theorem dX1_findCosts_60 : decode cX1_findCosts 60 = .ok (.if_icmp .ge 64, 3) := by decide +kernel
theorem dX1_findCosts_63 : decode cX1_findCosts 63 = .ok (.iload_n 3, 1) := by decide +kernel
theorem dX1_findCosts_64 : decode cX1_findCosts 64 = .ok (.iload_n 2, 1) := by decide +kernel
theorem dX1_findCosts_65 : decode cX1_findCosts 65 = .ok (.iconst (-1), 1) := by decide +kernel
theorem dX1_findCosts_66 : decode cX1_findCosts 66 = .ok (.ixor, 1) := by decide +kernel
theorem dX1_findCosts_67 : decode cX1_findCosts 67 = .ok (.iand, 1) := by decide +kernel
theorem dX1_findCosts_68 : decode cX1_findCosts 68 = .ok (.ifCond .ne 50, 3) := by decide +kernel
theorem dX1_findCosts_71 : decode cX1_findCosts 71 = .ok (.aload_n 0, 1) := by decide +kernel
theorem dX1_findCosts_72 : decode cX1_findCosts 72 = .ok (.getfield 40, 3) := by decide +kernel
theorem dX1_findCosts_75 : decode cX1_findCosts 75 = .ok (.aload_n 0, 1) := by decide +kernel
theorem dX1_findCosts_76 : decode cX1_findCosts 76 = .ok (.getfield 44, 3) := by decide +kernel
theorem dX1_findCosts_79 : decode cX1_findCosts 79 = .ok (.getfield 96, 3) := by decide +kernel
theorem dX1_findCosts_82 : decode cX1_findCosts 82 = .ok (.iload_n 1, 1) := by decide +kernel
theorem dX1_findCosts_83 : decode cX1_findCosts 83 = .ok (.invokestatic 48, 3) := by decide +kernel
theorem dX1_findCosts_86 : decode cX1_findCosts 86 = .ok (.aload_n 0, 1) := by decide +kernel
theorem dX1_findCosts_87 : decode cX1_findCosts 87 = .ok (.getfield 44, 3) := by decide +kernel
theorem dX1_findCosts_90 : decode cX1_findCosts 90 = .ok (.getfield 99, 3) := by decide +kernel
theorem dX1_findCosts_93 : decode cX1_findCosts 93 = .ok (.iload_n 1, 1) := by decide +kernel
theorem dX1_findCosts_94 : decode cX1_findCosts 94 = .ok (.invokestatic 48, 3) := by decide +kernel
theorem dX1_findCosts_97 : decode cX1_findCosts 97 = .ok (.iload_n 3, 1) := by decide +kernel
theorem dX1_findCosts_98 : decode cX1_findCosts 98 = .ok (.invokevirtual 102, 3) := by decide +kernel
theorem dX1_findCosts_101 : decode cX1_findCosts 101 = .ok (.istore 4, 2) := by decide +kernel
theorem dX1_findCosts_103 : decode cX1_findCosts 103 = .ok (.aload_n 0, 1) := by decide +kernel
theorem dX1_findCosts_104 : decode cX1_findCosts 104 = .ok (.getfield 15, 3) := by decide +kernel
theorem dX1_findCosts_107 : decode cX1_findCosts 107 = .ok (.iload_n 1, 1) := by decide +kernel
theorem dX1_findCosts_108 : decode cX1_findCosts 108 = .ok (.bipush 32, 2) := by decide +kernel
theorem dX1_findCosts_110 : decode cX1_findCosts 110 = .ok (.imul, 1) := by decide +kernel
theorem dX1_findCosts_111 : decode cX1_findCosts 111 = .ok (.iload_n 3, 1) := by decide +kernel
theorem dX1_findCosts_112 : decode cX1_findCosts 112 = .ok (.iadd, 1) := by decide +kernel
theorem dX1_findCosts_113 : decode cX1_findCosts 113 = .ok (.iload 4, 2) := by decide +kernel
theorem dX1_findCosts_115 : decode cX1_findCosts 115 = .ok (.invokestatic 70, 3) := by decide +kernel
theorem dX1_findCosts_118 : decode cX1_findCosts 118 = .ok (.iinc 3 1, 3) := by decide +kernel
theorem dX1_findCosts_121 : decode cX1_findCosts 121 = .ok (.goto (-64), 3) := by decide +kernel
theorem dX1_findCosts_124 : decode cX1_findCosts 124 = .ok (.iinc 1 1, 3) := by decide +kernel
theorem dX1_findCosts_127 : decode cX1_findCosts 127 = .ok (.goto (-125), 3) := by decide +kernel
theorem dX1_findCosts_130 : decode cX1_findCosts 130 = .ok (.return_, 1) := by decide +kernel
theorem dX1_fitOf_0 : decode cX1_fitOf 0 = .ok (.aload_n 0, 1) := by decide +kernel
theorem dX1_fitOf_1 : decode cX1_fitOf 1 = .ok (.getfield 11, 3) := by decide +kernel
theorem dX1_fitOf_4 : decode cX1_fitOf 4 = .ok (.iload_n 1, 1) := by decide +kernel
theorem dX1_fitOf_5 : decode cX1_fitOf 5 = .ok (.bipush 16, 2) := by decide +kernel
theorem dX1_fitOf_7 : decode cX1_fitOf 7 = .ok (.imul, 1) := by decide +kernel
theorem dX1_fitOf_8 : decode cX1_fitOf 8 = .ok (.iload_n 2, 1) := by decide +kernel
theorem dX1_fitOf_9 : decode cX1_fitOf 9 = .ok (.iadd, 1) := by decide +kernel
theorem dX1_fitOf_10 : decode cX1_fitOf 10 = .ok (.invokestatic 48, 3) := by decide +kernel
theorem dX1_fitOf_13 : decode cX1_fitOf 13 = .ok (.ireturn, 1) := by decide +kernel
theorem dX1_fitsWithMore_0 : decode cX1_fitsWithMore 0 = .ok (.iconst 0, 1) := by decide +kernel
theorem dX1_fitsWithMore_1 : decode cX1_fitsWithMore 1 = .ok (.istore_n 3, 1) := by decide +kernel
theorem dX1_fitsWithMore_2 : decode cX1_fitsWithMore 2 = .ok (.iload_n 3, 1) := by decide +kernel
theorem dX1_fitsWithMore_3 : decode cX1_fitsWithMore 3 = .ok (.iconst 4, 1) := by decide +kernel
theorem dX1_fitsWithMore_4 : decode cX1_fitsWithMore 4 = .ok (.if_icmp .ge 34, 3) := by decide +kernel
theorem dX1_fitsWithMore_7 : decode cX1_fitsWithMore 7 = .ok (.iload_n 2, 1) := by decide +kernel
theorem dX1_fitsWithMore_8 : decode cX1_fitsWithMore 8 = .ok (.iconst 1, 1) := by decide +kernel
theorem dX1_fitsWithMore_9 : decode cX1_fitsWithMore 9 = .ok (.iload_n 3, 1) := by decide +kernel
theorem dX1_fitsWithMore_10 : decode cX1_fitsWithMore 10 = .ok (.ishl, 1) := by decide +kernel
theorem dX1_fitsWithMore_11 : decode cX1_fitsWithMore 11 = .ok (.ior, 1) := by decide +kernel
theorem dX1_fitsWithMore_12 : decode cX1_fitsWithMore 12 = .ok (.istore 4, 2) := by decide +kernel
theorem dX1_fitsWithMore_14 : decode cX1_fitsWithMore 14 = .ok (.iload 4, 2) := by decide +kernel
theorem dX1_fitsWithMore_16 : decode cX1_fitsWithMore 16 = .ok (.iload_n 2, 1) := by decide +kernel
theorem dX1_fitsWithMore_17 : decode cX1_fitsWithMore 17 = .ok (.if_icmp .eq 15, 3) := by decide +kernel
theorem dX1_fitsWithMore_20 : decode cX1_fitsWithMore 20 = .ok (.aload_n 0, 1) := by decide +kernel
theorem dX1_fitsWithMore_21 : decode cX1_fitsWithMore 21 = .ok (.iload_n 1, 1) := by decide +kernel
theorem dX1_fitsWithMore_22 : decode cX1_fitsWithMore 22 = .ok (.iload 4, 2) := by decide +kernel
theorem dX1_fitsWithMore_24 : decode cX1_fitsWithMore 24 = .ok (.invokevirtual 93, 3) := by decide +kernel
theorem dX1_fitsWithMore_27 : decode cX1_fitsWithMore 27 = .ok (.ifCond .eq 5, 3) := by decide +kernel
theorem dX1_fitsWithMore_30 : decode cX1_fitsWithMore 30 = .ok (.iconst 1, 1) := by decide +kernel
theorem dX1_fitsWithMore_31 : decode cX1_fitsWithMore 31 = .ok (.ireturn, 1) := by decide +kernel
theorem dX1_fitsWithMore_32 : decode cX1_fitsWithMore 32 = .ok (.iinc 3 1, 3) := by decide +kernel
theorem dX1_fitsWithMore_35 : decode cX1_fitsWithMore 35 = .ok (.goto (-33), 3) := by decide +kernel
theorem dX1_fitsWithMore_38 : decode cX1_fitsWithMore 38 = .ok (.iconst 0, 1) := by decide +kernel
theorem dX1_fitsWithMore_39 : decode cX1_fitsWithMore 39 = .ok (.ireturn, 1) := by decide +kernel
theorem dX1_canBeThere_0 : decode cX1_canBeThere 0 = .ok (.aload_n 0, 1) := by decide +kernel
theorem dX1_canBeThere_1 : decode cX1_canBeThere 1 = .ok (.getfield 44, 3) := by decide +kernel
theorem dX1_canBeThere_4 : decode cX1_canBeThere 4 = .ok (.getfield 107, 3) := by decide +kernel
theorem dX1_canBeThere_7 : decode cX1_canBeThere 7 = .ok (.iload_n 1, 1) := by decide +kernel
theorem dX1_canBeThere_8 : decode cX1_canBeThere 8 = .ok (.invokestatic 48, 3) := by decide +kernel
theorem dX1_canBeThere_11 : decode cX1_canBeThere 11 = .ok (.istore_n 3, 1) := by decide +kernel
theorem dX1_canBeThere_12 : decode cX1_canBeThere 12 = .ok (.aload_n 0, 1) := by decide +kernel
theorem dX1_canBeThere_13 : decode cX1_canBeThere 13 = .ok (.getfield 44, 3) := by decide +kernel
theorem dX1_canBeThere_16 : decode cX1_canBeThere 16 = .ok (.getfield 110, 3) := by decide +kernel
theorem dX1_canBeThere_19 : decode cX1_canBeThere 19 = .ok (.aload_n 0, 1) := by decide +kernel
theorem dX1_canBeThere_20 : decode cX1_canBeThere 20 = .ok (.getfield 44, 3) := by decide +kernel
theorem dX1_canBeThere_23 : decode cX1_canBeThere 23 = .ok (.getfield 113, 3) := by decide +kernel
theorem dX1_canBeThere_26 : decode cX1_canBeThere 26 = .ok (.iload_n 1, 1) := by decide +kernel
theorem dX1_canBeThere_27 : decode cX1_canBeThere 27 = .ok (.invokestatic 48, 3) := by decide +kernel
theorem dX1_canBeThere_30 : decode cX1_canBeThere 30 = .ok (.invokestatic 116, 3) := by decide +kernel
theorem dX1_canBeThere_33 : decode cX1_canBeThere 33 = .ok (.istore 4, 2) := by decide +kernel
theorem dX1_canBeThere_35 : decode cX1_canBeThere 35 = .ok (.iconst 0, 1) := by decide +kernel
theorem dX1_canBeThere_36 : decode cX1_canBeThere 36 = .ok (.istore 5, 2) := by decide +kernel
theorem dX1_canBeThere_38 : decode cX1_canBeThere 38 = .ok (.iload 5, 2) := by decide +kernel
theorem dX1_canBeThere_40 : decode cX1_canBeThere 40 = .ok (.iconst 4, 1) := by decide +kernel
theorem dX1_canBeThere_41 : decode cX1_canBeThere 41 = .ok (.if_icmp .ge 107, 3) := by decide +kernel
theorem dX1_canBeThere_44 : decode cX1_canBeThere 44 = .ok (.iload_n 2, 1) := by decide +kernel
theorem dX1_canBeThere_45 : decode cX1_canBeThere 45 = .ok (.iload 5, 2) := by decide +kernel
theorem dX1_canBeThere_47 : decode cX1_canBeThere 47 = .ok (.invokestatic 121, 3) := by decide +kernel
theorem dX1_canBeThere_50 : decode cX1_canBeThere 50 = .ok (.ifCond .eq 92, 3) := by decide +kernel
theorem dX1_canBeThere_53 : decode cX1_canBeThere 53 = .ok (.aload_n 0, 1) := by decide +kernel
theorem dX1_canBeThere_54 : decode cX1_canBeThere 54 = .ok (.getfield 36, 3) := by decide +kernel
theorem dX1_canBeThere_57 : decode cX1_canBeThere 57 = .ok (.iload_n 3, 1) := by decide +kernel
theorem dX1_canBeThere_58 : decode cX1_canBeThere 58 = .ok (.aload_n 0, 1) := by decide +kernel
theorem dX1_canBeThere_59 : decode cX1_canBeThere 59 = .ok (.getfield 44, 3) := by decide +kernel
theorem dX1_canBeThere_62 : decode cX1_canBeThere 62 = .ok (.getfield 99, 3) := by decide +kernel
theorem dX1_canBeThere_65 : decode cX1_canBeThere 65 = .ok (.iload 5, 2) := by decide +kernel
theorem dX1_canBeThere_67 : decode cX1_canBeThere 67 = .ok (.invokestatic 48, 3) := by decide +kernel
theorem dX1_canBeThere_70 : decode cX1_canBeThere 70 = .ok (.invokevirtual 124, 3) := by decide +kernel
theorem dX1_canBeThere_73 : decode cX1_canBeThere 73 = .ok (.istore 6, 2) := by decide +kernel
theorem dX1_canBeThere_75 : decode cX1_canBeThere 75 = .ok (.iload 5, 2) := by decide +kernel
theorem dX1_canBeThere_77 : decode cX1_canBeThere 77 = .ok (.aload_n 0, 1) := by decide +kernel
theorem dX1_canBeThere_78 : decode cX1_canBeThere 78 = .ok (.getfield 44, 3) := by decide +kernel
theorem dX1_canBeThere_81 : decode cX1_canBeThere 81 = .ok (.getfield 88, 3) := by decide +kernel
theorem dX1_canBeThere_84 : decode cX1_canBeThere 84 = .ok (.if_icmp .ge 29, 3) := by decide +kernel
theorem dX1_canBeThere_87 : decode cX1_canBeThere 87 = .ok (.iload 6, 2) := by decide +kernel
theorem dX1_canBeThere_89 : decode cX1_canBeThere 89 = .ok (.iconst (-1), 1) := by decide +kernel
theorem dX1_canBeThere_90 : decode cX1_canBeThere 90 = .ok (.if_icmp .eq 23, 3) := by decide +kernel
theorem dX1_canBeThere_93 : decode cX1_canBeThere 93 = .ok (.iload 4, 2) := by decide +kernel
theorem dX1_canBeThere_95 : decode cX1_canBeThere 95 = .ok (.iload 6, 2) := by decide +kernel
theorem dX1_canBeThere_97 : decode cX1_canBeThere 97 = .ok (.iadd, 1) := by decide +kernel
theorem dX1_canBeThere_98 : decode cX1_canBeThere 98 = .ok (.aload_n 0, 1) := by decide +kernel
theorem dX1_canBeThere_99 : decode cX1_canBeThere 99 = .ok (.getfield 44, 3) := by decide +kernel
theorem dX1_canBeThere_102 : decode cX1_canBeThere 102 = .ok (.getfield 129, 3) := by decide +kernel
theorem dX1_canBeThere_105 : decode cX1_canBeThere 105 = .ok (.iload 5, 2) := by decide +kernel
theorem dX1_canBeThere_107 : decode cX1_canBeThere 107 = .ok (.invokestatic 48, 3) := by decide +kernel
theorem dX1_canBeThere_110 : decode cX1_canBeThere 110 = .ok (.if_icmp .le 5, 3) := by decide +kernel
theorem dX1_canBeThere_113 : decode cX1_canBeThere 113 = .ok (.iconst 0, 1) := by decide +kernel
theorem dX1_canBeThere_114 : decode cX1_canBeThere 114 = .ok (.ireturn, 1) := by decide +kernel
theorem dX1_canBeThere_115 : decode cX1_canBeThere 115 = .ok (.aload_n 0, 1) := by decide +kernel
theorem dX1_canBeThere_116 : decode cX1_canBeThere 116 = .ok (.getfield 44, 3) := by decide +kernel
theorem dX1_canBeThere_119 : decode cX1_canBeThere 119 = .ok (.getfield 99, 3) := by decide +kernel
theorem dX1_canBeThere_122 : decode cX1_canBeThere 122 = .ok (.iload 5, 2) := by decide +kernel
theorem dX1_canBeThere_124 : decode cX1_canBeThere 124 = .ok (.invokestatic 48, 3) := by decide +kernel
theorem dX1_canBeThere_127 : decode cX1_canBeThere 127 = .ok (.istore_n 3, 1) := by decide +kernel
theorem dX1_canBeThere_128 : decode cX1_canBeThere 128 = .ok (.aload_n 0, 1) := by decide +kernel
theorem dX1_canBeThere_129 : decode cX1_canBeThere 129 = .ok (.getfield 44, 3) := by decide +kernel
theorem dX1_canBeThere_132 : decode cX1_canBeThere 132 = .ok (.getfield 129, 3) := by decide +kernel
theorem dX1_canBeThere_135 : decode cX1_canBeThere 135 = .ok (.iload 5, 2) := by decide +kernel
theorem dX1_canBeThere_137 : decode cX1_canBeThere 137 = .ok (.invokestatic 48, 3) := by decide +kernel
theorem dX1_canBeThere_140 : decode cX1_canBeThere 140 = .ok (.istore 4, 2) := by decide +kernel
theorem dX1_canBeThere_142 : decode cX1_canBeThere 142 = .ok (.iinc 5 1, 3) := by decide +kernel
theorem dX1_canBeThere_145 : decode cX1_canBeThere 145 = .ok (.goto (-107), 3) := by decide +kernel
theorem dX1_canBeThere_148 : decode cX1_canBeThere 148 = .ok (.iconst 1, 1) := by decide +kernel
theorem dX1_canBeThere_149 : decode cX1_canBeThere 149 = .ok (.ireturn, 1) := by decide +kernel
theorem dX1_leastFrom_0 : decode cX1_leastFrom 0 = .ok (.iload_n 1, 1) := by decide +kernel
theorem dX1_leastFrom_1 : decode cX1_leastFrom 1 = .ok (.aload_n 0, 1) := by decide +kernel
theorem dX1_leastFrom_2 : decode cX1_leastFrom 2 = .ok (.getfield 32, 3) := by decide +kernel
theorem dX1_leastFrom_5 : decode cX1_leastFrom 5 = .ok (.getfield 62, 3) := by decide +kernel
theorem dX1_leastFrom_8 : decode cX1_leastFrom 8 = .ok (.if_icmp .ge 8, 3) := by decide +kernel
theorem dX1_leastFrom_11 : decode cX1_leastFrom 11 = .ok (.iload_n 1, 1) := by decide +kernel
theorem dX1_leastFrom_12 : decode cX1_leastFrom 12 = .ok (.iconst 5, 1) := by decide +kernel
theorem dX1_leastFrom_13 : decode cX1_leastFrom 13 = .ok (.if_icmp .lt 9, 3) := by decide +kernel
theorem dX1_leastFrom_16 : decode cX1_leastFrom 16 = .ok (.aload_n 0, 1) := by decide +kernel
theorem dX1_leastFrom_17 : decode cX1_leastFrom 17 = .ok (.iload_n 2, 1) := by decide +kernel
theorem dX1_leastFrom_18 : decode cX1_leastFrom 18 = .ok (.invokevirtual 132, 3) := by decide +kernel
theorem dX1_leastFrom_21 : decode cX1_leastFrom 21 = .ok (.ireturn, 1) := by decide +kernel
theorem dX1_leastFrom_22 : decode cX1_leastFrom 22 = .ok (.iload_n 1, 1) := by decide +kernel
theorem dX1_leastFrom_23 : decode cX1_leastFrom 23 = .ok (.iload_n 3, 1) := by decide +kernel
theorem dX1_leastFrom_24 : decode cX1_leastFrom 24 = .ok (.if_icmp .ne 13, 3) := by decide +kernel
theorem dX1_leastFrom_27 : decode cX1_leastFrom 27 = .ok (.aload_n 0, 1) := by decide +kernel
theorem dX1_leastFrom_28 : decode cX1_leastFrom 28 = .ok (.iload_n 1, 1) := by decide +kernel
theorem dX1_leastFrom_29 : decode cX1_leastFrom 29 = .ok (.iconst 1, 1) := by decide +kernel
theorem dX1_leastFrom_30 : decode cX1_leastFrom 30 = .ok (.iadd, 1) := by decide +kernel
theorem dX1_leastFrom_31 : decode cX1_leastFrom 31 = .ok (.iload_n 2, 1) := by decide +kernel
theorem dX1_leastFrom_32 : decode cX1_leastFrom 32 = .ok (.iload_n 3, 1) := by decide +kernel
theorem dX1_leastFrom_33 : decode cX1_leastFrom 33 = .ok (.invokevirtual 58, 3) := by decide +kernel
theorem dX1_leastFrom_36 : decode cX1_leastFrom 36 = .ok (.ireturn, 1) := by decide +kernel
theorem dX1_leastFrom_37 : decode cX1_leastFrom 37 = .ok (.iconst (-1), 1) := by decide +kernel
theorem dX1_leastFrom_38 : decode cX1_leastFrom 38 = .ok (.istore 4, 2) := by decide +kernel
theorem dX1_leastFrom_40 : decode cX1_leastFrom 40 = .ok (.iconst 0, 1) := by decide +kernel
theorem dX1_leastFrom_41 : decode cX1_leastFrom 41 = .ok (.istore 5, 2) := by decide +kernel
theorem dX1_leastFrom_43 : decode cX1_leastFrom 43 = .ok (.iload 5, 2) := by decide +kernel
theorem dX1_leastFrom_45 : decode cX1_leastFrom 45 = .ok (.bipush 16, 2) := by decide +kernel
theorem dX1_leastFrom_47 : decode cX1_leastFrom 47 = .ok (.if_icmp .ge 52, 3) := by decide +kernel
theorem dX1_leastFrom_50 : decode cX1_leastFrom 50 = .ok (.aload_n 0, 1) := by decide +kernel
theorem dX1_leastFrom_51 : decode cX1_leastFrom 51 = .ok (.iload_n 1, 1) := by decide +kernel
theorem dX1_leastFrom_52 : decode cX1_leastFrom 52 = .ok (.iload 5, 2) := by decide +kernel
theorem dX1_leastFrom_54 : decode cX1_leastFrom 54 = .ok (.invokevirtual 93, 3) := by decide +kernel
theorem dX1_leastFrom_57 : decode cX1_leastFrom 57 = .ok (.iconst 2, 1) := by decide +kernel
theorem dX1_leastFrom_58 : decode cX1_leastFrom 58 = .ok (.if_icmp .ne 35, 3) := by decide +kernel
theorem dX1_leastFrom_61 : decode cX1_leastFrom 61 = .ok (.aload_n 0, 1) := by decide +kernel
theorem dX1_leastFrom_62 : decode cX1_leastFrom 62 = .ok (.iload_n 1, 1) := by decide +kernel
theorem dX1_leastFrom_63 : decode cX1_leastFrom 63 = .ok (.iconst 1, 1) := by decide +kernel
theorem dX1_leastFrom_64 : decode cX1_leastFrom 64 = .ok (.iadd, 1) := by decide +kernel
theorem dX1_leastFrom_65 : decode cX1_leastFrom 65 = .ok (.iload_n 2, 1) := by decide +kernel
theorem dX1_leastFrom_66 : decode cX1_leastFrom 66 = .ok (.iload 5, 2) := by decide +kernel
theorem dX1_leastFrom_68 : decode cX1_leastFrom 68 = .ok (.iload_n 1, 1) := by decide +kernel
theorem dX1_leastFrom_69 : decode cX1_leastFrom 69 = .ok (.invokestatic 74, 3) := by decide +kernel
theorem dX1_leastFrom_72 : decode cX1_leastFrom 72 = .ok (.ior, 1) := by decide +kernel
theorem dX1_leastFrom_73 : decode cX1_leastFrom 73 = .ok (.iload_n 3, 1) := by decide +kernel
theorem dX1_leastFrom_74 : decode cX1_leastFrom 74 = .ok (.invokevirtual 58, 3) := by decide +kernel
theorem dX1_leastFrom_77 : decode cX1_leastFrom 77 = .ok (.istore 6, 2) := by decide +kernel
theorem dX1_leastFrom_79 : decode cX1_leastFrom 79 = .ok (.iload 6, 2) := by decide +kernel
theorem dX1_leastFrom_81 : decode cX1_leastFrom 81 = .ok (.iload 4, 2) := by decide +kernel
theorem dX1_leastFrom_83 : decode cX1_leastFrom 83 = .ok (.invokestatic 78, 3) := by decide +kernel
theorem dX1_leastFrom_86 : decode cX1_leastFrom 86 = .ok (.ifCond .eq 7, 3) := by decide +kernel
theorem dX1_leastFrom_89 : decode cX1_leastFrom 89 = .ok (.iload 6, 2) := by decide +kernel
theorem dX1_leastFrom_91 : decode cX1_leastFrom 91 = .ok (.istore 4, 2) := by decide +kernel
theorem dX1_leastFrom_93 : decode cX1_leastFrom 93 = .ok (.iinc 5 1, 3) := by decide +kernel
theorem dX1_leastFrom_96 : decode cX1_leastFrom 96 = .ok (.goto (-53), 3) := by decide +kernel
theorem dX1_leastFrom_99 : decode cX1_leastFrom 99 = .ok (.iload 4, 2) := by decide +kernel
theorem dX1_leastFrom_101 : decode cX1_leastFrom 101 = .ok (.ireturn, 1) := by decide +kernel
theorem dX1_firstSet_0 : decode cX1_firstSet 0 = .ok (.iconst 0, 1) := by decide +kernel
theorem dX1_firstSet_1 : decode cX1_firstSet 1 = .ok (.istore 4, 2) := by decide +kernel
theorem dX1_firstSet_3 : decode cX1_firstSet 3 = .ok (.iload 4, 2) := by decide +kernel
theorem dX1_firstSet_5 : decode cX1_firstSet 5 = .ok (.bipush 16, 2) := by decide +kernel
theorem dX1_firstSet_7 : decode cX1_firstSet 7 = .ok (.if_icmp .ge 42, 3) := by decide +kernel
theorem dX1_firstSet_10 : decode cX1_firstSet 10 = .ok (.aload_n 0, 1) := by decide +kernel
theorem dX1_firstSet_11 : decode cX1_firstSet 11 = .ok (.iload_n 1, 1) := by decide +kernel
theorem dX1_firstSet_12 : decode cX1_firstSet 12 = .ok (.iload 4, 2) := by decide +kernel
theorem dX1_firstSet_14 : decode cX1_firstSet 14 = .ok (.invokevirtual 93, 3) := by decide +kernel
theorem dX1_firstSet_17 : decode cX1_firstSet 17 = .ok (.ifCond .eq 26, 3) := by decide +kernel
theorem dX1_firstSet_20 : decode cX1_firstSet 20 = .ok (.aload_n 0, 1) := by decide +kernel
theorem dX1_firstSet_21 : decode cX1_firstSet 21 = .ok (.iload_n 1, 1) := by decide +kernel
theorem dX1_firstSet_22 : decode cX1_firstSet 22 = .ok (.iconst 1, 1) := by decide +kernel
theorem dX1_firstSet_23 : decode cX1_firstSet 23 = .ok (.iadd, 1) := by decide +kernel
theorem dX1_firstSet_24 : decode cX1_firstSet 24 = .ok (.iload_n 2, 1) := by decide +kernel
theorem dX1_firstSet_25 : decode cX1_firstSet 25 = .ok (.iload 4, 2) := by decide +kernel
theorem dX1_firstSet_27 : decode cX1_firstSet 27 = .ok (.iload_n 1, 1) := by decide +kernel
theorem dX1_firstSet_28 : decode cX1_firstSet 28 = .ok (.invokestatic 74, 3) := by decide +kernel
theorem dX1_firstSet_31 : decode cX1_firstSet 31 = .ok (.ior, 1) := by decide +kernel
theorem dX1_firstSet_32 : decode cX1_firstSet 32 = .ok (.iconst (-1), 1) := by decide +kernel
theorem dX1_firstSet_33 : decode cX1_firstSet 33 = .ok (.invokevirtual 58, 3) := by decide +kernel
theorem dX1_firstSet_36 : decode cX1_firstSet 36 = .ok (.iload_n 3, 1) := by decide +kernel
theorem dX1_firstSet_37 : decode cX1_firstSet 37 = .ok (.if_icmp .ne 6, 3) := by decide +kernel
theorem dX1_firstSet_40 : decode cX1_firstSet 40 = .ok (.iload 4, 2) := by decide +kernel
theorem dX1_firstSet_42 : decode cX1_firstSet 42 = .ok (.ireturn, 1) := by decide +kernel
theorem dX1_firstSet_43 : decode cX1_firstSet 43 = .ok (.iinc 4 1, 3) := by decide +kernel
theorem dX1_firstSet_46 : decode cX1_firstSet 46 = .ok (.goto (-43), 3) := by decide +kernel
theorem dX1_firstSet_49 : decode cX1_firstSet 49 = .ok (.iconst 0, 1) := by decide +kernel
theorem dX1_firstSet_50 : decode cX1_firstSet 50 = .ok (.ireturn, 1) := by decide +kernel
theorem dX1_spread_0 : decode cX1_spread 0 = .ok (.getstatic 136, 3) := by decide +kernel
theorem dX1_spread_3 : decode cX1_spread 3 = .ok (.iload_n 0, 1) := by decide +kernel
theorem dX1_spread_4 : decode cX1_spread 4 = .ok (.invokestatic 48, 3) := by decide +kernel
theorem dX1_spread_7 : decode cX1_spread 7 = .ok (.iload_n 1, 1) := by decide +kernel
theorem dX1_spread_8 : decode cX1_spread 8 = .ok (.ishl, 1) := by decide +kernel
theorem dX1_spread_9 : decode cX1_spread 9 = .ok (.ireturn, 1) := by decide +kernel
theorem dX1_priceOf_0 : decode cX1_priceOf 0 = .ok (.iconst 0, 1) := by decide +kernel
theorem dX1_priceOf_1 : decode cX1_priceOf 1 = .ok (.istore_n 2, 1) := by decide +kernel
theorem dX1_priceOf_2 : decode cX1_priceOf 2 = .ok (.iconst 0, 1) := by decide +kernel
theorem dX1_priceOf_3 : decode cX1_priceOf 3 = .ok (.istore_n 3, 1) := by decide +kernel
theorem dX1_priceOf_4 : decode cX1_priceOf 4 = .ok (.iload_n 3, 1) := by decide +kernel
theorem dX1_priceOf_5 : decode cX1_priceOf 5 = .ok (.aload_n 0, 1) := by decide +kernel
theorem dX1_priceOf_6 : decode cX1_priceOf 6 = .ok (.getfield 44, 3) := by decide +kernel
theorem dX1_priceOf_9 : decode cX1_priceOf 9 = .ok (.getfield 88, 3) := by decide +kernel
theorem dX1_priceOf_12 : decode cX1_priceOf 12 = .ok (.if_icmp .ge 49, 3) := by decide +kernel
theorem dX1_priceOf_15 : decode cX1_priceOf 15 = .ok (.iload_n 1, 1) := by decide +kernel
theorem dX1_priceOf_16 : decode cX1_priceOf 16 = .ok (.iload_n 3, 1) := by decide +kernel
theorem dX1_priceOf_17 : decode cX1_priceOf 17 = .ok (.bipush 8, 2) := by decide +kernel
theorem dX1_priceOf_19 : decode cX1_priceOf 19 = .ok (.imul, 1) := by decide +kernel
theorem dX1_priceOf_20 : decode cX1_priceOf 20 = .ok (.iushr, 1) := by decide +kernel
theorem dX1_priceOf_21 : decode cX1_priceOf 21 = .ok (.bipush 31, 2) := by decide +kernel
theorem dX1_priceOf_23 : decode cX1_priceOf 23 = .ok (.iand, 1) := by decide +kernel
theorem dX1_priceOf_24 : decode cX1_priceOf 24 = .ok (.istore 4, 2) := by decide +kernel
theorem dX1_priceOf_26 : decode cX1_priceOf 26 = .ok (.aload_n 0, 1) := by decide +kernel
theorem dX1_priceOf_27 : decode cX1_priceOf 27 = .ok (.getfield 15, 3) := by decide +kernel
theorem dX1_priceOf_30 : decode cX1_priceOf 30 = .ok (.iload_n 3, 1) := by decide +kernel
theorem dX1_priceOf_31 : decode cX1_priceOf 31 = .ok (.bipush 32, 2) := by decide +kernel
theorem dX1_priceOf_33 : decode cX1_priceOf 33 = .ok (.imul, 1) := by decide +kernel
theorem dX1_priceOf_34 : decode cX1_priceOf 34 = .ok (.iload 4, 2) := by decide +kernel
theorem dX1_priceOf_36 : decode cX1_priceOf 36 = .ok (.iadd, 1) := by decide +kernel
theorem dX1_priceOf_37 : decode cX1_priceOf 37 = .ok (.invokestatic 48, 3) := by decide +kernel
theorem dX1_priceOf_40 : decode cX1_priceOf 40 = .ok (.istore 5, 2) := by decide +kernel
theorem dX1_priceOf_42 : decode cX1_priceOf 42 = .ok (.iload 5, 2) := by decide +kernel
theorem dX1_priceOf_44 : decode cX1_priceOf 44 = .ok (.iconst (-1), 1) := by decide +kernel
theorem dX1_priceOf_45 : decode cX1_priceOf 45 = .ok (.if_icmp .ne 5, 3) := by decide +kernel
theorem dX1_priceOf_48 : decode cX1_priceOf 48 = .ok (.iconst (-1), 1) := by decide +kernel
theorem dX1_priceOf_49 : decode cX1_priceOf 49 = .ok (.ireturn, 1) := by decide +kernel
theorem dX1_priceOf_50 : decode cX1_priceOf 50 = .ok (.iload_n 2, 1) := by decide +kernel
theorem dX1_priceOf_51 : decode cX1_priceOf 51 = .ok (.iload 5, 2) := by decide +kernel
theorem dX1_priceOf_53 : decode cX1_priceOf 53 = .ok (.iadd, 1) := by decide +kernel
theorem dX1_priceOf_54 : decode cX1_priceOf 54 = .ok (.istore_n 2, 1) := by decide +kernel
theorem dX1_priceOf_55 : decode cX1_priceOf 55 = .ok (.iinc 3 1, 3) := by decide +kernel
theorem dX1_priceOf_58 : decode cX1_priceOf 58 = .ok (.goto (-54), 3) := by decide +kernel
theorem dX1_priceOf_61 : decode cX1_priceOf 61 = .ok (.iload_n 2, 1) := by decide +kernel
theorem dX1_priceOf_62 : decode cX1_priceOf 62 = .ok (.ireturn, 1) := by decide +kernel
theorem dX2_init_0 : decode cX2_init 0 = .ok (.aload_n 0, 1) := by decide +kernel
theorem dX2_init_1 : decode cX2_init 1 = .ok (.invokespecial 3, 3) := by decide +kernel
theorem dX2_init_4 : decode cX2_init 4 = .ok (.aload_n 0, 1) := by decide +kernel
theorem dX2_init_5 : decode cX2_init 5 = .ok (.sipush 640, 3) := by decide +kernel
theorem dX2_init_8 : decode cX2_init 8 = .ok (.newarray .int, 2) := by decide +kernel
theorem dX2_init_10 : decode cX2_init 10 = .ok (.putfield 9, 3) := by decide +kernel
theorem dX2_init_13 : decode cX2_init 13 = .ok (.aload_n 0, 1) := by decide +kernel
theorem dX2_init_14 : decode cX2_init 14 = .ok (.bipush 16, 2) := by decide +kernel
theorem dX2_init_16 : decode cX2_init 16 = .ok (.newarray .int, 2) := by decide +kernel
theorem dX2_init_18 : decode cX2_init 18 = .ok (.putfield 15, 3) := by decide +kernel
theorem dX2_init_21 : decode cX2_init 21 = .ok (.aload_n 0, 1) := by decide +kernel
theorem dX2_init_22 : decode cX2_init 22 = .ok (.iconst 4, 1) := by decide +kernel
theorem dX2_init_23 : decode cX2_init 23 = .ok (.newarray .int, 2) := by decide +kernel
theorem dX2_init_25 : decode cX2_init 25 = .ok (.putfield 18, 3) := by decide +kernel
theorem dX2_init_28 : decode cX2_init 28 = .ok (.aload_n 0, 1) := by decide +kernel
theorem dX2_init_29 : decode cX2_init 29 = .ok (.aload_n 1, 1) := by decide +kernel
theorem dX2_init_30 : decode cX2_init 30 = .ok (.putfield 21, 3) := by decide +kernel
theorem dX2_init_33 : decode cX2_init 33 = .ok (.aload_n 0, 1) := by decide +kernel
theorem dX2_init_34 : decode cX2_init 34 = .ok (.invokevirtual 25, 3) := by decide +kernel
theorem dX2_init_37 : decode cX2_init 37 = .ok (.return_, 1) := by decide +kernel
theorem dX2_clear_0 : decode cX2_clear 0 = .ok (.aload_n 0, 1) := by decide +kernel
theorem dX2_clear_1 : decode cX2_clear 1 = .ok (.getfield 9, 3) := by decide +kernel
theorem dX2_clear_4 : decode cX2_clear 4 = .ok (.bipush (-2), 2) := by decide +kernel
theorem dX2_clear_6 : decode cX2_clear 6 = .ok (.invokestatic 28, 3) := by decide +kernel
theorem dX2_clear_9 : decode cX2_clear 9 = .ok (.return_, 1) := by decide +kernel
theorem dX2_byTrunks_0 : decode cX2_byTrunks 0 = .ok (.iload_n 1, 1) := by decide +kernel
theorem dX2_byTrunks_1 : decode cX2_byTrunks 1 = .ok (.iconst 5, 1) := by decide +kernel
theorem dX2_byTrunks_2 : decode cX2_byTrunks 2 = .ok (.imul, 1) := by decide +kernel
theorem dX2_byTrunks_3 : decode cX2_byTrunks 3 = .ok (.iload_n 2, 1) := by decide +kernel
theorem dX2_byTrunks_4 : decode cX2_byTrunks 4 = .ok (.iadd, 1) := by decide +kernel
theorem dX2_byTrunks_5 : decode cX2_byTrunks 5 = .ok (.bipush 32, 2) := by decide +kernel
theorem dX2_byTrunks_7 : decode cX2_byTrunks 7 = .ok (.imul, 1) := by decide +kernel
theorem dX2_byTrunks_8 : decode cX2_byTrunks 8 = .ok (.iload_n 3, 1) := by decide +kernel
theorem dX2_byTrunks_9 : decode cX2_byTrunks 9 = .ok (.iadd, 1) := by decide +kernel
theorem dX2_byTrunks_10 : decode cX2_byTrunks 10 = .ok (.istore 4, 2) := by decide +kernel
theorem dX2_byTrunks_12 : decode cX2_byTrunks 12 = .ok (.aload_n 0, 1) := by decide +kernel
theorem dX2_byTrunks_13 : decode cX2_byTrunks 13 = .ok (.getfield 9, 3) := by decide +kernel
theorem dX2_byTrunks_16 : decode cX2_byTrunks 16 = .ok (.iload 4, 2) := by decide +kernel
theorem dX2_byTrunks_18 : decode cX2_byTrunks 18 = .ok (.invokestatic 34, 3) := by decide +kernel
theorem dX2_byTrunks_21 : decode cX2_byTrunks 21 = .ok (.istore 5, 2) := by decide +kernel
theorem dX2_byTrunks_23 : decode cX2_byTrunks 23 = .ok (.iload 5, 2) := by decide +kernel
theorem dX2_byTrunks_25 : decode cX2_byTrunks 25 = .ok (.bipush (-2), 2) := by decide +kernel
theorem dX2_byTrunks_27 : decode cX2_byTrunks 27 = .ok (.if_icmp .ne 43, 3) := by decide +kernel
theorem dX2_byTrunks_30 : decode cX2_byTrunks 30 = .ok (.aload_n 0, 1) := by decide +kernel
theorem dX2_byTrunks_31 : decode cX2_byTrunks 31 = .ok (.iload_n 1, 1) := by decide +kernel
theorem dX2_byTrunks_32 : decode cX2_byTrunks 32 = .ok (.iload_n 2, 1) := by decide +kernel
theorem dX2_byTrunks_33 : decode cX2_byTrunks 33 = .ok (.iconst 0, 1) := by decide +kernel
theorem dX2_byTrunks_34 : decode cX2_byTrunks 34 = .ok (.aload_n 0, 1) := by decide +kernel
theorem dX2_byTrunks_35 : decode cX2_byTrunks 35 = .ok (.getfield 21, 3) := by decide +kernel
theorem dX2_byTrunks_38 : decode cX2_byTrunks 38 = .ok (.iload_n 3, 1) := by decide +kernel
theorem dX2_byTrunks_39 : decode cX2_byTrunks 39 = .ok (.invokevirtual 38, 3) := by decide +kernel
theorem dX2_byTrunks_42 : decode cX2_byTrunks 42 = .ok (.iconst (-1), 1) := by decide +kernel
theorem dX2_byTrunks_43 : decode cX2_byTrunks 43 = .ok (.aload_n 0, 1) := by decide +kernel
theorem dX2_byTrunks_44 : decode cX2_byTrunks 44 = .ok (.getfield 21, 3) := by decide +kernel
theorem dX2_byTrunks_47 : decode cX2_byTrunks 47 = .ok (.getfield 44, 3) := by decide +kernel
theorem dX2_byTrunks_50 : decode cX2_byTrunks 50 = .ok (.iload_n 2, 1) := by decide +kernel
theorem dX2_byTrunks_51 : decode cX2_byTrunks 51 = .ok (.invokestatic 34, 3) := by decide +kernel
theorem dX2_byTrunks_54 : decode cX2_byTrunks 54 = .ok (.invokevirtual 47, 3) := by decide +kernel
theorem dX2_byTrunks_57 : decode cX2_byTrunks 57 = .ok (.istore 5, 2) := by decide +kernel
theorem dX2_byTrunks_59 : decode cX2_byTrunks 59 = .ok (.aload_n 0, 1) := by decide +kernel
theorem dX2_byTrunks_60 : decode cX2_byTrunks 60 = .ok (.getfield 9, 3) := by decide +kernel
theorem dX2_byTrunks_63 : decode cX2_byTrunks 63 = .ok (.iload 4, 2) := by decide +kernel
theorem dX2_byTrunks_65 : decode cX2_byTrunks 65 = .ok (.iload 5, 2) := by decide +kernel
theorem dX2_byTrunks_67 : decode cX2_byTrunks 67 = .ok (.invokestatic 51, 3) := by decide +kernel
theorem dX2_byTrunks_70 : decode cX2_byTrunks 70 = .ok (.iload 5, 2) := by decide +kernel
theorem dX2_byTrunks_72 : decode cX2_byTrunks 72 = .ok (.ireturn, 1) := by decide +kernel
theorem dX2_byThings_0 : decode cX2_byThings 0 = .ok (.aload_n 0, 1) := by decide +kernel
theorem dX2_byThings_1 : decode cX2_byThings 1 = .ok (.iload_n 1, 1) := by decide +kernel
theorem dX2_byThings_2 : decode cX2_byThings 2 = .ok (.iload_n 2, 1) := by decide +kernel
theorem dX2_byThings_3 : decode cX2_byThings 3 = .ok (.iconst 0, 1) := by decide +kernel
theorem dX2_byThings_4 : decode cX2_byThings 4 = .ok (.iload_n 3, 1) := by decide +kernel
theorem dX2_byThings_5 : decode cX2_byThings 5 = .ok (.iload 4, 2) := by decide +kernel
theorem dX2_byThings_7 : decode cX2_byThings 7 = .ok (.aload_n 0, 1) := by decide +kernel
theorem dX2_byThings_8 : decode cX2_byThings 8 = .ok (.getfield 21, 3) := by decide +kernel
theorem dX2_byThings_11 : decode cX2_byThings 11 = .ok (.getfield 44, 3) := by decide +kernel
theorem dX2_byThings_14 : decode cX2_byThings 14 = .ok (.iload_n 2, 1) := by decide +kernel
theorem dX2_byThings_15 : decode cX2_byThings 15 = .ok (.invokestatic 34, 3) := by decide +kernel
theorem dX2_byThings_18 : decode cX2_byThings 18 = .ok (.invokevirtual 47, 3) := by decide +kernel
theorem dX2_byThings_21 : decode cX2_byThings 21 = .ok (.ireturn, 1) := by decide +kernel
theorem dX2_leastPrice_0 : decode cX2_leastPrice 0 = .ok (.aload_n 0, 1) := by decide +kernel
theorem dX2_leastPrice_1 : decode cX2_leastPrice 1 = .ok (.getfield 15, 3) := by decide +kernel
theorem dX2_leastPrice_4 : decode cX2_leastPrice 4 = .ok (.iconst (-1), 1) := by decide +kernel
theorem dX2_leastPrice_5 : decode cX2_leastPrice 5 = .ok (.invokestatic 28, 3) := by decide +kernel
theorem dX2_leastPrice_8 : decode cX2_leastPrice 8 = .ok (.aload_n 0, 1) := by decide +kernel
theorem dX2_leastPrice_9 : decode cX2_leastPrice 9 = .ok (.getfield 15, 3) := by decide +kernel
theorem dX2_leastPrice_12 : decode cX2_leastPrice 12 = .ok (.iconst 0, 1) := by decide +kernel
theorem dX2_leastPrice_13 : decode cX2_leastPrice 13 = .ok (.iconst 0, 1) := by decide +kernel
theorem dX2_leastPrice_14 : decode cX2_leastPrice 14 = .ok (.invokestatic 51, 3) := by decide +kernel
theorem dX2_leastPrice_17 : decode cX2_leastPrice 17 = .ok (.iconst 0, 1) := by decide +kernel
theorem dX2_leastPrice_18 : decode cX2_leastPrice 18 = .ok (.istore 7, 2) := by decide +kernel
theorem dX2_leastPrice_20 : decode cX2_leastPrice 20 = .ok (.iload 7, 2) := by decide +kernel
theorem dX2_leastPrice_22 : decode cX2_leastPrice 22 = .ok (.aload_n 0, 1) := by decide +kernel
theorem dX2_leastPrice_23 : decode cX2_leastPrice 23 = .ok (.getfield 21, 3) := by decide +kernel
theorem dX2_leastPrice_26 : decode cX2_leastPrice 26 = .ok (.getfield 55, 3) := by decide +kernel
theorem dX2_leastPrice_29 : decode cX2_leastPrice 29 = .ok (.if_icmp .ge 37, 3) := by decide +kernel
theorem dX2_leastPrice_32 : decode cX2_leastPrice 32 = .ok (.iload 4, 2) := by decide +kernel
theorem dX2_leastPrice_34 : decode cX2_leastPrice 34 = .ok (.iload 7, 2) := by decide +kernel
theorem dX2_leastPrice_36 : decode cX2_leastPrice 36 = .ok (.invokestatic 59, 3) := by decide +kernel
theorem dX2_leastPrice_39 : decode cX2_leastPrice 39 = .ok (.ifCond .eq 21, 3) := by decide +kernel
theorem dX2_leastPrice_42 : decode cX2_leastPrice 42 = .ok (.aload_n 0, 1) := by decide +kernel
theorem dX2_leastPrice_43 : decode cX2_leastPrice 43 = .ok (.iload_n 1, 1) := by decide +kernel
theorem dX2_leastPrice_44 : decode cX2_leastPrice 44 = .ok (.iload_n 3, 1) := by decide +kernel
theorem dX2_leastPrice_45 : decode cX2_leastPrice 45 = .ok (.aload_n 0, 1) := by decide +kernel
theorem dX2_leastPrice_46 : decode cX2_leastPrice 46 = .ok (.getfield 21, 3) := by decide +kernel
theorem dX2_leastPrice_49 : decode cX2_leastPrice 49 = .ok (.getfield 63, 3) := by decide +kernel
theorem dX2_leastPrice_52 : decode cX2_leastPrice 52 = .ok (.iload 7, 2) := by decide +kernel
theorem dX2_leastPrice_54 : decode cX2_leastPrice 54 = .ok (.invokestatic 34, 3) := by decide +kernel
theorem dX2_leastPrice_57 : decode cX2_leastPrice 57 = .ok (.invokevirtual 66, 3) := by decide +kernel
theorem dX2_leastPrice_60 : decode cX2_leastPrice 60 = .ok (.iinc 7 1, 3) := by decide +kernel
theorem dX2_leastPrice_63 : decode cX2_leastPrice 63 = .ok (.goto (-43), 3) := by decide +kernel
theorem dX2_leastPrice_66 : decode cX2_leastPrice 66 = .ok (.iload 5, 2) := by decide +kernel
theorem dX2_leastPrice_68 : decode cX2_leastPrice 68 = .ok (.iconst (-1), 1) := by decide +kernel
theorem dX2_leastPrice_69 : decode cX2_leastPrice 69 = .ok (.if_icmp .eq 11, 3) := by decide +kernel
theorem dX2_leastPrice_72 : decode cX2_leastPrice 72 = .ok (.aload_n 0, 1) := by decide +kernel
theorem dX2_leastPrice_73 : decode cX2_leastPrice 73 = .ok (.iload_n 1, 1) := by decide +kernel
theorem dX2_leastPrice_74 : decode cX2_leastPrice 74 = .ok (.iload_n 3, 1) := by decide +kernel
theorem dX2_leastPrice_75 : decode cX2_leastPrice 75 = .ok (.iload 5, 2) := by decide +kernel
theorem dX2_leastPrice_77 : decode cX2_leastPrice 77 = .ok (.invokevirtual 66, 3) := by decide +kernel
theorem dX2_leastPrice_80 : decode cX2_leastPrice 80 = .ok (.aload_n 0, 1) := by decide +kernel
theorem dX2_leastPrice_81 : decode cX2_leastPrice 81 = .ok (.aload_n 0, 1) := by decide +kernel
theorem dX2_leastPrice_82 : decode cX2_leastPrice 82 = .ok (.getfield 21, 3) := by decide +kernel
theorem dX2_leastPrice_85 : decode cX2_leastPrice 85 = .ok (.getfield 70, 3) := by decide +kernel
theorem dX2_leastPrice_88 : decode cX2_leastPrice 88 = .ok (.iload_n 1, 1) := by decide +kernel
theorem dX2_leastPrice_89 : decode cX2_leastPrice 89 = .ok (.invokestatic 34, 3) := by decide +kernel
theorem dX2_leastPrice_92 : decode cX2_leastPrice 92 = .ok (.iload_n 3, 1) := by decide +kernel
theorem dX2_leastPrice_93 : decode cX2_leastPrice 93 = .ok (.isub, 1) := by decide +kernel
theorem dX2_leastPrice_94 : decode cX2_leastPrice 94 = .ok (.iload 6, 2) := by decide +kernel
theorem dX2_leastPrice_96 : decode cX2_leastPrice 96 = .ok (.aload_n 0, 1) := by decide +kernel
theorem dX2_leastPrice_97 : decode cX2_leastPrice 97 = .ok (.getfield 21, 3) := by decide +kernel
theorem dX2_leastPrice_100 : decode cX2_leastPrice 100 = .ok (.getfield 73, 3) := by decide +kernel
theorem dX2_leastPrice_103 : decode cX2_leastPrice 103 = .ok (.iload_n 2, 1) := by decide +kernel
theorem dX2_leastPrice_104 : decode cX2_leastPrice 104 = .ok (.invokestatic 34, 3) := by decide +kernel
theorem dX2_leastPrice_107 : decode cX2_leastPrice 107 = .ok (.invokevirtual 76, 3) := by decide +kernel
theorem dX2_leastPrice_110 : decode cX2_leastPrice 110 = .ok (.ireturn, 1) := by decide +kernel
theorem dX2_useSort_0 : decode cX2_useSort 0 = .ok (.aload_n 0, 1) := by decide +kernel
theorem dX2_useSort_1 : decode cX2_useSort 1 = .ok (.getfield 21, 3) := by decide +kernel
theorem dX2_useSort_4 : decode cX2_useSort 4 = .ok (.getfield 70, 3) := by decide +kernel
theorem dX2_useSort_7 : decode cX2_useSort 7 = .ok (.iload_n 1, 1) := by decide +kernel
theorem dX2_useSort_8 : decode cX2_useSort 8 = .ok (.invokestatic 34, 3) := by decide +kernel
theorem dX2_useSort_11 : decode cX2_useSort 11 = .ok (.iload_n 2, 1) := by decide +kernel
theorem dX2_useSort_12 : decode cX2_useSort 12 = .ok (.isub, 1) := by decide +kernel
theorem dX2_useSort_13 : decode cX2_useSort 13 = .ok (.istore 4, 2) := by decide +kernel
theorem dX2_useSort_15 : decode cX2_useSort 15 = .ok (.iconst 0, 1) := by decide +kernel
theorem dX2_useSort_16 : decode cX2_useSort 16 = .ok (.istore 5, 2) := by decide +kernel
theorem dX2_useSort_18 : decode cX2_useSort 18 = .ok (.iconst 0, 1) := by decide +kernel
theorem dX2_useSort_19 : decode cX2_useSort 19 = .ok (.istore 6, 2) := by decide +kernel
theorem dX2_useSort_21 : decode cX2_useSort 21 = .ok (.iload 6, 2) := by decide +kernel
theorem dX2_useSort_23 : decode cX2_useSort 23 = .ok (.iload 4, 2) := by decide +kernel
theorem dX2_useSort_25 : decode cX2_useSort 25 = .ok (.if_icmp .ge 60, 3) := by decide +kernel
theorem dX2_useSort_28 : decode cX2_useSort 28 = .ok (.aload_n 0, 1) := by decide +kernel
theorem dX2_useSort_29 : decode cX2_useSort 29 = .ok (.getfield 21, 3) := by decide +kernel
theorem dX2_useSort_32 : decode cX2_useSort 32 = .ok (.iload_n 3, 1) := by decide +kernel
theorem dX2_useSort_33 : decode cX2_useSort 33 = .ok (.aload_n 0, 1) := by decide +kernel
theorem dX2_useSort_34 : decode cX2_useSort 34 = .ok (.getfield 21, 3) := by decide +kernel
theorem dX2_useSort_37 : decode cX2_useSort 37 = .ok (.iload_n 1, 1) := by decide +kernel
theorem dX2_useSort_38 : decode cX2_useSort 38 = .ok (.iload_n 2, 1) := by decide +kernel
theorem dX2_useSort_39 : decode cX2_useSort 39 = .ok (.iload 6, 2) := by decide +kernel
theorem dX2_useSort_41 : decode cX2_useSort 41 = .ok (.iadd, 1) := by decide +kernel
theorem dX2_useSort_42 : decode cX2_useSort 42 = .ok (.invokevirtual 80, 3) := by decide +kernel
theorem dX2_useSort_45 : decode cX2_useSort 45 = .ok (.invokevirtual 84, 3) := by decide +kernel
theorem dX2_useSort_48 : decode cX2_useSort 48 = .ok (.istore 7, 2) := by decide +kernel
theorem dX2_useSort_50 : decode cX2_useSort 50 = .ok (.aload_n 0, 1) := by decide +kernel
theorem dX2_useSort_51 : decode cX2_useSort 51 = .ok (.getfield 18, 3) := by decide +kernel
theorem dX2_useSort_54 : decode cX2_useSort 54 = .ok (.iload 6, 2) := by decide +kernel
theorem dX2_useSort_56 : decode cX2_useSort 56 = .ok (.iload 7, 2) := by decide +kernel
theorem dX2_useSort_58 : decode cX2_useSort 58 = .ok (.invokestatic 51, 3) := by decide +kernel
theorem dX2_useSort_61 : decode cX2_useSort 61 = .ok (.iload 5, 2) := by decide +kernel
theorem dX2_useSort_63 : decode cX2_useSort 63 = .ok (.ifCond .ne 9, 3) := by decide +kernel
theorem dX2_useSort_66 : decode cX2_useSort 66 = .ok (.iload 7, 2) := by decide +kernel
theorem dX2_useSort_68 : decode cX2_useSort 68 = .ok (.iconst (-1), 1) := by decide +kernel
theorem dX2_useSort_69 : decode cX2_useSort 69 = .ok (.if_icmp .eq 7, 3) := by decide +kernel
theorem dX2_useSort_72 : decode cX2_useSort 72 = .ok (.iconst 1, 1) := by decide +kernel
theorem dX2_useSort_73 : decode cX2_useSort 73 = .ok (.goto 4, 3) := by decide +kernel
theorem dX2_useSort_76 : decode cX2_useSort 76 = .ok (.iconst 0, 1) := by decide +kernel
theorem dX2_useSort_77 : decode cX2_useSort 77 = .ok (.istore 5, 2) := by decide +kernel
theorem dX2_useSort_79 : decode cX2_useSort 79 = .ok (.iinc 6 1, 3) := by decide +kernel
theorem dX2_useSort_82 : decode cX2_useSort 82 = .ok (.goto (-61), 3) := by decide +kernel
theorem dX2_useSort_85 : decode cX2_useSort 85 = .ok (.iload 5, 2) := by decide +kernel
theorem dX2_useSort_87 : decode cX2_useSort 87 = .ok (.ifCond .eq 9, 3) := by decide +kernel
theorem dX2_useSort_90 : decode cX2_useSort 90 = .ok (.aload_n 0, 1) := by decide +kernel
theorem dX2_useSort_91 : decode cX2_useSort 91 = .ok (.iload 4, 2) := by decide +kernel
theorem dX2_useSort_93 : decode cX2_useSort 93 = .ok (.invokevirtual 87, 3) := by decide +kernel
theorem dX2_useSort_96 : decode cX2_useSort 96 = .ok (.return_, 1) := by decide +kernel
theorem dX2_fillBy_0 : decode cX2_fillBy 0 = .ok (.iload_n 1, 1) := by decide +kernel
theorem dX2_fillBy_1 : decode cX2_fillBy 1 = .ok (.invokestatic 91, 3) := by decide +kernel
theorem dX2_fillBy_4 : decode cX2_fillBy 4 = .ok (.istore_n 2, 1) := by decide +kernel
theorem dX2_fillBy_5 : decode cX2_fillBy 5 = .ok (.iload_n 2, 1) := by decide +kernel
theorem dX2_fillBy_6 : decode cX2_fillBy 6 = .ok (.ifCond .lt 101, 3) := by decide +kernel
theorem dX2_fillBy_9 : decode cX2_fillBy 9 = .ok (.aload_n 0, 1) := by decide +kernel
theorem dX2_fillBy_10 : decode cX2_fillBy 10 = .ok (.getfield 15, 3) := by decide +kernel
theorem dX2_fillBy_13 : decode cX2_fillBy 13 = .ok (.iload_n 2, 1) := by decide +kernel
theorem dX2_fillBy_14 : decode cX2_fillBy 14 = .ok (.invokestatic 34, 3) := by decide +kernel
theorem dX2_fillBy_17 : decode cX2_fillBy 17 = .ok (.istore_n 3, 1) := by decide +kernel
theorem dX2_fillBy_18 : decode cX2_fillBy 18 = .ok (.iconst 0, 1) := by decide +kernel
theorem dX2_fillBy_19 : decode cX2_fillBy 19 = .ok (.istore 4, 2) := by decide +kernel
theorem dX2_fillBy_21 : decode cX2_fillBy 21 = .ok (.iload 4, 2) := by decide +kernel
theorem dX2_fillBy_23 : decode cX2_fillBy 23 = .ok (.iload_n 1, 1) := by decide +kernel
theorem dX2_fillBy_24 : decode cX2_fillBy 24 = .ok (.if_icmp .ge 77, 3) := by decide +kernel
theorem dX2_fillBy_27 : decode cX2_fillBy 27 = .ok (.iload_n 3, 1) := by decide +kernel
theorem dX2_fillBy_28 : decode cX2_fillBy 28 = .ok (.iconst (-1), 1) := by decide +kernel
theorem dX2_fillBy_29 : decode cX2_fillBy 29 = .ok (.if_icmp .eq 72, 3) := by decide +kernel
theorem dX2_fillBy_32 : decode cX2_fillBy 32 = .ok (.aload_n 0, 1) := by decide +kernel
theorem dX2_fillBy_33 : decode cX2_fillBy 33 = .ok (.getfield 18, 3) := by decide +kernel
theorem dX2_fillBy_36 : decode cX2_fillBy 36 = .ok (.iload 4, 2) := by decide +kernel
theorem dX2_fillBy_38 : decode cX2_fillBy 38 = .ok (.invokestatic 34, 3) := by decide +kernel
theorem dX2_fillBy_41 : decode cX2_fillBy 41 = .ok (.istore 5, 2) := by decide +kernel
theorem dX2_fillBy_43 : decode cX2_fillBy 43 = .ok (.iload_n 2, 1) := by decide +kernel
theorem dX2_fillBy_44 : decode cX2_fillBy 44 = .ok (.iconst 1, 1) := by decide +kernel
theorem dX2_fillBy_45 : decode cX2_fillBy 45 = .ok (.iload 4, 2) := by decide +kernel
theorem dX2_fillBy_47 : decode cX2_fillBy 47 = .ok (.ishl, 1) := by decide +kernel
theorem dX2_fillBy_48 : decode cX2_fillBy 48 = .ok (.ior, 1) := by decide +kernel
theorem dX2_fillBy_49 : decode cX2_fillBy 49 = .ok (.istore 6, 2) := by decide +kernel
theorem dX2_fillBy_51 : decode cX2_fillBy 51 = .ok (.iload 6, 2) := by decide +kernel
theorem dX2_fillBy_53 : decode cX2_fillBy 53 = .ok (.iload_n 2, 1) := by decide +kernel
theorem dX2_fillBy_54 : decode cX2_fillBy 54 = .ok (.if_icmp .eq 41, 3) := by decide +kernel
theorem dX2_fillBy_57 : decode cX2_fillBy 57 = .ok (.iload 5, 2) := by decide +kernel
theorem dX2_fillBy_59 : decode cX2_fillBy 59 = .ok (.iconst (-1), 1) := by decide +kernel
theorem dX2_fillBy_60 : decode cX2_fillBy 60 = .ok (.if_icmp .eq 35, 3) := by decide +kernel
theorem dX2_fillBy_63 : decode cX2_fillBy 63 = .ok (.iload_n 3, 1) := by decide +kernel
theorem dX2_fillBy_64 : decode cX2_fillBy 64 = .ok (.iload 5, 2) := by decide +kernel
theorem dX2_fillBy_66 : decode cX2_fillBy 66 = .ok (.iadd, 1) := by decide +kernel
theorem dX2_fillBy_67 : decode cX2_fillBy 67 = .ok (.aload_n 0, 1) := by decide +kernel
theorem dX2_fillBy_68 : decode cX2_fillBy 68 = .ok (.getfield 15, 3) := by decide +kernel
theorem dX2_fillBy_71 : decode cX2_fillBy 71 = .ok (.iload 6, 2) := by decide +kernel
theorem dX2_fillBy_73 : decode cX2_fillBy 73 = .ok (.invokestatic 34, 3) := by decide +kernel
theorem dX2_fillBy_76 : decode cX2_fillBy 76 = .ok (.invokestatic 94, 3) := by decide +kernel
theorem dX2_fillBy_79 : decode cX2_fillBy 79 = .ok (.ifCond .eq 16, 3) := by decide +kernel
theorem dX2_fillBy_82 : decode cX2_fillBy 82 = .ok (.aload_n 0, 1) := by decide +kernel
theorem dX2_fillBy_83 : decode cX2_fillBy 83 = .ok (.getfield 15, 3) := by decide +kernel
theorem dX2_fillBy_86 : decode cX2_fillBy 86 = .ok (.iload 6, 2) := by decide +kernel
theorem dX2_fillBy_88 : decode cX2_fillBy 88 = .ok (.iload_n 3, 1) := by decide +kernel
theorem dX2_fillBy_89 : decode cX2_fillBy 89 = .ok (.iload 5, 2) := by decide +kernel
theorem dX2_fillBy_91 : decode cX2_fillBy 91 = .ok (.iadd, 1) := by decide +kernel
theorem dX2_fillBy_92 : decode cX2_fillBy 92 = .ok (.invokestatic 51, 3) := by decide +kernel
theorem dX2_fillBy_95 : decode cX2_fillBy 95 = .ok (.iinc 4 1, 3) := by decide +kernel
theorem dX2_fillBy_98 : decode cX2_fillBy 98 = .ok (.goto (-77), 3) := by decide +kernel
theorem dX2_fillBy_101 : decode cX2_fillBy 101 = .ok (.iinc 2 (-1), 3) := by decide +kernel
theorem dX2_fillBy_104 : decode cX2_fillBy 104 = .ok (.goto (-99), 3) := by decide +kernel
theorem dX2_fillBy_107 : decode cX2_fillBy 107 = .ok (.return_, 1) := by decide +kernel
theorem dX2_withLent_0 : decode cX2_withLent 0 = .ok (.iconst (-1), 1) := by decide +kernel
theorem dX2_withLent_1 : decode cX2_withLent 1 = .ok (.istore 4, 2) := by decide +kernel
theorem dX2_withLent_3 : decode cX2_withLent 3 = .ok (.iconst 0, 1) := by decide +kernel
theorem dX2_withLent_4 : decode cX2_withLent 4 = .ok (.istore 5, 2) := by decide +kernel
theorem dX2_withLent_6 : decode cX2_withLent 6 = .ok (.iload 5, 2) := by decide +kernel
theorem dX2_withLent_8 : decode cX2_withLent 8 = .ok (.iload_n 1, 1) := by decide +kernel
theorem dX2_withLent_9 : decode cX2_withLent 9 = .ok (.invokestatic 91, 3) := by decide +kernel
theorem dX2_withLent_12 : decode cX2_withLent 12 = .ok (.if_icmp .gt 65, 3) := by decide +kernel
theorem dX2_withLent_15 : decode cX2_withLent 15 = .ok (.iload_n 1, 1) := by decide +kernel
theorem dX2_withLent_16 : decode cX2_withLent 16 = .ok (.iload 5, 2) := by decide +kernel
theorem dX2_withLent_18 : decode cX2_withLent 18 = .ok (.invokestatic 97, 3) := by decide +kernel
theorem dX2_withLent_21 : decode cX2_withLent 21 = .ok (.isub, 1) := by decide +kernel
theorem dX2_withLent_22 : decode cX2_withLent 22 = .ok (.istore 6, 2) := by decide +kernel
theorem dX2_withLent_24 : decode cX2_withLent 24 = .ok (.aload_n 0, 1) := by decide +kernel
theorem dX2_withLent_25 : decode cX2_withLent 25 = .ok (.getfield 15, 3) := by decide +kernel
theorem dX2_withLent_28 : decode cX2_withLent 28 = .ok (.iload 5, 2) := by decide +kernel
theorem dX2_withLent_30 : decode cX2_withLent 30 = .ok (.invokestatic 34, 3) := by decide +kernel
theorem dX2_withLent_33 : decode cX2_withLent 33 = .ok (.istore 7, 2) := by decide +kernel
theorem dX2_withLent_35 : decode cX2_withLent 35 = .ok (.iload 7, 2) := by decide +kernel
theorem dX2_withLent_37 : decode cX2_withLent 37 = .ok (.iconst (-1), 1) := by decide +kernel
theorem dX2_withLent_38 : decode cX2_withLent 38 = .ok (.if_icmp .eq 33, 3) := by decide +kernel
theorem dX2_withLent_41 : decode cX2_withLent 41 = .ok (.iload 6, 2) := by decide +kernel
theorem dX2_withLent_43 : decode cX2_withLent 43 = .ok (.iload_n 2, 1) := by decide +kernel
theorem dX2_withLent_44 : decode cX2_withLent 44 = .ok (.if_icmp .gt 27, 3) := by decide +kernel
theorem dX2_withLent_47 : decode cX2_withLent 47 = .ok (.iload 7, 2) := by decide +kernel
theorem dX2_withLent_49 : decode cX2_withLent 49 = .ok (.iload 6, 2) := by decide +kernel
theorem dX2_withLent_51 : decode cX2_withLent 51 = .ok (.iload_n 3, 1) := by decide +kernel
theorem dX2_withLent_52 : decode cX2_withLent 52 = .ok (.imul, 1) := by decide +kernel
theorem dX2_withLent_53 : decode cX2_withLent 53 = .ok (.iadd, 1) := by decide +kernel
theorem dX2_withLent_54 : decode cX2_withLent 54 = .ok (.iload 4, 2) := by decide +kernel
theorem dX2_withLent_56 : decode cX2_withLent 56 = .ok (.invokestatic 94, 3) := by decide +kernel
theorem dX2_withLent_59 : decode cX2_withLent 59 = .ok (.ifCond .eq 12, 3) := by decide +kernel
theorem dX2_withLent_62 : decode cX2_withLent 62 = .ok (.iload 7, 2) := by decide +kernel
theorem dX2_withLent_64 : decode cX2_withLent 64 = .ok (.iload 6, 2) := by decide +kernel
theorem dX2_withLent_66 : decode cX2_withLent 66 = .ok (.iload_n 3, 1) := by decide +kernel
theorem dX2_withLent_67 : decode cX2_withLent 67 = .ok (.imul, 1) := by decide +kernel
theorem dX2_withLent_68 : decode cX2_withLent 68 = .ok (.iadd, 1) := by decide +kernel
theorem dX2_withLent_69 : decode cX2_withLent 69 = .ok (.istore 4, 2) := by decide +kernel
theorem dX2_withLent_71 : decode cX2_withLent 71 = .ok (.iinc 5 1, 3) := by decide +kernel
theorem dX2_withLent_74 : decode cX2_withLent 74 = .ok (.goto (-68), 3) := by decide +kernel
theorem dX2_withLent_77 : decode cX2_withLent 77 = .ok (.iload 4, 2) := by decide +kernel
theorem dX2_withLent_79 : decode cX2_withLent 79 = .ok (.ireturn, 1) := by decide +kernel
theorem dX2_filler_0 : decode cX2_filler 0 = .ok (.aload_n 0, 1) := by decide +kernel
theorem dX2_filler_1 : decode cX2_filler 1 = .ok (.getfield 21, 3) := by decide +kernel
theorem dX2_filler_4 : decode cX2_filler 4 = .ok (.getfield 44, 3) := by decide +kernel
theorem dX2_filler_7 : decode cX2_filler 7 = .ok (.iload_n 2, 1) := by decide +kernel
theorem dX2_filler_8 : decode cX2_filler 8 = .ok (.invokestatic 34, 3) := by decide +kernel
theorem dX2_filler_11 : decode cX2_filler 11 = .ok (.istore 5, 2) := by decide +kernel
theorem dX2_filler_13 : decode cX2_filler 13 = .ok (.aload_n 0, 1) := by decide +kernel
theorem dX2_filler_14 : decode cX2_filler 14 = .ok (.iload_n 1, 1) := by decide +kernel
theorem dX2_filler_15 : decode cX2_filler 15 = .ok (.iload_n 2, 1) := by decide +kernel
theorem dX2_filler_16 : decode cX2_filler 16 = .ok (.iconst 0, 1) := by decide +kernel
theorem dX2_filler_17 : decode cX2_filler 17 = .ok (.iload_n 3, 1) := by decide +kernel
theorem dX2_filler_18 : decode cX2_filler 18 = .ok (.iconst (-1), 1) := by decide +kernel
theorem dX2_filler_19 : decode cX2_filler 19 = .ok (.iload 5, 2) := by decide +kernel
theorem dX2_filler_21 : decode cX2_filler 21 = .ok (.invokevirtual 47, 3) := by decide +kernel
theorem dX2_filler_24 : decode cX2_filler 24 = .ok (.istore 6, 2) := by decide +kernel
theorem dX2_filler_26 : decode cX2_filler 26 = .ok (.iload 6, 2) := by decide +kernel
theorem dX2_filler_28 : decode cX2_filler 28 = .ok (.iconst (-1), 1) := by decide +kernel
theorem dX2_filler_29 : decode cX2_filler 29 = .ok (.if_icmp .ne 5, 3) := by decide +kernel
theorem dX2_filler_32 : decode cX2_filler 32 = .ok (.iconst (-1), 1) := by decide +kernel
theorem dX2_filler_33 : decode cX2_filler 33 = .ok (.ireturn, 1) := by decide +kernel
theorem dX2_filler_34 : decode cX2_filler 34 = .ok (.iload_n 3, 1) := by decide +kernel
theorem dX2_filler_35 : decode cX2_filler 35 = .ok (.istore 7, 2) := by decide +kernel
theorem dX2_filler_37 : decode cX2_filler 37 = .ok (.iconst (-1), 1) := by decide +kernel
theorem dX2_filler_38 : decode cX2_filler 38 = .ok (.istore 8, 2) := by decide +kernel
theorem dX2_filler_40 : decode cX2_filler 40 = .ok (.iconst 0, 1) := by decide +kernel
theorem dX2_filler_41 : decode cX2_filler 41 = .ok (.istore 9, 2) := by decide +kernel
theorem dX2_filler_43 : decode cX2_filler 43 = .ok (.iload 9, 2) := by decide +kernel
theorem dX2_filler_45 : decode cX2_filler 45 = .ok (.iload 4, 2) := by decide +kernel
theorem dX2_filler_47 : decode cX2_filler 47 = .ok (.if_icmp .gt 108, 3) := by decide +kernel
theorem dX2_filler_50 : decode cX2_filler 50 = .ok (.iload 9, 2) := by decide +kernel
theorem dX2_filler_52 : decode cX2_filler 52 = .ok (.iconst 4, 1) := by decide +kernel
theorem dX2_filler_53 : decode cX2_filler 53 = .ok (.if_icmp .ge 102, 3) := by decide +kernel
theorem dX2_filler_56 : decode cX2_filler 56 = .ok (.aload_n 0, 1) := by decide +kernel
theorem dX2_filler_57 : decode cX2_filler 57 = .ok (.iload_n 1, 1) := by decide +kernel
theorem dX2_filler_58 : decode cX2_filler 58 = .ok (.iload_n 2, 1) := by decide +kernel
theorem dX2_filler_59 : decode cX2_filler 59 = .ok (.iload 9, 2) := by decide +kernel
theorem dX2_filler_61 : decode cX2_filler 61 = .ok (.iload 7, 2) := by decide +kernel
theorem dX2_filler_63 : decode cX2_filler 63 = .ok (.iload 5, 2) := by decide +kernel
theorem dX2_filler_65 : decode cX2_filler 65 = .ok (.iload 6, 2) := by decide +kernel
theorem dX2_filler_67 : decode cX2_filler 67 = .ok (.invokevirtual 102, 3) := by decide +kernel
theorem dX2_filler_70 : decode cX2_filler 70 = .ok (.istore 8, 2) := by decide +kernel
theorem dX2_filler_72 : decode cX2_filler 72 = .ok (.iload 8, 2) := by decide +kernel
theorem dX2_filler_74 : decode cX2_filler 74 = .ok (.iconst (-1), 1) := by decide +kernel
theorem dX2_filler_75 : decode cX2_filler 75 = .ok (.if_icmp .ne 29, 3) := by decide +kernel
theorem dX2_filler_78 : decode cX2_filler 78 = .ok (.bipush 99, 2) := by decide +kernel
theorem dX2_filler_80 : decode cX2_filler 80 = .ok (.istore 8, 2) := by decide +kernel
theorem dX2_filler_82 : decode cX2_filler 82 = .ok (.iinc 5 (-1), 3) := by decide +kernel
theorem dX2_filler_85 : decode cX2_filler 85 = .ok (.iload 6, 2) := by decide +kernel
theorem dX2_filler_87 : decode cX2_filler 87 = .ok (.aload_n 0, 1) := by decide +kernel
theorem dX2_filler_88 : decode cX2_filler 88 = .ok (.getfield 21, 3) := by decide +kernel
theorem dX2_filler_91 : decode cX2_filler 91 = .ok (.getfield 73, 3) := by decide +kernel
theorem dX2_filler_94 : decode cX2_filler 94 = .ok (.iload_n 2, 1) := by decide +kernel
theorem dX2_filler_95 : decode cX2_filler 95 = .ok (.invokestatic 34, 3) := by decide +kernel
theorem dX2_filler_98 : decode cX2_filler 98 = .ok (.isub, 1) := by decide +kernel
theorem dX2_filler_99 : decode cX2_filler 99 = .ok (.istore 6, 2) := by decide +kernel
theorem dX2_filler_101 : decode cX2_filler 101 = .ok (.goto 48, 3) := by decide +kernel
theorem dX2_filler_104 : decode cX2_filler 104 = .ok (.iload 7, 2) := by decide +kernel
theorem dX2_filler_106 : decode cX2_filler 106 = .ok (.iconst 1, 1) := by decide +kernel
theorem dX2_filler_107 : decode cX2_filler 107 = .ok (.iload 8, 2) := by decide +kernel
theorem dX2_filler_109 : decode cX2_filler 109 = .ok (.ishl, 1) := by decide +kernel
theorem dX2_filler_110 : decode cX2_filler 110 = .ok (.iconst (-1), 1) := by decide +kernel
theorem dX2_filler_111 : decode cX2_filler 111 = .ok (.ixor, 1) := by decide +kernel
theorem dX2_filler_112 : decode cX2_filler 112 = .ok (.iand, 1) := by decide +kernel
theorem dX2_filler_113 : decode cX2_filler 113 = .ok (.istore 7, 2) := by decide +kernel
theorem dX2_filler_115 : decode cX2_filler 115 = .ok (.iload 6, 2) := by decide +kernel
theorem dX2_filler_117 : decode cX2_filler 117 = .ok (.aload_n 0, 1) := by decide +kernel
theorem dX2_filler_118 : decode cX2_filler 118 = .ok (.getfield 21, 3) := by decide +kernel
theorem dX2_filler_121 : decode cX2_filler 121 = .ok (.aload_n 0, 1) := by decide +kernel
theorem dX2_filler_122 : decode cX2_filler 122 = .ok (.getfield 21, 3) := by decide +kernel
theorem dX2_filler_125 : decode cX2_filler 125 = .ok (.getfield 63, 3) := by decide +kernel
theorem dX2_filler_128 : decode cX2_filler 128 = .ok (.iload 8, 2) := by decide +kernel
theorem dX2_filler_130 : decode cX2_filler 130 = .ok (.invokestatic 34, 3) := by decide +kernel
theorem dX2_filler_133 : decode cX2_filler 133 = .ok (.aload_n 0, 1) := by decide +kernel
theorem dX2_filler_134 : decode cX2_filler 134 = .ok (.getfield 21, 3) := by decide +kernel
theorem dX2_filler_137 : decode cX2_filler 137 = .ok (.iload_n 1, 1) := by decide +kernel
theorem dX2_filler_138 : decode cX2_filler 138 = .ok (.iload 9, 2) := by decide +kernel
theorem dX2_filler_140 : decode cX2_filler 140 = .ok (.invokevirtual 80, 3) := by decide +kernel
theorem dX2_filler_143 : decode cX2_filler 143 = .ok (.invokevirtual 84, 3) := by decide +kernel
theorem dX2_filler_146 : decode cX2_filler 146 = .ok (.isub, 1) := by decide +kernel
theorem dX2_filler_147 : decode cX2_filler 147 = .ok (.istore 6, 2) := by decide +kernel
theorem dX2_filler_149 : decode cX2_filler 149 = .ok (.iinc 9 1, 3) := by decide +kernel
theorem dX2_filler_152 : decode cX2_filler 152 = .ok (.goto (-109), 3) := by decide +kernel
theorem dX2_filler_155 : decode cX2_filler 155 = .ok (.iload 8, 2) := by decide +kernel
theorem dX2_filler_157 : decode cX2_filler 157 = .ok (.ireturn, 1) := by decide +kernel
theorem dX2_firstThing_0 : decode cX2_firstThing 0 = .ok (.iconst 0, 1) := by decide +kernel
theorem dX2_firstThing_1 : decode cX2_firstThing 1 = .ok (.istore 7, 2) := by decide +kernel
theorem dX2_firstThing_3 : decode cX2_firstThing 3 = .ok (.iload 7, 2) := by decide +kernel
theorem dX2_firstThing_5 : decode cX2_firstThing 5 = .ok (.aload_n 0, 1) := by decide +kernel
theorem dX2_firstThing_6 : decode cX2_firstThing 6 = .ok (.getfield 21, 3) := by decide +kernel
theorem dX2_firstThing_9 : decode cX2_firstThing 9 = .ok (.getfield 55, 3) := by decide +kernel
theorem dX2_firstThing_12 : decode cX2_firstThing 12 = .ok (.if_icmp .ge 97, 3) := by decide +kernel
theorem dX2_firstThing_15 : decode cX2_firstThing 15 = .ok (.aload_n 0, 1) := by decide +kernel
theorem dX2_firstThing_16 : decode cX2_firstThing 16 = .ok (.getfield 21, 3) := by decide +kernel
theorem dX2_firstThing_19 : decode cX2_firstThing 19 = .ok (.aload_n 0, 1) := by decide +kernel
theorem dX2_firstThing_20 : decode cX2_firstThing 20 = .ok (.getfield 21, 3) := by decide +kernel
theorem dX2_firstThing_23 : decode cX2_firstThing 23 = .ok (.getfield 63, 3) := by decide +kernel
theorem dX2_firstThing_26 : decode cX2_firstThing 26 = .ok (.iload 7, 2) := by decide +kernel
theorem dX2_firstThing_28 : decode cX2_firstThing 28 = .ok (.invokestatic 34, 3) := by decide +kernel
theorem dX2_firstThing_31 : decode cX2_firstThing 31 = .ok (.aload_n 0, 1) := by decide +kernel
theorem dX2_firstThing_32 : decode cX2_firstThing 32 = .ok (.getfield 21, 3) := by decide +kernel
theorem dX2_firstThing_35 : decode cX2_firstThing 35 = .ok (.iload_n 1, 1) := by decide +kernel
theorem dX2_firstThing_36 : decode cX2_firstThing 36 = .ok (.iload_n 3, 1) := by decide +kernel
theorem dX2_firstThing_37 : decode cX2_firstThing 37 = .ok (.invokevirtual 80, 3) := by decide +kernel
theorem dX2_firstThing_40 : decode cX2_firstThing 40 = .ok (.invokevirtual 84, 3) := by decide +kernel
theorem dX2_firstThing_43 : decode cX2_firstThing 43 = .ok (.istore 8, 2) := by decide +kernel
theorem dX2_firstThing_45 : decode cX2_firstThing 45 = .ok (.iload 4, 2) := by decide +kernel
theorem dX2_firstThing_47 : decode cX2_firstThing 47 = .ok (.iload 7, 2) := by decide +kernel
theorem dX2_firstThing_49 : decode cX2_firstThing 49 = .ok (.invokestatic 59, 3) := by decide +kernel
theorem dX2_firstThing_52 : decode cX2_firstThing 52 = .ok (.ifCond .eq 51, 3) := by decide +kernel
theorem dX2_firstThing_55 : decode cX2_firstThing 55 = .ok (.iload 8, 2) := by decide +kernel
theorem dX2_firstThing_57 : decode cX2_firstThing 57 = .ok (.iconst (-1), 1) := by decide +kernel
theorem dX2_firstThing_58 : decode cX2_firstThing 58 = .ok (.if_icmp .eq 45, 3) := by decide +kernel
theorem dX2_firstThing_61 : decode cX2_firstThing 61 = .ok (.aload_n 0, 1) := by decide +kernel
theorem dX2_firstThing_62 : decode cX2_firstThing 62 = .ok (.iload_n 1, 1) := by decide +kernel
theorem dX2_firstThing_63 : decode cX2_firstThing 63 = .ok (.iload_n 2, 1) := by decide +kernel
theorem dX2_firstThing_64 : decode cX2_firstThing 64 = .ok (.iload_n 3, 1) := by decide +kernel
theorem dX2_firstThing_65 : decode cX2_firstThing 65 = .ok (.iconst 1, 1) := by decide +kernel
theorem dX2_firstThing_66 : decode cX2_firstThing 66 = .ok (.iadd, 1) := by decide +kernel
theorem dX2_firstThing_67 : decode cX2_firstThing 67 = .ok (.iload 4, 2) := by decide +kernel
theorem dX2_firstThing_69 : decode cX2_firstThing 69 = .ok (.iconst 1, 1) := by decide +kernel
theorem dX2_firstThing_70 : decode cX2_firstThing 70 = .ok (.iload 7, 2) := by decide +kernel
theorem dX2_firstThing_72 : decode cX2_firstThing 72 = .ok (.ishl, 1) := by decide +kernel
theorem dX2_firstThing_73 : decode cX2_firstThing 73 = .ok (.iconst (-1), 1) := by decide +kernel
theorem dX2_firstThing_74 : decode cX2_firstThing 74 = .ok (.ixor, 1) := by decide +kernel
theorem dX2_firstThing_75 : decode cX2_firstThing 75 = .ok (.iand, 1) := by decide +kernel
theorem dX2_firstThing_76 : decode cX2_firstThing 76 = .ok (.iconst (-1), 1) := by decide +kernel
theorem dX2_firstThing_77 : decode cX2_firstThing 77 = .ok (.iload 5, 2) := by decide +kernel
theorem dX2_firstThing_79 : decode cX2_firstThing 79 = .ok (.invokevirtual 47, 3) := by decide +kernel
theorem dX2_firstThing_82 : decode cX2_firstThing 82 = .ok (.istore 9, 2) := by decide +kernel
theorem dX2_firstThing_84 : decode cX2_firstThing 84 = .ok (.iload 9, 2) := by decide +kernel
theorem dX2_firstThing_86 : decode cX2_firstThing 86 = .ok (.iconst (-1), 1) := by decide +kernel
theorem dX2_firstThing_87 : decode cX2_firstThing 87 = .ok (.if_icmp .eq 16, 3) := by decide +kernel
theorem dX2_firstThing_90 : decode cX2_firstThing 90 = .ok (.iload 8, 2) := by decide +kernel
theorem dX2_firstThing_92 : decode cX2_firstThing 92 = .ok (.iload 9, 2) := by decide +kernel
theorem dX2_firstThing_94 : decode cX2_firstThing 94 = .ok (.iadd, 1) := by decide +kernel
theorem dX2_firstThing_95 : decode cX2_firstThing 95 = .ok (.iload 6, 2) := by decide +kernel
theorem dX2_firstThing_97 : decode cX2_firstThing 97 = .ok (.if_icmp .ne 6, 3) := by decide +kernel
theorem dX2_firstThing_100 : decode cX2_firstThing 100 = .ok (.iload 7, 2) := by decide +kernel
theorem dX2_firstThing_102 : decode cX2_firstThing 102 = .ok (.ireturn, 1) := by decide +kernel
theorem dX2_firstThing_103 : decode cX2_firstThing 103 = .ok (.iinc 7 1, 3) := by decide +kernel
theorem dX2_firstThing_106 : decode cX2_firstThing 106 = .ok (.goto (-103), 3) := by decide +kernel
theorem dX2_firstThing_109 : decode cX2_firstThing 109 = .ok (.iconst (-1), 1) := by decide +kernel
theorem dX2_firstThing_110 : decode cX2_firstThing 110 = .ok (.ireturn, 1) := by decide +kernel
theorem dX3_init_0 : decode cX3_init 0 = .ok (.aload_n 0, 1) := by decide +kernel
theorem dX3_init_1 : decode cX3_init 1 = .ok (.invokespecial 3, 3) := by decide +kernel
theorem dX3_init_4 : decode cX3_init 4 = .ok (.aload_n 0, 1) := by decide +kernel
theorem dX3_init_5 : decode cX3_init 5 = .ok (.iconst 0, 1) := by decide +kernel
theorem dX3_init_6 : decode cX3_init 6 = .ok (.putfield 9, 3) := by decide +kernel
theorem dX3_init_9 : decode cX3_init 9 = .ok (.aload_n 0, 1) := by decide +kernel
theorem dX3_init_10 : decode cX3_init 10 = .ok (.iconst 0, 1) := by decide +kernel
theorem dX3_init_11 : decode cX3_init 11 = .ok (.putfield 15, 3) := by decide +kernel
theorem dX3_init_14 : decode cX3_init 14 = .ok (.aload_n 0, 1) := by decide +kernel
theorem dX3_init_15 : decode cX3_init 15 = .ok (.iconst 0, 1) := by decide +kernel
theorem dX3_init_16 : decode cX3_init 16 = .ok (.putfield 18, 3) := by decide +kernel
theorem dX3_init_19 : decode cX3_init 19 = .ok (.aload_n 0, 1) := by decide +kernel
theorem dX3_init_20 : decode cX3_init 20 = .ok (.iconst 0, 1) := by decide +kernel
theorem dX3_init_21 : decode cX3_init 21 = .ok (.putfield 21, 3) := by decide +kernel
theorem dX3_init_24 : decode cX3_init 24 = .ok (.aload_n 0, 1) := by decide +kernel
theorem dX3_init_25 : decode cX3_init 25 = .ok (.iconst 0, 1) := by decide +kernel
theorem dX3_init_26 : decode cX3_init 26 = .ok (.putfield 24, 3) := by decide +kernel
theorem dX3_init_29 : decode cX3_init 29 = .ok (.aload_n 0, 1) := by decide +kernel
theorem dX3_init_30 : decode cX3_init 30 = .ok (.iconst 0, 1) := by decide +kernel
theorem dX3_init_31 : decode cX3_init 31 = .ok (.putfield 27, 3) := by decide +kernel
theorem dX3_init_34 : decode cX3_init 34 = .ok (.aload_n 0, 1) := by decide +kernel
theorem dX3_init_35 : decode cX3_init 35 = .ok (.iconst 0, 1) := by decide +kernel
theorem dX3_init_36 : decode cX3_init 36 = .ok (.putfield 30, 3) := by decide +kernel
theorem dX3_init_39 : decode cX3_init 39 = .ok (.aload_n 0, 1) := by decide +kernel
theorem dX3_init_40 : decode cX3_init 40 = .ok (.iconst 0, 1) := by decide +kernel
theorem dX3_init_41 : decode cX3_init 41 = .ok (.putfield 34, 3) := by decide +kernel
theorem dX3_init_44 : decode cX3_init 44 = .ok (.aload_n 0, 1) := by decide +kernel
theorem dX3_init_45 : decode cX3_init 45 = .ok (.iconst (-1), 1) := by decide +kernel
theorem dX3_init_46 : decode cX3_init 46 = .ok (.putfield 37, 3) := by decide +kernel
theorem dX3_init_49 : decode cX3_init 49 = .ok (.aload_n 0, 1) := by decide +kernel
theorem dX3_init_50 : decode cX3_init 50 = .ok (.aload_n 1, 1) := by decide +kernel
theorem dX3_init_51 : decode cX3_init 51 = .ok (.putfield 40, 3) := by decide +kernel
theorem dX3_init_54 : decode cX3_init 54 = .ok (.aload_n 0, 1) := by decide +kernel
theorem dX3_init_55 : decode cX3_init 55 = .ok (.aload_n 2, 1) := by decide +kernel
theorem dX3_init_56 : decode cX3_init 56 = .ok (.putfield 44, 3) := by decide +kernel
theorem dX3_init_59 : decode cX3_init 59 = .ok (.return_, 1) := by decide +kernel
theorem dX3_faultPlace_0 : decode cX3_faultPlace 0 = .ok (.aload_n 0, 1) := by decide +kernel
theorem dX3_faultPlace_1 : decode cX3_faultPlace 1 = .ok (.getfield 37, 3) := by decide +kernel
theorem dX3_faultPlace_4 : decode cX3_faultPlace 4 = .ok (.ireturn, 1) := by decide +kernel
theorem dX3_read_0 : decode cX3_read 0 = .ok (.aload_n 0, 1) := by decide +kernel
theorem dX3_read_1 : decode cX3_read 1 = .ok (.iload_n 1, 1) := by decide +kernel
theorem dX3_read_2 : decode cX3_read 2 = .ok (.aload_n 0, 1) := by decide +kernel
theorem dX3_read_3 : decode cX3_read 3 = .ok (.getfield 40, 3) := by decide +kernel
theorem dX3_read_6 : decode cX3_read 6 = .ok (.arraylength, 1) := by decide +kernel
theorem dX3_read_7 : decode cX3_read 7 = .ok (.invokestatic 48, 3) := by decide +kernel
theorem dX3_read_10 : decode cX3_read 10 = .ok (.putfield 9, 3) := by decide +kernel
theorem dX3_read_13 : decode cX3_read 13 = .ok (.aload_n 0, 1) := by decide +kernel
theorem dX3_read_14 : decode cX3_read 14 = .ok (.iconst 0, 1) := by decide +kernel
theorem dX3_read_15 : decode cX3_read 15 = .ok (.putfield 21, 3) := by decide +kernel
theorem dX3_read_18 : decode cX3_read 18 = .ok (.aload_n 0, 1) := by decide +kernel
theorem dX3_read_19 : decode cX3_read 19 = .ok (.iconst 0, 1) := by decide +kernel
theorem dX3_read_20 : decode cX3_read 20 = .ok (.putfield 34, 3) := by decide +kernel
theorem dX3_read_23 : decode cX3_read 23 = .ok (.aload_n 0, 1) := by decide +kernel
theorem dX3_read_24 : decode cX3_read 24 = .ok (.iconst (-1), 1) := by decide +kernel
theorem dX3_read_25 : decode cX3_read 25 = .ok (.putfield 37, 3) := by decide +kernel
theorem dX3_read_28 : decode cX3_read 28 = .ok (.aload_n 0, 1) := by decide +kernel
theorem dX3_read_29 : decode cX3_read 29 = .ok (.iconst 0, 1) := by decide +kernel
theorem dX3_read_30 : decode cX3_read 30 = .ok (.putfield 30, 3) := by decide +kernel
theorem dX3_read_33 : decode cX3_read 33 = .ok (.aload_n 0, 1) := by decide +kernel
theorem dX3_read_34 : decode cX3_read 34 = .ok (.getfield 44, 3) := by decide +kernel
theorem dX3_read_37 : decode cX3_read 37 = .ok (.invokevirtual 54, 3) := by decide +kernel
theorem dX3_read_40 : decode cX3_read 40 = .ok (.aload_n 0, 1) := by decide +kernel
theorem dX3_read_41 : decode cX3_read 41 = .ok (.invokevirtual 59, 3) := by decide +kernel
theorem dX3_read_44 : decode cX3_read 44 = .ok (.iconst 0, 1) := by decide +kernel
theorem dX3_read_45 : decode cX3_read 45 = .ok (.istore_n 2, 1) := by decide +kernel
theorem dX3_read_46 : decode cX3_read 46 = .ok (.iload_n 2, 1) := by decide +kernel
theorem dX3_read_47 : decode cX3_read 47 = .ok (.aload_n 0, 1) := by decide +kernel
theorem dX3_read_48 : decode cX3_read 48 = .ok (.getfield 9, 3) := by decide +kernel
theorem dX3_read_51 : decode cX3_read 51 = .ok (.if_icmp .gt 27, 3) := by decide +kernel
theorem dX3_read_54 : decode cX3_read 54 = .ok (.aload_n 0, 1) := by decide +kernel
theorem dX3_read_55 : decode cX3_read 55 = .ok (.getfield 15, 3) := by decide +kernel
theorem dX3_read_58 : decode cX3_read 58 = .ok (.ifCond .eq 20, 3) := by decide +kernel
theorem dX3_read_61 : decode cX3_read 61 = .ok (.aload_n 0, 1) := by decide +kernel
theorem dX3_read_62 : decode cX3_read 62 = .ok (.getfield 34, 3) := by decide +kernel
theorem dX3_read_65 : decode cX3_read 65 = .ok (.ifCond .ne 13, 3) := by decide +kernel
theorem dX3_read_68 : decode cX3_read 68 = .ok (.aload_n 0, 1) := by decide +kernel
theorem dX3_read_69 : decode cX3_read 69 = .ok (.invokevirtual 62, 3) := by decide +kernel
theorem dX3_read_72 : decode cX3_read 72 = .ok (.iinc 2 1, 3) := by decide +kernel
theorem dX3_read_75 : decode cX3_read 75 = .ok (.goto (-29), 3) := by decide +kernel
theorem dX3_read_78 : decode cX3_read 78 = .ok (.aload_n 0, 1) := by decide +kernel
theorem dX3_read_79 : decode cX3_read 79 = .ok (.getfield 34, 3) := by decide +kernel
theorem dX3_read_82 : decode cX3_read 82 = .ok (.ireturn, 1) := by decide +kernel
theorem dX3_byteAt_0 : decode cX3_byteAt 0 = .ok (.iload_n 1, 1) := by decide +kernel
theorem dX3_byteAt_1 : decode cX3_byteAt 1 = .ok (.ifCond .lt 21, 3) := by decide +kernel
theorem dX3_byteAt_4 : decode cX3_byteAt 4 = .ok (.iload_n 1, 1) := by decide +kernel
theorem dX3_byteAt_5 : decode cX3_byteAt 5 = .ok (.aload_n 0, 1) := by decide +kernel
theorem dX3_byteAt_6 : decode cX3_byteAt 6 = .ok (.getfield 40, 3) := by decide +kernel
theorem dX3_byteAt_9 : decode cX3_byteAt 9 = .ok (.arraylength, 1) := by decide +kernel
theorem dX3_byteAt_10 : decode cX3_byteAt 10 = .ok (.if_icmp .ge 12, 3) := by decide +kernel
theorem dX3_byteAt_13 : decode cX3_byteAt 13 = .ok (.aload_n 0, 1) := by decide +kernel
theorem dX3_byteAt_14 : decode cX3_byteAt 14 = .ok (.getfield 40, 3) := by decide +kernel
theorem dX3_byteAt_17 : decode cX3_byteAt 17 = .ok (.iload_n 1, 1) := by decide +kernel
theorem dX3_byteAt_18 : decode cX3_byteAt 18 = .ok (.baload, 1) := by decide +kernel
theorem dX3_byteAt_19 : decode cX3_byteAt 19 = .ok (.goto 4, 3) := by decide +kernel
theorem dX3_byteAt_22 : decode cX3_byteAt 22 = .ok (.iconst (-1), 1) := by decide +kernel
theorem dX3_byteAt_23 : decode cX3_byteAt 23 = .ok (.ireturn, 1) := by decide +kernel
theorem dX3_isBlank_0 : decode cX3_isBlank 0 = .ok (.iload_n 0, 1) := by decide +kernel
theorem dX3_isBlank_1 : decode cX3_isBlank 1 = .ok (.bipush 32, 2) := by decide +kernel
theorem dX3_isBlank_3 : decode cX3_isBlank 3 = .ok (.if_icmp .eq 9, 3) := by decide +kernel
theorem dX3_isBlank_6 : decode cX3_isBlank 6 = .ok (.iload_n 0, 1) := by decide +kernel
theorem dX3_isBlank_7 : decode cX3_isBlank 7 = .ok (.bipush 10, 2) := by decide +kernel
theorem dX3_isBlank_9 : decode cX3_isBlank 9 = .ok (.if_icmp .ne 7, 3) := by decide +kernel
theorem dX3_isBlank_12 : decode cX3_isBlank 12 = .ok (.iconst 1, 1) := by decide +kernel
theorem dX3_isBlank_13 : decode cX3_isBlank 13 = .ok (.goto 4, 3) := by decide +kernel
theorem dX3_isBlank_16 : decode cX3_isBlank 16 = .ok (.iconst 0, 1) := by decide +kernel
theorem dX3_isBlank_17 : decode cX3_isBlank 17 = .ok (.ireturn, 1) := by decide +kernel
theorem dX3_isLetter_0 : decode cX3_isLetter 0 = .ok (.iload_n 0, 1) := by decide +kernel
theorem dX3_isLetter_1 : decode cX3_isLetter 1 = .ok (.bipush 97, 2) := by decide +kernel
theorem dX3_isLetter_3 : decode cX3_isLetter 3 = .ok (.if_icmp .lt 13, 3) := by decide +kernel
theorem dX3_isLetter_6 : decode cX3_isLetter 6 = .ok (.iload_n 0, 1) := by decide +kernel
theorem dX3_isLetter_7 : decode cX3_isLetter 7 = .ok (.bipush 122, 2) := by decide +kernel
theorem dX3_isLetter_9 : decode cX3_isLetter 9 = .ok (.if_icmp .gt 7, 3) := by decide +kernel
theorem dX3_isLetter_12 : decode cX3_isLetter 12 = .ok (.iconst 1, 1) := by decide +kernel
theorem dX3_isLetter_13 : decode cX3_isLetter 13 = .ok (.goto 4, 3) := by decide +kernel
theorem dX3_isLetter_16 : decode cX3_isLetter 16 = .ok (.iconst 0, 1) := by decide +kernel
theorem dX3_isLetter_17 : decode cX3_isLetter 17 = .ok (.ireturn, 1) := by decide +kernel
theorem dX3_isDigit_0 : decode cX3_isDigit 0 = .ok (.iload_n 0, 1) := by decide +kernel
theorem dX3_isDigit_1 : decode cX3_isDigit 1 = .ok (.bipush 48, 2) := by decide +kernel
theorem dX3_isDigit_3 : decode cX3_isDigit 3 = .ok (.if_icmp .lt 13, 3) := by decide +kernel
theorem dX3_isDigit_6 : decode cX3_isDigit 6 = .ok (.iload_n 0, 1) := by decide +kernel
theorem dX3_isDigit_7 : decode cX3_isDigit 7 = .ok (.bipush 57, 2) := by decide +kernel
theorem dX3_isDigit_9 : decode cX3_isDigit 9 = .ok (.if_icmp .gt 7, 3) := by decide +kernel
theorem dX3_isDigit_12 : decode cX3_isDigit 12 = .ok (.iconst 1, 1) := by decide +kernel
theorem dX3_isDigit_13 : decode cX3_isDigit 13 = .ok (.goto 4, 3) := by decide +kernel
theorem dX3_isDigit_16 : decode cX3_isDigit 16 = .ok (.iconst 0, 1) := by decide +kernel
theorem dX3_isDigit_17 : decode cX3_isDigit 17 = .ok (.ireturn, 1) := by decide +kernel
theorem dX3_step_0 : decode cX3_step 0 = .ok (.aload_n 0, 1) := by decide +kernel
theorem dX3_step_1 : decode cX3_step 1 = .ok (.getfield 21, 3) := by decide +kernel
theorem dX3_step_4 : decode cX3_step 4 = .ok (.aload_n 0, 1) := by decide +kernel
theorem dX3_step_5 : decode cX3_step 5 = .ok (.getfield 9, 3) := by decide +kernel
theorem dX3_step_8 : decode cX3_step 8 = .ok (.if_icmp .ge 30, 3) := by decide +kernel
theorem dX3_step_11 : decode cX3_step 11 = .ok (.aload_n 0, 1) := by decide +kernel
theorem dX3_step_12 : decode cX3_step 12 = .ok (.aload_n 0, 1) := by decide +kernel
theorem dX3_step_13 : decode cX3_step 13 = .ok (.getfield 21, 3) := by decide +kernel
theorem dX3_step_16 : decode cX3_step 16 = .ok (.invokevirtual 65, 3) := by decide +kernel
theorem dX3_step_19 : decode cX3_step 19 = .ok (.invokestatic 69, 3) := by decide +kernel
theorem dX3_step_22 : decode cX3_step 22 = .ok (.ifCond .eq 16, 3) := by decide +kernel
theorem dX3_step_25 : decode cX3_step 25 = .ok (.aload_n 0, 1) := by decide +kernel
theorem dX3_step_26 : decode cX3_step 26 = .ok (.dup, 1) := by decide +kernel
theorem dX3_step_27 : decode cX3_step 27 = .ok (.getfield 21, 3) := by decide +kernel
theorem dX3_step_30 : decode cX3_step 30 = .ok (.iconst 1, 1) := by decide +kernel
theorem dX3_step_31 : decode cX3_step 31 = .ok (.iadd, 1) := by decide +kernel
theorem dX3_step_32 : decode cX3_step 32 = .ok (.putfield 21, 3) := by decide +kernel
theorem dX3_step_35 : decode cX3_step 35 = .ok (.goto (-35), 3) := by decide +kernel
theorem dX3_step_38 : decode cX3_step 38 = .ok (.aload_n 0, 1) := by decide +kernel
theorem dX3_step_39 : decode cX3_step 39 = .ok (.aload_n 0, 1) := by decide +kernel
theorem dX3_step_40 : decode cX3_step 40 = .ok (.getfield 21, 3) := by decide +kernel
theorem dX3_step_43 : decode cX3_step 43 = .ok (.putfield 18, 3) := by decide +kernel
theorem dX3_step_46 : decode cX3_step 46 = .ok (.aload_n 0, 1) := by decide +kernel
theorem dX3_step_47 : decode cX3_step 47 = .ok (.aload_n 0, 1) := by decide +kernel
theorem dX3_step_48 : decode cX3_step 48 = .ok (.getfield 21, 3) := by decide +kernel
theorem dX3_step_51 : decode cX3_step 51 = .ok (.invokevirtual 65, 3) := by decide +kernel
theorem dX3_step_54 : decode cX3_step 54 = .ok (.istore_n 1, 1) := by decide +kernel
theorem dX3_step_55 : decode cX3_step 55 = .ok (.aload_n 0, 1) := by decide +kernel
theorem dX3_step_56 : decode cX3_step 56 = .ok (.iconst 0, 1) := by decide +kernel
theorem dX3_step_57 : decode cX3_step 57 = .ok (.putfield 24, 3) := by decide +kernel
theorem dX3_step_60 : decode cX3_step 60 = .ok (.aload_n 0, 1) := by decide +kernel
theorem dX3_step_61 : decode cX3_step 61 = .ok (.getfield 21, 3) := by decide +kernel
theorem dX3_step_64 : decode cX3_step 64 = .ok (.aload_n 0, 1) := by decide +kernel
theorem dX3_step_65 : decode cX3_step 65 = .ok (.getfield 9, 3) := by decide +kernel
theorem dX3_step_68 : decode cX3_step 68 = .ok (.if_icmp .lt 11, 3) := by decide +kernel
theorem dX3_step_71 : decode cX3_step 71 = .ok (.aload_n 0, 1) := by decide +kernel
theorem dX3_step_72 : decode cX3_step 72 = .ok (.iconst 0, 1) := by decide +kernel
theorem dX3_step_73 : decode cX3_step 73 = .ok (.putfield 15, 3) := by decide +kernel
theorem dX3_step_76 : decode cX3_step 76 = .ok (.goto 171, 3) := by decide +kernel
theorem dX3_step_79 : decode cX3_step 79 = .ok (.iload_n 1, 1) := by decide +kernel
theorem dX3_step_80 : decode cX3_step 80 = .ok (.invokestatic 73, 3) := by decide +kernel
theorem dX3_step_83 : decode cX3_step 83 = .ok (.ifCond .eq 46, 3) := by decide +kernel
theorem dX3_step_86 : decode cX3_step 86 = .ok (.aload_n 0, 1) := by decide +kernel
theorem dX3_step_87 : decode cX3_step 87 = .ok (.iconst 1, 1) := by decide +kernel
theorem dX3_step_88 : decode cX3_step 88 = .ok (.putfield 15, 3) := by decide +kernel
theorem dX3_step_91 : decode cX3_step 91 = .ok (.aload_n 0, 1) := by decide +kernel
theorem dX3_step_92 : decode cX3_step 92 = .ok (.getfield 21, 3) := by decide +kernel
theorem dX3_step_95 : decode cX3_step 95 = .ok (.aload_n 0, 1) := by decide +kernel
theorem dX3_step_96 : decode cX3_step 96 = .ok (.getfield 9, 3) := by decide +kernel
theorem dX3_step_99 : decode cX3_step 99 = .ok (.if_icmp .ge 148, 3) := by decide +kernel
theorem dX3_step_102 : decode cX3_step 102 = .ok (.aload_n 0, 1) := by decide +kernel
theorem dX3_step_103 : decode cX3_step 103 = .ok (.aload_n 0, 1) := by decide +kernel
theorem dX3_step_104 : decode cX3_step 104 = .ok (.getfield 21, 3) := by decide +kernel
theorem dX3_step_107 : decode cX3_step 107 = .ok (.invokevirtual 65, 3) := by decide +kernel
theorem dX3_step_110 : decode cX3_step 110 = .ok (.invokestatic 73, 3) := by decide +kernel
theorem dX3_step_113 : decode cX3_step 113 = .ok (.ifCond .eq 134, 3) := by decide +kernel
theorem dX3_step_116 : decode cX3_step 116 = .ok (.aload_n 0, 1) := by decide +kernel
theorem dX3_step_117 : decode cX3_step 117 = .ok (.dup, 1) := by decide +kernel
theorem dX3_step_118 : decode cX3_step 118 = .ok (.getfield 21, 3) := by decide +kernel
theorem dX3_step_121 : decode cX3_step 121 = .ok (.iconst 1, 1) := by decide +kernel
theorem dX3_step_122 : decode cX3_step 122 = .ok (.iadd, 1) := by decide +kernel
theorem dX3_step_123 : decode cX3_step 123 = .ok (.putfield 21, 3) := by decide +kernel
theorem dX3_step_126 : decode cX3_step 126 = .ok (.goto (-35), 3) := by decide +kernel
theorem dX3_step_129 : decode cX3_step 129 = .ok (.iload_n 1, 1) := by decide +kernel
theorem dX3_step_130 : decode cX3_step 130 = .ok (.invokestatic 76, 3) := by decide +kernel
theorem dX3_step_133 : decode cX3_step 133 = .ok (.ifCond .eq 89, 3) := by decide +kernel
theorem dX3_step_136 : decode cX3_step 136 = .ok (.aload_n 0, 1) := by decide +kernel
theorem dX3_step_137 : decode cX3_step 137 = .ok (.iconst 2, 1) := by decide +kernel
theorem dX3_step_138 : decode cX3_step 138 = .ok (.putfield 15, 3) := by decide +kernel
theorem dX3_step_141 : decode cX3_step 141 = .ok (.aload_n 0, 1) := by decide +kernel
theorem dX3_step_142 : decode cX3_step 142 = .ok (.getfield 21, 3) := by decide +kernel
theorem dX3_step_145 : decode cX3_step 145 = .ok (.aload_n 0, 1) := by decide +kernel
theorem dX3_step_146 : decode cX3_step 146 = .ok (.getfield 9, 3) := by decide +kernel
theorem dX3_step_149 : decode cX3_step 149 = .ok (.if_icmp .ge 98, 3) := by decide +kernel
theorem dX3_step_152 : decode cX3_step 152 = .ok (.aload_n 0, 1) := by decide +kernel
theorem dX3_step_153 : decode cX3_step 153 = .ok (.aload_n 0, 1) := by decide +kernel
theorem dX3_step_154 : decode cX3_step 154 = .ok (.getfield 21, 3) := by decide +kernel
theorem dX3_step_157 : decode cX3_step 157 = .ok (.invokevirtual 65, 3) := by decide +kernel
theorem dX3_step_160 : decode cX3_step 160 = .ok (.invokestatic 76, 3) := by decide +kernel
theorem dX3_step_163 : decode cX3_step 163 = .ok (.ifCond .eq 84, 3) := by decide +kernel
theorem dX3_step_166 : decode cX3_step 166 = .ok (.aload_n 0, 1) := by decide +kernel
theorem dX3_step_167 : decode cX3_step 167 = .ok (.aload_n 0, 1) := by decide +kernel
theorem dX3_step_168 : decode cX3_step 168 = .ok (.getfield 21, 3) := by decide +kernel
theorem dX3_step_171 : decode cX3_step 171 = .ok (.aload_n 0, 1) := by decide +kernel
theorem dX3_step_172 : decode cX3_step 172 = .ok (.getfield 18, 3) := by decide +kernel
theorem dX3_step_175 : decode cX3_step 175 = .ok (.isub, 1) := by decide +kernel
theorem dX3_step_176 : decode cX3_step 176 = .ok (.iconst 4, 1) := by decide +kernel
theorem dX3_step_177 : decode cX3_step 177 = .ok (.if_icmp .ge 25, 3) := by decide +kernel
theorem dX3_step_180 : decode cX3_step 180 = .ok (.aload_n 0, 1) := by decide +kernel
theorem dX3_step_181 : decode cX3_step 181 = .ok (.getfield 24, 3) := by decide +kernel
theorem dX3_step_184 : decode cX3_step 184 = .ok (.bipush 10, 2) := by decide +kernel
theorem dX3_step_186 : decode cX3_step 186 = .ok (.imul, 1) := by decide +kernel
theorem dX3_step_187 : decode cX3_step 187 = .ok (.aload_n 0, 1) := by decide +kernel
theorem dX3_step_188 : decode cX3_step 188 = .ok (.aload_n 0, 1) := by decide +kernel
theorem dX3_step_189 : decode cX3_step 189 = .ok (.getfield 21, 3) := by decide +kernel
theorem dX3_step_192 : decode cX3_step 192 = .ok (.invokevirtual 65, 3) := by decide +kernel
theorem dX3_step_195 : decode cX3_step 195 = .ok (.iadd, 1) := by decide +kernel
theorem dX3_step_196 : decode cX3_step 196 = .ok (.bipush 48, 2) := by decide +kernel
theorem dX3_step_198 : decode cX3_step 198 = .ok (.isub, 1) := by decide +kernel
theorem dX3_step_199 : decode cX3_step 199 = .ok (.goto 7, 3) := by decide +kernel
theorem dX3_step_202 : decode cX3_step 202 = .ok (.aload_n 0, 1) := by decide +kernel
theorem dX3_step_203 : decode cX3_step 203 = .ok (.getfield 24, 3) := by decide +kernel
theorem dX3_step_206 : decode cX3_step 206 = .ok (.putfield 24, 3) := by decide +kernel
theorem dX3_step_209 : decode cX3_step 209 = .ok (.aload_n 0, 1) := by decide +kernel
theorem dX3_step_210 : decode cX3_step 210 = .ok (.dup, 1) := by decide +kernel
theorem dX3_step_211 : decode cX3_step 211 = .ok (.getfield 21, 3) := by decide +kernel
theorem dX3_step_214 : decode cX3_step 214 = .ok (.iconst 1, 1) := by decide +kernel
theorem dX3_step_215 : decode cX3_step 215 = .ok (.iadd, 1) := by decide +kernel
theorem dX3_step_216 : decode cX3_step 216 = .ok (.putfield 21, 3) := by decide +kernel
theorem dX3_step_219 : decode cX3_step 219 = .ok (.goto (-78), 3) := by decide +kernel
theorem dX3_step_222 : decode cX3_step 222 = .ok (.aload_n 0, 1) := by decide +kernel
theorem dX3_step_223 : decode cX3_step 223 = .ok (.iload_n 1, 1) := by decide +kernel
theorem dX3_step_224 : decode cX3_step 224 = .ok (.bipush 59, 2) := by decide +kernel
theorem dX3_step_226 : decode cX3_step 226 = .ok (.if_icmp .ne 7, 3) := by decide +kernel
theorem dX3_step_229 : decode cX3_step 229 = .ok (.iconst 3, 1) := by decide +kernel
theorem dX3_step_230 : decode cX3_step 230 = .ok (.goto 4, 3) := by decide +kernel
theorem dX3_step_233 : decode cX3_step 233 = .ok (.iconst 4, 1) := by decide +kernel
theorem dX3_step_234 : decode cX3_step 234 = .ok (.putfield 15, 3) := by decide +kernel
theorem dX3_step_237 : decode cX3_step 237 = .ok (.aload_n 0, 1) := by decide +kernel
theorem dX3_step_238 : decode cX3_step 238 = .ok (.dup, 1) := by decide +kernel
theorem dX3_step_239 : decode cX3_step 239 = .ok (.getfield 21, 3) := by decide +kernel
theorem dX3_step_242 : decode cX3_step 242 = .ok (.iconst 1, 1) := by decide +kernel
theorem dX3_step_243 : decode cX3_step 243 = .ok (.iadd, 1) := by decide +kernel
theorem dX3_step_244 : decode cX3_step 244 = .ok (.putfield 21, 3) := by decide +kernel
theorem dX3_step_247 : decode cX3_step 247 = .ok (.return_, 1) := by decide +kernel
theorem dX3_fail_0 : decode cX3_fail 0 = .ok (.aload_n 0, 1) := by decide +kernel
theorem dX3_fail_1 : decode cX3_fail 1 = .ok (.getfield 34, 3) := by decide +kernel
theorem dX3_fail_4 : decode cX3_fail 4 = .ok (.ifCond .ne 13, 3) := by decide +kernel
theorem dX3_fail_7 : decode cX3_fail 7 = .ok (.aload_n 0, 1) := by decide +kernel
theorem dX3_fail_8 : decode cX3_fail 8 = .ok (.iload_n 1, 1) := by decide +kernel
theorem dX3_fail_9 : decode cX3_fail 9 = .ok (.putfield 34, 3) := by decide +kernel
theorem dX3_fail_12 : decode cX3_fail 12 = .ok (.aload_n 0, 1) := by decide +kernel
theorem dX3_fail_13 : decode cX3_fail 13 = .ok (.iload_n 2, 1) := by decide +kernel
theorem dX3_fail_14 : decode cX3_fail 14 = .ok (.putfield 37, 3) := by decide +kernel
theorem dX3_fail_17 : decode cX3_fail 17 = .ok (.return_, 1) := by decide +kernel
theorem dX3_isWord_0 : decode cX3_isWord 0 = .ok (.aload_n 0, 1) := by decide +kernel
theorem dX3_isWord_1 : decode cX3_isWord 1 = .ok (.getfield 15, 3) := by decide +kernel
theorem dX3_isWord_4 : decode cX3_isWord 4 = .ok (.iconst 1, 1) := by decide +kernel
theorem dX3_isWord_5 : decode cX3_isWord 5 = .ok (.if_icmp .ne 19, 3) := by decide +kernel
theorem dX3_isWord_8 : decode cX3_isWord 8 = .ok (.aload_n 0, 1) := by decide +kernel
theorem dX3_isWord_9 : decode cX3_isWord 9 = .ok (.getfield 21, 3) := by decide +kernel
theorem dX3_isWord_12 : decode cX3_isWord 12 = .ok (.aload_n 0, 1) := by decide +kernel
theorem dX3_isWord_13 : decode cX3_isWord 13 = .ok (.getfield 18, 3) := by decide +kernel
theorem dX3_isWord_16 : decode cX3_isWord 16 = .ok (.isub, 1) := by decide +kernel
theorem dX3_isWord_17 : decode cX3_isWord 17 = .ok (.aload_n 1, 1) := by decide +kernel
theorem dX3_isWord_18 : decode cX3_isWord 18 = .ok (.invokevirtual 79, 3) := by decide +kernel
theorem dX3_isWord_21 : decode cX3_isWord 21 = .ok (.if_icmp .eq 5, 3) := by decide +kernel
theorem dX3_isWord_24 : decode cX3_isWord 24 = .ok (.iconst 0, 1) := by decide +kernel
theorem dX3_isWord_25 : decode cX3_isWord 25 = .ok (.ireturn, 1) := by decide +kernel
theorem dX3_isWord_26 : decode cX3_isWord 26 = .ok (.iconst 0, 1) := by decide +kernel
theorem dX3_isWord_27 : decode cX3_isWord 27 = .ok (.istore_n 2, 1) := by decide +kernel
theorem dX3_isWord_28 : decode cX3_isWord 28 = .ok (.iload_n 2, 1) := by decide +kernel
theorem dX3_isWord_29 : decode cX3_isWord 29 = .ok (.aload_n 1, 1) := by decide +kernel
theorem dX3_isWord_30 : decode cX3_isWord 30 = .ok (.invokevirtual 79, 3) := by decide +kernel
theorem dX3_isWord_33 : decode cX3_isWord 33 = .ok (.if_icmp .ge 29, 3) := by decide +kernel
theorem dX3_isWord_36 : decode cX3_isWord 36 = .ok (.aload_n 0, 1) := by decide +kernel
theorem dX3_isWord_37 : decode cX3_isWord 37 = .ok (.aload_n 0, 1) := by decide +kernel
theorem dX3_isWord_38 : decode cX3_isWord 38 = .ok (.getfield 18, 3) := by decide +kernel
theorem dX3_isWord_41 : decode cX3_isWord 41 = .ok (.iload_n 2, 1) := by decide +kernel
theorem dX3_isWord_42 : decode cX3_isWord 42 = .ok (.iadd, 1) := by decide +kernel
theorem dX3_isWord_43 : decode cX3_isWord 43 = .ok (.invokevirtual 65, 3) := by decide +kernel
theorem dX3_isWord_46 : decode cX3_isWord 46 = .ok (.aload_n 1, 1) := by decide +kernel
theorem dX3_isWord_47 : decode cX3_isWord 47 = .ok (.iload_n 2, 1) := by decide +kernel
theorem dX3_isWord_48 : decode cX3_isWord 48 = .ok (.invokevirtual 84, 3) := by decide +kernel
theorem dX3_isWord_51 : decode cX3_isWord 51 = .ok (.if_icmp .eq 5, 3) := by decide +kernel
theorem dX3_isWord_54 : decode cX3_isWord 54 = .ok (.iconst 0, 1) := by decide +kernel
theorem dX3_isWord_55 : decode cX3_isWord 55 = .ok (.ireturn, 1) := by decide +kernel
theorem dX3_isWord_56 : decode cX3_isWord 56 = .ok (.iinc 2 1, 3) := by decide +kernel
theorem dX3_isWord_59 : decode cX3_isWord 59 = .ok (.goto (-31), 3) := by decide +kernel
theorem dX3_isWord_62 : decode cX3_isWord 62 = .ok (.iconst 1, 1) := by decide +kernel
theorem dX3_isWord_63 : decode cX3_isWord 63 = .ok (.ireturn, 1) := by decide +kernel
theorem dX3_takeNumber_0 : decode cX3_takeNumber 0 = .ok (.aload_n 0, 1) := by decide +kernel
theorem dX3_takeNumber_1 : decode cX3_takeNumber 1 = .ok (.getfield 15, 3) := by decide +kernel
theorem dX3_takeNumber_4 : decode cX3_takeNumber 4 = .ok (.iconst 2, 1) := by decide +kernel
theorem dX3_takeNumber_5 : decode cX3_takeNumber 5 = .ok (.if_icmp .eq 14, 3) := by decide +kernel
theorem dX3_takeNumber_8 : decode cX3_takeNumber 8 = .ok (.aload_n 0, 1) := by decide +kernel
theorem dX3_takeNumber_9 : decode cX3_takeNumber 9 = .ok (.iconst 1, 1) := by decide +kernel
theorem dX3_takeNumber_10 : decode cX3_takeNumber 10 = .ok (.aload_n 0, 1) := by decide +kernel
theorem dX3_takeNumber_11 : decode cX3_takeNumber 11 = .ok (.getfield 18, 3) := by decide +kernel
theorem dX3_takeNumber_14 : decode cX3_takeNumber 14 = .ok (.invokevirtual 88, 3) := by decide +kernel
theorem dX3_takeNumber_17 : decode cX3_takeNumber 17 = .ok (.iconst (-1), 1) := by decide +kernel
theorem dX3_takeNumber_18 : decode cX3_takeNumber 18 = .ok (.ireturn, 1) := by decide +kernel
theorem dX3_takeNumber_19 : decode cX3_takeNumber 19 = .ok (.aload_n 0, 1) := by decide +kernel
theorem dX3_takeNumber_20 : decode cX3_takeNumber 20 = .ok (.getfield 21, 3) := by decide +kernel
theorem dX3_takeNumber_23 : decode cX3_takeNumber 23 = .ok (.aload_n 0, 1) := by decide +kernel
theorem dX3_takeNumber_24 : decode cX3_takeNumber 24 = .ok (.getfield 18, 3) := by decide +kernel
theorem dX3_takeNumber_27 : decode cX3_takeNumber 27 = .ok (.isub, 1) := by decide +kernel
theorem dX3_takeNumber_28 : decode cX3_takeNumber 28 = .ok (.iconst 4, 1) := by decide +kernel
theorem dX3_takeNumber_29 : decode cX3_takeNumber 29 = .ok (.if_icmp .gt 19, 3) := by decide +kernel
theorem dX3_takeNumber_32 : decode cX3_takeNumber 32 = .ok (.aload_n 0, 1) := by decide +kernel
theorem dX3_takeNumber_33 : decode cX3_takeNumber 33 = .ok (.getfield 24, 3) := by decide +kernel
theorem dX3_takeNumber_36 : decode cX3_takeNumber 36 = .ok (.iload_n 1, 1) := by decide +kernel
theorem dX3_takeNumber_37 : decode cX3_takeNumber 37 = .ok (.if_icmp .lt 11, 3) := by decide +kernel
theorem dX3_takeNumber_40 : decode cX3_takeNumber 40 = .ok (.aload_n 0, 1) := by decide +kernel
theorem dX3_takeNumber_41 : decode cX3_takeNumber 41 = .ok (.getfield 24, 3) := by decide +kernel
theorem dX3_takeNumber_44 : decode cX3_takeNumber 44 = .ok (.iload_n 2, 1) := by decide +kernel
theorem dX3_takeNumber_45 : decode cX3_takeNumber 45 = .ok (.if_icmp .le 14, 3) := by decide +kernel
theorem dX3_takeNumber_48 : decode cX3_takeNumber 48 = .ok (.aload_n 0, 1) := by decide +kernel
theorem dX3_takeNumber_49 : decode cX3_takeNumber 49 = .ok (.iconst 2, 1) := by decide +kernel
theorem dX3_takeNumber_50 : decode cX3_takeNumber 50 = .ok (.aload_n 0, 1) := by decide +kernel
theorem dX3_takeNumber_51 : decode cX3_takeNumber 51 = .ok (.getfield 18, 3) := by decide +kernel
theorem dX3_takeNumber_54 : decode cX3_takeNumber 54 = .ok (.invokevirtual 88, 3) := by decide +kernel
theorem dX3_takeNumber_57 : decode cX3_takeNumber 57 = .ok (.iconst (-1), 1) := by decide +kernel
theorem dX3_takeNumber_58 : decode cX3_takeNumber 58 = .ok (.ireturn, 1) := by decide +kernel
theorem dX3_takeNumber_59 : decode cX3_takeNumber 59 = .ok (.aload_n 0, 1) := by decide +kernel
theorem dX3_takeNumber_60 : decode cX3_takeNumber 60 = .ok (.getfield 24, 3) := by decide +kernel
theorem dX3_takeNumber_63 : decode cX3_takeNumber 63 = .ok (.istore_n 3, 1) := by decide +kernel
theorem dX3_takeNumber_64 : decode cX3_takeNumber 64 = .ok (.aload_n 0, 1) := by decide +kernel
theorem dX3_takeNumber_65 : decode cX3_takeNumber 65 = .ok (.aload_n 0, 1) := by decide +kernel
theorem dX3_takeNumber_66 : decode cX3_takeNumber 66 = .ok (.getfield 18, 3) := by decide +kernel
theorem dX3_takeNumber_69 : decode cX3_takeNumber 69 = .ok (.putfield 27, 3) := by decide +kernel
theorem dX3_takeNumber_72 : decode cX3_takeNumber 72 = .ok (.aload_n 0, 1) := by decide +kernel
theorem dX3_takeNumber_73 : decode cX3_takeNumber 73 = .ok (.invokevirtual 59, 3) := by decide +kernel
theorem dX3_takeNumber_76 : decode cX3_takeNumber 76 = .ok (.iload_n 3, 1) := by decide +kernel
theorem dX3_takeNumber_77 : decode cX3_takeNumber 77 = .ok (.ireturn, 1) := by decide +kernel
theorem dX3_checkTold_0 : decode cX3_checkTold 0 = .ok (.iload_n 1, 1) := by decide +kernel
theorem dX3_checkTold_1 : decode cX3_checkTold 1 = .ok (.iload_n 2, 1) := by decide +kernel
theorem dX3_checkTold_2 : decode cX3_checkTold 2 = .ok (.if_icmp .lt 12, 3) := by decide +kernel
theorem dX3_checkTold_5 : decode cX3_checkTold 5 = .ok (.aload_n 0, 1) := by decide +kernel
theorem dX3_checkTold_6 : decode cX3_checkTold 6 = .ok (.iconst 3, 1) := by decide +kernel
theorem dX3_checkTold_7 : decode cX3_checkTold 7 = .ok (.aload_n 0, 1) := by decide +kernel
theorem dX3_checkTold_8 : decode cX3_checkTold 8 = .ok (.getfield 27, 3) := by decide +kernel
theorem dX3_checkTold_11 : decode cX3_checkTold 11 = .ok (.invokevirtual 88, 3) := by decide +kernel
theorem dX3_checkTold_14 : decode cX3_checkTold 14 = .ok (.return_, 1) := by decide +kernel
theorem dX3_takeHead_0 : decode cX3_takeHead 0 = .ok (.iload_n 1, 1) := by decide +kernel
theorem dX3_takeHead_1 : decode cX3_takeHead 1 = .ok (.iload_n 2, 1) := by decide +kernel
theorem dX3_takeHead_2 : decode cX3_takeHead 2 = .ok (.if_icmp .lt 12, 3) := by decide +kernel
theorem dX3_takeHead_5 : decode cX3_takeHead 5 = .ok (.aload_n 0, 1) := by decide +kernel
theorem dX3_takeHead_6 : decode cX3_takeHead 6 = .ok (.iconst 2, 1) := by decide +kernel
theorem dX3_takeHead_7 : decode cX3_takeHead 7 = .ok (.aload_n 0, 1) := by decide +kernel
theorem dX3_takeHead_8 : decode cX3_takeHead 8 = .ok (.getfield 18, 3) := by decide +kernel
theorem dX3_takeHead_11 : decode cX3_takeHead 11 = .ok (.invokevirtual 88, 3) := by decide +kernel
theorem dX3_takeHead_14 : decode cX3_takeHead 14 = .ok (.aload_n 0, 1) := by decide +kernel
theorem dX3_takeHead_15 : decode cX3_takeHead 15 = .ok (.invokevirtual 59, 3) := by decide +kernel
theorem dX3_takeHead_18 : decode cX3_takeHead 18 = .ok (.return_, 1) := by decide +kernel
theorem dX3_endsWell_0 : decode cX3_endsWell 0 = .ok (.aload_n 0, 1) := by decide +kernel
theorem dX3_endsWell_1 : decode cX3_endsWell 1 = .ok (.getfield 15, 3) := by decide +kernel
theorem dX3_endsWell_4 : decode cX3_endsWell 4 = .ok (.iconst 3, 1) := by decide +kernel
theorem dX3_endsWell_5 : decode cX3_endsWell 5 = .ok (.if_icmp .eq 12, 3) := by decide +kernel
theorem dX3_endsWell_8 : decode cX3_endsWell 8 = .ok (.aload_n 0, 1) := by decide +kernel
theorem dX3_endsWell_9 : decode cX3_endsWell 9 = .ok (.iconst 1, 1) := by decide +kernel
theorem dX3_endsWell_10 : decode cX3_endsWell 10 = .ok (.aload_n 0, 1) := by decide +kernel
theorem dX3_endsWell_11 : decode cX3_endsWell 11 = .ok (.getfield 18, 3) := by decide +kernel
theorem dX3_endsWell_14 : decode cX3_endsWell 14 = .ok (.invokevirtual 88, 3) := by decide +kernel
theorem dX3_endsWell_17 : decode cX3_endsWell 17 = .ok (.aload_n 0, 1) := by decide +kernel
theorem dX3_endsWell_18 : decode cX3_endsWell 18 = .ok (.invokevirtual 59, 3) := by decide +kernel
theorem dX3_endsWell_21 : decode cX3_endsWell 21 = .ok (.aload_n 0, 1) := by decide +kernel
theorem dX3_endsWell_22 : decode cX3_endsWell 22 = .ok (.getfield 34, 3) := by decide +kernel
theorem dX3_endsWell_25 : decode cX3_endsWell 25 = .ok (.ifCond .ne 7, 3) := by decide +kernel
theorem dX3_endsWell_28 : decode cX3_endsWell 28 = .ok (.iconst 1, 1) := by decide +kernel
theorem dX3_endsWell_29 : decode cX3_endsWell 29 = .ok (.goto 4, 3) := by decide +kernel
theorem dX3_endsWell_32 : decode cX3_endsWell 32 = .ok (.iconst 0, 1) := by decide +kernel
theorem dX3_endsWell_33 : decode cX3_endsWell 33 = .ok (.ireturn, 1) := by decide +kernel
theorem dX3_readLine_0 : decode cX3_readLine 0 = .ok (.aload_n 0, 1) := by decide +kernel
theorem dX3_readLine_1 : decode cX3_readLine 1 = .ok (.ldc 92, 2) := by decide +kernel
theorem dX3_readLine_3 : decode cX3_readLine 3 = .ok (.invokevirtual 94, 3) := by decide +kernel
theorem dX3_readLine_6 : decode cX3_readLine 6 = .ok (.ifCond .eq 10, 3) := by decide +kernel
theorem dX3_readLine_9 : decode cX3_readLine 9 = .ok (.aload_n 0, 1) := by decide +kernel
theorem dX3_readLine_10 : decode cX3_readLine 10 = .ok (.invokevirtual 98, 3) := by decide +kernel
theorem dX3_readLine_13 : decode cX3_readLine 13 = .ok (.goto 108, 3) := by decide +kernel
theorem dX3_readLine_16 : decode cX3_readLine 16 = .ok (.aload_n 0, 1) := by decide +kernel
theorem dX3_readLine_17 : decode cX3_readLine 17 = .ok (.ldc 101, 2) := by decide +kernel
theorem dX3_readLine_19 : decode cX3_readLine 19 = .ok (.invokevirtual 94, 3) := by decide +kernel
theorem dX3_readLine_22 : decode cX3_readLine 22 = .ok (.ifCond .eq 10, 3) := by decide +kernel
theorem dX3_readLine_25 : decode cX3_readLine 25 = .ok (.aload_n 0, 1) := by decide +kernel
theorem dX3_readLine_26 : decode cX3_readLine 26 = .ok (.invokevirtual 103, 3) := by decide +kernel
theorem dX3_readLine_29 : decode cX3_readLine 29 = .ok (.goto 92, 3) := by decide +kernel
theorem dX3_readLine_32 : decode cX3_readLine 32 = .ok (.aload_n 0, 1) := by decide +kernel
theorem dX3_readLine_33 : decode cX3_readLine 33 = .ok (.ldc 106, 2) := by decide +kernel
theorem dX3_readLine_35 : decode cX3_readLine 35 = .ok (.invokevirtual 94, 3) := by decide +kernel
theorem dX3_readLine_38 : decode cX3_readLine 38 = .ok (.ifCond .eq 10, 3) := by decide +kernel
theorem dX3_readLine_41 : decode cX3_readLine 41 = .ok (.aload_n 0, 1) := by decide +kernel
theorem dX3_readLine_42 : decode cX3_readLine 42 = .ok (.invokevirtual 108, 3) := by decide +kernel
theorem dX3_readLine_45 : decode cX3_readLine 45 = .ok (.goto 76, 3) := by decide +kernel
theorem dX3_readLine_48 : decode cX3_readLine 48 = .ok (.aload_n 0, 1) := by decide +kernel
theorem dX3_readLine_49 : decode cX3_readLine 49 = .ok (.ldc 111, 2) := by decide +kernel
theorem dX3_readLine_51 : decode cX3_readLine 51 = .ok (.invokevirtual 94, 3) := by decide +kernel
theorem dX3_readLine_54 : decode cX3_readLine 54 = .ok (.ifCond .eq 10, 3) := by decide +kernel
theorem dX3_readLine_57 : decode cX3_readLine 57 = .ok (.aload_n 0, 1) := by decide +kernel
theorem dX3_readLine_58 : decode cX3_readLine 58 = .ok (.invokevirtual 113, 3) := by decide +kernel
theorem dX3_readLine_61 : decode cX3_readLine 61 = .ok (.goto 60, 3) := by decide +kernel
theorem dX3_readLine_64 : decode cX3_readLine 64 = .ok (.aload_n 0, 1) := by decide +kernel
theorem dX3_readLine_65 : decode cX3_readLine 65 = .ok (.ldc 116, 2) := by decide +kernel
theorem dX3_readLine_67 : decode cX3_readLine 67 = .ok (.invokevirtual 94, 3) := by decide +kernel
theorem dX3_readLine_70 : decode cX3_readLine 70 = .ok (.ifCond .eq 10, 3) := by decide +kernel
theorem dX3_readLine_73 : decode cX3_readLine 73 = .ok (.aload_n 0, 1) := by decide +kernel
theorem dX3_readLine_74 : decode cX3_readLine 74 = .ok (.invokevirtual 118, 3) := by decide +kernel
theorem dX3_readLine_77 : decode cX3_readLine 77 = .ok (.goto 44, 3) := by decide +kernel
theorem dX3_readLine_80 : decode cX3_readLine 80 = .ok (.aload_n 0, 1) := by decide +kernel
theorem dX3_readLine_81 : decode cX3_readLine 81 = .ok (.ldc 121, 2) := by decide +kernel
theorem dX3_readLine_83 : decode cX3_readLine 83 = .ok (.invokevirtual 94, 3) := by decide +kernel
theorem dX3_readLine_86 : decode cX3_readLine 86 = .ok (.ifCond .eq 10, 3) := by decide +kernel
theorem dX3_readLine_89 : decode cX3_readLine 89 = .ok (.aload_n 0, 1) := by decide +kernel
theorem dX3_readLine_90 : decode cX3_readLine 90 = .ok (.invokevirtual 123, 3) := by decide +kernel
theorem dX3_readLine_93 : decode cX3_readLine 93 = .ok (.goto 28, 3) := by decide +kernel
theorem dX3_readLine_96 : decode cX3_readLine 96 = .ok (.aload_n 0, 1) := by decide +kernel
theorem dX3_readLine_97 : decode cX3_readLine 97 = .ok (.ldc 126, 2) := by decide +kernel
theorem dX3_readLine_99 : decode cX3_readLine 99 = .ok (.invokevirtual 94, 3) := by decide +kernel
theorem dX3_readLine_102 : decode cX3_readLine 102 = .ok (.ifCond .eq 10, 3) := by decide +kernel
theorem dX3_readLine_105 : decode cX3_readLine 105 = .ok (.aload_n 0, 1) := by decide +kernel
theorem dX3_readLine_106 : decode cX3_readLine 106 = .ok (.invokevirtual 128, 3) := by decide +kernel
theorem dX3_readLine_109 : decode cX3_readLine 109 = .ok (.goto 12, 3) := by decide +kernel
theorem dX3_readLine_112 : decode cX3_readLine 112 = .ok (.aload_n 0, 1) := by decide +kernel
theorem dX3_readLine_113 : decode cX3_readLine 113 = .ok (.iconst 1, 1) := by decide +kernel
theorem dX3_readLine_114 : decode cX3_readLine 114 = .ok (.aload_n 0, 1) := by decide +kernel
theorem dX3_readLine_115 : decode cX3_readLine 115 = .ok (.getfield 18, 3) := by decide +kernel
theorem dX3_readLine_118 : decode cX3_readLine 118 = .ok (.invokevirtual 88, 3) := by decide +kernel
theorem dX3_readLine_121 : decode cX3_readLine 121 = .ok (.return_, 1) := by decide +kernel
theorem dX3_readTown_0 : decode cX3_readTown 0 = .ok (.aload_n 0, 1) := by decide +kernel
theorem dX3_readTown_1 : decode cX3_readTown 1 = .ok (.aload_n 0, 1) := by decide +kernel
theorem dX3_readTown_2 : decode cX3_readTown 2 = .ok (.getfield 44, 3) := by decide +kernel
theorem dX3_readTown_5 : decode cX3_readTown 5 = .ok (.getfield 131, 3) := by decide +kernel
theorem dX3_readTown_8 : decode cX3_readTown 8 = .ok (.iconst 5, 1) := by decide +kernel
theorem dX3_readTown_9 : decode cX3_readTown 9 = .ok (.invokevirtual 134, 3) := by decide +kernel
theorem dX3_readTown_12 : decode cX3_readTown 12 = .ok (.aload_n 0, 1) := by decide +kernel
theorem dX3_readTown_13 : decode cX3_readTown 13 = .ok (.invokevirtual 137, 3) := by decide +kernel
theorem dX3_readTown_16 : decode cX3_readTown 16 = .ok (.istore_n 1, 1) := by decide +kernel
theorem dX3_readTown_17 : decode cX3_readTown 17 = .ok (.iload_n 1, 1) := by decide +kernel
theorem dX3_readTown_18 : decode cX3_readTown 18 = .ok (.ifCond .ne 7, 3) := by decide +kernel
theorem dX3_readTown_21 : decode cX3_readTown 21 = .ok (.iconst 0, 1) := by decide +kernel
theorem dX3_readTown_22 : decode cX3_readTown 22 = .ok (.goto 11, 3) := by decide +kernel
theorem dX3_readTown_25 : decode cX3_readTown 25 = .ok (.aload_n 0, 1) := by decide +kernel
theorem dX3_readTown_26 : decode cX3_readTown 26 = .ok (.iconst 0, 1) := by decide +kernel
theorem dX3_readTown_27 : decode cX3_readTown 27 = .ok (.sipush 1000, 3) := by decide +kernel
theorem dX3_readTown_30 : decode cX3_readTown 30 = .ok (.invokevirtual 140, 3) := by decide +kernel
theorem dX3_readTown_33 : decode cX3_readTown 33 = .ok (.istore_n 2, 1) := by decide +kernel
theorem dX3_readTown_34 : decode cX3_readTown 34 = .ok (.iconst 0, 1) := by decide +kernel
theorem dX3_readTown_35 : decode cX3_readTown 35 = .ok (.istore_n 3, 1) := by decide +kernel
theorem dX3_readTown_36 : decode cX3_readTown 36 = .ok (.iconst 0, 1) := by decide +kernel
theorem dX3_readTown_37 : decode cX3_readTown 37 = .ok (.istore 4, 2) := by decide +kernel
theorem dX3_readTown_39 : decode cX3_readTown 39 = .ok (.aload_n 0, 1) := by decide +kernel
theorem dX3_readTown_40 : decode cX3_readTown 40 = .ok (.ldc 143, 2) := by decide +kernel
theorem dX3_readTown_42 : decode cX3_readTown 42 = .ok (.invokevirtual 94, 3) := by decide +kernel
theorem dX3_readTown_45 : decode cX3_readTown 45 = .ok (.ifCond .eq 24, 3) := by decide +kernel
theorem dX3_readTown_48 : decode cX3_readTown 48 = .ok (.aload_n 0, 1) := by decide +kernel
theorem dX3_readTown_49 : decode cX3_readTown 49 = .ok (.invokevirtual 59, 3) := by decide +kernel
theorem dX3_readTown_52 : decode cX3_readTown 52 = .ok (.aload_n 0, 1) := by decide +kernel
theorem dX3_readTown_53 : decode cX3_readTown 53 = .ok (.iconst 0, 1) := by decide +kernel
theorem dX3_readTown_54 : decode cX3_readTown 54 = .ok (.bipush 9, 2) := by decide +kernel
theorem dX3_readTown_56 : decode cX3_readTown 56 = .ok (.invokevirtual 140, 3) := by decide +kernel
theorem dX3_readTown_59 : decode cX3_readTown 59 = .ok (.istore_n 3, 1) := by decide +kernel
theorem dX3_readTown_60 : decode cX3_readTown 60 = .ok (.aload_n 0, 1) := by decide +kernel
theorem dX3_readTown_61 : decode cX3_readTown 61 = .ok (.iconst 0, 1) := by decide +kernel
theorem dX3_readTown_62 : decode cX3_readTown 62 = .ok (.bipush 99, 2) := by decide +kernel
theorem dX3_readTown_64 : decode cX3_readTown 64 = .ok (.invokevirtual 140, 3) := by decide +kernel
theorem dX3_readTown_67 : decode cX3_readTown 67 = .ok (.istore 4, 2) := by decide +kernel
theorem dX3_readTown_69 : decode cX3_readTown 69 = .ok (.aload_n 0, 1) := by decide +kernel
theorem dX3_readTown_70 : decode cX3_readTown 70 = .ok (.invokevirtual 145, 3) := by decide +kernel
theorem dX3_readTown_73 : decode cX3_readTown 73 = .ok (.ifCond .eq 89, 3) := by decide +kernel
theorem dX3_readTown_76 : decode cX3_readTown 76 = .ok (.aload_n 0, 1) := by decide +kernel
theorem dX3_readTown_77 : decode cX3_readTown 77 = .ok (.getfield 44, 3) := by decide +kernel
theorem dX3_readTown_80 : decode cX3_readTown 80 = .ok (.getfield 149, 3) := by decide +kernel
theorem dX3_readTown_83 : decode cX3_readTown 83 = .ok (.aload_n 0, 1) := by decide +kernel
theorem dX3_readTown_84 : decode cX3_readTown 84 = .ok (.getfield 44, 3) := by decide +kernel
theorem dX3_readTown_87 : decode cX3_readTown 87 = .ok (.getfield 131, 3) := by decide +kernel
theorem dX3_readTown_90 : decode cX3_readTown 90 = .ok (.iload_n 1, 1) := by decide +kernel
theorem dX3_readTown_91 : decode cX3_readTown 91 = .ok (.invokestatic 153, 3) := by decide +kernel
theorem dX3_readTown_94 : decode cX3_readTown 94 = .ok (.aload_n 0, 1) := by decide +kernel
theorem dX3_readTown_95 : decode cX3_readTown 95 = .ok (.getfield 44, 3) := by decide +kernel
theorem dX3_readTown_98 : decode cX3_readTown 98 = .ok (.getfield 157, 3) := by decide +kernel
theorem dX3_readTown_101 : decode cX3_readTown 101 = .ok (.aload_n 0, 1) := by decide +kernel
theorem dX3_readTown_102 : decode cX3_readTown 102 = .ok (.getfield 44, 3) := by decide +kernel
theorem dX3_readTown_105 : decode cX3_readTown 105 = .ok (.getfield 131, 3) := by decide +kernel
theorem dX3_readTown_108 : decode cX3_readTown 108 = .ok (.iload_n 2, 1) := by decide +kernel
theorem dX3_readTown_109 : decode cX3_readTown 109 = .ok (.invokestatic 153, 3) := by decide +kernel
theorem dX3_readTown_112 : decode cX3_readTown 112 = .ok (.aload_n 0, 1) := by decide +kernel
theorem dX3_readTown_113 : decode cX3_readTown 113 = .ok (.getfield 44, 3) := by decide +kernel
theorem dX3_readTown_116 : decode cX3_readTown 116 = .ok (.getfield 160, 3) := by decide +kernel
theorem dX3_readTown_119 : decode cX3_readTown 119 = .ok (.aload_n 0, 1) := by decide +kernel
theorem dX3_readTown_120 : decode cX3_readTown 120 = .ok (.getfield 44, 3) := by decide +kernel
theorem dX3_readTown_123 : decode cX3_readTown 123 = .ok (.getfield 131, 3) := by decide +kernel
theorem dX3_readTown_126 : decode cX3_readTown 126 = .ok (.iload_n 3, 1) := by decide +kernel
theorem dX3_readTown_127 : decode cX3_readTown 127 = .ok (.invokestatic 153, 3) := by decide +kernel
theorem dX3_readTown_130 : decode cX3_readTown 130 = .ok (.aload_n 0, 1) := by decide +kernel
theorem dX3_readTown_131 : decode cX3_readTown 131 = .ok (.getfield 44, 3) := by decide +kernel
theorem dX3_readTown_134 : decode cX3_readTown 134 = .ok (.getfield 162, 3) := by decide +kernel
theorem dX3_readTown_137 : decode cX3_readTown 137 = .ok (.aload_n 0, 1) := by decide +kernel
theorem dX3_readTown_138 : decode cX3_readTown 138 = .ok (.getfield 44, 3) := by decide +kernel
theorem dX3_readTown_141 : decode cX3_readTown 141 = .ok (.getfield 131, 3) := by decide +kernel
theorem dX3_readTown_144 : decode cX3_readTown 144 = .ok (.iload 4, 2) := by decide +kernel
theorem dX3_readTown_146 : decode cX3_readTown 146 = .ok (.invokestatic 153, 3) := by decide +kernel
theorem dX3_readTown_149 : decode cX3_readTown 149 = .ok (.aload_n 0, 1) := by decide +kernel
theorem dX3_readTown_150 : decode cX3_readTown 150 = .ok (.getfield 44, 3) := by decide +kernel
theorem dX3_readTown_153 : decode cX3_readTown 153 = .ok (.dup, 1) := by decide +kernel
theorem dX3_readTown_154 : decode cX3_readTown 154 = .ok (.getfield 131, 3) := by decide +kernel
theorem dX3_readTown_157 : decode cX3_readTown 157 = .ok (.iconst 1, 1) := by decide +kernel
theorem dX3_readTown_158 : decode cX3_readTown 158 = .ok (.iadd, 1) := by decide +kernel
theorem dX3_readTown_159 : decode cX3_readTown 159 = .ok (.putfield 131, 3) := by decide +kernel
theorem dX3_readTown_162 : decode cX3_readTown 162 = .ok (.return_, 1) := by decide +kernel
theorem dX3_takeKind_0 : decode cX3_takeKind 0 = .ok (.iconst (-1), 1) := by decide +kernel
theorem dX3_takeKind_1 : decode cX3_takeKind 1 = .ok (.istore_n 1, 1) := by decide +kernel
theorem dX3_takeKind_2 : decode cX3_takeKind 2 = .ok (.aload_n 0, 1) := by decide +kernel
theorem dX3_takeKind_3 : decode cX3_takeKind 3 = .ok (.ldc 165, 2) := by decide +kernel
theorem dX3_takeKind_5 : decode cX3_takeKind 5 = .ok (.invokevirtual 94, 3) := by decide +kernel
theorem dX3_takeKind_8 : decode cX3_takeKind 8 = .ok (.ifCond .eq 8, 3) := by decide +kernel
theorem dX3_takeKind_11 : decode cX3_takeKind 11 = .ok (.iconst 0, 1) := by decide +kernel
theorem dX3_takeKind_12 : decode cX3_takeKind 12 = .ok (.istore_n 1, 1) := by decide +kernel
theorem dX3_takeKind_13 : decode cX3_takeKind 13 = .ok (.goto 54, 3) := by decide +kernel
theorem dX3_takeKind_16 : decode cX3_takeKind 16 = .ok (.aload_n 0, 1) := by decide +kernel
theorem dX3_takeKind_17 : decode cX3_takeKind 17 = .ok (.ldc 167, 2) := by decide +kernel
theorem dX3_takeKind_19 : decode cX3_takeKind 19 = .ok (.invokevirtual 94, 3) := by decide +kernel
theorem dX3_takeKind_22 : decode cX3_takeKind 22 = .ok (.ifCond .eq 8, 3) := by decide +kernel
theorem dX3_takeKind_25 : decode cX3_takeKind 25 = .ok (.iconst 1, 1) := by decide +kernel
theorem dX3_takeKind_26 : decode cX3_takeKind 26 = .ok (.istore_n 1, 1) := by decide +kernel
theorem dX3_takeKind_27 : decode cX3_takeKind 27 = .ok (.goto 40, 3) := by decide +kernel
theorem dX3_takeKind_30 : decode cX3_takeKind 30 = .ok (.aload_n 0, 1) := by decide +kernel
theorem dX3_takeKind_31 : decode cX3_takeKind 31 = .ok (.ldc 169, 2) := by decide +kernel
theorem dX3_takeKind_33 : decode cX3_takeKind 33 = .ok (.invokevirtual 94, 3) := by decide +kernel
theorem dX3_takeKind_36 : decode cX3_takeKind 36 = .ok (.ifCond .eq 8, 3) := by decide +kernel
theorem dX3_takeKind_39 : decode cX3_takeKind 39 = .ok (.iconst 2, 1) := by decide +kernel
theorem dX3_takeKind_40 : decode cX3_takeKind 40 = .ok (.istore_n 1, 1) := by decide +kernel
theorem dX3_takeKind_41 : decode cX3_takeKind 41 = .ok (.goto 26, 3) := by decide +kernel
theorem dX3_takeKind_44 : decode cX3_takeKind 44 = .ok (.aload_n 0, 1) := by decide +kernel
theorem dX3_takeKind_45 : decode cX3_takeKind 45 = .ok (.ldc 171, 2) := by decide +kernel
theorem dX3_takeKind_47 : decode cX3_takeKind 47 = .ok (.invokevirtual 94, 3) := by decide +kernel
theorem dX3_takeKind_50 : decode cX3_takeKind 50 = .ok (.ifCond .eq 8, 3) := by decide +kernel
theorem dX3_takeKind_53 : decode cX3_takeKind 53 = .ok (.iconst 3, 1) := by decide +kernel
theorem dX3_takeKind_54 : decode cX3_takeKind 54 = .ok (.istore_n 1, 1) := by decide +kernel
theorem dX3_takeKind_55 : decode cX3_takeKind 55 = .ok (.goto 12, 3) := by decide +kernel
theorem dX3_takeKind_58 : decode cX3_takeKind 58 = .ok (.aload_n 0, 1) := by decide +kernel
theorem dX3_takeKind_59 : decode cX3_takeKind 59 = .ok (.iconst 1, 1) := by decide +kernel
theorem dX3_takeKind_60 : decode cX3_takeKind 60 = .ok (.aload_n 0, 1) := by decide +kernel
theorem dX3_takeKind_61 : decode cX3_takeKind 61 = .ok (.getfield 18, 3) := by decide +kernel
theorem dX3_takeKind_64 : decode cX3_takeKind 64 = .ok (.invokevirtual 88, 3) := by decide +kernel
theorem dX3_takeKind_67 : decode cX3_takeKind 67 = .ok (.aload_n 0, 1) := by decide +kernel
theorem dX3_takeKind_68 : decode cX3_takeKind 68 = .ok (.invokevirtual 59, 3) := by decide +kernel
theorem dX3_takeKind_71 : decode cX3_takeKind 71 = .ok (.iload_n 1, 1) := by decide +kernel
theorem dX3_takeKind_72 : decode cX3_takeKind 72 = .ok (.ireturn, 1) := by decide +kernel
theorem dX3_readTrain_0 : decode cX3_readTrain 0 = .ok (.aload_n 0, 1) := by decide +kernel
theorem dX3_readTrain_1 : decode cX3_readTrain 1 = .ok (.invokevirtual 59, 3) := by decide +kernel
theorem dX3_readTrain_4 : decode cX3_readTrain 4 = .ok (.aload_n 0, 1) := by decide +kernel
theorem dX3_readTrain_5 : decode cX3_readTrain 5 = .ok (.iconst 0, 1) := by decide +kernel
theorem dX3_readTrain_6 : decode cX3_readTrain 6 = .ok (.sipush 9999, 3) := by decide +kernel
theorem dX3_readTrain_9 : decode cX3_readTrain 9 = .ok (.invokevirtual 140, 3) := by decide +kernel
theorem dX3_readTrain_12 : decode cX3_readTrain 12 = .ok (.istore_n 1, 1) := by decide +kernel
theorem dX3_readTrain_13 : decode cX3_readTrain 13 = .ok (.aload_n 0, 1) := by decide +kernel
theorem dX3_readTrain_14 : decode cX3_readTrain 14 = .ok (.iload_n 1, 1) := by decide +kernel
theorem dX3_readTrain_15 : decode cX3_readTrain 15 = .ok (.aload_n 0, 1) := by decide +kernel
theorem dX3_readTrain_16 : decode cX3_readTrain 16 = .ok (.getfield 44, 3) := by decide +kernel
theorem dX3_readTrain_19 : decode cX3_readTrain 19 = .ok (.getfield 131, 3) := by decide +kernel
theorem dX3_readTrain_22 : decode cX3_readTrain 22 = .ok (.invokevirtual 173, 3) := by decide +kernel
theorem dX3_readTrain_25 : decode cX3_readTrain 25 = .ok (.aload_n 0, 1) := by decide +kernel
theorem dX3_readTrain_26 : decode cX3_readTrain 26 = .ok (.iconst 0, 1) := by decide +kernel
theorem dX3_readTrain_27 : decode cX3_readTrain 27 = .ok (.sipush 9999, 3) := by decide +kernel
theorem dX3_readTrain_30 : decode cX3_readTrain 30 = .ok (.invokevirtual 140, 3) := by decide +kernel
theorem dX3_readTrain_33 : decode cX3_readTrain 33 = .ok (.istore_n 2, 1) := by decide +kernel
theorem dX3_readTrain_34 : decode cX3_readTrain 34 = .ok (.aload_n 0, 1) := by decide +kernel
theorem dX3_readTrain_35 : decode cX3_readTrain 35 = .ok (.iload_n 2, 1) := by decide +kernel
theorem dX3_readTrain_36 : decode cX3_readTrain 36 = .ok (.aload_n 0, 1) := by decide +kernel
theorem dX3_readTrain_37 : decode cX3_readTrain 37 = .ok (.getfield 44, 3) := by decide +kernel
theorem dX3_readTrain_40 : decode cX3_readTrain 40 = .ok (.getfield 131, 3) := by decide +kernel
theorem dX3_readTrain_43 : decode cX3_readTrain 43 = .ok (.invokevirtual 173, 3) := by decide +kernel
theorem dX3_readTrain_46 : decode cX3_readTrain 46 = .ok (.iload_n 1, 1) := by decide +kernel
theorem dX3_readTrain_47 : decode cX3_readTrain 47 = .ok (.iload_n 2, 1) := by decide +kernel
theorem dX3_readTrain_48 : decode cX3_readTrain 48 = .ok (.if_icmp .eq 16, 3) := by decide +kernel
theorem dX3_readTrain_51 : decode cX3_readTrain 51 = .ok (.aload_n 0, 1) := by decide +kernel
theorem dX3_readTrain_52 : decode cX3_readTrain 52 = .ok (.getfield 44, 3) := by decide +kernel
theorem dX3_readTrain_55 : decode cX3_readTrain 55 = .ok (.iload_n 1, 1) := by decide +kernel
theorem dX3_readTrain_56 : decode cX3_readTrain 56 = .ok (.iload_n 2, 1) := by decide +kernel
theorem dX3_readTrain_57 : decode cX3_readTrain 57 = .ok (.invokevirtual 176, 3) := by decide +kernel
theorem dX3_readTrain_60 : decode cX3_readTrain 60 = .ok (.iconst (-1), 1) := by decide +kernel
theorem dX3_readTrain_61 : decode cX3_readTrain 61 = .ok (.if_icmp .eq 12, 3) := by decide +kernel
theorem dX3_readTrain_64 : decode cX3_readTrain 64 = .ok (.aload_n 0, 1) := by decide +kernel
theorem dX3_readTrain_65 : decode cX3_readTrain 65 = .ok (.iconst 4, 1) := by decide +kernel
theorem dX3_readTrain_66 : decode cX3_readTrain 66 = .ok (.aload_n 0, 1) := by decide +kernel
theorem dX3_readTrain_67 : decode cX3_readTrain 67 = .ok (.getfield 27, 3) := by decide +kernel
theorem dX3_readTrain_70 : decode cX3_readTrain 70 = .ok (.invokevirtual 88, 3) := by decide +kernel
theorem dX3_readTrain_73 : decode cX3_readTrain 73 = .ok (.aload_n 0, 1) := by decide +kernel
theorem dX3_readTrain_74 : decode cX3_readTrain 74 = .ok (.iconst 1, 1) := by decide +kernel
theorem dX3_readTrain_75 : decode cX3_readTrain 75 = .ok (.bipush 9, 2) := by decide +kernel
theorem dX3_readTrain_77 : decode cX3_readTrain 77 = .ok (.invokevirtual 140, 3) := by decide +kernel
theorem dX3_readTrain_80 : decode cX3_readTrain 80 = .ok (.istore_n 3, 1) := by decide +kernel
theorem dX3_readTrain_81 : decode cX3_readTrain 81 = .ok (.aload_n 0, 1) := by decide +kernel
theorem dX3_readTrain_82 : decode cX3_readTrain 82 = .ok (.invokevirtual 145, 3) := by decide +kernel
theorem dX3_readTrain_85 : decode cX3_readTrain 85 = .ok (.ifCond .eq 19, 3) := by decide +kernel
theorem dX3_readTrain_88 : decode cX3_readTrain 88 = .ok (.aload_n 0, 1) := by decide +kernel
theorem dX3_readTrain_89 : decode cX3_readTrain 89 = .ok (.getfield 44, 3) := by decide +kernel
theorem dX3_readTrain_92 : decode cX3_readTrain 92 = .ok (.getfield 179, 3) := by decide +kernel
theorem dX3_readTrain_95 : decode cX3_readTrain 95 = .ok (.iload_n 1, 1) := by decide +kernel
theorem dX3_readTrain_96 : decode cX3_readTrain 96 = .ok (.iconst 5, 1) := by decide +kernel
theorem dX3_readTrain_97 : decode cX3_readTrain 97 = .ok (.imul, 1) := by decide +kernel
theorem dX3_readTrain_98 : decode cX3_readTrain 98 = .ok (.iload_n 2, 1) := by decide +kernel
theorem dX3_readTrain_99 : decode cX3_readTrain 99 = .ok (.iadd, 1) := by decide +kernel
theorem dX3_readTrain_100 : decode cX3_readTrain 100 = .ok (.iload_n 3, 1) := by decide +kernel
theorem dX3_readTrain_101 : decode cX3_readTrain 101 = .ok (.invokestatic 153, 3) := by decide +kernel
theorem dX3_readTrain_104 : decode cX3_readTrain 104 = .ok (.return_, 1) := by decide +kernel
theorem dX3_readTrunk_0 : decode cX3_readTrunk 0 = .ok (.aload_n 0, 1) := by decide +kernel
theorem dX3_readTrunk_1 : decode cX3_readTrunk 1 = .ok (.aload_n 0, 1) := by decide +kernel
theorem dX3_readTrunk_2 : decode cX3_readTrunk 2 = .ok (.getfield 44, 3) := by decide +kernel
theorem dX3_readTrunk_5 : decode cX3_readTrunk 5 = .ok (.getfield 181, 3) := by decide +kernel
theorem dX3_readTrunk_8 : decode cX3_readTrunk 8 = .ok (.iconst 5, 1) := by decide +kernel
theorem dX3_readTrunk_9 : decode cX3_readTrunk 9 = .ok (.invokevirtual 134, 3) := by decide +kernel
theorem dX3_readTrunk_12 : decode cX3_readTrunk 12 = .ok (.aload_n 0, 1) := by decide +kernel
theorem dX3_readTrunk_13 : decode cX3_readTrunk 13 = .ok (.iconst 0, 1) := by decide +kernel
theorem dX3_readTrunk_14 : decode cX3_readTrunk 14 = .ok (.sipush 9999, 3) := by decide +kernel
theorem dX3_readTrunk_17 : decode cX3_readTrunk 17 = .ok (.invokevirtual 140, 3) := by decide +kernel
theorem dX3_readTrunk_20 : decode cX3_readTrunk 20 = .ok (.istore_n 1, 1) := by decide +kernel
theorem dX3_readTrunk_21 : decode cX3_readTrunk 21 = .ok (.aload_n 0, 1) := by decide +kernel
theorem dX3_readTrunk_22 : decode cX3_readTrunk 22 = .ok (.iload_n 1, 1) := by decide +kernel
theorem dX3_readTrunk_23 : decode cX3_readTrunk 23 = .ok (.aload_n 0, 1) := by decide +kernel
theorem dX3_readTrunk_24 : decode cX3_readTrunk 24 = .ok (.getfield 44, 3) := by decide +kernel
theorem dX3_readTrunk_27 : decode cX3_readTrunk 27 = .ok (.getfield 131, 3) := by decide +kernel
theorem dX3_readTrunk_30 : decode cX3_readTrunk 30 = .ok (.invokevirtual 173, 3) := by decide +kernel
theorem dX3_readTrunk_33 : decode cX3_readTrunk 33 = .ok (.aload_n 0, 1) := by decide +kernel
theorem dX3_readTrunk_34 : decode cX3_readTrunk 34 = .ok (.invokevirtual 145, 3) := by decide +kernel
theorem dX3_readTrunk_37 : decode cX3_readTrunk 37 = .ok (.ifCond .eq 34, 3) := by decide +kernel
theorem dX3_readTrunk_40 : decode cX3_readTrunk 40 = .ok (.aload_n 0, 1) := by decide +kernel
theorem dX3_readTrunk_41 : decode cX3_readTrunk 41 = .ok (.getfield 44, 3) := by decide +kernel
theorem dX3_readTrunk_44 : decode cX3_readTrunk 44 = .ok (.getfield 184, 3) := by decide +kernel
theorem dX3_readTrunk_47 : decode cX3_readTrunk 47 = .ok (.aload_n 0, 1) := by decide +kernel
theorem dX3_readTrunk_48 : decode cX3_readTrunk 48 = .ok (.getfield 44, 3) := by decide +kernel
theorem dX3_readTrunk_51 : decode cX3_readTrunk 51 = .ok (.getfield 181, 3) := by decide +kernel
theorem dX3_readTrunk_54 : decode cX3_readTrunk 54 = .ok (.iload_n 1, 1) := by decide +kernel
theorem dX3_readTrunk_55 : decode cX3_readTrunk 55 = .ok (.invokestatic 153, 3) := by decide +kernel
theorem dX3_readTrunk_58 : decode cX3_readTrunk 58 = .ok (.aload_n 0, 1) := by decide +kernel
theorem dX3_readTrunk_59 : decode cX3_readTrunk 59 = .ok (.getfield 44, 3) := by decide +kernel
theorem dX3_readTrunk_62 : decode cX3_readTrunk 62 = .ok (.dup, 1) := by decide +kernel
theorem dX3_readTrunk_63 : decode cX3_readTrunk 63 = .ok (.getfield 181, 3) := by decide +kernel
theorem dX3_readTrunk_66 : decode cX3_readTrunk 66 = .ok (.iconst 1, 1) := by decide +kernel
theorem dX3_readTrunk_67 : decode cX3_readTrunk 67 = .ok (.iadd, 1) := by decide +kernel
theorem dX3_readTrunk_68 : decode cX3_readTrunk 68 = .ok (.putfield 181, 3) := by decide +kernel
theorem dX3_readTrunk_71 : decode cX3_readTrunk 71 = .ok (.return_, 1) := by decide +kernel
theorem dX3_readThing_0 : decode cX3_readThing 0 = .ok (.aload_n 0, 1) := by decide +kernel
theorem dX3_readThing_1 : decode cX3_readThing 1 = .ok (.aload_n 0, 1) := by decide +kernel
theorem dX3_readThing_2 : decode cX3_readThing 2 = .ok (.getfield 44, 3) := by decide +kernel
theorem dX3_readThing_5 : decode cX3_readThing 5 = .ok (.getfield 187, 3) := by decide +kernel
theorem dX3_readThing_8 : decode cX3_readThing 8 = .ok (.bipush 10, 2) := by decide +kernel
theorem dX3_readThing_10 : decode cX3_readThing 10 = .ok (.invokevirtual 134, 3) := by decide +kernel
theorem dX3_readThing_13 : decode cX3_readThing 13 = .ok (.aload_n 0, 1) := by decide +kernel
theorem dX3_readThing_14 : decode cX3_readThing 14 = .ok (.iconst 0, 1) := by decide +kernel
theorem dX3_readThing_15 : decode cX3_readThing 15 = .ok (.bipush 19, 2) := by decide +kernel
theorem dX3_readThing_17 : decode cX3_readThing 17 = .ok (.invokevirtual 140, 3) := by decide +kernel
theorem dX3_readThing_20 : decode cX3_readThing 20 = .ok (.istore_n 1, 1) := by decide +kernel
theorem dX3_readThing_21 : decode cX3_readThing 21 = .ok (.aload_n 0, 1) := by decide +kernel
theorem dX3_readThing_22 : decode cX3_readThing 22 = .ok (.iconst 0, 1) := by decide +kernel
theorem dX3_readThing_23 : decode cX3_readThing 23 = .ok (.sipush 9999, 3) := by decide +kernel
theorem dX3_readThing_26 : decode cX3_readThing 26 = .ok (.invokevirtual 140, 3) := by decide +kernel
theorem dX3_readThing_29 : decode cX3_readThing 29 = .ok (.istore_n 2, 1) := by decide +kernel
theorem dX3_readThing_30 : decode cX3_readThing 30 = .ok (.aload_n 0, 1) := by decide +kernel
theorem dX3_readThing_31 : decode cX3_readThing 31 = .ok (.iload_n 2, 1) := by decide +kernel
theorem dX3_readThing_32 : decode cX3_readThing 32 = .ok (.aload_n 0, 1) := by decide +kernel
theorem dX3_readThing_33 : decode cX3_readThing 33 = .ok (.getfield 44, 3) := by decide +kernel
theorem dX3_readThing_36 : decode cX3_readThing 36 = .ok (.getfield 181, 3) := by decide +kernel
theorem dX3_readThing_39 : decode cX3_readThing 39 = .ok (.invokevirtual 173, 3) := by decide +kernel
theorem dX3_readThing_42 : decode cX3_readThing 42 = .ok (.aload_n 0, 1) := by decide +kernel
theorem dX3_readThing_43 : decode cX3_readThing 43 = .ok (.invokevirtual 145, 3) := by decide +kernel
theorem dX3_readThing_46 : decode cX3_readThing 46 = .ok (.ifCond .eq 52, 3) := by decide +kernel
theorem dX3_readThing_49 : decode cX3_readThing 49 = .ok (.aload_n 0, 1) := by decide +kernel
theorem dX3_readThing_50 : decode cX3_readThing 50 = .ok (.getfield 44, 3) := by decide +kernel
theorem dX3_readThing_53 : decode cX3_readThing 53 = .ok (.getfield 190, 3) := by decide +kernel
theorem dX3_readThing_56 : decode cX3_readThing 56 = .ok (.aload_n 0, 1) := by decide +kernel
theorem dX3_readThing_57 : decode cX3_readThing 57 = .ok (.getfield 44, 3) := by decide +kernel
theorem dX3_readThing_60 : decode cX3_readThing 60 = .ok (.getfield 187, 3) := by decide +kernel
theorem dX3_readThing_63 : decode cX3_readThing 63 = .ok (.iload_n 1, 1) := by decide +kernel
theorem dX3_readThing_64 : decode cX3_readThing 64 = .ok (.invokestatic 153, 3) := by decide +kernel
theorem dX3_readThing_67 : decode cX3_readThing 67 = .ok (.aload_n 0, 1) := by decide +kernel
theorem dX3_readThing_68 : decode cX3_readThing 68 = .ok (.getfield 44, 3) := by decide +kernel
theorem dX3_readThing_71 : decode cX3_readThing 71 = .ok (.getfield 193, 3) := by decide +kernel
theorem dX3_readThing_74 : decode cX3_readThing 74 = .ok (.aload_n 0, 1) := by decide +kernel
theorem dX3_readThing_75 : decode cX3_readThing 75 = .ok (.getfield 44, 3) := by decide +kernel
theorem dX3_readThing_78 : decode cX3_readThing 78 = .ok (.getfield 187, 3) := by decide +kernel
theorem dX3_readThing_81 : decode cX3_readThing 81 = .ok (.iload_n 2, 1) := by decide +kernel
theorem dX3_readThing_82 : decode cX3_readThing 82 = .ok (.invokestatic 153, 3) := by decide +kernel
theorem dX3_readThing_85 : decode cX3_readThing 85 = .ok (.aload_n 0, 1) := by decide +kernel
theorem dX3_readThing_86 : decode cX3_readThing 86 = .ok (.getfield 44, 3) := by decide +kernel
theorem dX3_readThing_89 : decode cX3_readThing 89 = .ok (.dup, 1) := by decide +kernel
theorem dX3_readThing_90 : decode cX3_readThing 90 = .ok (.getfield 187, 3) := by decide +kernel
theorem dX3_readThing_93 : decode cX3_readThing 93 = .ok (.iconst 1, 1) := by decide +kernel
theorem dX3_readThing_94 : decode cX3_readThing 94 = .ok (.iadd, 1) := by decide +kernel
theorem dX3_readThing_95 : decode cX3_readThing 95 = .ok (.putfield 187, 3) := by decide +kernel
theorem dX3_readThing_98 : decode cX3_readThing 98 = .ok (.return_, 1) := by decide +kernel
theorem dX3_readPlay_0 : decode cX3_readPlay 0 = .ok (.aload_n 0, 1) := by decide +kernel
theorem dX3_readPlay_1 : decode cX3_readPlay 1 = .ok (.aload_n 0, 1) := by decide +kernel
theorem dX3_readPlay_2 : decode cX3_readPlay 2 = .ok (.getfield 44, 3) := by decide +kernel
theorem dX3_readPlay_5 : decode cX3_readPlay 5 = .ok (.getfield 196, 3) := by decide +kernel
theorem dX3_readPlay_8 : decode cX3_readPlay 8 = .ok (.iconst 4, 1) := by decide +kernel
theorem dX3_readPlay_9 : decode cX3_readPlay 9 = .ok (.invokevirtual 134, 3) := by decide +kernel
theorem dX3_readPlay_12 : decode cX3_readPlay 12 = .ok (.aload_n 0, 1) := by decide +kernel
theorem dX3_readPlay_13 : decode cX3_readPlay 13 = .ok (.iconst 1, 1) := by decide +kernel
theorem dX3_readPlay_14 : decode cX3_readPlay 14 = .ok (.bipush 20, 2) := by decide +kernel
theorem dX3_readPlay_16 : decode cX3_readPlay 16 = .ok (.invokevirtual 140, 3) := by decide +kernel
theorem dX3_readPlay_19 : decode cX3_readPlay 19 = .ok (.istore_n 1, 1) := by decide +kernel
theorem dX3_readPlay_20 : decode cX3_readPlay 20 = .ok (.iconst 0, 1) := by decide +kernel
theorem dX3_readPlay_21 : decode cX3_readPlay 21 = .ok (.istore_n 2, 1) := by decide +kernel
theorem dX3_readPlay_22 : decode cX3_readPlay 22 = .ok (.aload_n 0, 1) := by decide +kernel
theorem dX3_readPlay_23 : decode cX3_readPlay 23 = .ok (.getfield 44, 3) := by decide +kernel
theorem dX3_readPlay_26 : decode cX3_readPlay 26 = .ok (.getfield 199, 3) := by decide +kernel
theorem dX3_readPlay_29 : decode cX3_readPlay 29 = .ok (.aload_n 0, 1) := by decide +kernel
theorem dX3_readPlay_30 : decode cX3_readPlay 30 = .ok (.getfield 44, 3) := by decide +kernel
theorem dX3_readPlay_33 : decode cX3_readPlay 33 = .ok (.getfield 196, 3) := by decide +kernel
theorem dX3_readPlay_36 : decode cX3_readPlay 36 = .ok (.iconst 4, 1) := by decide +kernel
theorem dX3_readPlay_37 : decode cX3_readPlay 37 = .ok (.imul, 1) := by decide +kernel
theorem dX3_readPlay_38 : decode cX3_readPlay 38 = .ok (.iload_n 2, 1) := by decide +kernel
theorem dX3_readPlay_39 : decode cX3_readPlay 39 = .ok (.iadd, 1) := by decide +kernel
theorem dX3_readPlay_40 : decode cX3_readPlay 40 = .ok (.aload_n 0, 1) := by decide +kernel
theorem dX3_readPlay_41 : decode cX3_readPlay 41 = .ok (.iconst 0, 1) := by decide +kernel
theorem dX3_readPlay_42 : decode cX3_readPlay 42 = .ok (.bipush 19, 2) := by decide +kernel
theorem dX3_readPlay_44 : decode cX3_readPlay 44 = .ok (.invokevirtual 140, 3) := by decide +kernel
theorem dX3_readPlay_47 : decode cX3_readPlay 47 = .ok (.invokestatic 153, 3) := by decide +kernel
theorem dX3_readPlay_50 : decode cX3_readPlay 50 = .ok (.iinc 2 1, 3) := by decide +kernel
theorem dX3_readPlay_53 : decode cX3_readPlay 53 = .ok (.iload_n 2, 1) := by decide +kernel
theorem dX3_readPlay_54 : decode cX3_readPlay 54 = .ok (.iconst 4, 1) := by decide +kernel
theorem dX3_readPlay_55 : decode cX3_readPlay 55 = .ok (.if_icmp .ge 11, 3) := by decide +kernel
theorem dX3_readPlay_58 : decode cX3_readPlay 58 = .ok (.aload_n 0, 1) := by decide +kernel
theorem dX3_readPlay_59 : decode cX3_readPlay 59 = .ok (.getfield 15, 3) := by decide +kernel
theorem dX3_readPlay_62 : decode cX3_readPlay 62 = .ok (.iconst 2, 1) := by decide +kernel
theorem dX3_readPlay_63 : decode cX3_readPlay 63 = .ok (.if_icmp .eq (-41), 3) := by decide +kernel
theorem dX3_readPlay_66 : decode cX3_readPlay 66 = .ok (.aload_n 0, 1) := by decide +kernel
theorem dX3_readPlay_67 : decode cX3_readPlay 67 = .ok (.getfield 15, 3) := by decide +kernel
theorem dX3_readPlay_70 : decode cX3_readPlay 70 = .ok (.iconst 2, 1) := by decide +kernel
theorem dX3_readPlay_71 : decode cX3_readPlay 71 = .ok (.if_icmp .ne 12, 3) := by decide +kernel
theorem dX3_readPlay_74 : decode cX3_readPlay 74 = .ok (.aload_n 0, 1) := by decide +kernel
theorem dX3_readPlay_75 : decode cX3_readPlay 75 = .ok (.iconst 2, 1) := by decide +kernel
theorem dX3_readPlay_76 : decode cX3_readPlay 76 = .ok (.aload_n 0, 1) := by decide +kernel
theorem dX3_readPlay_77 : decode cX3_readPlay 77 = .ok (.getfield 18, 3) := by decide +kernel
theorem dX3_readPlay_80 : decode cX3_readPlay 80 = .ok (.invokevirtual 88, 3) := by decide +kernel
theorem dX3_readPlay_83 : decode cX3_readPlay 83 = .ok (.aload_n 0, 1) := by decide +kernel
theorem dX3_readPlay_84 : decode cX3_readPlay 84 = .ok (.invokevirtual 145, 3) := by decide +kernel
theorem dX3_readPlay_87 : decode cX3_readPlay 87 = .ok (.ifCond .eq 52, 3) := by decide +kernel
theorem dX3_readPlay_90 : decode cX3_readPlay 90 = .ok (.aload_n 0, 1) := by decide +kernel
theorem dX3_readPlay_91 : decode cX3_readPlay 91 = .ok (.getfield 44, 3) := by decide +kernel
theorem dX3_readPlay_94 : decode cX3_readPlay 94 = .ok (.getfield 202, 3) := by decide +kernel
theorem dX3_readPlay_97 : decode cX3_readPlay 97 = .ok (.aload_n 0, 1) := by decide +kernel
theorem dX3_readPlay_98 : decode cX3_readPlay 98 = .ok (.getfield 44, 3) := by decide +kernel
theorem dX3_readPlay_101 : decode cX3_readPlay 101 = .ok (.getfield 196, 3) := by decide +kernel
theorem dX3_readPlay_104 : decode cX3_readPlay 104 = .ok (.iload_n 1, 1) := by decide +kernel
theorem dX3_readPlay_105 : decode cX3_readPlay 105 = .ok (.invokestatic 153, 3) := by decide +kernel
theorem dX3_readPlay_108 : decode cX3_readPlay 108 = .ok (.aload_n 0, 1) := by decide +kernel
theorem dX3_readPlay_109 : decode cX3_readPlay 109 = .ok (.getfield 44, 3) := by decide +kernel
theorem dX3_readPlay_112 : decode cX3_readPlay 112 = .ok (.getfield 205, 3) := by decide +kernel
theorem dX3_readPlay_115 : decode cX3_readPlay 115 = .ok (.aload_n 0, 1) := by decide +kernel
theorem dX3_readPlay_116 : decode cX3_readPlay 116 = .ok (.getfield 44, 3) := by decide +kernel
theorem dX3_readPlay_119 : decode cX3_readPlay 119 = .ok (.getfield 196, 3) := by decide +kernel
theorem dX3_readPlay_122 : decode cX3_readPlay 122 = .ok (.iload_n 2, 1) := by decide +kernel
theorem dX3_readPlay_123 : decode cX3_readPlay 123 = .ok (.invokestatic 153, 3) := by decide +kernel
theorem dX3_readPlay_126 : decode cX3_readPlay 126 = .ok (.aload_n 0, 1) := by decide +kernel
theorem dX3_readPlay_127 : decode cX3_readPlay 127 = .ok (.getfield 44, 3) := by decide +kernel
theorem dX3_readPlay_130 : decode cX3_readPlay 130 = .ok (.dup, 1) := by decide +kernel
theorem dX3_readPlay_131 : decode cX3_readPlay 131 = .ok (.getfield 196, 3) := by decide +kernel
theorem dX3_readPlay_134 : decode cX3_readPlay 134 = .ok (.iconst 1, 1) := by decide +kernel
theorem dX3_readPlay_135 : decode cX3_readPlay 135 = .ok (.iadd, 1) := by decide +kernel
theorem dX3_readPlay_136 : decode cX3_readPlay 136 = .ok (.putfield 196, 3) := by decide +kernel
theorem dX3_readPlay_139 : decode cX3_readPlay 139 = .ok (.return_, 1) := by decide +kernel
theorem dX3_readLike_0 : decode cX3_readLike 0 = .ok (.aload_n 0, 1) := by decide +kernel
theorem dX3_readLike_1 : decode cX3_readLike 1 = .ok (.invokevirtual 59, 3) := by decide +kernel
theorem dX3_readLike_4 : decode cX3_readLike 4 = .ok (.aload_n 0, 1) := by decide +kernel
theorem dX3_readLike_5 : decode cX3_readLike 5 = .ok (.iconst 0, 1) := by decide +kernel
theorem dX3_readLike_6 : decode cX3_readLike 6 = .ok (.bipush 19, 2) := by decide +kernel
theorem dX3_readLike_8 : decode cX3_readLike 8 = .ok (.invokevirtual 140, 3) := by decide +kernel
theorem dX3_readLike_11 : decode cX3_readLike 11 = .ok (.istore_n 1, 1) := by decide +kernel
theorem dX3_readLike_12 : decode cX3_readLike 12 = .ok (.aload_n 0, 1) := by decide +kernel
theorem dX3_readLike_13 : decode cX3_readLike 13 = .ok (.iconst 0, 1) := by decide +kernel
theorem dX3_readLike_14 : decode cX3_readLike 14 = .ok (.bipush 19, 2) := by decide +kernel
theorem dX3_readLike_16 : decode cX3_readLike 16 = .ok (.invokevirtual 140, 3) := by decide +kernel
theorem dX3_readLike_19 : decode cX3_readLike 19 = .ok (.istore_n 2, 1) := by decide +kernel
theorem dX3_readLike_20 : decode cX3_readLike 20 = .ok (.aload_n 0, 1) := by decide +kernel
theorem dX3_readLike_21 : decode cX3_readLike 21 = .ok (.getfield 44, 3) := by decide +kernel
theorem dX3_readLike_24 : decode cX3_readLike 24 = .ok (.iload_n 1, 1) := by decide +kernel
theorem dX3_readLike_25 : decode cX3_readLike 25 = .ok (.iload_n 2, 1) := by decide +kernel
theorem dX3_readLike_26 : decode cX3_readLike 26 = .ok (.invokevirtual 208, 3) := by decide +kernel
theorem dX3_readLike_29 : decode cX3_readLike 29 = .ok (.iconst (-1), 1) := by decide +kernel
theorem dX3_readLike_30 : decode cX3_readLike 30 = .ok (.if_icmp .eq 12, 3) := by decide +kernel
theorem dX3_readLike_33 : decode cX3_readLike 33 = .ok (.aload_n 0, 1) := by decide +kernel
theorem dX3_readLike_34 : decode cX3_readLike 34 = .ok (.iconst 4, 1) := by decide +kernel
theorem dX3_readLike_35 : decode cX3_readLike 35 = .ok (.aload_n 0, 1) := by decide +kernel
theorem dX3_readLike_36 : decode cX3_readLike 36 = .ok (.getfield 27, 3) := by decide +kernel
theorem dX3_readLike_39 : decode cX3_readLike 39 = .ok (.invokevirtual 88, 3) := by decide +kernel
theorem dX3_readLike_42 : decode cX3_readLike 42 = .ok (.aload_n 0, 1) := by decide +kernel
theorem dX3_readLike_43 : decode cX3_readLike 43 = .ok (.iconst 0, 1) := by decide +kernel
theorem dX3_readLike_44 : decode cX3_readLike 44 = .ok (.bipush 99, 2) := by decide +kernel
theorem dX3_readLike_46 : decode cX3_readLike 46 = .ok (.invokevirtual 140, 3) := by decide +kernel
theorem dX3_readLike_49 : decode cX3_readLike 49 = .ok (.istore_n 3, 1) := by decide +kernel
theorem dX3_readLike_50 : decode cX3_readLike 50 = .ok (.aload_n 0, 1) := by decide +kernel
theorem dX3_readLike_51 : decode cX3_readLike 51 = .ok (.invokevirtual 145, 3) := by decide +kernel
theorem dX3_readLike_54 : decode cX3_readLike 54 = .ok (.ifCond .eq 20, 3) := by decide +kernel
theorem dX3_readLike_57 : decode cX3_readLike 57 = .ok (.aload_n 0, 1) := by decide +kernel
theorem dX3_readLike_58 : decode cX3_readLike 58 = .ok (.getfield 44, 3) := by decide +kernel
theorem dX3_readLike_61 : decode cX3_readLike 61 = .ok (.getfield 211, 3) := by decide +kernel
theorem dX3_readLike_64 : decode cX3_readLike 64 = .ok (.iload_n 1, 1) := by decide +kernel
theorem dX3_readLike_65 : decode cX3_readLike 65 = .ok (.bipush 20, 2) := by decide +kernel
theorem dX3_readLike_67 : decode cX3_readLike 67 = .ok (.imul, 1) := by decide +kernel
theorem dX3_readLike_68 : decode cX3_readLike 68 = .ok (.iload_n 2, 1) := by decide +kernel
theorem dX3_readLike_69 : decode cX3_readLike 69 = .ok (.iadd, 1) := by decide +kernel
theorem dX3_readLike_70 : decode cX3_readLike 70 = .ok (.iload_n 3, 1) := by decide +kernel
theorem dX3_readLike_71 : decode cX3_readLike 71 = .ok (.invokestatic 153, 3) := by decide +kernel
theorem dX3_readLike_74 : decode cX3_readLike 74 = .ok (.return_, 1) := by decide +kernel
theorem dX3_readTroupe_0 : decode cX3_readTroupe 0 = .ok (.aload_n 0, 1) := by decide +kernel
theorem dX3_readTroupe_1 : decode cX3_readTroupe 1 = .ok (.getfield 30, 3) := by decide +kernel
theorem dX3_readTroupe_4 : decode cX3_readTroupe 4 = .ok (.ifCond .eq 12, 3) := by decide +kernel
theorem dX3_readTroupe_7 : decode cX3_readTroupe 7 = .ok (.aload_n 0, 1) := by decide +kernel
theorem dX3_readTroupe_8 : decode cX3_readTroupe 8 = .ok (.iconst 5, 1) := by decide +kernel
theorem dX3_readTroupe_9 : decode cX3_readTroupe 9 = .ok (.aload_n 0, 1) := by decide +kernel
theorem dX3_readTroupe_10 : decode cX3_readTroupe 10 = .ok (.getfield 18, 3) := by decide +kernel
theorem dX3_readTroupe_13 : decode cX3_readTroupe 13 = .ok (.invokevirtual 88, 3) := by decide +kernel
theorem dX3_readTroupe_16 : decode cX3_readTroupe 16 = .ok (.aload_n 0, 1) := by decide +kernel
theorem dX3_readTroupe_17 : decode cX3_readTroupe 17 = .ok (.invokevirtual 59, 3) := by decide +kernel
theorem dX3_readTroupe_20 : decode cX3_readTroupe 20 = .ok (.aload_n 0, 1) := by decide +kernel
theorem dX3_readTroupe_21 : decode cX3_readTroupe 21 = .ok (.iconst 1, 1) := by decide +kernel
theorem dX3_readTroupe_22 : decode cX3_readTroupe 22 = .ok (.bipush 40, 2) := by decide +kernel
theorem dX3_readTroupe_24 : decode cX3_readTroupe 24 = .ok (.invokevirtual 140, 3) := by decide +kernel
theorem dX3_readTroupe_27 : decode cX3_readTroupe 27 = .ok (.istore_n 1, 1) := by decide +kernel
theorem dX3_readTroupe_28 : decode cX3_readTroupe 28 = .ok (.aload_n 0, 1) := by decide +kernel
theorem dX3_readTroupe_29 : decode cX3_readTroupe 29 = .ok (.invokevirtual 145, 3) := by decide +kernel
theorem dX3_readTroupe_32 : decode cX3_readTroupe 32 = .ok (.ifCond .eq 16, 3) := by decide +kernel
theorem dX3_readTroupe_35 : decode cX3_readTroupe 35 = .ok (.aload_n 0, 1) := by decide +kernel
theorem dX3_readTroupe_36 : decode cX3_readTroupe 36 = .ok (.getfield 44, 3) := by decide +kernel
theorem dX3_readTroupe_39 : decode cX3_readTroupe 39 = .ok (.iload_n 1, 1) := by decide +kernel
theorem dX3_readTroupe_40 : decode cX3_readTroupe 40 = .ok (.putfield 214, 3) := by decide +kernel
theorem dX3_readTroupe_43 : decode cX3_readTroupe 43 = .ok (.aload_n 0, 1) := by decide +kernel
theorem dX3_readTroupe_44 : decode cX3_readTroupe 44 = .ok (.iconst 1, 1) := by decide +kernel
theorem dX3_readTroupe_45 : decode cX3_readTroupe 45 = .ok (.putfield 30, 3) := by decide +kernel
theorem dX3_readTroupe_48 : decode cX3_readTroupe 48 = .ok (.return_, 1) := by decide +kernel
theorem dX4_init_0 : decode cX4_init 0 = .ok (.aload_n 0, 1) := by decide +kernel
theorem dX4_init_1 : decode cX4_init 1 = .ok (.invokespecial 3, 3) := by decide +kernel
theorem dX4_init_4 : decode cX4_init 4 = .ok (.aload_n 0, 1) := by decide +kernel
theorem dX4_init_5 : decode cX4_init 5 = .ok (.iconst 5, 1) := by decide +kernel
theorem dX4_init_6 : decode cX4_init 6 = .ok (.newarray .int, 2) := by decide +kernel
theorem dX4_init_8 : decode cX4_init 8 = .ok (.putfield 9, 3) := by decide +kernel
theorem dX4_init_11 : decode cX4_init 11 = .ok (.aload_n 0, 1) := by decide +kernel
theorem dX4_init_12 : decode cX4_init 12 = .ok (.iconst 5, 1) := by decide +kernel
theorem dX4_init_13 : decode cX4_init 13 = .ok (.newarray .int, 2) := by decide +kernel
theorem dX4_init_15 : decode cX4_init 15 = .ok (.putfield 15, 3) := by decide +kernel
theorem dX4_init_18 : decode cX4_init 18 = .ok (.aload_n 0, 1) := by decide +kernel
theorem dX4_init_19 : decode cX4_init 19 = .ok (.iconst 0, 1) := by decide +kernel
theorem dX4_init_20 : decode cX4_init 20 = .ok (.putfield 18, 3) := by decide +kernel
theorem dX4_init_23 : decode cX4_init 23 = .ok (.aload_n 0, 1) := by decide +kernel
theorem dX4_init_24 : decode cX4_init 24 = .ok (.iconst 0, 1) := by decide +kernel
theorem dX4_init_25 : decode cX4_init 25 = .ok (.putfield 22, 3) := by decide +kernel
theorem dX4_init_28 : decode cX4_init 28 = .ok (.aload_n 0, 1) := by decide +kernel
theorem dX4_init_29 : decode cX4_init 29 = .ok (.iconst 0, 1) := by decide +kernel
theorem dX4_init_30 : decode cX4_init 30 = .ok (.putfield 26, 3) := by decide +kernel
theorem dX4_init_33 : decode cX4_init 33 = .ok (.aload_n 0, 1) := by decide +kernel
theorem dX4_init_34 : decode cX4_init 34 = .ok (.iconst 0, 1) := by decide +kernel
theorem dX4_init_35 : decode cX4_init 35 = .ok (.putfield 29, 3) := by decide +kernel
theorem dX4_init_38 : decode cX4_init 38 = .ok (.aload_n 0, 1) := by decide +kernel
theorem dX4_init_39 : decode cX4_init 39 = .ok (.iconst 4, 1) := by decide +kernel
theorem dX4_init_40 : decode cX4_init 40 = .ok (.newarray .int, 2) := by decide +kernel
theorem dX4_init_42 : decode cX4_init 42 = .ok (.putfield 32, 3) := by decide +kernel
theorem dX4_init_45 : decode cX4_init 45 = .ok (.aload_n 0, 1) := by decide +kernel
theorem dX4_init_46 : decode cX4_init 46 = .ok (.iconst 4, 1) := by decide +kernel
theorem dX4_init_47 : decode cX4_init 47 = .ok (.newarray .int, 2) := by decide +kernel
theorem dX4_init_49 : decode cX4_init 49 = .ok (.putfield 35, 3) := by decide +kernel
theorem dX4_init_52 : decode cX4_init 52 = .ok (.aload_n 0, 1) := by decide +kernel
theorem dX4_init_53 : decode cX4_init 53 = .ok (.iconst 4, 1) := by decide +kernel
theorem dX4_init_54 : decode cX4_init 54 = .ok (.newarray .int, 2) := by decide +kernel
theorem dX4_init_56 : decode cX4_init 56 = .ok (.putfield 38, 3) := by decide +kernel
theorem dX4_init_59 : decode cX4_init 59 = .ok (.aload_n 0, 1) := by decide +kernel
theorem dX4_init_60 : decode cX4_init 60 = .ok (.iconst 3, 1) := by decide +kernel
theorem dX4_init_61 : decode cX4_init 61 = .ok (.newarray .int, 2) := by decide +kernel
theorem dX4_init_63 : decode cX4_init 63 = .ok (.putfield 41, 3) := by decide +kernel
theorem dX4_init_66 : decode cX4_init 66 = .ok (.aload_n 0, 1) := by decide +kernel
theorem dX4_init_67 : decode cX4_init 67 = .ok (.getfield 9, 3) := by decide +kernel
theorem dX4_init_70 : decode cX4_init 70 = .ok (.iconst (-1), 1) := by decide +kernel
theorem dX4_init_71 : decode cX4_init 71 = .ok (.invokestatic 44, 3) := by decide +kernel
theorem dX4_init_74 : decode cX4_init 74 = .ok (.return_, 1) := by decide +kernel
theorem dX4_begin_0 : decode cX4_begin 0 = .ok (.iconst 0, 1) := by decide +kernel
theorem dX4_begin_1 : decode cX4_begin 1 = .ok (.istore_n 2, 1) := by decide +kernel
theorem dX4_begin_2 : decode cX4_begin 2 = .ok (.iload_n 2, 1) := by decide +kernel
theorem dX4_begin_3 : decode cX4_begin 3 = .ok (.iconst 5, 1) := by decide +kernel
theorem dX4_begin_4 : decode cX4_begin 4 = .ok (.if_icmp .ge 35, 3) := by decide +kernel
theorem dX4_begin_7 : decode cX4_begin 7 = .ok (.aload_n 0, 1) := by decide +kernel
theorem dX4_begin_8 : decode cX4_begin 8 = .ok (.iload_n 2, 1) := by decide +kernel
theorem dX4_begin_9 : decode cX4_begin 9 = .ok (.iload_n 2, 1) := by decide +kernel
theorem dX4_begin_10 : decode cX4_begin 10 = .ok (.aload_n 1, 1) := by decide +kernel
theorem dX4_begin_11 : decode cX4_begin 11 = .ok (.getfield 50, 3) := by decide +kernel
theorem dX4_begin_14 : decode cX4_begin 14 = .ok (.if_icmp .ge 14, 3) := by decide +kernel
theorem dX4_begin_17 : decode cX4_begin 17 = .ok (.aload_n 1, 1) := by decide +kernel
theorem dX4_begin_18 : decode cX4_begin 18 = .ok (.getfield 55, 3) := by decide +kernel
theorem dX4_begin_21 : decode cX4_begin 21 = .ok (.iload_n 2, 1) := by decide +kernel
theorem dX4_begin_22 : decode cX4_begin 22 = .ok (.invokestatic 58, 3) := by decide +kernel
theorem dX4_begin_25 : decode cX4_begin 25 = .ok (.goto 4, 3) := by decide +kernel
theorem dX4_begin_28 : decode cX4_begin 28 = .ok (.iconst (-1), 1) := by decide +kernel
theorem dX4_begin_29 : decode cX4_begin 29 = .ok (.iconst 0, 1) := by decide +kernel
theorem dX4_begin_30 : decode cX4_begin 30 = .ok (.invokevirtual 62, 3) := by decide +kernel
theorem dX4_begin_33 : decode cX4_begin 33 = .ok (.iinc 2 1, 3) := by decide +kernel
theorem dX4_begin_36 : decode cX4_begin 36 = .ok (.goto (-34), 3) := by decide +kernel
theorem dX4_begin_39 : decode cX4_begin 39 = .ok (.aload_n 0, 1) := by decide +kernel
theorem dX4_begin_40 : decode cX4_begin 40 = .ok (.iconst 0, 1) := by decide +kernel
theorem dX4_begin_41 : decode cX4_begin 41 = .ok (.putfield 18, 3) := by decide +kernel
theorem dX4_begin_44 : decode cX4_begin 44 = .ok (.aload_n 0, 1) := by decide +kernel
theorem dX4_begin_45 : decode cX4_begin 45 = .ok (.iconst 0, 1) := by decide +kernel
theorem dX4_begin_46 : decode cX4_begin 46 = .ok (.putfield 22, 3) := by decide +kernel
theorem dX4_begin_49 : decode cX4_begin 49 = .ok (.aload_n 0, 1) := by decide +kernel
theorem dX4_begin_50 : decode cX4_begin 50 = .ok (.iconst 0, 1) := by decide +kernel
theorem dX4_begin_51 : decode cX4_begin 51 = .ok (.putfield 26, 3) := by decide +kernel
theorem dX4_begin_54 : decode cX4_begin 54 = .ok (.aload_n 0, 1) := by decide +kernel
theorem dX4_begin_55 : decode cX4_begin 55 = .ok (.iconst 0, 1) := by decide +kernel
theorem dX4_begin_56 : decode cX4_begin 56 = .ok (.putfield 29, 3) := by decide +kernel
theorem dX4_begin_59 : decode cX4_begin 59 = .ok (.return_, 1) := by decide +kernel
theorem dX4_takeFrom_0 : decode cX4_takeFrom 0 = .ok (.aload_n 1, 1) := by decide +kernel
theorem dX4_takeFrom_1 : decode cX4_takeFrom 1 = .ok (.getfield 9, 3) := by decide +kernel
theorem dX4_takeFrom_4 : decode cX4_takeFrom 4 = .ok (.aload_n 0, 1) := by decide +kernel
theorem dX4_takeFrom_5 : decode cX4_takeFrom 5 = .ok (.getfield 9, 3) := by decide +kernel
theorem dX4_takeFrom_8 : decode cX4_takeFrom 8 = .ok (.invokestatic 65, 3) := by decide +kernel
theorem dX4_takeFrom_11 : decode cX4_takeFrom 11 = .ok (.aload_n 1, 1) := by decide +kernel
theorem dX4_takeFrom_12 : decode cX4_takeFrom 12 = .ok (.getfield 15, 3) := by decide +kernel
theorem dX4_takeFrom_15 : decode cX4_takeFrom 15 = .ok (.aload_n 0, 1) := by decide +kernel
theorem dX4_takeFrom_16 : decode cX4_takeFrom 16 = .ok (.getfield 15, 3) := by decide +kernel
theorem dX4_takeFrom_19 : decode cX4_takeFrom 19 = .ok (.invokestatic 65, 3) := by decide +kernel
theorem dX4_takeFrom_22 : decode cX4_takeFrom 22 = .ok (.aload_n 0, 1) := by decide +kernel
theorem dX4_takeFrom_23 : decode cX4_takeFrom 23 = .ok (.aload_n 1, 1) := by decide +kernel
theorem dX4_takeFrom_24 : decode cX4_takeFrom 24 = .ok (.getfield 18, 3) := by decide +kernel
theorem dX4_takeFrom_27 : decode cX4_takeFrom 27 = .ok (.putfield 18, 3) := by decide +kernel
theorem dX4_takeFrom_30 : decode cX4_takeFrom 30 = .ok (.aload_n 0, 1) := by decide +kernel
theorem dX4_takeFrom_31 : decode cX4_takeFrom 31 = .ok (.aload_n 1, 1) := by decide +kernel
theorem dX4_takeFrom_32 : decode cX4_takeFrom 32 = .ok (.getfield 22, 3) := by decide +kernel
theorem dX4_takeFrom_35 : decode cX4_takeFrom 35 = .ok (.putfield 22, 3) := by decide +kernel
theorem dX4_takeFrom_38 : decode cX4_takeFrom 38 = .ok (.aload_n 0, 1) := by decide +kernel
theorem dX4_takeFrom_39 : decode cX4_takeFrom 39 = .ok (.aload_n 1, 1) := by decide +kernel
theorem dX4_takeFrom_40 : decode cX4_takeFrom 40 = .ok (.getfield 26, 3) := by decide +kernel
theorem dX4_takeFrom_43 : decode cX4_takeFrom 43 = .ok (.putfield 26, 3) := by decide +kernel
theorem dX4_takeFrom_46 : decode cX4_takeFrom 46 = .ok (.aload_n 0, 1) := by decide +kernel
theorem dX4_takeFrom_47 : decode cX4_takeFrom 47 = .ok (.aload_n 1, 1) := by decide +kernel
theorem dX4_takeFrom_48 : decode cX4_takeFrom 48 = .ok (.getfield 29, 3) := by decide +kernel
theorem dX4_takeFrom_51 : decode cX4_takeFrom 51 = .ok (.putfield 29, 3) := by decide +kernel
theorem dX4_takeFrom_54 : decode cX4_takeFrom 54 = .ok (.aload_n 1, 1) := by decide +kernel
theorem dX4_takeFrom_55 : decode cX4_takeFrom 55 = .ok (.getfield 32, 3) := by decide +kernel
theorem dX4_takeFrom_58 : decode cX4_takeFrom 58 = .ok (.aload_n 0, 1) := by decide +kernel
theorem dX4_takeFrom_59 : decode cX4_takeFrom 59 = .ok (.getfield 32, 3) := by decide +kernel
theorem dX4_takeFrom_62 : decode cX4_takeFrom 62 = .ok (.invokestatic 65, 3) := by decide +kernel
theorem dX4_takeFrom_65 : decode cX4_takeFrom 65 = .ok (.aload_n 1, 1) := by decide +kernel
theorem dX4_takeFrom_66 : decode cX4_takeFrom 66 = .ok (.getfield 35, 3) := by decide +kernel
theorem dX4_takeFrom_69 : decode cX4_takeFrom 69 = .ok (.aload_n 0, 1) := by decide +kernel
theorem dX4_takeFrom_70 : decode cX4_takeFrom 70 = .ok (.getfield 35, 3) := by decide +kernel
theorem dX4_takeFrom_73 : decode cX4_takeFrom 73 = .ok (.invokestatic 65, 3) := by decide +kernel
theorem dX4_takeFrom_76 : decode cX4_takeFrom 76 = .ok (.aload_n 1, 1) := by decide +kernel
theorem dX4_takeFrom_77 : decode cX4_takeFrom 77 = .ok (.getfield 38, 3) := by decide +kernel
theorem dX4_takeFrom_80 : decode cX4_takeFrom 80 = .ok (.aload_n 0, 1) := by decide +kernel
theorem dX4_takeFrom_81 : decode cX4_takeFrom 81 = .ok (.getfield 38, 3) := by decide +kernel
theorem dX4_takeFrom_84 : decode cX4_takeFrom 84 = .ok (.invokestatic 65, 3) := by decide +kernel
theorem dX4_takeFrom_87 : decode cX4_takeFrom 87 = .ok (.aload_n 1, 1) := by decide +kernel
theorem dX4_takeFrom_88 : decode cX4_takeFrom 88 = .ok (.getfield 41, 3) := by decide +kernel
theorem dX4_takeFrom_91 : decode cX4_takeFrom 91 = .ok (.aload_n 0, 1) := by decide +kernel
theorem dX4_takeFrom_92 : decode cX4_takeFrom 92 = .ok (.getfield 41, 3) := by decide +kernel
theorem dX4_takeFrom_95 : decode cX4_takeFrom 95 = .ok (.invokestatic 65, 3) := by decide +kernel
theorem dX4_takeFrom_98 : decode cX4_takeFrom 98 = .ok (.return_, 1) := by decide +kernel
theorem dX4_place_0 : decode cX4_place 0 = .ok (.aload_n 0, 1) := by decide +kernel
theorem dX4_place_1 : decode cX4_place 1 = .ok (.getfield 9, 3) := by decide +kernel
theorem dX4_place_4 : decode cX4_place 4 = .ok (.iload_n 1, 1) := by decide +kernel
theorem dX4_place_5 : decode cX4_place 5 = .ok (.iload_n 2, 1) := by decide +kernel
theorem dX4_place_6 : decode cX4_place 6 = .ok (.invokestatic 69, 3) := by decide +kernel
theorem dX4_place_9 : decode cX4_place 9 = .ok (.aload_n 0, 1) := by decide +kernel
theorem dX4_place_10 : decode cX4_place 10 = .ok (.getfield 15, 3) := by decide +kernel
theorem dX4_place_13 : decode cX4_place 13 = .ok (.iload_n 1, 1) := by decide +kernel
theorem dX4_place_14 : decode cX4_place 14 = .ok (.iload_n 3, 1) := by decide +kernel
theorem dX4_place_15 : decode cX4_place 15 = .ok (.invokestatic 69, 3) := by decide +kernel
theorem dX4_place_18 : decode cX4_place 18 = .ok (.return_, 1) := by decide +kernel
theorem dX4_isThere_0 : decode cX4_isThere 0 = .ok (.aload_n 0, 1) := by decide +kernel
theorem dX4_isThere_1 : decode cX4_isThere 1 = .ok (.getfield 15, 3) := by decide +kernel
theorem dX4_isThere_4 : decode cX4_isThere 4 = .ok (.iload_n 1, 1) := by decide +kernel
theorem dX4_isThere_5 : decode cX4_isThere 5 = .ok (.invokestatic 58, 3) := by decide +kernel
theorem dX4_isThere_8 : decode cX4_isThere 8 = .ok (.aload_n 0, 1) := by decide +kernel
theorem dX4_isThere_9 : decode cX4_isThere 9 = .ok (.getfield 18, 3) := by decide +kernel
theorem dX4_isThere_12 : decode cX4_isThere 12 = .ok (.if_icmp .gt 7, 3) := by decide +kernel
theorem dX4_isThere_15 : decode cX4_isThere 15 = .ok (.iconst 1, 1) := by decide +kernel
theorem dX4_isThere_16 : decode cX4_isThere 16 = .ok (.goto 4, 3) := by decide +kernel
theorem dX4_isThere_19 : decode cX4_isThere 19 = .ok (.iconst 0, 1) := by decide +kernel
theorem dX4_isThere_20 : decode cX4_isThere 20 = .ok (.ireturn, 1) := by decide +kernel
theorem dX4_trunksIn_0 : decode cX4_trunksIn 0 = .ok (.iconst 0, 1) := by decide +kernel
theorem dX4_trunksIn_1 : decode cX4_trunksIn 1 = .ok (.istore_n 2, 1) := by decide +kernel
theorem dX4_trunksIn_2 : decode cX4_trunksIn 2 = .ok (.iconst 0, 1) := by decide +kernel
theorem dX4_trunksIn_3 : decode cX4_trunksIn 3 = .ok (.istore_n 3, 1) := by decide +kernel
theorem dX4_trunksIn_4 : decode cX4_trunksIn 4 = .ok (.iload_n 3, 1) := by decide +kernel
theorem dX4_trunksIn_5 : decode cX4_trunksIn 5 = .ok (.iconst 5, 1) := by decide +kernel
theorem dX4_trunksIn_6 : decode cX4_trunksIn 6 = .ok (.if_icmp .ge 35, 3) := by decide +kernel
theorem dX4_trunksIn_9 : decode cX4_trunksIn 9 = .ok (.aload_n 0, 1) := by decide +kernel
theorem dX4_trunksIn_10 : decode cX4_trunksIn 10 = .ok (.getfield 9, 3) := by decide +kernel
theorem dX4_trunksIn_13 : decode cX4_trunksIn 13 = .ok (.iload_n 3, 1) := by decide +kernel
theorem dX4_trunksIn_14 : decode cX4_trunksIn 14 = .ok (.invokestatic 58, 3) := by decide +kernel
theorem dX4_trunksIn_17 : decode cX4_trunksIn 17 = .ok (.iload_n 1, 1) := by decide +kernel
theorem dX4_trunksIn_18 : decode cX4_trunksIn 18 = .ok (.if_icmp .ne 17, 3) := by decide +kernel
theorem dX4_trunksIn_21 : decode cX4_trunksIn 21 = .ok (.aload_n 0, 1) := by decide +kernel
theorem dX4_trunksIn_22 : decode cX4_trunksIn 22 = .ok (.iload_n 3, 1) := by decide +kernel
theorem dX4_trunksIn_23 : decode cX4_trunksIn 23 = .ok (.invokevirtual 73, 3) := by decide +kernel
theorem dX4_trunksIn_26 : decode cX4_trunksIn 26 = .ok (.ifCond .eq 9, 3) := by decide +kernel
theorem dX4_trunksIn_29 : decode cX4_trunksIn 29 = .ok (.iload_n 2, 1) := by decide +kernel
theorem dX4_trunksIn_30 : decode cX4_trunksIn 30 = .ok (.iconst 1, 1) := by decide +kernel
theorem dX4_trunksIn_31 : decode cX4_trunksIn 31 = .ok (.iload_n 3, 1) := by decide +kernel
theorem dX4_trunksIn_32 : decode cX4_trunksIn 32 = .ok (.ishl, 1) := by decide +kernel
theorem dX4_trunksIn_33 : decode cX4_trunksIn 33 = .ok (.ior, 1) := by decide +kernel
theorem dX4_trunksIn_34 : decode cX4_trunksIn 34 = .ok (.istore_n 2, 1) := by decide +kernel
theorem dX4_trunksIn_35 : decode cX4_trunksIn 35 = .ok (.iinc 3 1, 3) := by decide +kernel
theorem dX4_trunksIn_38 : decode cX4_trunksIn 38 = .ok (.goto (-34), 3) := by decide +kernel
theorem dX4_trunksIn_41 : decode cX4_trunksIn 41 = .ok (.iload_n 2, 1) := by decide +kernel
theorem dX4_trunksIn_42 : decode cX4_trunksIn 42 = .ok (.ireturn, 1) := by decide +kernel
theorem dX4_draw_0 : decode cX4_draw 0 = .ok (.aload_n 0, 1) := by decide +kernel
theorem dX4_draw_1 : decode cX4_draw 1 = .ok (.aload_n 0, 1) := by decide +kernel
theorem dX4_draw_2 : decode cX4_draw 2 = .ok (.getfield 26, 3) := by decide +kernel
theorem dX4_draw_5 : decode cX4_draw 5 = .ok (.ldc 77, 2) := by decide +kernel
theorem dX4_draw_7 : decode cX4_draw 7 = .ok (.imul, 1) := by decide +kernel
theorem dX4_draw_8 : decode cX4_draw 8 = .ok (.sipush 12345, 3) := by decide +kernel
theorem dX4_draw_11 : decode cX4_draw 11 = .ok (.iadd, 1) := by decide +kernel
theorem dX4_draw_12 : decode cX4_draw 12 = .ok (.putfield 26, 3) := by decide +kernel
theorem dX4_draw_15 : decode cX4_draw 15 = .ok (.iload_n 1, 1) := by decide +kernel
theorem dX4_draw_16 : decode cX4_draw 16 = .ok (.ifCond .le 19, 3) := by decide +kernel
theorem dX4_draw_19 : decode cX4_draw 19 = .ok (.aload_n 0, 1) := by decide +kernel
theorem dX4_draw_20 : decode cX4_draw 20 = .ok (.getfield 26, 3) := by decide +kernel
theorem dX4_draw_23 : decode cX4_draw 23 = .ok (.bipush 16, 2) := by decide +kernel
theorem dX4_draw_25 : decode cX4_draw 25 = .ok (.iushr, 1) := by decide +kernel
theorem dX4_draw_26 : decode cX4_draw 26 = .ok (.sipush 32767, 3) := by decide +kernel
theorem dX4_draw_29 : decode cX4_draw 29 = .ok (.iand, 1) := by decide +kernel
theorem dX4_draw_30 : decode cX4_draw 30 = .ok (.iload_n 1, 1) := by decide +kernel
theorem dX4_draw_31 : decode cX4_draw 31 = .ok (.irem, 1) := by decide +kernel
theorem dX4_draw_32 : decode cX4_draw 32 = .ok (.goto 4, 3) := by decide +kernel
theorem dX4_draw_35 : decode cX4_draw 35 = .ok (.iconst 0, 1) := by decide +kernel
theorem dX4_draw_36 : decode cX4_draw 36 = .ok (.ireturn, 1) := by decide +kernel
theorem dX4_addNight_0 : decode cX4_addNight 0 = .ok (.aload_n 0, 1) := by decide +kernel
theorem dX4_addNight_1 : decode cX4_addNight 1 = .ok (.getfield 29, 3) := by decide +kernel
theorem dX4_addNight_4 : decode cX4_addNight 4 = .ok (.ifCond .le 19, 3) := by decide +kernel
theorem dX4_addNight_7 : decode cX4_addNight 7 = .ok (.aload_n 0, 1) := by decide +kernel
theorem dX4_addNight_8 : decode cX4_addNight 8 = .ok (.getfield 32, 3) := by decide +kernel
theorem dX4_addNight_11 : decode cX4_addNight 11 = .ok (.aload_n 0, 1) := by decide +kernel
theorem dX4_addNight_12 : decode cX4_addNight 12 = .ok (.getfield 29, 3) := by decide +kernel
theorem dX4_addNight_15 : decode cX4_addNight 15 = .ok (.iconst 1, 1) := by decide +kernel
theorem dX4_addNight_16 : decode cX4_addNight 16 = .ok (.isub, 1) := by decide +kernel
theorem dX4_addNight_17 : decode cX4_addNight 17 = .ok (.invokestatic 58, 3) := by decide +kernel
theorem dX4_addNight_20 : decode cX4_addNight 20 = .ok (.goto 4, 3) := by decide +kernel
theorem dX4_addNight_23 : decode cX4_addNight 23 = .ok (.iconst 0, 1) := by decide +kernel
theorem dX4_addNight_24 : decode cX4_addNight 24 = .ok (.istore 4, 2) := by decide +kernel
theorem dX4_addNight_26 : decode cX4_addNight 26 = .ok (.aload_n 0, 1) := by decide +kernel
theorem dX4_addNight_27 : decode cX4_addNight 27 = .ok (.getfield 29, 3) := by decide +kernel
theorem dX4_addNight_30 : decode cX4_addNight 30 = .ok (.iconst 4, 1) := by decide +kernel
theorem dX4_addNight_31 : decode cX4_addNight 31 = .ok (.if_icmp .ge 15, 3) := by decide +kernel
theorem dX4_addNight_34 : decode cX4_addNight 34 = .ok (.iload_n 1, 1) := by decide +kernel
theorem dX4_addNight_35 : decode cX4_addNight 35 = .ok (.iload 4, 2) := by decide +kernel
theorem dX4_addNight_37 : decode cX4_addNight 37 = .ok (.if_icmp .lt 9, 3) := by decide +kernel
theorem dX4_addNight_40 : decode cX4_addNight 40 = .ok (.iload_n 1, 1) := by decide +kernel
theorem dX4_addNight_41 : decode cX4_addNight 41 = .ok (.bipush 99, 2) := by decide +kernel
theorem dX4_addNight_43 : decode cX4_addNight 43 = .ok (.if_icmp .le 5, 3) := by decide +kernel
theorem dX4_addNight_46 : decode cX4_addNight 46 = .ok (.iconst 0, 1) := by decide +kernel
theorem dX4_addNight_47 : decode cX4_addNight 47 = .ok (.ireturn, 1) := by decide +kernel
theorem dX4_addNight_48 : decode cX4_addNight 48 = .ok (.aload_n 0, 1) := by decide +kernel
theorem dX4_addNight_49 : decode cX4_addNight 49 = .ok (.getfield 32, 3) := by decide +kernel
theorem dX4_addNight_52 : decode cX4_addNight 52 = .ok (.aload_n 0, 1) := by decide +kernel
theorem dX4_addNight_53 : decode cX4_addNight 53 = .ok (.getfield 29, 3) := by decide +kernel
theorem dX4_addNight_56 : decode cX4_addNight 56 = .ok (.iload_n 1, 1) := by decide +kernel
theorem dX4_addNight_57 : decode cX4_addNight 57 = .ok (.invokestatic 69, 3) := by decide +kernel
theorem dX4_addNight_60 : decode cX4_addNight 60 = .ok (.aload_n 0, 1) := by decide +kernel
theorem dX4_addNight_61 : decode cX4_addNight 61 = .ok (.getfield 35, 3) := by decide +kernel
theorem dX4_addNight_64 : decode cX4_addNight 64 = .ok (.aload_n 0, 1) := by decide +kernel
theorem dX4_addNight_65 : decode cX4_addNight 65 = .ok (.getfield 29, 3) := by decide +kernel
theorem dX4_addNight_68 : decode cX4_addNight 68 = .ok (.iload_n 2, 1) := by decide +kernel
theorem dX4_addNight_69 : decode cX4_addNight 69 = .ok (.invokestatic 69, 3) := by decide +kernel
theorem dX4_addNight_72 : decode cX4_addNight 72 = .ok (.aload_n 0, 1) := by decide +kernel
theorem dX4_addNight_73 : decode cX4_addNight 73 = .ok (.getfield 38, 3) := by decide +kernel
theorem dX4_addNight_76 : decode cX4_addNight 76 = .ok (.aload_n 0, 1) := by decide +kernel
theorem dX4_addNight_77 : decode cX4_addNight 77 = .ok (.getfield 29, 3) := by decide +kernel
theorem dX4_addNight_80 : decode cX4_addNight 80 = .ok (.iload_n 3, 1) := by decide +kernel
theorem dX4_addNight_81 : decode cX4_addNight 81 = .ok (.invokestatic 69, 3) := by decide +kernel
theorem dX4_addNight_84 : decode cX4_addNight 84 = .ok (.aload_n 0, 1) := by decide +kernel
theorem dX4_addNight_85 : decode cX4_addNight 85 = .ok (.dup, 1) := by decide +kernel
theorem dX4_addNight_86 : decode cX4_addNight 86 = .ok (.getfield 29, 3) := by decide +kernel
theorem dX4_addNight_89 : decode cX4_addNight 89 = .ok (.iconst 1, 1) := by decide +kernel
theorem dX4_addNight_90 : decode cX4_addNight 90 = .ok (.iadd, 1) := by decide +kernel
theorem dX4_addNight_91 : decode cX4_addNight 91 = .ok (.putfield 29, 3) := by decide +kernel
theorem dX4_addNight_94 : decode cX4_addNight 94 = .ok (.iconst 1, 1) := by decide +kernel
theorem dX4_addNight_95 : decode cX4_addNight 95 = .ok (.ireturn, 1) := by decide +kernel
theorem dX4_refuse_0 : decode cX4_refuse 0 = .ok (.aload_n 0, 1) := by decide +kernel
theorem dX4_refuse_1 : decode cX4_refuse 1 = .ok (.getfield 41, 3) := by decide +kernel
theorem dX4_refuse_4 : decode cX4_refuse 4 = .ok (.iload_n 1, 1) := by decide +kernel
theorem dX4_refuse_5 : decode cX4_refuse 5 = .ok (.aload_n 0, 1) := by decide +kernel
theorem dX4_refuse_6 : decode cX4_refuse 6 = .ok (.getfield 41, 3) := by decide +kernel
theorem dX4_refuse_9 : decode cX4_refuse 9 = .ok (.iload_n 1, 1) := by decide +kernel
theorem dX4_refuse_10 : decode cX4_refuse 10 = .ok (.invokestatic 58, 3) := by decide +kernel
theorem dX4_refuse_13 : decode cX4_refuse 13 = .ok (.iconst 1, 1) := by decide +kernel
theorem dX4_refuse_14 : decode cX4_refuse 14 = .ok (.iadd, 1) := by decide +kernel
theorem dX4_refuse_15 : decode cX4_refuse 15 = .ok (.invokestatic 69, 3) := by decide +kernel
theorem dX4_refuse_18 : decode cX4_refuse 18 = .ok (.return_, 1) := by decide +kernel
theorem dX5_init_0 : decode cX5_init 0 = .ok (.aload_n 0, 1) := by decide +kernel
theorem dX5_init_1 : decode cX5_init 1 = .ok (.invokespecial 3, 3) := by decide +kernel
theorem dX5_init_4 : decode cX5_init 4 = .ok (.aload_n 0, 1) := by decide +kernel
theorem dX5_init_5 : decode cX5_init 5 = .ok (.iconst 5, 1) := by decide +kernel
theorem dX5_init_6 : decode cX5_init 6 = .ok (.newarray .int, 2) := by decide +kernel
theorem dX5_init_8 : decode cX5_init 8 = .ok (.putfield 9, 3) := by decide +kernel
theorem dX5_init_11 : decode cX5_init 11 = .ok (.aload_n 0, 1) := by decide +kernel
theorem dX5_init_12 : decode cX5_init 12 = .ok (.iconst 5, 1) := by decide +kernel
theorem dX5_init_13 : decode cX5_init 13 = .ok (.newarray .int, 2) := by decide +kernel
theorem dX5_init_15 : decode cX5_init 15 = .ok (.putfield 15, 3) := by decide +kernel
theorem dX5_init_18 : decode cX5_init 18 = .ok (.aload_n 0, 1) := by decide +kernel
theorem dX5_init_19 : decode cX5_init 19 = .ok (.iconst 5, 1) := by decide +kernel
theorem dX5_init_20 : decode cX5_init 20 = .ok (.newarray .int, 2) := by decide +kernel
theorem dX5_init_22 : decode cX5_init 22 = .ok (.putfield 18, 3) := by decide +kernel
theorem dX5_init_25 : decode cX5_init 25 = .ok (.aload_n 0, 1) := by decide +kernel
theorem dX5_init_26 : decode cX5_init 26 = .ok (.iconst 5, 1) := by decide +kernel
theorem dX5_init_27 : decode cX5_init 27 = .ok (.newarray .int, 2) := by decide +kernel
theorem dX5_init_29 : decode cX5_init 29 = .ok (.putfield 21, 3) := by decide +kernel
theorem dX5_init_32 : decode cX5_init 32 = .ok (.aload_n 0, 1) := by decide +kernel
theorem dX5_init_33 : decode cX5_init 33 = .ok (.bipush 25, 2) := by decide +kernel
theorem dX5_init_35 : decode cX5_init 35 = .ok (.newarray .int, 2) := by decide +kernel
theorem dX5_init_37 : decode cX5_init 37 = .ok (.putfield 24, 3) := by decide +kernel
theorem dX5_init_40 : decode cX5_init 40 = .ok (.aload_n 0, 1) := by decide +kernel
theorem dX5_init_41 : decode cX5_init 41 = .ok (.iconst 5, 1) := by decide +kernel
theorem dX5_init_42 : decode cX5_init 42 = .ok (.newarray .int, 2) := by decide +kernel
theorem dX5_init_44 : decode cX5_init 44 = .ok (.putfield 27, 3) := by decide +kernel
theorem dX5_init_47 : decode cX5_init 47 = .ok (.aload_n 0, 1) := by decide +kernel
theorem dX5_init_48 : decode cX5_init 48 = .ok (.bipush 10, 2) := by decide +kernel
theorem dX5_init_50 : decode cX5_init 50 = .ok (.newarray .int, 2) := by decide +kernel
theorem dX5_init_52 : decode cX5_init 52 = .ok (.putfield 30, 3) := by decide +kernel
theorem dX5_init_55 : decode cX5_init 55 = .ok (.aload_n 0, 1) := by decide +kernel
theorem dX5_init_56 : decode cX5_init 56 = .ok (.bipush 10, 2) := by decide +kernel
theorem dX5_init_58 : decode cX5_init 58 = .ok (.newarray .int, 2) := by decide +kernel
theorem dX5_init_60 : decode cX5_init 60 = .ok (.putfield 33, 3) := by decide +kernel
theorem dX5_init_63 : decode cX5_init 63 = .ok (.aload_n 0, 1) := by decide +kernel
theorem dX5_init_64 : decode cX5_init 64 = .ok (.iconst 4, 1) := by decide +kernel
theorem dX5_init_65 : decode cX5_init 65 = .ok (.newarray .int, 2) := by decide +kernel
theorem dX5_init_67 : decode cX5_init 67 = .ok (.putfield 36, 3) := by decide +kernel
theorem dX5_init_70 : decode cX5_init 70 = .ok (.aload_n 0, 1) := by decide +kernel
theorem dX5_init_71 : decode cX5_init 71 = .ok (.iconst 4, 1) := by decide +kernel
theorem dX5_init_72 : decode cX5_init 72 = .ok (.newarray .int, 2) := by decide +kernel
theorem dX5_init_74 : decode cX5_init 74 = .ok (.putfield 39, 3) := by decide +kernel
theorem dX5_init_77 : decode cX5_init 77 = .ok (.aload_n 0, 1) := by decide +kernel
theorem dX5_init_78 : decode cX5_init 78 = .ok (.bipush 16, 2) := by decide +kernel
theorem dX5_init_80 : decode cX5_init 80 = .ok (.newarray .int, 2) := by decide +kernel
theorem dX5_init_82 : decode cX5_init 82 = .ok (.putfield 42, 3) := by decide +kernel
theorem dX5_init_85 : decode cX5_init 85 = .ok (.aload_n 0, 1) := by decide +kernel
theorem dX5_init_86 : decode cX5_init 86 = .ok (.sipush 400, 3) := by decide +kernel
theorem dX5_init_89 : decode cX5_init 89 = .ok (.newarray .int, 2) := by decide +kernel
theorem dX5_init_91 : decode cX5_init 91 = .ok (.putfield 45, 3) := by decide +kernel
theorem dX5_init_94 : decode cX5_init 94 = .ok (.aload_n 0, 1) := by decide +kernel
theorem dX5_init_95 : decode cX5_init 95 = .ok (.invokevirtual 48, 3) := by decide +kernel
theorem dX5_init_98 : decode cX5_init 98 = .ok (.return_, 1) := by decide +kernel
theorem dX5_clear_0 : decode cX5_clear 0 = .ok (.aload_n 0, 1) := by decide +kernel
theorem dX5_clear_1 : decode cX5_clear 1 = .ok (.iconst 0, 1) := by decide +kernel
theorem dX5_clear_2 : decode cX5_clear 2 = .ok (.putfield 51, 3) := by decide +kernel
theorem dX5_clear_5 : decode cX5_clear 5 = .ok (.aload_n 0, 1) := by decide +kernel
theorem dX5_clear_6 : decode cX5_clear 6 = .ok (.iconst 0, 1) := by decide +kernel
theorem dX5_clear_7 : decode cX5_clear 7 = .ok (.putfield 55, 3) := by decide +kernel
theorem dX5_clear_10 : decode cX5_clear 10 = .ok (.aload_n 0, 1) := by decide +kernel
theorem dX5_clear_11 : decode cX5_clear 11 = .ok (.iconst 0, 1) := by decide +kernel
theorem dX5_clear_12 : decode cX5_clear 12 = .ok (.putfield 58, 3) := by decide +kernel
theorem dX5_clear_15 : decode cX5_clear 15 = .ok (.aload_n 0, 1) := by decide +kernel
theorem dX5_clear_16 : decode cX5_clear 16 = .ok (.iconst 0, 1) := by decide +kernel
theorem dX5_clear_17 : decode cX5_clear 17 = .ok (.putfield 61, 3) := by decide +kernel
theorem dX5_clear_20 : decode cX5_clear 20 = .ok (.aload_n 0, 1) := by decide +kernel
theorem dX5_clear_21 : decode cX5_clear 21 = .ok (.bipush 11, 2) := by decide +kernel
theorem dX5_clear_23 : decode cX5_clear 23 = .ok (.putfield 64, 3) := by decide +kernel
theorem dX5_clear_26 : decode cX5_clear 26 = .ok (.aload_n 0, 1) := by decide +kernel
theorem dX5_clear_27 : decode cX5_clear 27 = .ok (.getfield 24, 3) := by decide +kernel
theorem dX5_clear_30 : decode cX5_clear 30 = .ok (.iconst (-1), 1) := by decide +kernel
theorem dX5_clear_31 : decode cX5_clear 31 = .ok (.invokestatic 67, 3) := by decide +kernel
theorem dX5_clear_34 : decode cX5_clear 34 = .ok (.aload_n 0, 1) := by decide +kernel
theorem dX5_clear_35 : decode cX5_clear 35 = .ok (.getfield 45, 3) := by decide +kernel
theorem dX5_clear_38 : decode cX5_clear 38 = .ok (.iconst (-1), 1) := by decide +kernel
theorem dX5_clear_39 : decode cX5_clear 39 = .ok (.invokestatic 67, 3) := by decide +kernel
theorem dX5_clear_42 : decode cX5_clear 42 = .ok (.iconst 0, 1) := by decide +kernel
theorem dX5_clear_43 : decode cX5_clear 43 = .ok (.istore_n 1, 1) := by decide +kernel
theorem dX5_clear_44 : decode cX5_clear 44 = .ok (.iload_n 1, 1) := by decide +kernel
theorem dX5_clear_45 : decode cX5_clear 45 = .ok (.bipush 20, 2) := by decide +kernel
theorem dX5_clear_47 : decode cX5_clear 47 = .ok (.if_icmp .ge 23, 3) := by decide +kernel
theorem dX5_clear_50 : decode cX5_clear 50 = .ok (.aload_n 0, 1) := by decide +kernel
theorem dX5_clear_51 : decode cX5_clear 51 = .ok (.getfield 45, 3) := by decide +kernel
theorem dX5_clear_54 : decode cX5_clear 54 = .ok (.iload_n 1, 1) := by decide +kernel
theorem dX5_clear_55 : decode cX5_clear 55 = .ok (.bipush 20, 2) := by decide +kernel
theorem dX5_clear_57 : decode cX5_clear 57 = .ok (.imul, 1) := by decide +kernel
theorem dX5_clear_58 : decode cX5_clear 58 = .ok (.iload_n 1, 1) := by decide +kernel
theorem dX5_clear_59 : decode cX5_clear 59 = .ok (.iadd, 1) := by decide +kernel
theorem dX5_clear_60 : decode cX5_clear 60 = .ok (.iconst 0, 1) := by decide +kernel
theorem dX5_clear_61 : decode cX5_clear 61 = .ok (.invokestatic 73, 3) := by decide +kernel
theorem dX5_clear_64 : decode cX5_clear 64 = .ok (.iinc 1 1, 3) := by decide +kernel
theorem dX5_clear_67 : decode cX5_clear 67 = .ok (.goto (-23), 3) := by decide +kernel
theorem dX5_clear_70 : decode cX5_clear 70 = .ok (.return_, 1) := by decide +kernel
theorem dX5_takeFrom_0 : decode cX5_takeFrom 0 = .ok (.aload_n 0, 1) := by decide +kernel
theorem dX5_takeFrom_1 : decode cX5_takeFrom 1 = .ok (.aload_n 1, 1) := by decide +kernel
theorem dX5_takeFrom_2 : decode cX5_takeFrom 2 = .ok (.getfield 51, 3) := by decide +kernel
theorem dX5_takeFrom_5 : decode cX5_takeFrom 5 = .ok (.putfield 51, 3) := by decide +kernel
theorem dX5_takeFrom_8 : decode cX5_takeFrom 8 = .ok (.aload_n 0, 1) := by decide +kernel
theorem dX5_takeFrom_9 : decode cX5_takeFrom 9 = .ok (.aload_n 1, 1) := by decide +kernel
theorem dX5_takeFrom_10 : decode cX5_takeFrom 10 = .ok (.getfield 55, 3) := by decide +kernel
theorem dX5_takeFrom_13 : decode cX5_takeFrom 13 = .ok (.putfield 55, 3) := by decide +kernel
theorem dX5_takeFrom_16 : decode cX5_takeFrom 16 = .ok (.aload_n 0, 1) := by decide +kernel
theorem dX5_takeFrom_17 : decode cX5_takeFrom 17 = .ok (.aload_n 1, 1) := by decide +kernel
theorem dX5_takeFrom_18 : decode cX5_takeFrom 18 = .ok (.getfield 58, 3) := by decide +kernel
theorem dX5_takeFrom_21 : decode cX5_takeFrom 21 = .ok (.putfield 58, 3) := by decide +kernel
theorem dX5_takeFrom_24 : decode cX5_takeFrom 24 = .ok (.aload_n 0, 1) := by decide +kernel
theorem dX5_takeFrom_25 : decode cX5_takeFrom 25 = .ok (.aload_n 1, 1) := by decide +kernel
theorem dX5_takeFrom_26 : decode cX5_takeFrom 26 = .ok (.getfield 61, 3) := by decide +kernel
theorem dX5_takeFrom_29 : decode cX5_takeFrom 29 = .ok (.putfield 61, 3) := by decide +kernel
theorem dX5_takeFrom_32 : decode cX5_takeFrom 32 = .ok (.aload_n 0, 1) := by decide +kernel
theorem dX5_takeFrom_33 : decode cX5_takeFrom 33 = .ok (.aload_n 1, 1) := by decide +kernel
theorem dX5_takeFrom_34 : decode cX5_takeFrom 34 = .ok (.getfield 64, 3) := by decide +kernel
theorem dX5_takeFrom_37 : decode cX5_takeFrom 37 = .ok (.putfield 64, 3) := by decide +kernel
theorem dX5_takeFrom_40 : decode cX5_takeFrom 40 = .ok (.aload_n 1, 1) := by decide +kernel
theorem dX5_takeFrom_41 : decode cX5_takeFrom 41 = .ok (.getfield 9, 3) := by decide +kernel
theorem dX5_takeFrom_44 : decode cX5_takeFrom 44 = .ok (.aload_n 0, 1) := by decide +kernel
theorem dX5_takeFrom_45 : decode cX5_takeFrom 45 = .ok (.getfield 9, 3) := by decide +kernel
theorem dX5_takeFrom_48 : decode cX5_takeFrom 48 = .ok (.invokestatic 77, 3) := by decide +kernel
theorem dX5_takeFrom_51 : decode cX5_takeFrom 51 = .ok (.aload_n 1, 1) := by decide +kernel
theorem dX5_takeFrom_52 : decode cX5_takeFrom 52 = .ok (.getfield 15, 3) := by decide +kernel
theorem dX5_takeFrom_55 : decode cX5_takeFrom 55 = .ok (.aload_n 0, 1) := by decide +kernel
theorem dX5_takeFrom_56 : decode cX5_takeFrom 56 = .ok (.getfield 15, 3) := by decide +kernel
theorem dX5_takeFrom_59 : decode cX5_takeFrom 59 = .ok (.invokestatic 77, 3) := by decide +kernel
theorem dX5_takeFrom_62 : decode cX5_takeFrom 62 = .ok (.aload_n 1, 1) := by decide +kernel
theorem dX5_takeFrom_63 : decode cX5_takeFrom 63 = .ok (.getfield 18, 3) := by decide +kernel
theorem dX5_takeFrom_66 : decode cX5_takeFrom 66 = .ok (.aload_n 0, 1) := by decide +kernel
theorem dX5_takeFrom_67 : decode cX5_takeFrom 67 = .ok (.getfield 18, 3) := by decide +kernel
theorem dX5_takeFrom_70 : decode cX5_takeFrom 70 = .ok (.invokestatic 77, 3) := by decide +kernel
theorem dX5_takeFrom_73 : decode cX5_takeFrom 73 = .ok (.aload_n 1, 1) := by decide +kernel
theorem dX5_takeFrom_74 : decode cX5_takeFrom 74 = .ok (.getfield 21, 3) := by decide +kernel
theorem dX5_takeFrom_77 : decode cX5_takeFrom 77 = .ok (.aload_n 0, 1) := by decide +kernel
theorem dX5_takeFrom_78 : decode cX5_takeFrom 78 = .ok (.getfield 21, 3) := by decide +kernel
theorem dX5_takeFrom_81 : decode cX5_takeFrom 81 = .ok (.invokestatic 77, 3) := by decide +kernel
theorem dX5_takeFrom_84 : decode cX5_takeFrom 84 = .ok (.aload_n 1, 1) := by decide +kernel
theorem dX5_takeFrom_85 : decode cX5_takeFrom 85 = .ok (.getfield 24, 3) := by decide +kernel
theorem dX5_takeFrom_88 : decode cX5_takeFrom 88 = .ok (.aload_n 0, 1) := by decide +kernel
theorem dX5_takeFrom_89 : decode cX5_takeFrom 89 = .ok (.getfield 24, 3) := by decide +kernel
theorem dX5_takeFrom_92 : decode cX5_takeFrom 92 = .ok (.invokestatic 77, 3) := by decide +kernel
theorem dX5_takeFrom_95 : decode cX5_takeFrom 95 = .ok (.aload_n 1, 1) := by decide +kernel
theorem dX5_takeFrom_96 : decode cX5_takeFrom 96 = .ok (.getfield 27, 3) := by decide +kernel
theorem dX5_takeFrom_99 : decode cX5_takeFrom 99 = .ok (.aload_n 0, 1) := by decide +kernel
theorem dX5_takeFrom_100 : decode cX5_takeFrom 100 = .ok (.getfield 27, 3) := by decide +kernel
theorem dX5_takeFrom_103 : decode cX5_takeFrom 103 = .ok (.invokestatic 77, 3) := by decide +kernel
theorem dX5_takeFrom_106 : decode cX5_takeFrom 106 = .ok (.aload_n 1, 1) := by decide +kernel
theorem dX5_takeFrom_107 : decode cX5_takeFrom 107 = .ok (.getfield 30, 3) := by decide +kernel
theorem dX5_takeFrom_110 : decode cX5_takeFrom 110 = .ok (.aload_n 0, 1) := by decide +kernel
theorem dX5_takeFrom_111 : decode cX5_takeFrom 111 = .ok (.getfield 30, 3) := by decide +kernel
theorem dX5_takeFrom_114 : decode cX5_takeFrom 114 = .ok (.invokestatic 77, 3) := by decide +kernel
theorem dX5_takeFrom_117 : decode cX5_takeFrom 117 = .ok (.aload_n 1, 1) := by decide +kernel
theorem dX5_takeFrom_118 : decode cX5_takeFrom 118 = .ok (.getfield 33, 3) := by decide +kernel
theorem dX5_takeFrom_121 : decode cX5_takeFrom 121 = .ok (.aload_n 0, 1) := by decide +kernel
theorem dX5_takeFrom_122 : decode cX5_takeFrom 122 = .ok (.getfield 33, 3) := by decide +kernel
theorem dX5_takeFrom_125 : decode cX5_takeFrom 125 = .ok (.invokestatic 77, 3) := by decide +kernel
theorem dX5_takeFrom_128 : decode cX5_takeFrom 128 = .ok (.aload_n 1, 1) := by decide +kernel
theorem dX5_takeFrom_129 : decode cX5_takeFrom 129 = .ok (.getfield 36, 3) := by decide +kernel
theorem dX5_takeFrom_132 : decode cX5_takeFrom 132 = .ok (.aload_n 0, 1) := by decide +kernel
theorem dX5_takeFrom_133 : decode cX5_takeFrom 133 = .ok (.getfield 36, 3) := by decide +kernel
theorem dX5_takeFrom_136 : decode cX5_takeFrom 136 = .ok (.invokestatic 77, 3) := by decide +kernel
theorem dX5_takeFrom_139 : decode cX5_takeFrom 139 = .ok (.aload_n 1, 1) := by decide +kernel
theorem dX5_takeFrom_140 : decode cX5_takeFrom 140 = .ok (.getfield 39, 3) := by decide +kernel
theorem dX5_takeFrom_143 : decode cX5_takeFrom 143 = .ok (.aload_n 0, 1) := by decide +kernel
theorem dX5_takeFrom_144 : decode cX5_takeFrom 144 = .ok (.getfield 39, 3) := by decide +kernel
theorem dX5_takeFrom_147 : decode cX5_takeFrom 147 = .ok (.invokestatic 77, 3) := by decide +kernel
theorem dX5_takeFrom_150 : decode cX5_takeFrom 150 = .ok (.aload_n 1, 1) := by decide +kernel
theorem dX5_takeFrom_151 : decode cX5_takeFrom 151 = .ok (.getfield 42, 3) := by decide +kernel
theorem dX5_takeFrom_154 : decode cX5_takeFrom 154 = .ok (.aload_n 0, 1) := by decide +kernel
theorem dX5_takeFrom_155 : decode cX5_takeFrom 155 = .ok (.getfield 42, 3) := by decide +kernel
theorem dX5_takeFrom_158 : decode cX5_takeFrom 158 = .ok (.invokestatic 77, 3) := by decide +kernel
theorem dX5_takeFrom_161 : decode cX5_takeFrom 161 = .ok (.aload_n 1, 1) := by decide +kernel
theorem dX5_takeFrom_162 : decode cX5_takeFrom 162 = .ok (.getfield 45, 3) := by decide +kernel
theorem dX5_takeFrom_165 : decode cX5_takeFrom 165 = .ok (.aload_n 0, 1) := by decide +kernel
theorem dX5_takeFrom_166 : decode cX5_takeFrom 166 = .ok (.getfield 45, 3) := by decide +kernel
theorem dX5_takeFrom_169 : decode cX5_takeFrom 169 = .ok (.invokestatic 77, 3) := by decide +kernel
theorem dX5_takeFrom_172 : decode cX5_takeFrom 172 = .ok (.return_, 1) := by decide +kernel
theorem dX5_trainDays_0 : decode cX5_trainDays 0 = .ok (.aload_n 0, 1) := by decide +kernel
theorem dX5_trainDays_1 : decode cX5_trainDays 1 = .ok (.getfield 24, 3) := by decide +kernel
theorem dX5_trainDays_4 : decode cX5_trainDays 4 = .ok (.iload_n 1, 1) := by decide +kernel
theorem dX5_trainDays_5 : decode cX5_trainDays 5 = .ok (.iconst 5, 1) := by decide +kernel
theorem dX5_trainDays_6 : decode cX5_trainDays 6 = .ok (.imul, 1) := by decide +kernel
theorem dX5_trainDays_7 : decode cX5_trainDays 7 = .ok (.iload_n 2, 1) := by decide +kernel
theorem dX5_trainDays_8 : decode cX5_trainDays 8 = .ok (.iadd, 1) := by decide +kernel
theorem dX5_trainDays_9 : decode cX5_trainDays 9 = .ok (.invokestatic 81, 3) := by decide +kernel
theorem dX5_trainDays_12 : decode cX5_trainDays 12 = .ok (.ireturn, 1) := by decide +kernel
theorem dX5_needOf_0 : decode cX5_needOf 0 = .ok (.aload_n 0, 1) := by decide +kernel
theorem dX5_needOf_1 : decode cX5_needOf 1 = .ok (.getfield 42, 3) := by decide +kernel
theorem dX5_needOf_4 : decode cX5_needOf 4 = .ok (.iload_n 1, 1) := by decide +kernel
theorem dX5_needOf_5 : decode cX5_needOf 5 = .ok (.iconst 4, 1) := by decide +kernel
theorem dX5_needOf_6 : decode cX5_needOf 6 = .ok (.imul, 1) := by decide +kernel
theorem dX5_needOf_7 : decode cX5_needOf 7 = .ok (.iload_n 2, 1) := by decide +kernel
theorem dX5_needOf_8 : decode cX5_needOf 8 = .ok (.iadd, 1) := by decide +kernel
theorem dX5_needOf_9 : decode cX5_needOf 9 = .ok (.invokestatic 81, 3) := by decide +kernel
theorem dX5_needOf_12 : decode cX5_needOf 12 = .ok (.ireturn, 1) := by decide +kernel
theorem dX5_shameOf_0 : decode cX5_shameOf 0 = .ok (.aload_n 0, 1) := by decide +kernel
theorem dX5_shameOf_1 : decode cX5_shameOf 1 = .ok (.getfield 45, 3) := by decide +kernel
theorem dX5_shameOf_4 : decode cX5_shameOf 4 = .ok (.iload_n 1, 1) := by decide +kernel
theorem dX5_shameOf_5 : decode cX5_shameOf 5 = .ok (.bipush 20, 2) := by decide +kernel
theorem dX5_shameOf_7 : decode cX5_shameOf 7 = .ok (.imul, 1) := by decide +kernel
theorem dX5_shameOf_8 : decode cX5_shameOf 8 = .ok (.iload_n 2, 1) := by decide +kernel
theorem dX5_shameOf_9 : decode cX5_shameOf 9 = .ok (.iadd, 1) := by decide +kernel
theorem dX5_shameOf_10 : decode cX5_shameOf 10 = .ok (.invokestatic 81, 3) := by decide +kernel
theorem dX5_shameOf_13 : decode cX5_shameOf 13 = .ok (.ireturn, 1) := by decide +kernel
theorem dX5_thingsOf_0 : decode cX5_thingsOf 0 = .ok (.iconst 0, 1) := by decide +kernel
theorem dX5_thingsOf_1 : decode cX5_thingsOf 1 = .ok (.istore_n 2, 1) := by decide +kernel
theorem dX5_thingsOf_2 : decode cX5_thingsOf 2 = .ok (.iconst 0, 1) := by decide +kernel
theorem dX5_thingsOf_3 : decode cX5_thingsOf 3 = .ok (.istore_n 3, 1) := by decide +kernel
theorem dX5_thingsOf_4 : decode cX5_thingsOf 4 = .ok (.iload_n 3, 1) := by decide +kernel
theorem dX5_thingsOf_5 : decode cX5_thingsOf 5 = .ok (.aload_n 0, 1) := by decide +kernel
theorem dX5_thingsOf_6 : decode cX5_thingsOf 6 = .ok (.getfield 58, 3) := by decide +kernel
theorem dX5_thingsOf_9 : decode cX5_thingsOf 9 = .ok (.if_icmp .ge 30, 3) := by decide +kernel
theorem dX5_thingsOf_12 : decode cX5_thingsOf 12 = .ok (.iload_n 1, 1) := by decide +kernel
theorem dX5_thingsOf_13 : decode cX5_thingsOf 13 = .ok (.aload_n 0, 1) := by decide +kernel
theorem dX5_thingsOf_14 : decode cX5_thingsOf 14 = .ok (.getfield 33, 3) := by decide +kernel
theorem dX5_thingsOf_17 : decode cX5_thingsOf 17 = .ok (.iload_n 3, 1) := by decide +kernel
theorem dX5_thingsOf_18 : decode cX5_thingsOf 18 = .ok (.invokestatic 81, 3) := by decide +kernel
theorem dX5_thingsOf_21 : decode cX5_thingsOf 21 = .ok (.invokestatic 85, 3) := by decide +kernel
theorem dX5_thingsOf_24 : decode cX5_thingsOf 24 = .ok (.ifCond .eq 9, 3) := by decide +kernel
theorem dX5_thingsOf_27 : decode cX5_thingsOf 27 = .ok (.iload_n 2, 1) := by decide +kernel
theorem dX5_thingsOf_28 : decode cX5_thingsOf 28 = .ok (.iconst 1, 1) := by decide +kernel
theorem dX5_thingsOf_29 : decode cX5_thingsOf 29 = .ok (.iload_n 3, 1) := by decide +kernel
theorem dX5_thingsOf_30 : decode cX5_thingsOf 30 = .ok (.ishl, 1) := by decide +kernel
theorem dX5_thingsOf_31 : decode cX5_thingsOf 31 = .ok (.ior, 1) := by decide +kernel
theorem dX5_thingsOf_32 : decode cX5_thingsOf 32 = .ok (.istore_n 2, 1) := by decide +kernel
theorem dX5_thingsOf_33 : decode cX5_thingsOf 33 = .ok (.iinc 3 1, 3) := by decide +kernel
theorem dX5_thingsOf_36 : decode cX5_thingsOf 36 = .ok (.goto (-32), 3) := by decide +kernel
theorem dX5_thingsOf_39 : decode cX5_thingsOf 39 = .ok (.iload_n 2, 1) := by decide +kernel
theorem dX5_thingsOf_40 : decode cX5_thingsOf 40 = .ok (.ireturn, 1) := by decide +kernel
theorem dX6_init_0 : decode cX6_init 0 = .ok (.aload_n 0, 1) := by decide +kernel
theorem dX6_init_1 : decode cX6_init 1 = .ok (.invokespecial 3, 3) := by decide +kernel
theorem dX6_init_4 : decode cX6_init 4 = .ok (.aload_n 0, 1) := by decide +kernel
theorem dX6_init_5 : decode cX6_init 5 = .ok (.bipush 25, 2) := by decide +kernel
theorem dX6_init_7 : decode cX6_init 7 = .ok (.newarray .int, 2) := by decide +kernel
theorem dX6_init_9 : decode cX6_init 9 = .ok (.putfield 9, 3) := by decide +kernel
theorem dX6_init_12 : decode cX6_init 12 = .ok (.aload_n 0, 1) := by decide +kernel
theorem dX6_init_13 : decode cX6_init 13 = .ok (.iconst 5, 1) := by decide +kernel
theorem dX6_init_14 : decode cX6_init 14 = .ok (.newarray .int, 2) := by decide +kernel
theorem dX6_init_16 : decode cX6_init 16 = .ok (.putfield 15, 3) := by decide +kernel
theorem dX6_init_19 : decode cX6_init 19 = .ok (.aload_n 0, 1) := by decide +kernel
theorem dX6_init_20 : decode cX6_init 20 = .ok (.aload_n 1, 1) := by decide +kernel
theorem dX6_init_21 : decode cX6_init 21 = .ok (.putfield 18, 3) := by decide +kernel
theorem dX6_init_24 : decode cX6_init 24 = .ok (.aload_n 0, 1) := by decide +kernel
theorem dX6_init_25 : decode cX6_init 25 = .ok (.getfield 9, 3) := by decide +kernel
theorem dX6_init_28 : decode cX6_init 28 = .ok (.iconst (-1), 1) := by decide +kernel
theorem dX6_init_29 : decode cX6_init 29 = .ok (.invokestatic 22, 3) := by decide +kernel
theorem dX6_init_32 : decode cX6_init 32 = .ok (.return_, 1) := by decide +kernel
theorem dX6_measure_0 : decode cX6_measure 0 = .ok (.aload_n 0, 1) := by decide +kernel
theorem dX6_measure_1 : decode cX6_measure 1 = .ok (.getfield 18, 3) := by decide +kernel
theorem dX6_measure_4 : decode cX6_measure 4 = .ok (.getfield 28, 3) := by decide +kernel
theorem dX6_measure_7 : decode cX6_measure 7 = .ok (.aload_n 0, 1) := by decide +kernel
theorem dX6_measure_8 : decode cX6_measure 8 = .ok (.getfield 9, 3) := by decide +kernel
theorem dX6_measure_11 : decode cX6_measure 11 = .ok (.invokestatic 33, 3) := by decide +kernel
theorem dX6_measure_14 : decode cX6_measure 14 = .ok (.iconst 0, 1) := by decide +kernel
theorem dX6_measure_15 : decode cX6_measure 15 = .ok (.istore_n 1, 1) := by decide +kernel
theorem dX6_measure_16 : decode cX6_measure 16 = .ok (.iload_n 1, 1) := by decide +kernel
theorem dX6_measure_17 : decode cX6_measure 17 = .ok (.iconst 5, 1) := by decide +kernel
theorem dX6_measure_18 : decode cX6_measure 18 = .ok (.if_icmp .ge 22, 3) := by decide +kernel
theorem dX6_measure_21 : decode cX6_measure 21 = .ok (.aload_n 0, 1) := by decide +kernel
theorem dX6_measure_22 : decode cX6_measure 22 = .ok (.getfield 9, 3) := by decide +kernel
theorem dX6_measure_25 : decode cX6_measure 25 = .ok (.iload_n 1, 1) := by decide +kernel
theorem dX6_measure_26 : decode cX6_measure 26 = .ok (.iconst 5, 1) := by decide +kernel
theorem dX6_measure_27 : decode cX6_measure 27 = .ok (.imul, 1) := by decide +kernel
theorem dX6_measure_28 : decode cX6_measure 28 = .ok (.iload_n 1, 1) := by decide +kernel
theorem dX6_measure_29 : decode cX6_measure 29 = .ok (.iadd, 1) := by decide +kernel
theorem dX6_measure_30 : decode cX6_measure 30 = .ok (.iconst 0, 1) := by decide +kernel
theorem dX6_measure_31 : decode cX6_measure 31 = .ok (.invokestatic 37, 3) := by decide +kernel
theorem dX6_measure_34 : decode cX6_measure 34 = .ok (.iinc 1 1, 3) := by decide +kernel
theorem dX6_measure_37 : decode cX6_measure 37 = .ok (.goto (-21), 3) := by decide +kernel
theorem dX6_measure_40 : decode cX6_measure 40 = .ok (.iconst 0, 1) := by decide +kernel
theorem dX6_measure_41 : decode cX6_measure 41 = .ok (.istore_n 1, 1) := by decide +kernel
theorem dX6_measure_42 : decode cX6_measure 42 = .ok (.iload_n 1, 1) := by decide +kernel
theorem dX6_measure_43 : decode cX6_measure 43 = .ok (.iconst 5, 1) := by decide +kernel
theorem dX6_measure_44 : decode cX6_measure 44 = .ok (.if_icmp .ge 80, 3) := by decide +kernel
theorem dX6_measure_47 : decode cX6_measure 47 = .ok (.iconst 0, 1) := by decide +kernel
theorem dX6_measure_48 : decode cX6_measure 48 = .ok (.istore_n 2, 1) := by decide +kernel
theorem dX6_measure_49 : decode cX6_measure 49 = .ok (.iload_n 2, 1) := by decide +kernel
theorem dX6_measure_50 : decode cX6_measure 50 = .ok (.iconst 5, 1) := by decide +kernel
theorem dX6_measure_51 : decode cX6_measure 51 = .ok (.if_icmp .ge 67, 3) := by decide +kernel
theorem dX6_measure_54 : decode cX6_measure 54 = .ok (.iconst 0, 1) := by decide +kernel
theorem dX6_measure_55 : decode cX6_measure 55 = .ok (.istore_n 3, 1) := by decide +kernel
theorem dX6_measure_56 : decode cX6_measure 56 = .ok (.iload_n 3, 1) := by decide +kernel
theorem dX6_measure_57 : decode cX6_measure 57 = .ok (.iconst 5, 1) := by decide +kernel
theorem dX6_measure_58 : decode cX6_measure 58 = .ok (.if_icmp .ge 54, 3) := by decide +kernel
theorem dX6_measure_61 : decode cX6_measure 61 = .ok (.aload_n 0, 1) := by decide +kernel
theorem dX6_measure_62 : decode cX6_measure 62 = .ok (.iload_n 2, 1) := by decide +kernel
theorem dX6_measure_63 : decode cX6_measure 63 = .ok (.iload_n 1, 1) := by decide +kernel
theorem dX6_measure_64 : decode cX6_measure 64 = .ok (.invokevirtual 41, 3) := by decide +kernel
theorem dX6_measure_67 : decode cX6_measure 67 = .ok (.aload_n 0, 1) := by decide +kernel
theorem dX6_measure_68 : decode cX6_measure 68 = .ok (.iload_n 1, 1) := by decide +kernel
theorem dX6_measure_69 : decode cX6_measure 69 = .ok (.iload_n 3, 1) := by decide +kernel
theorem dX6_measure_70 : decode cX6_measure 70 = .ok (.invokevirtual 41, 3) := by decide +kernel
theorem dX6_measure_73 : decode cX6_measure 73 = .ok (.invokestatic 45, 3) := by decide +kernel
theorem dX6_measure_76 : decode cX6_measure 76 = .ok (.istore 4, 2) := by decide +kernel
theorem dX6_measure_78 : decode cX6_measure 78 = .ok (.iload 4, 2) := by decide +kernel
theorem dX6_measure_80 : decode cX6_measure 80 = .ok (.aload_n 0, 1) := by decide +kernel
theorem dX6_measure_81 : decode cX6_measure 81 = .ok (.iload_n 2, 1) := by decide +kernel
theorem dX6_measure_82 : decode cX6_measure 82 = .ok (.iload_n 3, 1) := by decide +kernel
theorem dX6_measure_83 : decode cX6_measure 83 = .ok (.invokevirtual 41, 3) := by decide +kernel
theorem dX6_measure_86 : decode cX6_measure 86 = .ok (.invokestatic 48, 3) := by decide +kernel
theorem dX6_measure_89 : decode cX6_measure 89 = .ok (.ifCond .eq 17, 3) := by decide +kernel
theorem dX6_measure_92 : decode cX6_measure 92 = .ok (.aload_n 0, 1) := by decide +kernel
theorem dX6_measure_93 : decode cX6_measure 93 = .ok (.getfield 9, 3) := by decide +kernel
theorem dX6_measure_96 : decode cX6_measure 96 = .ok (.iload_n 2, 1) := by decide +kernel
theorem dX6_measure_97 : decode cX6_measure 97 = .ok (.iconst 5, 1) := by decide +kernel
theorem dX6_measure_98 : decode cX6_measure 98 = .ok (.imul, 1) := by decide +kernel
theorem dX6_measure_99 : decode cX6_measure 99 = .ok (.iload_n 3, 1) := by decide +kernel
theorem dX6_measure_100 : decode cX6_measure 100 = .ok (.iadd, 1) := by decide +kernel
theorem dX6_measure_101 : decode cX6_measure 101 = .ok (.iload 4, 2) := by decide +kernel
theorem dX6_measure_103 : decode cX6_measure 103 = .ok (.invokestatic 37, 3) := by decide +kernel
theorem dX6_measure_106 : decode cX6_measure 106 = .ok (.iinc 3 1, 3) := by decide +kernel
theorem dX6_measure_109 : decode cX6_measure 109 = .ok (.goto (-53), 3) := by decide +kernel
theorem dX6_measure_112 : decode cX6_measure 112 = .ok (.iinc 2 1, 3) := by decide +kernel
theorem dX6_measure_115 : decode cX6_measure 115 = .ok (.goto (-66), 3) := by decide +kernel
theorem dX6_measure_118 : decode cX6_measure 118 = .ok (.iinc 1 1, 3) := by decide +kernel
theorem dX6_measure_121 : decode cX6_measure 121 = .ok (.goto (-79), 3) := by decide +kernel
theorem dX6_measure_124 : decode cX6_measure 124 = .ok (.return_, 1) := by decide +kernel
theorem dX6_joined_0 : decode cX6_joined 0 = .ok (.iload_n 0, 1) := by decide +kernel
theorem dX6_joined_1 : decode cX6_joined 1 = .ok (.iconst (-1), 1) := by decide +kernel
theorem dX6_joined_2 : decode cX6_joined 2 = .ok (.if_icmp .eq 8, 3) := by decide +kernel
theorem dX6_joined_5 : decode cX6_joined 5 = .ok (.iload_n 1, 1) := by decide +kernel
theorem dX6_joined_6 : decode cX6_joined 6 = .ok (.iconst (-1), 1) := by decide +kernel
theorem dX6_joined_7 : decode cX6_joined 7 = .ok (.if_icmp .ne 7, 3) := by decide +kernel
theorem dX6_joined_10 : decode cX6_joined 10 = .ok (.iconst (-1), 1) := by decide +kernel
theorem dX6_joined_11 : decode cX6_joined 11 = .ok (.goto 6, 3) := by decide +kernel
theorem dX6_joined_14 : decode cX6_joined 14 = .ok (.iload_n 0, 1) := by decide +kernel
theorem dX6_joined_15 : decode cX6_joined 15 = .ok (.iload_n 1, 1) := by decide +kernel
theorem dX6_joined_16 : decode cX6_joined 16 = .ok (.iadd, 1) := by decide +kernel
theorem dX6_joined_17 : decode cX6_joined 17 = .ok (.ireturn, 1) := by decide +kernel
theorem dX6_span_0 : decode cX6_span 0 = .ok (.aload_n 0, 1) := by decide +kernel
theorem dX6_span_1 : decode cX6_span 1 = .ok (.getfield 9, 3) := by decide +kernel
theorem dX6_span_4 : decode cX6_span 4 = .ok (.iload_n 1, 1) := by decide +kernel
theorem dX6_span_5 : decode cX6_span 5 = .ok (.iconst 5, 1) := by decide +kernel
theorem dX6_span_6 : decode cX6_span 6 = .ok (.imul, 1) := by decide +kernel
theorem dX6_span_7 : decode cX6_span 7 = .ok (.iload_n 2, 1) := by decide +kernel
theorem dX6_span_8 : decode cX6_span 8 = .ok (.iadd, 1) := by decide +kernel
theorem dX6_span_9 : decode cX6_span 9 = .ok (.invokestatic 52, 3) := by decide +kernel
theorem dX6_span_12 : decode cX6_span 12 = .ok (.ireturn, 1) := by decide +kernel
theorem dX6_lay_0 : decode cX6_lay 0 = .ok (.aload_n 0, 1) := by decide +kernel
theorem dX6_lay_1 : decode cX6_lay 1 = .ok (.iload_n 1, 1) := by decide +kernel
theorem dX6_lay_2 : decode cX6_lay 2 = .ok (.iload_n 2, 1) := by decide +kernel
theorem dX6_lay_3 : decode cX6_lay 3 = .ok (.invokevirtual 41, 3) := by decide +kernel
theorem dX6_lay_6 : decode cX6_lay 6 = .ok (.iconst (-1), 1) := by decide +kernel
theorem dX6_lay_7 : decode cX6_lay 7 = .ok (.if_icmp .ne 5, 3) := by decide +kernel
theorem dX6_lay_10 : decode cX6_lay 10 = .ok (.iconst (-1), 1) := by decide +kernel
theorem dX6_lay_11 : decode cX6_lay 11 = .ok (.ireturn, 1) := by decide +kernel
theorem dX6_lay_12 : decode cX6_lay 12 = .ok (.aload_n 0, 1) := by decide +kernel
theorem dX6_lay_13 : decode cX6_lay 13 = .ok (.getfield 15, 3) := by decide +kernel
theorem dX6_lay_16 : decode cX6_lay 16 = .ok (.iconst 0, 1) := by decide +kernel
theorem dX6_lay_17 : decode cX6_lay 17 = .ok (.iload_n 1, 1) := by decide +kernel
theorem dX6_lay_18 : decode cX6_lay 18 = .ok (.invokestatic 37, 3) := by decide +kernel
theorem dX6_lay_21 : decode cX6_lay 21 = .ok (.iload_n 1, 1) := by decide +kernel
theorem dX6_lay_22 : decode cX6_lay 22 = .ok (.istore_n 3, 1) := by decide +kernel
theorem dX6_lay_23 : decode cX6_lay 23 = .ok (.iconst 0, 1) := by decide +kernel
theorem dX6_lay_24 : decode cX6_lay 24 = .ok (.istore 4, 2) := by decide +kernel
theorem dX6_lay_26 : decode cX6_lay 26 = .ok (.iload_n 3, 1) := by decide +kernel
theorem dX6_lay_27 : decode cX6_lay 27 = .ok (.iload_n 2, 1) := by decide +kernel
theorem dX6_lay_28 : decode cX6_lay 28 = .ok (.if_icmp .eq 32, 3) := by decide +kernel
theorem dX6_lay_31 : decode cX6_lay 31 = .ok (.iload 4, 2) := by decide +kernel
theorem dX6_lay_33 : decode cX6_lay 33 = .ok (.iconst 4, 1) := by decide +kernel
theorem dX6_lay_34 : decode cX6_lay 34 = .ok (.if_icmp .ge 26, 3) := by decide +kernel
theorem dX6_lay_37 : decode cX6_lay 37 = .ok (.aload_n 0, 1) := by decide +kernel
theorem dX6_lay_38 : decode cX6_lay 38 = .ok (.iload_n 3, 1) := by decide +kernel
theorem dX6_lay_39 : decode cX6_lay 39 = .ok (.iload_n 2, 1) := by decide +kernel
theorem dX6_lay_40 : decode cX6_lay 40 = .ok (.invokevirtual 56, 3) := by decide +kernel
theorem dX6_lay_43 : decode cX6_lay 43 = .ok (.istore_n 3, 1) := by decide +kernel
theorem dX6_lay_44 : decode cX6_lay 44 = .ok (.iinc 4 1, 3) := by decide +kernel
theorem dX6_lay_47 : decode cX6_lay 47 = .ok (.aload_n 0, 1) := by decide +kernel
theorem dX6_lay_48 : decode cX6_lay 48 = .ok (.getfield 15, 3) := by decide +kernel
theorem dX6_lay_51 : decode cX6_lay 51 = .ok (.iload 4, 2) := by decide +kernel
theorem dX6_lay_53 : decode cX6_lay 53 = .ok (.iload_n 3, 1) := by decide +kernel
theorem dX6_lay_54 : decode cX6_lay 54 = .ok (.invokestatic 37, 3) := by decide +kernel
theorem dX6_lay_57 : decode cX6_lay 57 = .ok (.goto (-31), 3) := by decide +kernel
theorem dX6_lay_60 : decode cX6_lay 60 = .ok (.iload 4, 2) := by decide +kernel
theorem dX6_lay_62 : decode cX6_lay 62 = .ok (.ireturn, 1) := by decide +kernel
theorem dX6_nextStop_0 : decode cX6_nextStop 0 = .ok (.iconst 0, 1) := by decide +kernel
theorem dX6_nextStop_1 : decode cX6_nextStop 1 = .ok (.istore_n 3, 1) := by decide +kernel
theorem dX6_nextStop_2 : decode cX6_nextStop 2 = .ok (.iload_n 3, 1) := by decide +kernel
theorem dX6_nextStop_3 : decode cX6_nextStop 3 = .ok (.aload_n 0, 1) := by decide +kernel
theorem dX6_nextStop_4 : decode cX6_nextStop 4 = .ok (.getfield 18, 3) := by decide +kernel
theorem dX6_nextStop_7 : decode cX6_nextStop 7 = .ok (.getfield 59, 3) := by decide +kernel
theorem dX6_nextStop_10 : decode cX6_nextStop 10 = .ok (.if_icmp .ge 48, 3) := by decide +kernel
theorem dX6_nextStop_13 : decode cX6_nextStop 13 = .ok (.aload_n 0, 1) := by decide +kernel
theorem dX6_nextStop_14 : decode cX6_nextStop 14 = .ok (.getfield 18, 3) := by decide +kernel
theorem dX6_nextStop_17 : decode cX6_nextStop 17 = .ok (.iload_n 1, 1) := by decide +kernel
theorem dX6_nextStop_18 : decode cX6_nextStop 18 = .ok (.iload_n 3, 1) := by decide +kernel
theorem dX6_nextStop_19 : decode cX6_nextStop 19 = .ok (.invokevirtual 63, 3) := by decide +kernel
theorem dX6_nextStop_22 : decode cX6_nextStop 22 = .ok (.aload_n 0, 1) := by decide +kernel
theorem dX6_nextStop_23 : decode cX6_nextStop 23 = .ok (.iload_n 3, 1) := by decide +kernel
theorem dX6_nextStop_24 : decode cX6_nextStop 24 = .ok (.iload_n 2, 1) := by decide +kernel
theorem dX6_nextStop_25 : decode cX6_nextStop 25 = .ok (.invokevirtual 41, 3) := by decide +kernel
theorem dX6_nextStop_28 : decode cX6_nextStop 28 = .ok (.invokestatic 45, 3) := by decide +kernel
theorem dX6_nextStop_31 : decode cX6_nextStop 31 = .ok (.istore 4, 2) := by decide +kernel
theorem dX6_nextStop_33 : decode cX6_nextStop 33 = .ok (.iload 4, 2) := by decide +kernel
theorem dX6_nextStop_35 : decode cX6_nextStop 35 = .ok (.iconst (-1), 1) := by decide +kernel
theorem dX6_nextStop_36 : decode cX6_nextStop 36 = .ok (.if_icmp .eq 16, 3) := by decide +kernel
theorem dX6_nextStop_39 : decode cX6_nextStop 39 = .ok (.iload 4, 2) := by decide +kernel
theorem dX6_nextStop_41 : decode cX6_nextStop 41 = .ok (.aload_n 0, 1) := by decide +kernel
theorem dX6_nextStop_42 : decode cX6_nextStop 42 = .ok (.iload_n 1, 1) := by decide +kernel
theorem dX6_nextStop_43 : decode cX6_nextStop 43 = .ok (.iload_n 2, 1) := by decide +kernel
theorem dX6_nextStop_44 : decode cX6_nextStop 44 = .ok (.invokevirtual 41, 3) := by decide +kernel
theorem dX6_nextStop_47 : decode cX6_nextStop 47 = .ok (.if_icmp .ne 5, 3) := by decide +kernel
theorem dX6_nextStop_50 : decode cX6_nextStop 50 = .ok (.iload_n 3, 1) := by decide +kernel
theorem dX6_nextStop_51 : decode cX6_nextStop 51 = .ok (.ireturn, 1) := by decide +kernel
theorem dX6_nextStop_52 : decode cX6_nextStop 52 = .ok (.iinc 3 1, 3) := by decide +kernel
theorem dX6_nextStop_55 : decode cX6_nextStop 55 = .ok (.goto (-53), 3) := by decide +kernel
theorem dX6_nextStop_58 : decode cX6_nextStop 58 = .ok (.iload_n 2, 1) := by decide +kernel
theorem dX6_nextStop_59 : decode cX6_nextStop 59 = .ok (.ireturn, 1) := by decide +kernel
theorem dX6_stop_0 : decode cX6_stop 0 = .ok (.aload_n 0, 1) := by decide +kernel
theorem dX6_stop_1 : decode cX6_stop 1 = .ok (.getfield 15, 3) := by decide +kernel
theorem dX6_stop_4 : decode cX6_stop 4 = .ok (.iload_n 1, 1) := by decide +kernel
theorem dX6_stop_5 : decode cX6_stop 5 = .ok (.invokestatic 52, 3) := by decide +kernel
theorem dX6_stop_8 : decode cX6_stop 8 = .ok (.ireturn, 1) := by decide +kernel
theorem dX6_elsewhere_0 : decode cX6_elsewhere 0 = .ok (.iconst 0, 1) := by decide +kernel
theorem dX6_elsewhere_1 : decode cX6_elsewhere 1 = .ok (.istore_n 3, 1) := by decide +kernel
theorem dX6_elsewhere_2 : decode cX6_elsewhere 2 = .ok (.iload_n 3, 1) := by decide +kernel
theorem dX6_elsewhere_3 : decode cX6_elsewhere 3 = .ok (.aload_n 0, 1) := by decide +kernel
theorem dX6_elsewhere_4 : decode cX6_elsewhere 4 = .ok (.getfield 18, 3) := by decide +kernel
theorem dX6_elsewhere_7 : decode cX6_elsewhere 7 = .ok (.getfield 59, 3) := by decide +kernel
theorem dX6_elsewhere_10 : decode cX6_elsewhere 10 = .ok (.if_icmp .ge 29, 3) := by decide +kernel
theorem dX6_elsewhere_13 : decode cX6_elsewhere 13 = .ok (.iload_n 3, 1) := by decide +kernel
theorem dX6_elsewhere_14 : decode cX6_elsewhere 14 = .ok (.iload_n 2, 1) := by decide +kernel
theorem dX6_elsewhere_15 : decode cX6_elsewhere 15 = .ok (.if_icmp .eq 18, 3) := by decide +kernel
theorem dX6_elsewhere_18 : decode cX6_elsewhere 18 = .ok (.aload_n 0, 1) := by decide +kernel
theorem dX6_elsewhere_19 : decode cX6_elsewhere 19 = .ok (.getfield 18, 3) := by decide +kernel
theorem dX6_elsewhere_22 : decode cX6_elsewhere 22 = .ok (.iload_n 1, 1) := by decide +kernel
theorem dX6_elsewhere_23 : decode cX6_elsewhere 23 = .ok (.iload_n 3, 1) := by decide +kernel
theorem dX6_elsewhere_24 : decode cX6_elsewhere 24 = .ok (.invokevirtual 63, 3) := by decide +kernel
theorem dX6_elsewhere_27 : decode cX6_elsewhere 27 = .ok (.iconst (-1), 1) := by decide +kernel
theorem dX6_elsewhere_28 : decode cX6_elsewhere 28 = .ok (.if_icmp .eq 5, 3) := by decide +kernel
theorem dX6_elsewhere_31 : decode cX6_elsewhere 31 = .ok (.iload_n 3, 1) := by decide +kernel
theorem dX6_elsewhere_32 : decode cX6_elsewhere 32 = .ok (.ireturn, 1) := by decide +kernel
theorem dX6_elsewhere_33 : decode cX6_elsewhere 33 = .ok (.iinc 3 1, 3) := by decide +kernel
theorem dX6_elsewhere_36 : decode cX6_elsewhere 36 = .ok (.goto (-34), 3) := by decide +kernel
theorem dX6_elsewhere_39 : decode cX6_elsewhere 39 = .ok (.iconst (-1), 1) := by decide +kernel
theorem dX6_elsewhere_40 : decode cX6_elsewhere 40 = .ok (.ireturn, 1) := by decide +kernel
theorem dX6_loses_0 : decode cX6_loses 0 = .ok (.aload_n 0, 1) := by decide +kernel
theorem dX6_loses_1 : decode cX6_loses 1 = .ok (.iload_n 1, 1) := by decide +kernel
theorem dX6_loses_2 : decode cX6_loses 2 = .ok (.invokevirtual 66, 3) := by decide +kernel
theorem dX6_loses_5 : decode cX6_loses 5 = .ok (.istore_n 2, 1) := by decide +kernel
theorem dX6_loses_6 : decode cX6_loses 6 = .ok (.aload_n 0, 1) := by decide +kernel
theorem dX6_loses_7 : decode cX6_loses 7 = .ok (.getfield 18, 3) := by decide +kernel
theorem dX6_loses_10 : decode cX6_loses 10 = .ok (.getfield 70, 3) := by decide +kernel
theorem dX6_loses_13 : decode cX6_loses 13 = .ok (.iload_n 2, 1) := by decide +kernel
theorem dX6_loses_14 : decode cX6_loses 14 = .ok (.invokestatic 52, 3) := by decide +kernel
theorem dX6_loses_17 : decode cX6_loses 17 = .ok (.istore_n 3, 1) := by decide +kernel
theorem dX6_loses_18 : decode cX6_loses 18 = .ok (.iload_n 3, 1) := by decide +kernel
theorem dX6_loses_19 : decode cX6_loses 19 = .ok (.iconst 3, 1) := by decide +kernel
theorem dX6_loses_20 : decode cX6_loses 20 = .ok (.if_icmp .eq 24, 3) := by decide +kernel
theorem dX6_loses_23 : decode cX6_loses 23 = .ok (.iload_n 3, 1) := by decide +kernel
theorem dX6_loses_24 : decode cX6_loses 24 = .ok (.iconst 1, 1) := by decide +kernel
theorem dX6_loses_25 : decode cX6_loses 25 = .ok (.if_icmp .ne 23, 3) := by decide +kernel
theorem dX6_loses_28 : decode cX6_loses 28 = .ok (.aload_n 0, 1) := by decide +kernel
theorem dX6_loses_29 : decode cX6_loses 29 = .ok (.iload_n 2, 1) := by decide +kernel
theorem dX6_loses_30 : decode cX6_loses 30 = .ok (.aload_n 0, 1) := by decide +kernel
theorem dX6_loses_31 : decode cX6_loses 31 = .ok (.iload_n 1, 1) := by decide +kernel
theorem dX6_loses_32 : decode cX6_loses 32 = .ok (.iconst 1, 1) := by decide +kernel
theorem dX6_loses_33 : decode cX6_loses 33 = .ok (.iadd, 1) := by decide +kernel
theorem dX6_loses_34 : decode cX6_loses 34 = .ok (.invokevirtual 66, 3) := by decide +kernel
theorem dX6_loses_37 : decode cX6_loses 37 = .ok (.invokevirtual 73, 3) := by decide +kernel
theorem dX6_loses_40 : decode cX6_loses 40 = .ok (.iconst (-1), 1) := by decide +kernel
theorem dX6_loses_41 : decode cX6_loses 41 = .ok (.if_icmp .eq 7, 3) := by decide +kernel
theorem dX6_loses_44 : decode cX6_loses 44 = .ok (.iconst 1, 1) := by decide +kernel
theorem dX6_loses_45 : decode cX6_loses 45 = .ok (.goto 4, 3) := by decide +kernel
theorem dX6_loses_48 : decode cX6_loses 48 = .ok (.iconst 0, 1) := by decide +kernel
theorem dX6_loses_49 : decode cX6_loses 49 = .ok (.istore 4, 2) := by decide +kernel
theorem dX6_loses_51 : decode cX6_loses 51 = .ok (.iload 4, 2) := by decide +kernel
theorem dX6_loses_53 : decode cX6_loses 53 = .ok (.ifCond .eq 18, 3) := by decide +kernel
theorem dX6_loses_56 : decode cX6_loses 56 = .ok (.aload_n 0, 1) := by decide +kernel
theorem dX6_loses_57 : decode cX6_loses 57 = .ok (.getfield 18, 3) := by decide +kernel
theorem dX6_loses_60 : decode cX6_loses 60 = .ok (.getfield 76, 3) := by decide +kernel
theorem dX6_loses_63 : decode cX6_loses 63 = .ok (.iload_n 2, 1) := by decide +kernel
theorem dX6_loses_64 : decode cX6_loses 64 = .ok (.invokestatic 52, 3) := by decide +kernel
theorem dX6_loses_67 : decode cX6_loses 67 = .ok (.i2l, 1) := by decide +kernel
theorem dX6_loses_68 : decode cX6_loses 68 = .ok (.goto 4, 3) := by decide +kernel
theorem dX6_loses_71 : decode cX6_loses 71 = .ok (.lconst 0, 1) := by decide +kernel
theorem dX6_loses_72 : decode cX6_loses 72 = .ok (.lreturn, 1) := by decide +kernel
theorem dX6_lostShare_0 : decode cX6_lostShare 0 = .ok (.lconst 1, 1) := by decide +kernel
theorem dX6_lostShare_1 : decode cX6_lostShare 1 = .ok (.lstore_n 3, 1) := by decide +kernel
theorem dX6_lostShare_2 : decode cX6_lostShare 2 = .ok (.iconst 0, 1) := by decide +kernel
theorem dX6_lostShare_3 : decode cX6_lostShare 3 = .ok (.istore 5, 2) := by decide +kernel
theorem dX6_lostShare_5 : decode cX6_lostShare 5 = .ok (.iload 5, 2) := by decide +kernel
theorem dX6_lostShare_7 : decode cX6_lostShare 7 = .ok (.iload_n 2, 1) := by decide +kernel
theorem dX6_lostShare_8 : decode cX6_lostShare 8 = .ok (.if_icmp .ge 52, 3) := by decide +kernel
theorem dX6_lostShare_11 : decode cX6_lostShare 11 = .ok (.iload 5, 2) := by decide +kernel
theorem dX6_lostShare_13 : decode cX6_lostShare 13 = .ok (.iload_n 1, 1) := by decide +kernel
theorem dX6_lostShare_14 : decode cX6_lostShare 14 = .ok (.if_icmp .ge 19, 3) := by decide +kernel
theorem dX6_lostShare_17 : decode cX6_lostShare 17 = .ok (.lload_n 3, 1) := by decide +kernel
theorem dX6_lostShare_18 : decode cX6_lostShare 18 = .ok (.ldc2_w 79, 3) := by decide +kernel
theorem dX6_lostShare_21 : decode cX6_lostShare 21 = .ok (.aload_n 0, 1) := by decide +kernel
theorem dX6_lostShare_22 : decode cX6_lostShare 22 = .ok (.iload 5, 2) := by decide +kernel
theorem dX6_lostShare_24 : decode cX6_lostShare 24 = .ok (.invokevirtual 81, 3) := by decide +kernel
theorem dX6_lostShare_27 : decode cX6_lostShare 27 = .ok (.lsub, 1) := by decide +kernel
theorem dX6_lostShare_28 : decode cX6_lostShare 28 = .ok (.lmul, 1) := by decide +kernel
theorem dX6_lostShare_29 : decode cX6_lostShare 29 = .ok (.lstore_n 3, 1) := by decide +kernel
theorem dX6_lostShare_30 : decode cX6_lostShare 30 = .ok (.goto 24, 3) := by decide +kernel
theorem dX6_lostShare_33 : decode cX6_lostShare 33 = .ok (.lload_n 3, 1) := by decide +kernel
theorem dX6_lostShare_34 : decode cX6_lostShare 34 = .ok (.iload 5, 2) := by decide +kernel
theorem dX6_lostShare_36 : decode cX6_lostShare 36 = .ok (.iload_n 1, 1) := by decide +kernel
theorem dX6_lostShare_37 : decode cX6_lostShare 37 = .ok (.if_icmp .ne 12, 3) := by decide +kernel
theorem dX6_lostShare_40 : decode cX6_lostShare 40 = .ok (.aload_n 0, 1) := by decide +kernel
theorem dX6_lostShare_41 : decode cX6_lostShare 41 = .ok (.iload 5, 2) := by decide +kernel
theorem dX6_lostShare_43 : decode cX6_lostShare 43 = .ok (.invokevirtual 81, 3) := by decide +kernel
theorem dX6_lostShare_46 : decode cX6_lostShare 46 = .ok (.goto 6, 3) := by decide +kernel
theorem dX6_lostShare_49 : decode cX6_lostShare 49 = .ok (.ldc2_w 79, 3) := by decide +kernel
theorem dX6_lostShare_52 : decode cX6_lostShare 52 = .ok (.lmul, 1) := by decide +kernel
theorem dX6_lostShare_53 : decode cX6_lostShare 53 = .ok (.lstore_n 3, 1) := by decide +kernel
theorem dX6_lostShare_54 : decode cX6_lostShare 54 = .ok (.iinc 5 1, 3) := by decide +kernel
theorem dX6_lostShare_57 : decode cX6_lostShare 57 = .ok (.goto (-52), 3) := by decide +kernel
theorem dX6_lostShare_60 : decode cX6_lostShare 60 = .ok (.lload_n 3, 1) := by decide +kernel
theorem dX6_lostShare_61 : decode cX6_lostShare 61 = .ok (.lreturn, 1) := by decide +kernel
theorem dX6_lostWhole_0 : decode cX6_lostWhole 0 = .ok (.lconst 1, 1) := by decide +kernel
theorem dX6_lostWhole_1 : decode cX6_lostWhole 1 = .ok (.lstore_n 2, 1) := by decide +kernel
theorem dX6_lostWhole_2 : decode cX6_lostWhole 2 = .ok (.lconst 1, 1) := by decide +kernel
theorem dX6_lostWhole_3 : decode cX6_lostWhole 3 = .ok (.lstore 4, 2) := by decide +kernel
theorem dX6_lostWhole_5 : decode cX6_lostWhole 5 = .ok (.iconst 0, 1) := by decide +kernel
theorem dX6_lostWhole_6 : decode cX6_lostWhole 6 = .ok (.istore 6, 2) := by decide +kernel
theorem dX6_lostWhole_8 : decode cX6_lostWhole 8 = .ok (.iload 6, 2) := by decide +kernel
theorem dX6_lostWhole_10 : decode cX6_lostWhole 10 = .ok (.iload_n 1, 1) := by decide +kernel
theorem dX6_lostWhole_11 : decode cX6_lostWhole 11 = .ok (.if_icmp .ge 30, 3) := by decide +kernel
theorem dX6_lostWhole_14 : decode cX6_lostWhole 14 = .ok (.lload_n 2, 1) := by decide +kernel
theorem dX6_lostWhole_15 : decode cX6_lostWhole 15 = .ok (.ldc2_w 79, 3) := by decide +kernel
theorem dX6_lostWhole_18 : decode cX6_lostWhole 18 = .ok (.lmul, 1) := by decide +kernel
theorem dX6_lostWhole_19 : decode cX6_lostWhole 19 = .ok (.lstore_n 2, 1) := by decide +kernel
theorem dX6_lostWhole_20 : decode cX6_lostWhole 20 = .ok (.lload 4, 2) := by decide +kernel
theorem dX6_lostWhole_22 : decode cX6_lostWhole 22 = .ok (.ldc2_w 79, 3) := by decide +kernel
theorem dX6_lostWhole_25 : decode cX6_lostWhole 25 = .ok (.aload_n 0, 1) := by decide +kernel
theorem dX6_lostWhole_26 : decode cX6_lostWhole 26 = .ok (.iload 6, 2) := by decide +kernel
theorem dX6_lostWhole_28 : decode cX6_lostWhole 28 = .ok (.invokevirtual 81, 3) := by decide +kernel
theorem dX6_lostWhole_31 : decode cX6_lostWhole 31 = .ok (.lsub, 1) := by decide +kernel
theorem dX6_lostWhole_32 : decode cX6_lostWhole 32 = .ok (.lmul, 1) := by decide +kernel
theorem dX6_lostWhole_33 : decode cX6_lostWhole 33 = .ok (.lstore 4, 2) := by decide +kernel
theorem dX6_lostWhole_35 : decode cX6_lostWhole 35 = .ok (.iinc 6 1, 3) := by decide +kernel
theorem dX6_lostWhole_38 : decode cX6_lostWhole 38 = .ok (.goto (-30), 3) := by decide +kernel
theorem dX6_lostWhole_41 : decode cX6_lostWhole 41 = .ok (.lload_n 2, 1) := by decide +kernel
theorem dX6_lostWhole_42 : decode cX6_lostWhole 42 = .ok (.lload 4, 2) := by decide +kernel
theorem dX6_lostWhole_44 : decode cX6_lostWhole 44 = .ok (.lsub, 1) := by decide +kernel
theorem dX6_lostWhole_45 : decode cX6_lostWhole 45 = .ok (.lreturn, 1) := by decide +kernel
theorem dX7_init_0 : decode cX7_init 0 = .ok (.aload_n 0, 1) := by decide +kernel
theorem dX7_init_1 : decode cX7_init 1 = .ok (.invokespecial 3, 3) := by decide +kernel
theorem dX7_init_4 : decode cX7_init 4 = .ok (.aload_n 0, 1) := by decide +kernel
theorem dX7_init_5 : decode cX7_init 5 = .ok (.sipush 700, 3) := by decide +kernel
theorem dX7_init_8 : decode cX7_init 8 = .ok (.newarray .byte, 2) := by decide +kernel
theorem dX7_init_10 : decode cX7_init 10 = .ok (.putfield 9, 3) := by decide +kernel
theorem dX7_init_13 : decode cX7_init 13 = .ok (.aload_n 0, 1) := by decide +kernel
theorem dX7_init_14 : decode cX7_init 14 = .ok (.iconst 0, 1) := by decide +kernel
theorem dX7_init_15 : decode cX7_init 15 = .ok (.putfield 13, 3) := by decide +kernel
theorem dX7_init_18 : decode cX7_init 18 = .ok (.aload_n 0, 1) := by decide +kernel
theorem dX7_init_19 : decode cX7_init 19 = .ok (.iconst (-1), 1) := by decide +kernel
theorem dX7_init_20 : decode cX7_init 20 = .ok (.putfield 17, 3) := by decide +kernel
theorem dX7_init_23 : decode cX7_init 23 = .ok (.aload_n 0, 1) := by decide +kernel
theorem dX7_init_24 : decode cX7_init 24 = .ok (.new 20, 3) := by decide +kernel
theorem dX7_init_27 : decode cX7_init 27 = .ok (.dup, 1) := by decide +kernel
theorem dX7_init_28 : decode cX7_init 28 = .ok (.invokespecial 22, 3) := by decide +kernel
theorem dX7_init_31 : decode cX7_init 31 = .ok (.putfield 23, 3) := by decide +kernel
theorem dX7_init_34 : decode cX7_init 34 = .ok (.aload_n 0, 1) := by decide +kernel
theorem dX7_init_35 : decode cX7_init 35 = .ok (.new 20, 3) := by decide +kernel
theorem dX7_init_38 : decode cX7_init 38 = .ok (.dup, 1) := by decide +kernel
theorem dX7_init_39 : decode cX7_init 39 = .ok (.invokespecial 22, 3) := by decide +kernel
theorem dX7_init_42 : decode cX7_init 42 = .ok (.putfield 27, 3) := by decide +kernel
theorem dX7_init_45 : decode cX7_init 45 = .ok (.aload_n 0, 1) := by decide +kernel
theorem dX7_init_46 : decode cX7_init 46 = .ok (.new 30, 3) := by decide +kernel
theorem dX7_init_49 : decode cX7_init 49 = .ok (.dup, 1) := by decide +kernel
theorem dX7_init_50 : decode cX7_init 50 = .ok (.aload_n 0, 1) := by decide +kernel
theorem dX7_init_51 : decode cX7_init 51 = .ok (.getfield 9, 3) := by decide +kernel
theorem dX7_init_54 : decode cX7_init 54 = .ok (.aload_n 0, 1) := by decide +kernel
theorem dX7_init_55 : decode cX7_init 55 = .ok (.getfield 27, 3) := by decide +kernel
theorem dX7_init_58 : decode cX7_init 58 = .ok (.invokespecial 32, 3) := by decide +kernel
theorem dX7_init_61 : decode cX7_init 61 = .ok (.putfield 35, 3) := by decide +kernel
theorem dX7_init_64 : decode cX7_init 64 = .ok (.aload_n 0, 1) := by decide +kernel
theorem dX7_init_65 : decode cX7_init 65 = .ok (.new 39, 3) := by decide +kernel
theorem dX7_init_68 : decode cX7_init 68 = .ok (.dup, 1) := by decide +kernel
theorem dX7_init_69 : decode cX7_init 69 = .ok (.aload_n 0, 1) := by decide +kernel
theorem dX7_init_70 : decode cX7_init 70 = .ok (.getfield 23, 3) := by decide +kernel
theorem dX7_init_73 : decode cX7_init 73 = .ok (.invokespecial 41, 3) := by decide +kernel
theorem dX7_init_76 : decode cX7_init 76 = .ok (.putfield 44, 3) := by decide +kernel
theorem dX7_init_79 : decode cX7_init 79 = .ok (.aload_n 0, 1) := by decide +kernel
theorem dX7_init_80 : decode cX7_init 80 = .ok (.new 48, 3) := by decide +kernel
theorem dX7_init_83 : decode cX7_init 83 = .ok (.dup, 1) := by decide +kernel
theorem dX7_init_84 : decode cX7_init 84 = .ok (.aload_n 0, 1) := by decide +kernel
theorem dX7_init_85 : decode cX7_init 85 = .ok (.getfield 23, 3) := by decide +kernel
theorem dX7_init_88 : decode cX7_init 88 = .ok (.invokespecial 50, 3) := by decide +kernel
theorem dX7_init_91 : decode cX7_init 91 = .ok (.putfield 51, 3) := by decide +kernel
theorem dX7_init_94 : decode cX7_init 94 = .ok (.aload_n 0, 1) := by decide +kernel
theorem dX7_init_95 : decode cX7_init 95 = .ok (.new 55, 3) := by decide +kernel
theorem dX7_init_98 : decode cX7_init 98 = .ok (.dup, 1) := by decide +kernel
theorem dX7_init_99 : decode cX7_init 99 = .ok (.invokespecial 57, 3) := by decide +kernel
theorem dX7_init_102 : decode cX7_init 102 = .ok (.putfield 58, 3) := by decide +kernel
theorem dX7_init_105 : decode cX7_init 105 = .ok (.aload_n 0, 1) := by decide +kernel
theorem dX7_init_106 : decode cX7_init 106 = .ok (.new 55, 3) := by decide +kernel
theorem dX7_init_109 : decode cX7_init 109 = .ok (.dup, 1) := by decide +kernel
theorem dX7_init_110 : decode cX7_init 110 = .ok (.invokespecial 57, 3) := by decide +kernel
theorem dX7_init_113 : decode cX7_init 113 = .ok (.putfield 62, 3) := by decide +kernel
theorem dX7_init_116 : decode cX7_init 116 = .ok (.aload_n 0, 1) := by decide +kernel
theorem dX7_init_117 : decode cX7_init 117 = .ok (.iconst 0, 1) := by decide +kernel
theorem dX7_init_118 : decode cX7_init 118 = .ok (.putfield 65, 3) := by decide +kernel
theorem dX7_init_121 : decode cX7_init 121 = .ok (.aload_n 0, 1) := by decide +kernel
theorem dX7_init_122 : decode cX7_init 122 = .ok (.new 69, 3) := by decide +kernel
theorem dX7_init_125 : decode cX7_init 125 = .ok (.dup, 1) := by decide +kernel
theorem dX7_init_126 : decode cX7_init 126 = .ok (.invokespecial 71, 3) := by decide +kernel
theorem dX7_init_129 : decode cX7_init 129 = .ok (.putfield 72, 3) := by decide +kernel
theorem dX7_init_132 : decode cX7_init 132 = .ok (.aload_n 0, 1) := by decide +kernel
theorem dX7_init_133 : decode cX7_init 133 = .ok (.new 76, 3) := by decide +kernel
theorem dX7_init_136 : decode cX7_init 136 = .ok (.dup, 1) := by decide +kernel
theorem dX7_init_137 : decode cX7_init 137 = .ok (.aload_n 0, 1) := by decide +kernel
theorem dX7_init_138 : decode cX7_init 138 = .ok (.getfield 23, 3) := by decide +kernel
theorem dX7_init_141 : decode cX7_init 141 = .ok (.aload_n 0, 1) := by decide +kernel
theorem dX7_init_142 : decode cX7_init 142 = .ok (.getfield 44, 3) := by decide +kernel
theorem dX7_init_145 : decode cX7_init 145 = .ok (.aload_n 0, 1) := by decide +kernel
theorem dX7_init_146 : decode cX7_init 146 = .ok (.getfield 51, 3) := by decide +kernel
theorem dX7_init_149 : decode cX7_init 149 = .ok (.aload_n 0, 1) := by decide +kernel
theorem dX7_init_150 : decode cX7_init 150 = .ok (.getfield 58, 3) := by decide +kernel
theorem dX7_init_153 : decode cX7_init 153 = .ok (.invokespecial 78, 3) := by decide +kernel
theorem dX7_init_156 : decode cX7_init 156 = .ok (.putfield 81, 3) := by decide +kernel
theorem dX7_init_159 : decode cX7_init 159 = .ok (.return_, 1) := by decide +kernel
theorem dX7_feed_0 : decode cX7_feed 0 = .ok (.aload_n 0, 1) := by decide +kernel
theorem dX7_feed_1 : decode cX7_feed 1 = .ok (.getfield 13, 3) := by decide +kernel
theorem dX7_feed_4 : decode cX7_feed 4 = .ok (.sipush 680, 3) := by decide +kernel
theorem dX7_feed_7 : decode cX7_feed 7 = .ok (.if_icmp .le 5, 3) := by decide +kernel
theorem dX7_feed_10 : decode cX7_feed 10 = .ok (.iconst (-1), 1) := by decide +kernel
theorem dX7_feed_11 : decode cX7_feed 11 = .ok (.ireturn, 1) := by decide +kernel
theorem dX7_feed_12 : decode cX7_feed 12 = .ok (.aload_n 0, 1) := by decide +kernel
theorem dX7_feed_13 : decode cX7_feed 13 = .ok (.iload_n 1, 1) := by decide +kernel
theorem dX7_feed_14 : decode cX7_feed 14 = .ok (.invokevirtual 85, 3) := by decide +kernel
theorem dX7_feed_17 : decode cX7_feed 17 = .ok (.aload_n 0, 1) := by decide +kernel
theorem dX7_feed_18 : decode cX7_feed 18 = .ok (.iload_n 2, 1) := by decide +kernel
theorem dX7_feed_19 : decode cX7_feed 19 = .ok (.invokevirtual 85, 3) := by decide +kernel
theorem dX7_feed_22 : decode cX7_feed 22 = .ok (.aload_n 0, 1) := by decide +kernel
theorem dX7_feed_23 : decode cX7_feed 23 = .ok (.iload_n 3, 1) := by decide +kernel
theorem dX7_feed_24 : decode cX7_feed 24 = .ok (.invokevirtual 85, 3) := by decide +kernel
theorem dX7_feed_27 : decode cX7_feed 27 = .ok (.aload_n 0, 1) := by decide +kernel
theorem dX7_feed_28 : decode cX7_feed 28 = .ok (.iload 4, 2) := by decide +kernel
theorem dX7_feed_30 : decode cX7_feed 30 = .ok (.invokevirtual 85, 3) := by decide +kernel
theorem dX7_feed_33 : decode cX7_feed 33 = .ok (.aload_n 0, 1) := by decide +kernel
theorem dX7_feed_34 : decode cX7_feed 34 = .ok (.iload 5, 2) := by decide +kernel
theorem dX7_feed_36 : decode cX7_feed 36 = .ok (.invokevirtual 85, 3) := by decide +kernel
theorem dX7_feed_39 : decode cX7_feed 39 = .ok (.aload_n 0, 1) := by decide +kernel
theorem dX7_feed_40 : decode cX7_feed 40 = .ok (.getfield 13, 3) := by decide +kernel
theorem dX7_feed_43 : decode cX7_feed 43 = .ok (.ireturn, 1) := by decide +kernel
theorem dX7_putNumber_0 : decode cX7_putNumber 0 = .ok (.bipush 24, 2) := by decide +kernel
theorem dX7_putNumber_2 : decode cX7_putNumber 2 = .ok (.istore_n 2, 1) := by decide +kernel
theorem dX7_putNumber_3 : decode cX7_putNumber 3 = .ok (.iload_n 2, 1) := by decide +kernel
theorem dX7_putNumber_4 : decode cX7_putNumber 4 = .ok (.ifCond .lt 51, 3) := by decide +kernel
theorem dX7_putNumber_7 : decode cX7_putNumber 7 = .ok (.aload_n 0, 1) := by decide +kernel
theorem dX7_putNumber_8 : decode cX7_putNumber 8 = .ok (.getfield 13, 3) := by decide +kernel
theorem dX7_putNumber_11 : decode cX7_putNumber 11 = .ok (.ifCond .lt 38, 3) := by decide +kernel
theorem dX7_putNumber_14 : decode cX7_putNumber 14 = .ok (.aload_n 0, 1) := by decide +kernel
theorem dX7_putNumber_15 : decode cX7_putNumber 15 = .ok (.getfield 13, 3) := by decide +kernel
theorem dX7_putNumber_18 : decode cX7_putNumber 18 = .ok (.aload_n 0, 1) := by decide +kernel
theorem dX7_putNumber_19 : decode cX7_putNumber 19 = .ok (.getfield 9, 3) := by decide +kernel
theorem dX7_putNumber_22 : decode cX7_putNumber 22 = .ok (.arraylength, 1) := by decide +kernel
theorem dX7_putNumber_23 : decode cX7_putNumber 23 = .ok (.if_icmp .ge 26, 3) := by decide +kernel
theorem dX7_putNumber_26 : decode cX7_putNumber 26 = .ok (.aload_n 0, 1) := by decide +kernel
theorem dX7_putNumber_27 : decode cX7_putNumber 27 = .ok (.getfield 9, 3) := by decide +kernel
theorem dX7_putNumber_30 : decode cX7_putNumber 30 = .ok (.aload_n 0, 1) := by decide +kernel
theorem dX7_putNumber_31 : decode cX7_putNumber 31 = .ok (.getfield 13, 3) := by decide +kernel
theorem dX7_putNumber_34 : decode cX7_putNumber 34 = .ok (.iload_n 1, 1) := by decide +kernel
theorem dX7_putNumber_35 : decode cX7_putNumber 35 = .ok (.iload_n 2, 1) := by decide +kernel
theorem dX7_putNumber_36 : decode cX7_putNumber 36 = .ok (.iushr, 1) := by decide +kernel
theorem dX7_putNumber_37 : decode cX7_putNumber 37 = .ok (.i2b, 1) := by decide +kernel
theorem dX7_putNumber_38 : decode cX7_putNumber 38 = .ok (.bastore, 1) := by decide +kernel
theorem dX7_putNumber_39 : decode cX7_putNumber 39 = .ok (.aload_n 0, 1) := by decide +kernel
theorem dX7_putNumber_40 : decode cX7_putNumber 40 = .ok (.dup, 1) := by decide +kernel
theorem dX7_putNumber_41 : decode cX7_putNumber 41 = .ok (.getfield 13, 3) := by decide +kernel
theorem dX7_putNumber_44 : decode cX7_putNumber 44 = .ok (.iconst 1, 1) := by decide +kernel
theorem dX7_putNumber_45 : decode cX7_putNumber 45 = .ok (.iadd, 1) := by decide +kernel
theorem dX7_putNumber_46 : decode cX7_putNumber 46 = .ok (.putfield 13, 3) := by decide +kernel
theorem dX7_putNumber_49 : decode cX7_putNumber 49 = .ok (.iinc 2 (-8), 3) := by decide +kernel
theorem dX7_putNumber_52 : decode cX7_putNumber 52 = .ok (.goto (-49), 3) := by decide +kernel
theorem dX7_putNumber_55 : decode cX7_putNumber 55 = .ok (.return_, 1) := by decide +kernel
theorem dX7_told_0 : decode cX7_told 0 = .ok (.iload_n 1, 1) := by decide +kernel
theorem dX7_told_1 : decode cX7_told 1 = .ok (.ifCond .lt 11, 3) := by decide +kernel
theorem dX7_told_4 : decode cX7_told 4 = .ok (.iload_n 1, 1) := by decide +kernel
theorem dX7_told_5 : decode cX7_told 5 = .ok (.aload_n 0, 1) := by decide +kernel
theorem dX7_told_6 : decode cX7_told 6 = .ok (.getfield 13, 3) := by decide +kernel
theorem dX7_told_9 : decode cX7_told 9 = .ok (.if_icmp .le 13, 3) := by decide +kernel
theorem dX7_told_12 : decode cX7_told 12 = .ok (.new 89, 3) := by decide +kernel
theorem dX7_told_15 : decode cX7_told 15 = .ok (.dup, 1) := by decide +kernel
theorem dX7_told_16 : decode cX7_told 16 = .ok (.ldc 91, 2) := by decide +kernel
theorem dX7_told_18 : decode cX7_told 18 = .ok (.invokespecial 93, 3) := by decide +kernel
theorem dX7_told_21 : decode cX7_told 21 = .ok (.athrow, 1) := by decide +kernel
theorem dX7_told_22 : decode cX7_told 22 = .ok (.aload_n 0, 1) := by decide +kernel
theorem dX7_told_23 : decode cX7_told 23 = .ok (.getfield 35, 3) := by decide +kernel
theorem dX7_told_26 : decode cX7_told 26 = .ok (.iload_n 1, 1) := by decide +kernel
theorem dX7_told_27 : decode cX7_told 27 = .ok (.invokevirtual 96, 3) := by decide +kernel
theorem dX7_told_30 : decode cX7_told 30 = .ok (.istore_n 2, 1) := by decide +kernel
theorem dX7_told_31 : decode cX7_told 31 = .ok (.aload_n 0, 1) := by decide +kernel
theorem dX7_told_32 : decode cX7_told 32 = .ok (.iconst 0, 1) := by decide +kernel
theorem dX7_told_33 : decode cX7_told 33 = .ok (.putfield 13, 3) := by decide +kernel
theorem dX7_told_36 : decode cX7_told 36 = .ok (.aload_n 0, 1) := by decide +kernel
theorem dX7_told_37 : decode cX7_told 37 = .ok (.aload_n 0, 1) := by decide +kernel
theorem dX7_told_38 : decode cX7_told 38 = .ok (.getfield 35, 3) := by decide +kernel
theorem dX7_told_41 : decode cX7_told 41 = .ok (.invokevirtual 100, 3) := by decide +kernel
theorem dX7_told_44 : decode cX7_told 44 = .ok (.putfield 17, 3) := by decide +kernel
theorem dX7_told_47 : decode cX7_told 47 = .ok (.iload_n 2, 1) := by decide +kernel
theorem dX7_told_48 : decode cX7_told 48 = .ok (.ifCond .eq 13, 3) := by decide +kernel
theorem dX7_told_51 : decode cX7_told 51 = .ok (.aload_n 0, 1) := by decide +kernel
theorem dX7_told_52 : decode cX7_told 52 = .ok (.getfield 58, 3) := by decide +kernel
theorem dX7_told_55 : decode cX7_told 55 = .ok (.iconst 0, 1) := by decide +kernel
theorem dX7_told_56 : decode cX7_told 56 = .ok (.invokevirtual 103, 3) := by decide +kernel
theorem dX7_told_59 : decode cX7_told 59 = .ok (.iload_n 2, 1) := by decide +kernel
theorem dX7_told_60 : decode cX7_told 60 = .ok (.ireturn, 1) := by decide +kernel
theorem dX7_told_61 : decode cX7_told 61 = .ok (.aload_n 0, 1) := by decide +kernel
theorem dX7_told_62 : decode cX7_told 62 = .ok (.getfield 23, 3) := by decide +kernel
theorem dX7_told_65 : decode cX7_told 65 = .ok (.aload_n 0, 1) := by decide +kernel
theorem dX7_told_66 : decode cX7_told 66 = .ok (.getfield 27, 3) := by decide +kernel
theorem dX7_told_69 : decode cX7_told 69 = .ok (.invokevirtual 106, 3) := by decide +kernel
theorem dX7_told_72 : decode cX7_told 72 = .ok (.aload_n 0, 1) := by decide +kernel
theorem dX7_told_73 : decode cX7_told 73 = .ok (.getfield 44, 3) := by decide +kernel
theorem dX7_told_76 : decode cX7_told 76 = .ok (.invokevirtual 109, 3) := by decide +kernel
theorem dX7_told_79 : decode cX7_told 79 = .ok (.aload_n 0, 1) := by decide +kernel
theorem dX7_told_80 : decode cX7_told 80 = .ok (.getfield 51, 3) := by decide +kernel
theorem dX7_told_83 : decode cX7_told 83 = .ok (.invokevirtual 112, 3) := by decide +kernel
theorem dX7_told_86 : decode cX7_told 86 = .ok (.aload_n 0, 1) := by decide +kernel
theorem dX7_told_87 : decode cX7_told 87 = .ok (.getfield 58, 3) := by decide +kernel
theorem dX7_told_90 : decode cX7_told 90 = .ok (.aload_n 0, 1) := by decide +kernel
theorem dX7_told_91 : decode cX7_told 91 = .ok (.getfield 23, 3) := by decide +kernel
theorem dX7_told_94 : decode cX7_told 94 = .ok (.invokevirtual 115, 3) := by decide +kernel
theorem dX7_told_97 : decode cX7_told 97 = .ok (.aload_n 0, 1) := by decide +kernel
theorem dX7_told_98 : decode cX7_told 98 = .ok (.getfield 72, 3) := by decide +kernel
theorem dX7_told_101 : decode cX7_told 101 = .ok (.invokevirtual 118, 3) := by decide +kernel
theorem dX7_told_104 : decode cX7_told 104 = .ok (.aload_n 0, 1) := by decide +kernel
theorem dX7_told_105 : decode cX7_told 105 = .ok (.getfield 81, 3) := by decide +kernel
theorem dX7_told_108 : decode cX7_told 108 = .ok (.invokevirtual 119, 3) := by decide +kernel
theorem dX7_told_111 : decode cX7_told 111 = .ok (.aload_n 0, 1) := by decide +kernel
theorem dX7_told_112 : decode cX7_told 112 = .ok (.iconst 0, 1) := by decide +kernel
theorem dX7_told_113 : decode cX7_told 113 = .ok (.putfield 65, 3) := by decide +kernel
theorem dX7_told_116 : decode cX7_told 116 = .ok (.iconst 0, 1) := by decide +kernel
theorem dX7_told_117 : decode cX7_told 117 = .ok (.ireturn, 1) := by decide +kernel
theorem dX7_fault_0 : decode cX7_fault 0 = .ok (.aload_n 0, 1) := by decide +kernel
theorem dX7_fault_1 : decode cX7_fault 1 = .ok (.getfield 17, 3) := by decide +kernel
theorem dX7_fault_4 : decode cX7_fault 4 = .ok (.ireturn, 1) := by decide +kernel
theorem dX7_count_0 : decode cX7_count 0 = .ok (.iload_n 1, 1) := by decide +kernel
theorem dX7_count_1 : decode cX7_count 1 = .ok (.tableswitch 167 0 12 #[67, 75, 83, 91, 99, 107, 115, 123, 131, 147, 152, 152, 152], 67) := by decide +kernel
theorem dX7_count_68 : decode cX7_count 68 = .ok (.aload_n 0, 1) := by decide +kernel
theorem dX7_count_69 : decode cX7_count 69 = .ok (.getfield 23, 3) := by decide +kernel
theorem dX7_count_72 : decode cX7_count 72 = .ok (.getfield 122, 3) := by decide +kernel
theorem dX7_count_75 : decode cX7_count 75 = .ok (.ireturn, 1) := by decide +kernel
theorem dX7_count_76 : decode cX7_count 76 = .ok (.aload_n 0, 1) := by decide +kernel
theorem dX7_count_77 : decode cX7_count 77 = .ok (.getfield 23, 3) := by decide +kernel
theorem dX7_count_80 : decode cX7_count 80 = .ok (.getfield 125, 3) := by decide +kernel
theorem dX7_count_83 : decode cX7_count 83 = .ok (.ireturn, 1) := by decide +kernel
theorem dX7_count_84 : decode cX7_count 84 = .ok (.aload_n 0, 1) := by decide +kernel
theorem dX7_count_85 : decode cX7_count 85 = .ok (.getfield 23, 3) := by decide +kernel
theorem dX7_count_88 : decode cX7_count 88 = .ok (.getfield 128, 3) := by decide +kernel
theorem dX7_count_91 : decode cX7_count 91 = .ok (.ireturn, 1) := by decide +kernel
theorem dX7_count_92 : decode cX7_count 92 = .ok (.aload_n 0, 1) := by decide +kernel
theorem dX7_count_93 : decode cX7_count 93 = .ok (.getfield 23, 3) := by decide +kernel
theorem dX7_count_96 : decode cX7_count 96 = .ok (.getfield 131, 3) := by decide +kernel
theorem dX7_count_99 : decode cX7_count 99 = .ok (.ireturn, 1) := by decide +kernel
theorem dX7_count_100 : decode cX7_count 100 = .ok (.aload_n 0, 1) := by decide +kernel
theorem dX7_count_101 : decode cX7_count 101 = .ok (.getfield 23, 3) := by decide +kernel
theorem dX7_count_104 : decode cX7_count 104 = .ok (.getfield 134, 3) := by decide +kernel
theorem dX7_count_107 : decode cX7_count 107 = .ok (.ireturn, 1) := by decide +kernel
theorem dX7_count_108 : decode cX7_count 108 = .ok (.aload_n 0, 1) := by decide +kernel
theorem dX7_count_109 : decode cX7_count 109 = .ok (.getfield 58, 3) := by decide +kernel
theorem dX7_count_112 : decode cX7_count 112 = .ok (.getfield 137, 3) := by decide +kernel
theorem dX7_count_115 : decode cX7_count 115 = .ok (.ireturn, 1) := by decide +kernel
theorem dX7_count_116 : decode cX7_count 116 = .ok (.aload_n 0, 1) := by decide +kernel
theorem dX7_count_117 : decode cX7_count 117 = .ok (.getfield 58, 3) := by decide +kernel
theorem dX7_count_120 : decode cX7_count 120 = .ok (.getfield 140, 3) := by decide +kernel
theorem dX7_count_123 : decode cX7_count 123 = .ok (.ireturn, 1) := by decide +kernel
theorem dX7_count_124 : decode cX7_count 124 = .ok (.aload_n 0, 1) := by decide +kernel
theorem dX7_count_125 : decode cX7_count 125 = .ok (.getfield 72, 3) := by decide +kernel
theorem dX7_count_128 : decode cX7_count 128 = .ok (.invokevirtual 143, 3) := by decide +kernel
theorem dX7_count_131 : decode cX7_count 131 = .ok (.ireturn, 1) := by decide +kernel
theorem dX7_count_132 : decode cX7_count 132 = .ok (.aload_n 0, 1) := by decide +kernel
theorem dX7_count_133 : decode cX7_count 133 = .ok (.getfield 58, 3) := by decide +kernel
theorem dX7_count_136 : decode cX7_count 136 = .ok (.getfield 146, 3) := by decide +kernel
theorem dX7_count_139 : decode cX7_count 139 = .ok (.ifCond .eq 7, 3) := by decide +kernel
theorem dX7_count_142 : decode cX7_count 142 = .ok (.iconst 1, 1) := by decide +kernel
theorem dX7_count_143 : decode cX7_count 143 = .ok (.goto 4, 3) := by decide +kernel
theorem dX7_count_146 : decode cX7_count 146 = .ok (.iconst 0, 1) := by decide +kernel
theorem dX7_count_147 : decode cX7_count 147 = .ok (.ireturn, 1) := by decide +kernel
theorem dX7_count_148 : decode cX7_count 148 = .ok (.aload_n 0, 1) := by decide +kernel
theorem dX7_count_149 : decode cX7_count 149 = .ok (.getfield 13, 3) := by decide +kernel
theorem dX7_count_152 : decode cX7_count 152 = .ok (.ireturn, 1) := by decide +kernel
theorem dX7_count_153 : decode cX7_count 153 = .ok (.aload_n 0, 1) := by decide +kernel
theorem dX7_count_154 : decode cX7_count 154 = .ok (.getfield 58, 3) := by decide +kernel
theorem dX7_count_157 : decode cX7_count 157 = .ok (.getfield 149, 3) := by decide +kernel
theorem dX7_count_160 : decode cX7_count 160 = .ok (.iload_n 1, 1) := by decide +kernel
theorem dX7_count_161 : decode cX7_count 161 = .ok (.bipush 10, 2) := by decide +kernel
theorem dX7_count_163 : decode cX7_count 163 = .ok (.isub, 1) := by decide +kernel
theorem dX7_count_164 : decode cX7_count 164 = .ok (.invokestatic 153, 3) := by decide +kernel
theorem dX7_count_167 : decode cX7_count 167 = .ok (.ireturn, 1) := by decide +kernel
theorem dX7_count_168 : decode cX7_count 168 = .ok (.new 157, 3) := by decide +kernel
theorem dX7_count_171 : decode cX7_count 171 = .ok (.dup, 1) := by decide +kernel
theorem dX7_count_172 : decode cX7_count 172 = .ok (.ldc 159, 2) := by decide +kernel
theorem dX7_count_174 : decode cX7_count 174 = .ok (.invokespecial 161, 3) := by decide +kernel
theorem dX7_count_177 : decode cX7_count 177 = .ok (.athrow, 1) := by decide +kernel
theorem dX7_town_0 : decode cX7_town 0 = .ok (.aload_n 0, 1) := by decide +kernel
theorem dX7_town_1 : decode cX7_town 1 = .ok (.iload_n 1, 1) := by decide +kernel
theorem dX7_town_2 : decode cX7_town 2 = .ok (.invokevirtual 162, 3) := by decide +kernel
theorem dX7_town_5 : decode cX7_town 5 = .ok (.iload_n 2, 1) := by decide +kernel
theorem dX7_town_6 : decode cX7_town 6 = .ok (.tableswitch 111 0 5 #[38, 50, 62, 74, 86, 95], 38) := by decide +kernel
theorem dX7_town_44 : decode cX7_town 44 = .ok (.aload_n 0, 1) := by decide +kernel
theorem dX7_town_45 : decode cX7_town 45 = .ok (.getfield 23, 3) := by decide +kernel
theorem dX7_town_48 : decode cX7_town 48 = .ok (.getfield 165, 3) := by decide +kernel
theorem dX7_town_51 : decode cX7_town 51 = .ok (.iload_n 1, 1) := by decide +kernel
theorem dX7_town_52 : decode cX7_town 52 = .ok (.invokestatic 153, 3) := by decide +kernel
theorem dX7_town_55 : decode cX7_town 55 = .ok (.ireturn, 1) := by decide +kernel
