theorem dX7_town_56 : decode cX7_town 56 = .ok (.aload_n 0, 1) := by decide +kernel
theorem dX7_town_57 : decode cX7_town 57 = .ok (.getfield 23, 3) := by decide +kernel
theorem dX7_town_60 : decode cX7_town 60 = .ok (.getfield 168, 3) := by decide +kernel
theorem dX7_town_63 : decode cX7_town 63 = .ok (.iload_n 1, 1) := by decide +kernel
theorem dX7_town_64 : decode cX7_town 64 = .ok (.invokestatic 153, 3) := by decide +kernel
theorem dX7_town_67 : decode cX7_town 67 = .ok (.ireturn, 1) := by decide +kernel
theorem dX7_town_68 : decode cX7_town 68 = .ok (.aload_n 0, 1) := by decide +kernel
theorem dX7_town_69 : decode cX7_town 69 = .ok (.getfield 23, 3) := by decide +kernel
theorem dX7_town_72 : decode cX7_town 72 = .ok (.getfield 171, 3) := by decide +kernel
theorem dX7_town_75 : decode cX7_town 75 = .ok (.iload_n 1, 1) := by decide +kernel
theorem dX7_town_76 : decode cX7_town 76 = .ok (.invokestatic 153, 3) := by decide +kernel
theorem dX7_town_79 : decode cX7_town 79 = .ok (.ireturn, 1) := by decide +kernel
theorem dX7_town_80 : decode cX7_town 80 = .ok (.aload_n 0, 1) := by decide +kernel
theorem dX7_town_81 : decode cX7_town 81 = .ok (.getfield 23, 3) := by decide +kernel
theorem dX7_town_84 : decode cX7_town 84 = .ok (.getfield 174, 3) := by decide +kernel
theorem dX7_town_87 : decode cX7_town 87 = .ok (.iload_n 1, 1) := by decide +kernel
theorem dX7_town_88 : decode cX7_town 88 = .ok (.invokestatic 153, 3) := by decide +kernel
theorem dX7_town_91 : decode cX7_town 91 = .ok (.ireturn, 1) := by decide +kernel
theorem dX7_town_92 : decode cX7_town 92 = .ok (.aload_n 0, 1) := by decide +kernel
theorem dX7_town_93 : decode cX7_town 93 = .ok (.getfield 58, 3) := by decide +kernel
theorem dX7_town_96 : decode cX7_town 96 = .ok (.iload_n 1, 1) := by decide +kernel
theorem dX7_town_97 : decode cX7_town 97 = .ok (.invokevirtual 177, 3) := by decide +kernel
theorem dX7_town_100 : decode cX7_town 100 = .ok (.ireturn, 1) := by decide +kernel
theorem dX7_town_101 : decode cX7_town 101 = .ok (.aload_n 0, 1) := by decide +kernel
theorem dX7_town_102 : decode cX7_town 102 = .ok (.getfield 23, 3) := by decide +kernel
theorem dX7_town_105 : decode cX7_town 105 = .ok (.aload_n 0, 1) := by decide +kernel
theorem dX7_town_106 : decode cX7_town 106 = .ok (.getfield 58, 3) := by decide +kernel
theorem dX7_town_109 : decode cX7_town 109 = .ok (.iload_n 1, 1) := by decide +kernel
theorem dX7_town_110 : decode cX7_town 110 = .ok (.invokevirtual 177, 3) := by decide +kernel
theorem dX7_town_113 : decode cX7_town 113 = .ok (.invokevirtual 180, 3) := by decide +kernel
theorem dX7_town_116 : decode cX7_town 116 = .ok (.ireturn, 1) := by decide +kernel
theorem dX7_town_117 : decode cX7_town 117 = .ok (.new 157, 3) := by decide +kernel
theorem dX7_town_120 : decode cX7_town 120 = .ok (.dup, 1) := by decide +kernel
theorem dX7_town_121 : decode cX7_town 121 = .ok (.ldc 183, 2) := by decide +kernel
theorem dX7_town_123 : decode cX7_town 123 = .ok (.invokespecial 161, 3) := by decide +kernel
theorem dX7_town_126 : decode cX7_town 126 = .ok (.athrow, 1) := by decide +kernel
theorem dX7_trunk_0 : decode cX7_trunk 0 = .ok (.aload_n 0, 1) := by decide +kernel
theorem dX7_trunk_1 : decode cX7_trunk 1 = .ok (.iload_n 1, 1) := by decide +kernel
theorem dX7_trunk_2 : decode cX7_trunk 2 = .ok (.invokevirtual 185, 3) := by decide +kernel
theorem dX7_trunk_5 : decode cX7_trunk 5 = .ok (.iload_n 2, 1) := by decide +kernel
theorem dX7_trunk_6 : decode cX7_trunk 6 = .ok (.tableswitch 92 0 3 #[30, 57, 69, 81], 30) := by decide +kernel
theorem dX7_trunk_36 : decode cX7_trunk 36 = .ok (.aload_n 0, 1) := by decide +kernel
theorem dX7_trunk_37 : decode cX7_trunk 37 = .ok (.getfield 58, 3) := by decide +kernel
theorem dX7_trunk_40 : decode cX7_trunk 40 = .ok (.iload_n 1, 1) := by decide +kernel
theorem dX7_trunk_41 : decode cX7_trunk 41 = .ok (.invokevirtual 188, 3) := by decide +kernel
theorem dX7_trunk_44 : decode cX7_trunk 44 = .ok (.ifCond .eq 17, 3) := by decide +kernel
theorem dX7_trunk_47 : decode cX7_trunk 47 = .ok (.aload_n 0, 1) := by decide +kernel
theorem dX7_trunk_48 : decode cX7_trunk 48 = .ok (.getfield 58, 3) := by decide +kernel
theorem dX7_trunk_51 : decode cX7_trunk 51 = .ok (.getfield 192, 3) := by decide +kernel
theorem dX7_trunk_54 : decode cX7_trunk 54 = .ok (.iload_n 1, 1) := by decide +kernel
theorem dX7_trunk_55 : decode cX7_trunk 55 = .ok (.invokestatic 153, 3) := by decide +kernel
theorem dX7_trunk_58 : decode cX7_trunk 58 = .ok (.goto 4, 3) := by decide +kernel
theorem dX7_trunk_61 : decode cX7_trunk 61 = .ok (.iconst (-1), 1) := by decide +kernel
theorem dX7_trunk_62 : decode cX7_trunk 62 = .ok (.ireturn, 1) := by decide +kernel
theorem dX7_trunk_63 : decode cX7_trunk 63 = .ok (.aload_n 0, 1) := by decide +kernel
theorem dX7_trunk_64 : decode cX7_trunk 64 = .ok (.getfield 58, 3) := by decide +kernel
theorem dX7_trunk_67 : decode cX7_trunk 67 = .ok (.getfield 192, 3) := by decide +kernel
theorem dX7_trunk_70 : decode cX7_trunk 70 = .ok (.iload_n 1, 1) := by decide +kernel
theorem dX7_trunk_71 : decode cX7_trunk 71 = .ok (.invokestatic 153, 3) := by decide +kernel
theorem dX7_trunk_74 : decode cX7_trunk 74 = .ok (.ireturn, 1) := by decide +kernel
theorem dX7_trunk_75 : decode cX7_trunk 75 = .ok (.aload_n 0, 1) := by decide +kernel
theorem dX7_trunk_76 : decode cX7_trunk 76 = .ok (.getfield 58, 3) := by decide +kernel
theorem dX7_trunk_79 : decode cX7_trunk 79 = .ok (.getfield 195, 3) := by decide +kernel
theorem dX7_trunk_82 : decode cX7_trunk 82 = .ok (.iload_n 1, 1) := by decide +kernel
theorem dX7_trunk_83 : decode cX7_trunk 83 = .ok (.invokestatic 153, 3) := by decide +kernel
theorem dX7_trunk_86 : decode cX7_trunk 86 = .ok (.ireturn, 1) := by decide +kernel
theorem dX7_trunk_87 : decode cX7_trunk 87 = .ok (.aload_n 0, 1) := by decide +kernel
theorem dX7_trunk_88 : decode cX7_trunk 88 = .ok (.getfield 23, 3) := by decide +kernel
theorem dX7_trunk_91 : decode cX7_trunk 91 = .ok (.iconst 1, 1) := by decide +kernel
theorem dX7_trunk_92 : decode cX7_trunk 92 = .ok (.iload_n 1, 1) := by decide +kernel
theorem dX7_trunk_93 : decode cX7_trunk 93 = .ok (.ishl, 1) := by decide +kernel
theorem dX7_trunk_94 : decode cX7_trunk 94 = .ok (.invokevirtual 180, 3) := by decide +kernel
theorem dX7_trunk_97 : decode cX7_trunk 97 = .ok (.ireturn, 1) := by decide +kernel
theorem dX7_trunk_98 : decode cX7_trunk 98 = .ok (.new 157, 3) := by decide +kernel
theorem dX7_trunk_101 : decode cX7_trunk 101 = .ok (.dup, 1) := by decide +kernel
theorem dX7_trunk_102 : decode cX7_trunk 102 = .ok (.ldc 198, 2) := by decide +kernel
theorem dX7_trunk_104 : decode cX7_trunk 104 = .ok (.invokespecial 161, 3) := by decide +kernel
theorem dX7_trunk_107 : decode cX7_trunk 107 = .ok (.athrow, 1) := by decide +kernel
theorem dX7_price_0 : decode cX7_price 0 = .ok (.aload_n 0, 1) := by decide +kernel
theorem dX7_price_1 : decode cX7_price 1 = .ok (.iload_n 1, 1) := by decide +kernel
theorem dX7_price_2 : decode cX7_price 2 = .ok (.invokevirtual 200, 3) := by decide +kernel
theorem dX7_price_5 : decode cX7_price 5 = .ok (.aload_n 0, 1) := by decide +kernel
theorem dX7_price_6 : decode cX7_price 6 = .ok (.iload_n 2, 1) := by decide +kernel
theorem dX7_price_7 : decode cX7_price 7 = .ok (.invokevirtual 162, 3) := by decide +kernel
theorem dX7_price_10 : decode cX7_price 10 = .ok (.iload_n 3, 1) := by decide +kernel
theorem dX7_price_11 : decode cX7_price 11 = .ok (.aload_n 0, 1) := by decide +kernel
theorem dX7_price_12 : decode cX7_price 12 = .ok (.getfield 23, 3) := by decide +kernel
theorem dX7_price_15 : decode cX7_price 15 = .ok (.getfield 128, 3) := by decide +kernel
theorem dX7_price_18 : decode cX7_price 18 = .ok (.invokestatic 203, 3) := by decide +kernel
theorem dX7_price_21 : decode cX7_price 21 = .ok (.iconst (-1), 1) := by decide +kernel
theorem dX7_price_22 : decode cX7_price 22 = .ok (.ixor, 1) := by decide +kernel
theorem dX7_price_23 : decode cX7_price 23 = .ok (.iand, 1) := by decide +kernel
theorem dX7_price_24 : decode cX7_price 24 = .ok (.ifCond .eq 13, 3) := by decide +kernel
theorem dX7_price_27 : decode cX7_price 27 = .ok (.new 89, 3) := by decide +kernel
theorem dX7_price_30 : decode cX7_price 30 = .ok (.dup, 1) := by decide +kernel
theorem dX7_price_31 : decode cX7_price 31 = .ok (.ldc 206, 2) := by decide +kernel
theorem dX7_price_33 : decode cX7_price 33 = .ok (.invokespecial 93, 3) := by decide +kernel
theorem dX7_price_36 : decode cX7_price 36 = .ok (.athrow, 1) := by decide +kernel
theorem dX7_price_37 : decode cX7_price 37 = .ok (.aload_n 0, 1) := by decide +kernel
theorem dX7_price_38 : decode cX7_price 38 = .ok (.getfield 51, 3) := by decide +kernel
theorem dX7_price_41 : decode cX7_price 41 = .ok (.iload_n 1, 1) := by decide +kernel
theorem dX7_price_42 : decode cX7_price 42 = .ok (.iload_n 2, 1) := by decide +kernel
theorem dX7_price_43 : decode cX7_price 43 = .ok (.iload_n 3, 1) := by decide +kernel
theorem dX7_price_44 : decode cX7_price 44 = .ok (.iconst (-1), 1) := by decide +kernel
theorem dX7_price_45 : decode cX7_price 45 = .ok (.invokevirtual 208, 3) := by decide +kernel
theorem dX7_price_48 : decode cX7_price 48 = .ok (.ireturn, 1) := by decide +kernel
theorem dX7_filled_0 : decode cX7_filled 0 = .ok (.aload_n 0, 1) := by decide +kernel
theorem dX7_filled_1 : decode cX7_filled 1 = .ok (.iload_n 1, 1) := by decide +kernel
theorem dX7_filled_2 : decode cX7_filled 2 = .ok (.invokevirtual 200, 3) := by decide +kernel
theorem dX7_filled_5 : decode cX7_filled 5 = .ok (.aload_n 0, 1) := by decide +kernel
theorem dX7_filled_6 : decode cX7_filled 6 = .ok (.iload_n 2, 1) := by decide +kernel
theorem dX7_filled_7 : decode cX7_filled 7 = .ok (.invokevirtual 162, 3) := by decide +kernel
theorem dX7_filled_10 : decode cX7_filled 10 = .ok (.iload_n 3, 1) := by decide +kernel
theorem dX7_filled_11 : decode cX7_filled 11 = .ok (.ifCond .lt 18, 3) := by decide +kernel
theorem dX7_filled_14 : decode cX7_filled 14 = .ok (.iload_n 3, 1) := by decide +kernel
theorem dX7_filled_15 : decode cX7_filled 15 = .ok (.aload_n 0, 1) := by decide +kernel
theorem dX7_filled_16 : decode cX7_filled 16 = .ok (.getfield 23, 3) := by decide +kernel
theorem dX7_filled_19 : decode cX7_filled 19 = .ok (.getfield 212, 3) := by decide +kernel
theorem dX7_filled_22 : decode cX7_filled 22 = .ok (.iload_n 1, 1) := by decide +kernel
theorem dX7_filled_23 : decode cX7_filled 23 = .ok (.invokestatic 153, 3) := by decide +kernel
theorem dX7_filled_26 : decode cX7_filled 26 = .ok (.if_icmp .lt 13, 3) := by decide +kernel
theorem dX7_filled_29 : decode cX7_filled 29 = .ok (.new 157, 3) := by decide +kernel
theorem dX7_filled_32 : decode cX7_filled 32 = .ok (.dup, 1) := by decide +kernel
theorem dX7_filled_33 : decode cX7_filled 33 = .ok (.ldc 215, 2) := by decide +kernel
theorem dX7_filled_35 : decode cX7_filled 35 = .ok (.invokespecial 161, 3) := by decide +kernel
theorem dX7_filled_38 : decode cX7_filled 38 = .ok (.athrow, 1) := by decide +kernel
theorem dX7_filled_39 : decode cX7_filled 39 = .ok (.aload_n 0, 1) := by decide +kernel
theorem dX7_filled_40 : decode cX7_filled 40 = .ok (.getfield 51, 3) := by decide +kernel
theorem dX7_filled_43 : decode cX7_filled 43 = .ok (.iload_n 1, 1) := by decide +kernel
theorem dX7_filled_44 : decode cX7_filled 44 = .ok (.iload_n 2, 1) := by decide +kernel
theorem dX7_filled_45 : decode cX7_filled 45 = .ok (.aload_n 0, 1) := by decide +kernel
theorem dX7_filled_46 : decode cX7_filled 46 = .ok (.getfield 23, 3) := by decide +kernel
theorem dX7_filled_49 : decode cX7_filled 49 = .ok (.aload_n 0, 1) := by decide +kernel
theorem dX7_filled_50 : decode cX7_filled 50 = .ok (.getfield 58, 3) := by decide +kernel
theorem dX7_filled_53 : decode cX7_filled 53 = .ok (.iload_n 2, 1) := by decide +kernel
theorem dX7_filled_54 : decode cX7_filled 54 = .ok (.invokevirtual 177, 3) := by decide +kernel
theorem dX7_filled_57 : decode cX7_filled 57 = .ok (.invokevirtual 180, 3) := by decide +kernel
theorem dX7_filled_60 : decode cX7_filled 60 = .ok (.iload_n 3, 1) := by decide +kernel
theorem dX7_filled_61 : decode cX7_filled 61 = .ok (.invokevirtual 217, 3) := by decide +kernel
theorem dX7_filled_64 : decode cX7_filled 64 = .ok (.ireturn, 1) := by decide +kernel
theorem dX7_tonight_0 : decode cX7_tonight 0 = .ok (.aload_n 0, 1) := by decide +kernel
theorem dX7_tonight_1 : decode cX7_tonight 1 = .ok (.iload_n 1, 1) := by decide +kernel
theorem dX7_tonight_2 : decode cX7_tonight 2 = .ok (.invokevirtual 162, 3) := by decide +kernel
theorem dX7_tonight_5 : decode cX7_tonight 5 = .ok (.iload_n 2, 1) := by decide +kernel
theorem dX7_tonight_6 : decode cX7_tonight 6 = .ok (.invokestatic 220, 3) := by decide +kernel
theorem dX7_tonight_9 : decode cX7_tonight 9 = .ok (.iconst (-1), 1) := by decide +kernel
theorem dX7_tonight_10 : decode cX7_tonight 10 = .ok (.istore_n 3, 1) := by decide +kernel
theorem dX7_tonight_11 : decode cX7_tonight 11 = .ok (.iconst (-1), 1) := by decide +kernel
theorem dX7_tonight_12 : decode cX7_tonight 12 = .ok (.istore 4, 2) := by decide +kernel
theorem dX7_tonight_14 : decode cX7_tonight 14 = .ok (.aload_n 0, 1) := by decide +kernel
theorem dX7_tonight_15 : decode cX7_tonight 15 = .ok (.getfield 58, 3) := by decide +kernel
theorem dX7_tonight_18 : decode cX7_tonight 18 = .ok (.iload_n 1, 1) := by decide +kernel
theorem dX7_tonight_19 : decode cX7_tonight 19 = .ok (.invokevirtual 177, 3) := by decide +kernel
theorem dX7_tonight_22 : decode cX7_tonight 22 = .ok (.istore 5, 2) := by decide +kernel
theorem dX7_tonight_24 : decode cX7_tonight 24 = .ok (.iconst 0, 1) := by decide +kernel
theorem dX7_tonight_25 : decode cX7_tonight 25 = .ok (.istore 6, 2) := by decide +kernel
theorem dX7_tonight_27 : decode cX7_tonight 27 = .ok (.iload 6, 2) := by decide +kernel
theorem dX7_tonight_29 : decode cX7_tonight 29 = .ok (.aload_n 0, 1) := by decide +kernel
theorem dX7_tonight_30 : decode cX7_tonight 30 = .ok (.getfield 23, 3) := by decide +kernel
theorem dX7_tonight_33 : decode cX7_tonight 33 = .ok (.getfield 131, 3) := by decide +kernel
theorem dX7_tonight_36 : decode cX7_tonight 36 = .ok (.if_icmp .ge 62, 3) := by decide +kernel
theorem dX7_tonight_39 : decode cX7_tonight 39 = .ok (.aload_n 0, 1) := by decide +kernel
theorem dX7_tonight_40 : decode cX7_tonight 40 = .ok (.getfield 23, 3) := by decide +kernel
theorem dX7_tonight_43 : decode cX7_tonight 43 = .ok (.getfield 223, 3) := by decide +kernel
theorem dX7_tonight_46 : decode cX7_tonight 46 = .ok (.iload 6, 2) := by decide +kernel
theorem dX7_tonight_48 : decode cX7_tonight 48 = .ok (.invokestatic 153, 3) := by decide +kernel
theorem dX7_tonight_51 : decode cX7_tonight 51 = .ok (.aload_n 0, 1) := by decide +kernel
theorem dX7_tonight_52 : decode cX7_tonight 52 = .ok (.getfield 23, 3) := by decide +kernel
theorem dX7_tonight_55 : decode cX7_tonight 55 = .ok (.getfield 134, 3) := by decide +kernel
theorem dX7_tonight_58 : decode cX7_tonight 58 = .ok (.if_icmp .gt 34, 3) := by decide +kernel
theorem dX7_tonight_61 : decode cX7_tonight 61 = .ok (.aload_n 0, 1) := by decide +kernel
theorem dX7_tonight_62 : decode cX7_tonight 62 = .ok (.getfield 51, 3) := by decide +kernel
theorem dX7_tonight_65 : decode cX7_tonight 65 = .ok (.iload 6, 2) := by decide +kernel
theorem dX7_tonight_67 : decode cX7_tonight 67 = .ok (.iload_n 1, 1) := by decide +kernel
theorem dX7_tonight_68 : decode cX7_tonight 68 = .ok (.iload 5, 2) := by decide +kernel
theorem dX7_tonight_70 : decode cX7_tonight 70 = .ok (.invokevirtual 226, 3) := by decide +kernel
theorem dX7_tonight_73 : decode cX7_tonight 73 = .ok (.istore 7, 2) := by decide +kernel
theorem dX7_tonight_75 : decode cX7_tonight 75 = .ok (.iload 7, 2) := by decide +kernel
theorem dX7_tonight_77 : decode cX7_tonight 77 = .ok (.iload 4, 2) := by decide +kernel
theorem dX7_tonight_79 : decode cX7_tonight 79 = .ok (.invokestatic 230, 3) := by decide +kernel
theorem dX7_tonight_82 : decode cX7_tonight 82 = .ok (.ifCond .eq 10, 3) := by decide +kernel
theorem dX7_tonight_85 : decode cX7_tonight 85 = .ok (.iload 7, 2) := by decide +kernel
theorem dX7_tonight_87 : decode cX7_tonight 87 = .ok (.istore 4, 2) := by decide +kernel
theorem dX7_tonight_89 : decode cX7_tonight 89 = .ok (.iload 6, 2) := by decide +kernel
theorem dX7_tonight_91 : decode cX7_tonight 91 = .ok (.istore_n 3, 1) := by decide +kernel
theorem dX7_tonight_92 : decode cX7_tonight 92 = .ok (.iinc 6 1, 3) := by decide +kernel
theorem dX7_tonight_95 : decode cX7_tonight 95 = .ok (.goto (-68), 3) := by decide +kernel
theorem dX7_tonight_98 : decode cX7_tonight 98 = .ok (.iload_n 2, 1) := by decide +kernel
theorem dX7_tonight_99 : decode cX7_tonight 99 = .ok (.ifCond .ne 7, 3) := by decide +kernel
theorem dX7_tonight_102 : decode cX7_tonight 102 = .ok (.iload_n 3, 1) := by decide +kernel
theorem dX7_tonight_103 : decode cX7_tonight 103 = .ok (.goto 5, 3) := by decide +kernel
theorem dX7_tonight_106 : decode cX7_tonight 106 = .ok (.iload 4, 2) := by decide +kernel
theorem dX7_tonight_108 : decode cX7_tonight 108 = .ok (.ireturn, 1) := by decide +kernel
theorem dX7_both_0 : decode cX7_both 0 = .ok (.aload_n 0, 1) := by decide +kernel
theorem dX7_both_1 : decode cX7_both 1 = .ok (.iload_n 1, 1) := by decide +kernel
theorem dX7_both_2 : decode cX7_both 2 = .ok (.invokevirtual 162, 3) := by decide +kernel
theorem dX7_both_5 : decode cX7_both 5 = .ok (.aload_n 0, 1) := by decide +kernel
theorem dX7_both_6 : decode cX7_both 6 = .ok (.iload_n 2, 1) := by decide +kernel
theorem dX7_both_7 : decode cX7_both 7 = .ok (.invokevirtual 162, 3) := by decide +kernel
theorem dX7_both_10 : decode cX7_both 10 = .ok (.iload_n 3, 1) := by decide +kernel
theorem dX7_both_11 : decode cX7_both 11 = .ok (.invokestatic 220, 3) := by decide +kernel
theorem dX7_both_14 : decode cX7_both 14 = .ok (.iload_n 1, 1) := by decide +kernel
theorem dX7_both_15 : decode cX7_both 15 = .ok (.iload_n 2, 1) := by decide +kernel
theorem dX7_both_16 : decode cX7_both 16 = .ok (.if_icmp .ne 5, 3) := by decide +kernel
theorem dX7_both_19 : decode cX7_both 19 = .ok (.iconst (-1), 1) := by decide +kernel
theorem dX7_both_20 : decode cX7_both 20 = .ok (.ireturn, 1) := by decide +kernel
theorem dX7_both_21 : decode cX7_both 21 = .ok (.iconst (-1), 1) := by decide +kernel
theorem dX7_both_22 : decode cX7_both 22 = .ok (.istore 4, 2) := by decide +kernel
theorem dX7_both_24 : decode cX7_both 24 = .ok (.iconst (-1), 1) := by decide +kernel
theorem dX7_both_25 : decode cX7_both 25 = .ok (.istore 5, 2) := by decide +kernel
theorem dX7_both_27 : decode cX7_both 27 = .ok (.iconst 0, 1) := by decide +kernel
theorem dX7_both_28 : decode cX7_both 28 = .ok (.istore 6, 2) := by decide +kernel
theorem dX7_both_30 : decode cX7_both 30 = .ok (.iload 6, 2) := by decide +kernel
theorem dX7_both_32 : decode cX7_both 32 = .ok (.aload_n 0, 1) := by decide +kernel
theorem dX7_both_33 : decode cX7_both 33 = .ok (.getfield 23, 3) := by decide +kernel
theorem dX7_both_36 : decode cX7_both 36 = .ok (.getfield 131, 3) := by decide +kernel
theorem dX7_both_39 : decode cX7_both 39 = .ok (.if_icmp .ge 66, 3) := by decide +kernel
theorem dX7_both_42 : decode cX7_both 42 = .ok (.iconst 0, 1) := by decide +kernel
theorem dX7_both_43 : decode cX7_both 43 = .ok (.istore 7, 2) := by decide +kernel
theorem dX7_both_45 : decode cX7_both 45 = .ok (.iload 7, 2) := by decide +kernel
theorem dX7_both_47 : decode cX7_both 47 = .ok (.aload_n 0, 1) := by decide +kernel
theorem dX7_both_48 : decode cX7_both 48 = .ok (.getfield 23, 3) := by decide +kernel
theorem dX7_both_51 : decode cX7_both 51 = .ok (.getfield 131, 3) := by decide +kernel
theorem dX7_both_54 : decode cX7_both 54 = .ok (.if_icmp .ge 45, 3) := by decide +kernel
theorem dX7_both_57 : decode cX7_both 57 = .ok (.aload_n 0, 1) := by decide +kernel
theorem dX7_both_58 : decode cX7_both 58 = .ok (.iload 6, 2) := by decide +kernel
theorem dX7_both_60 : decode cX7_both 60 = .ok (.iload_n 1, 1) := by decide +kernel
theorem dX7_both_61 : decode cX7_both 61 = .ok (.iload 7, 2) := by decide +kernel
theorem dX7_both_63 : decode cX7_both 63 = .ok (.iload_n 2, 1) := by decide +kernel
theorem dX7_both_64 : decode cX7_both 64 = .ok (.invokevirtual 234, 3) := by decide +kernel
theorem dX7_both_67 : decode cX7_both 67 = .ok (.istore 8, 2) := by decide +kernel
theorem dX7_both_69 : decode cX7_both 69 = .ok (.iload 8, 2) := by decide +kernel
theorem dX7_both_71 : decode cX7_both 71 = .ok (.iload 5, 2) := by decide +kernel
theorem dX7_both_73 : decode cX7_both 73 = .ok (.invokestatic 230, 3) := by decide +kernel
theorem dX7_both_76 : decode cX7_both 76 = .ok (.ifCond .eq 17, 3) := by decide +kernel
theorem dX7_both_79 : decode cX7_both 79 = .ok (.iload 8, 2) := by decide +kernel
theorem dX7_both_81 : decode cX7_both 81 = .ok (.istore 5, 2) := by decide +kernel
theorem dX7_both_83 : decode cX7_both 83 = .ok (.bipush 8, 2) := by decide +kernel
theorem dX7_both_85 : decode cX7_both 85 = .ok (.iload 6, 2) := by decide +kernel
theorem dX7_both_87 : decode cX7_both 87 = .ok (.imul, 1) := by decide +kernel
theorem dX7_both_88 : decode cX7_both 88 = .ok (.iload 7, 2) := by decide +kernel
theorem dX7_both_90 : decode cX7_both 90 = .ok (.iadd, 1) := by decide +kernel
theorem dX7_both_91 : decode cX7_both 91 = .ok (.istore 4, 2) := by decide +kernel
theorem dX7_both_93 : decode cX7_both 93 = .ok (.iinc 7 1, 3) := by decide +kernel
theorem dX7_both_96 : decode cX7_both 96 = .ok (.goto (-51), 3) := by decide +kernel
theorem dX7_both_99 : decode cX7_both 99 = .ok (.iinc 6 1, 3) := by decide +kernel
theorem dX7_both_102 : decode cX7_both 102 = .ok (.goto (-72), 3) := by decide +kernel
theorem dX7_both_105 : decode cX7_both 105 = .ok (.iload_n 3, 1) := by decide +kernel
theorem dX7_both_106 : decode cX7_both 106 = .ok (.ifCond .ne 8, 3) := by decide +kernel
theorem dX7_both_109 : decode cX7_both 109 = .ok (.iload 4, 2) := by decide +kernel
theorem dX7_both_111 : decode cX7_both 111 = .ok (.goto 5, 3) := by decide +kernel
theorem dX7_both_114 : decode cX7_both 114 = .ok (.iload 5, 2) := by decide +kernel
theorem dX7_both_116 : decode cX7_both 116 = .ok (.ireturn, 1) := by decide +kernel
theorem dX7_priceOfBoth_0 : decode cX7_priceOfBoth 0 = .ok (.aload_n 0, 1) := by decide +kernel
theorem dX7_priceOfBoth_1 : decode cX7_priceOfBoth 1 = .ok (.getfield 23, 3) := by decide +kernel
theorem dX7_priceOfBoth_4 : decode cX7_priceOfBoth 4 = .ok (.getfield 223, 3) := by decide +kernel
theorem dX7_priceOfBoth_7 : decode cX7_priceOfBoth 7 = .ok (.iload_n 1, 1) := by decide +kernel
theorem dX7_priceOfBoth_8 : decode cX7_priceOfBoth 8 = .ok (.invokestatic 153, 3) := by decide +kernel
theorem dX7_priceOfBoth_11 : decode cX7_priceOfBoth 11 = .ok (.aload_n 0, 1) := by decide +kernel
theorem dX7_priceOfBoth_12 : decode cX7_priceOfBoth 12 = .ok (.getfield 23, 3) := by decide +kernel
theorem dX7_priceOfBoth_15 : decode cX7_priceOfBoth 15 = .ok (.getfield 223, 3) := by decide +kernel
theorem dX7_priceOfBoth_18 : decode cX7_priceOfBoth 18 = .ok (.iload_n 3, 1) := by decide +kernel
theorem dX7_priceOfBoth_19 : decode cX7_priceOfBoth 19 = .ok (.invokestatic 153, 3) := by decide +kernel
theorem dX7_priceOfBoth_22 : decode cX7_priceOfBoth 22 = .ok (.iadd, 1) := by decide +kernel
theorem dX7_priceOfBoth_23 : decode cX7_priceOfBoth 23 = .ok (.aload_n 0, 1) := by decide +kernel
theorem dX7_priceOfBoth_24 : decode cX7_priceOfBoth 24 = .ok (.getfield 23, 3) := by decide +kernel
theorem dX7_priceOfBoth_27 : decode cX7_priceOfBoth 27 = .ok (.getfield 134, 3) := by decide +kernel
theorem dX7_priceOfBoth_30 : decode cX7_priceOfBoth 30 = .ok (.if_icmp .le 5, 3) := by decide +kernel
theorem dX7_priceOfBoth_33 : decode cX7_priceOfBoth 33 = .ok (.iconst (-1), 1) := by decide +kernel
theorem dX7_priceOfBoth_34 : decode cX7_priceOfBoth 34 = .ok (.ireturn, 1) := by decide +kernel
theorem dX7_priceOfBoth_35 : decode cX7_priceOfBoth 35 = .ok (.aload_n 0, 1) := by decide +kernel
theorem dX7_priceOfBoth_36 : decode cX7_priceOfBoth 36 = .ok (.getfield 51, 3) := by decide +kernel
theorem dX7_priceOfBoth_39 : decode cX7_priceOfBoth 39 = .ok (.iload_n 1, 1) := by decide +kernel
theorem dX7_priceOfBoth_40 : decode cX7_priceOfBoth 40 = .ok (.iload_n 2, 1) := by decide +kernel
theorem dX7_priceOfBoth_41 : decode cX7_priceOfBoth 41 = .ok (.aload_n 0, 1) := by decide +kernel
theorem dX7_priceOfBoth_42 : decode cX7_priceOfBoth 42 = .ok (.getfield 58, 3) := by decide +kernel
theorem dX7_priceOfBoth_45 : decode cX7_priceOfBoth 45 = .ok (.iload_n 2, 1) := by decide +kernel
theorem dX7_priceOfBoth_46 : decode cX7_priceOfBoth 46 = .ok (.invokevirtual 177, 3) := by decide +kernel
theorem dX7_priceOfBoth_49 : decode cX7_priceOfBoth 49 = .ok (.invokevirtual 226, 3) := by decide +kernel
theorem dX7_priceOfBoth_52 : decode cX7_priceOfBoth 52 = .ok (.istore 5, 2) := by decide +kernel
theorem dX7_priceOfBoth_54 : decode cX7_priceOfBoth 54 = .ok (.aload_n 0, 1) := by decide +kernel
theorem dX7_priceOfBoth_55 : decode cX7_priceOfBoth 55 = .ok (.getfield 51, 3) := by decide +kernel
theorem dX7_priceOfBoth_58 : decode cX7_priceOfBoth 58 = .ok (.iload_n 3, 1) := by decide +kernel
theorem dX7_priceOfBoth_59 : decode cX7_priceOfBoth 59 = .ok (.iload 4, 2) := by decide +kernel
theorem dX7_priceOfBoth_61 : decode cX7_priceOfBoth 61 = .ok (.aload_n 0, 1) := by decide +kernel
theorem dX7_priceOfBoth_62 : decode cX7_priceOfBoth 62 = .ok (.getfield 58, 3) := by decide +kernel
theorem dX7_priceOfBoth_65 : decode cX7_priceOfBoth 65 = .ok (.iload 4, 2) := by decide +kernel
theorem dX7_priceOfBoth_67 : decode cX7_priceOfBoth 67 = .ok (.invokevirtual 177, 3) := by decide +kernel
theorem dX7_priceOfBoth_70 : decode cX7_priceOfBoth 70 = .ok (.invokevirtual 226, 3) := by decide +kernel
theorem dX7_priceOfBoth_73 : decode cX7_priceOfBoth 73 = .ok (.istore 6, 2) := by decide +kernel
theorem dX7_priceOfBoth_75 : decode cX7_priceOfBoth 75 = .ok (.iload 5, 2) := by decide +kernel
theorem dX7_priceOfBoth_77 : decode cX7_priceOfBoth 77 = .ok (.iconst (-1), 1) := by decide +kernel
theorem dX7_priceOfBoth_78 : decode cX7_priceOfBoth 78 = .ok (.if_icmp .eq 9, 3) := by decide +kernel
theorem dX7_priceOfBoth_81 : decode cX7_priceOfBoth 81 = .ok (.iload 6, 2) := by decide +kernel
theorem dX7_priceOfBoth_83 : decode cX7_priceOfBoth 83 = .ok (.iconst (-1), 1) := by decide +kernel
theorem dX7_priceOfBoth_84 : decode cX7_priceOfBoth 84 = .ok (.if_icmp .ne 7, 3) := by decide +kernel
theorem dX7_priceOfBoth_87 : decode cX7_priceOfBoth 87 = .ok (.iconst (-1), 1) := by decide +kernel
theorem dX7_priceOfBoth_88 : decode cX7_priceOfBoth 88 = .ok (.goto 8, 3) := by decide +kernel
theorem dX7_priceOfBoth_91 : decode cX7_priceOfBoth 91 = .ok (.iload 5, 2) := by decide +kernel
theorem dX7_priceOfBoth_93 : decode cX7_priceOfBoth 93 = .ok (.iload 6, 2) := by decide +kernel
theorem dX7_priceOfBoth_95 : decode cX7_priceOfBoth 95 = .ok (.iadd, 1) := by decide +kernel
theorem dX7_priceOfBoth_96 : decode cX7_priceOfBoth 96 = .ok (.ireturn, 1) := by decide +kernel
theorem dX7_unopened_0 : decode cX7_unopened 0 = .ok (.aload_n 0, 1) := by decide +kernel
theorem dX7_unopened_1 : decode cX7_unopened 1 = .ok (.iload_n 1, 1) := by decide +kernel
theorem dX7_unopened_2 : decode cX7_unopened 2 = .ok (.invokevirtual 200, 3) := by decide +kernel
theorem dX7_unopened_5 : decode cX7_unopened 5 = .ok (.aload_n 0, 1) := by decide +kernel
theorem dX7_unopened_6 : decode cX7_unopened 6 = .ok (.iload_n 2, 1) := by decide +kernel
theorem dX7_unopened_7 : decode cX7_unopened 7 = .ok (.invokevirtual 162, 3) := by decide +kernel
theorem dX7_unopened_10 : decode cX7_unopened 10 = .ok (.iload_n 3, 1) := by decide +kernel
theorem dX7_unopened_11 : decode cX7_unopened 11 = .ok (.invokestatic 237, 3) := by decide +kernel
theorem dX7_unopened_14 : decode cX7_unopened 14 = .ok (.iload 4, 2) := by decide +kernel
theorem dX7_unopened_16 : decode cX7_unopened 16 = .ok (.invokestatic 237, 3) := by decide +kernel
theorem dX7_unopened_19 : decode cX7_unopened 19 = .ok (.iadd, 1) := by decide +kernel
theorem dX7_unopened_20 : decode cX7_unopened 20 = .ok (.iload 5, 2) := by decide +kernel
theorem dX7_unopened_22 : decode cX7_unopened 22 = .ok (.invokestatic 237, 3) := by decide +kernel
theorem dX7_unopened_25 : decode cX7_unopened 25 = .ok (.iadd, 1) := by decide +kernel
theorem dX7_unopened_26 : decode cX7_unopened 26 = .ok (.istore 6, 2) := by decide +kernel
theorem dX7_unopened_28 : decode cX7_unopened 28 = .ok (.iload 6, 2) := by decide +kernel
theorem dX7_unopened_30 : decode cX7_unopened 30 = .ok (.ifCond .gt 13, 3) := by decide +kernel
theorem dX7_unopened_33 : decode cX7_unopened 33 = .ok (.new 89, 3) := by decide +kernel
theorem dX7_unopened_36 : decode cX7_unopened 36 = .ok (.dup, 1) := by decide +kernel
theorem dX7_unopened_37 : decode cX7_unopened 37 = .ok (.ldc 240, 2) := by decide +kernel
theorem dX7_unopened_39 : decode cX7_unopened 39 = .ok (.invokespecial 93, 3) := by decide +kernel
theorem dX7_unopened_42 : decode cX7_unopened 42 = .ok (.athrow, 1) := by decide +kernel
theorem dX7_unopened_43 : decode cX7_unopened 43 = .ok (.aload_n 0, 1) := by decide +kernel
theorem dX7_unopened_44 : decode cX7_unopened 44 = .ok (.getfield 23, 3) := by decide +kernel
theorem dX7_unopened_47 : decode cX7_unopened 47 = .ok (.aload_n 0, 1) := by decide +kernel
theorem dX7_unopened_48 : decode cX7_unopened 48 = .ok (.getfield 58, 3) := by decide +kernel
theorem dX7_unopened_51 : decode cX7_unopened 51 = .ok (.iload_n 2, 1) := by decide +kernel
theorem dX7_unopened_52 : decode cX7_unopened 52 = .ok (.invokevirtual 177, 3) := by decide +kernel
theorem dX7_unopened_55 : decode cX7_unopened 55 = .ok (.invokevirtual 180, 3) := by decide +kernel
theorem dX7_unopened_58 : decode cX7_unopened 58 = .ok (.istore 7, 2) := by decide +kernel
theorem dX7_unopened_60 : decode cX7_unopened 60 = .ok (.aload_n 0, 1) := by decide +kernel
theorem dX7_unopened_61 : decode cX7_unopened 61 = .ok (.getfield 51, 3) := by decide +kernel
theorem dX7_unopened_64 : decode cX7_unopened 64 = .ok (.iload_n 1, 1) := by decide +kernel
theorem dX7_unopened_65 : decode cX7_unopened 65 = .ok (.iload_n 2, 1) := by decide +kernel
theorem dX7_unopened_66 : decode cX7_unopened 66 = .ok (.iload 7, 2) := by decide +kernel
theorem dX7_unopened_68 : decode cX7_unopened 68 = .ok (.iconst (-1), 1) := by decide +kernel
theorem dX7_unopened_69 : decode cX7_unopened 69 = .ok (.invokevirtual 208, 3) := by decide +kernel
theorem dX7_unopened_72 : decode cX7_unopened 72 = .ok (.invokestatic 242, 3) := by decide +kernel
theorem dX7_unopened_75 : decode cX7_unopened 75 = .ok (.istore 8, 2) := by decide +kernel
theorem dX7_unopened_77 : decode cX7_unopened 77 = .ok (.aload_n 0, 1) := by decide +kernel
theorem dX7_unopened_78 : decode cX7_unopened 78 = .ok (.iload_n 1, 1) := by decide +kernel
theorem dX7_unopened_79 : decode cX7_unopened 79 = .ok (.iload_n 2, 1) := by decide +kernel
theorem dX7_unopened_80 : decode cX7_unopened 80 = .ok (.iload 7, 2) := by decide +kernel
theorem dX7_unopened_82 : decode cX7_unopened 82 = .ok (.iload_n 3, 1) := by decide +kernel
theorem dX7_unopened_83 : decode cX7_unopened 83 = .ok (.invokevirtual 245, 3) := by decide +kernel
theorem dX7_unopened_86 : decode cX7_unopened 86 = .ok (.aload_n 0, 1) := by decide +kernel
theorem dX7_unopened_87 : decode cX7_unopened 87 = .ok (.iload_n 1, 1) := by decide +kernel
theorem dX7_unopened_88 : decode cX7_unopened 88 = .ok (.iload_n 2, 1) := by decide +kernel
theorem dX7_unopened_89 : decode cX7_unopened 89 = .ok (.iload 7, 2) := by decide +kernel
theorem dX7_unopened_91 : decode cX7_unopened 91 = .ok (.iload 4, 2) := by decide +kernel
theorem dX7_unopened_93 : decode cX7_unopened 93 = .ok (.invokevirtual 245, 3) := by decide +kernel
theorem dX7_unopened_96 : decode cX7_unopened 96 = .ok (.iadd, 1) := by decide +kernel
theorem dX7_unopened_97 : decode cX7_unopened 97 = .ok (.aload_n 0, 1) := by decide +kernel
theorem dX7_unopened_98 : decode cX7_unopened 98 = .ok (.iload_n 1, 1) := by decide +kernel
theorem dX7_unopened_99 : decode cX7_unopened 99 = .ok (.iload_n 2, 1) := by decide +kernel
theorem dX7_unopened_100 : decode cX7_unopened 100 = .ok (.iload 7, 2) := by decide +kernel
theorem dX7_unopened_102 : decode cX7_unopened 102 = .ok (.iload 5, 2) := by decide +kernel
theorem dX7_unopened_104 : decode cX7_unopened 104 = .ok (.invokevirtual 245, 3) := by decide +kernel
theorem dX7_unopened_107 : decode cX7_unopened 107 = .ok (.iadd, 1) := by decide +kernel
theorem dX7_unopened_108 : decode cX7_unopened 108 = .ok (.istore 9, 2) := by decide +kernel
theorem dX7_unopened_110 : decode cX7_unopened 110 = .ok (.iload 8, 2) := by decide +kernel
theorem dX7_unopened_112 : decode cX7_unopened 112 = .ok (.iload 9, 2) := by decide +kernel
theorem dX7_unopened_114 : decode cX7_unopened 114 = .ok (.iload 6, 2) := by decide +kernel
theorem dX7_unopened_116 : decode cX7_unopened 116 = .ok (.idiv, 1) := by decide +kernel
theorem dX7_unopened_117 : decode cX7_unopened 117 = .ok (.isub, 1) := by decide +kernel
theorem dX7_unopened_118 : decode cX7_unopened 118 = .ok (.ireturn, 1) := by decide +kernel
theorem dX7_weightOf_0 : decode cX7_weightOf 0 = .ok (.iload_n 0, 1) := by decide +kernel
theorem dX7_weightOf_1 : decode cX7_weightOf 1 = .ok (.iconst (-1), 1) := by decide +kernel
theorem dX7_weightOf_2 : decode cX7_weightOf 2 = .ok (.if_icmp .lt 10, 3) := by decide +kernel
theorem dX7_weightOf_5 : decode cX7_weightOf 5 = .ok (.iload_n 0, 1) := by decide +kernel
theorem dX7_weightOf_6 : decode cX7_weightOf 6 = .ok (.sipush 2000, 3) := by decide +kernel
theorem dX7_weightOf_9 : decode cX7_weightOf 9 = .ok (.if_icmp .lt 13, 3) := by decide +kernel
theorem dX7_weightOf_12 : decode cX7_weightOf 12 = .ok (.new 89, 3) := by decide +kernel
theorem dX7_weightOf_15 : decode cX7_weightOf 15 = .ok (.dup, 1) := by decide +kernel
theorem dX7_weightOf_16 : decode cX7_weightOf 16 = .ok (.ldc 248, 2) := by decide +kernel
theorem dX7_weightOf_18 : decode cX7_weightOf 18 = .ok (.invokespecial 93, 3) := by decide +kernel
theorem dX7_weightOf_21 : decode cX7_weightOf 21 = .ok (.athrow, 1) := by decide +kernel
theorem dX7_weightOf_22 : decode cX7_weightOf 22 = .ok (.iload_n 0, 1) := by decide +kernel
theorem dX7_weightOf_23 : decode cX7_weightOf 23 = .ok (.iconst (-1), 1) := by decide +kernel
theorem dX7_weightOf_24 : decode cX7_weightOf 24 = .ok (.if_icmp .ne 7, 3) := by decide +kernel
theorem dX7_weightOf_27 : decode cX7_weightOf 27 = .ok (.iconst 0, 1) := by decide +kernel
theorem dX7_weightOf_28 : decode cX7_weightOf 28 = .ok (.goto 7, 3) := by decide +kernel
theorem dX7_weightOf_31 : decode cX7_weightOf 31 = .ok (.iload_n 0, 1) := by decide +kernel
theorem dX7_weightOf_32 : decode cX7_weightOf 32 = .ok (.bipush 100, 2) := by decide +kernel
theorem dX7_weightOf_34 : decode cX7_weightOf 34 = .ok (.irem, 1) := by decide +kernel
theorem dX7_weightOf_35 : decode cX7_weightOf 35 = .ok (.ireturn, 1) := by decide +kernel
theorem dX7_weighed_0 : decode cX7_weighed 0 = .ok (.iload 4, 2) := by decide +kernel
theorem dX7_weighed_2 : decode cX7_weighed 2 = .ok (.iconst (-1), 1) := by decide +kernel
theorem dX7_weighed_3 : decode cX7_weighed 3 = .ok (.if_icmp .ne 5, 3) := by decide +kernel
theorem dX7_weighed_6 : decode cX7_weighed 6 = .ok (.iconst 0, 1) := by decide +kernel
theorem dX7_weighed_7 : decode cX7_weighed 7 = .ok (.ireturn, 1) := by decide +kernel
theorem dX7_weighed_8 : decode cX7_weighed 8 = .ok (.iload 4, 2) := by decide +kernel
theorem dX7_weighed_10 : decode cX7_weighed 10 = .ok (.bipush 100, 2) := by decide +kernel
theorem dX7_weighed_12 : decode cX7_weighed 12 = .ok (.irem, 1) := by decide +kernel
theorem dX7_weighed_13 : decode cX7_weighed 13 = .ok (.aload_n 0, 1) := by decide +kernel
theorem dX7_weighed_14 : decode cX7_weighed 14 = .ok (.getfield 51, 3) := by decide +kernel
theorem dX7_weighed_17 : decode cX7_weighed 17 = .ok (.iload_n 1, 1) := by decide +kernel
theorem dX7_weighed_18 : decode cX7_weighed 18 = .ok (.iload_n 2, 1) := by decide +kernel
theorem dX7_weighed_19 : decode cX7_weighed 19 = .ok (.iload_n 3, 1) := by decide +kernel
theorem dX7_weighed_20 : decode cX7_weighed 20 = .ok (.iload 4, 2) := by decide +kernel
theorem dX7_weighed_22 : decode cX7_weighed 22 = .ok (.bipush 100, 2) := by decide +kernel
theorem dX7_weighed_24 : decode cX7_weighed 24 = .ok (.idiv, 1) := by decide +kernel
theorem dX7_weighed_25 : decode cX7_weighed 25 = .ok (.invokevirtual 208, 3) := by decide +kernel
theorem dX7_weighed_28 : decode cX7_weighed 28 = .ok (.invokestatic 242, 3) := by decide +kernel
theorem dX7_weighed_31 : decode cX7_weighed 31 = .ok (.imul, 1) := by decide +kernel
theorem dX7_weighed_32 : decode cX7_weighed 32 = .ok (.ireturn, 1) := by decide +kernel
theorem dX7_orThousand_0 : decode cX7_orThousand 0 = .ok (.iload_n 0, 1) := by decide +kernel
theorem dX7_orThousand_1 : decode cX7_orThousand 1 = .ok (.iconst (-1), 1) := by decide +kernel
theorem dX7_orThousand_2 : decode cX7_orThousand 2 = .ok (.if_icmp .ne 9, 3) := by decide +kernel
theorem dX7_orThousand_5 : decode cX7_orThousand 5 = .ok (.sipush 1000, 3) := by decide +kernel
theorem dX7_orThousand_8 : decode cX7_orThousand 8 = .ok (.goto 4, 3) := by decide +kernel
theorem dX7_orThousand_11 : decode cX7_orThousand 11 = .ok (.iload_n 0, 1) := by decide +kernel
theorem dX7_orThousand_12 : decode cX7_orThousand 12 = .ok (.ireturn, 1) := by decide +kernel
theorem dX7_way_0 : decode cX7_way 0 = .ok (.aload_n 0, 1) := by decide +kernel
theorem dX7_way_1 : decode cX7_way 1 = .ok (.iload_n 1, 1) := by decide +kernel
theorem dX7_way_2 : decode cX7_way 2 = .ok (.invokevirtual 162, 3) := by decide +kernel
theorem dX7_way_5 : decode cX7_way 5 = .ok (.aload_n 0, 1) := by decide +kernel
theorem dX7_way_6 : decode cX7_way 6 = .ok (.iload_n 2, 1) := by decide +kernel
theorem dX7_way_7 : decode cX7_way 7 = .ok (.invokevirtual 162, 3) := by decide +kernel
theorem dX7_way_10 : decode cX7_way 10 = .ok (.aload_n 0, 1) := by decide +kernel
theorem dX7_way_11 : decode cX7_way 11 = .ok (.getfield 44, 3) := by decide +kernel
theorem dX7_way_14 : decode cX7_way 14 = .ok (.iload_n 1, 1) := by decide +kernel
theorem dX7_way_15 : decode cX7_way 15 = .ok (.iload_n 2, 1) := by decide +kernel
theorem dX7_way_16 : decode cX7_way 16 = .ok (.invokevirtual 250, 3) := by decide +kernel
theorem dX7_way_19 : decode cX7_way 19 = .ok (.ireturn, 1) := by decide +kernel
theorem dX7_clerk_0 : decode cX7_clerk 0 = .ok (.aload_n 0, 1) := by decide +kernel
theorem dX7_clerk_1 : decode cX7_clerk 1 = .ok (.iload_n 1, 1) := by decide +kernel
theorem dX7_clerk_2 : decode cX7_clerk 2 = .ok (.iload_n 2, 1) := by decide +kernel
theorem dX7_clerk_3 : decode cX7_clerk 3 = .ok (.invokevirtual 254, 3) := by decide +kernel
theorem dX7_clerk_6 : decode cX7_clerk 6 = .ok (.istore 4, 2) := by decide +kernel
theorem dX7_clerk_8 : decode cX7_clerk 8 = .ok (.iload_n 3, 1) := by decide +kernel
theorem dX7_clerk_9 : decode cX7_clerk 9 = .ok (.iconst (-1), 1) := by decide +kernel
theorem dX7_clerk_10 : decode cX7_clerk 10 = .ok (.if_icmp .ne 6, 3) := by decide +kernel
theorem dX7_clerk_13 : decode cX7_clerk 13 = .ok (.iload 4, 2) := by decide +kernel
theorem dX7_clerk_15 : decode cX7_clerk 15 = .ok (.ireturn, 1) := by decide +kernel
theorem dX7_clerk_16 : decode cX7_clerk 16 = .ok (.iload_n 3, 1) := by decide +kernel
theorem dX7_clerk_17 : decode cX7_clerk 17 = .ok (.iload 4, 2) := by decide +kernel
theorem dX7_clerk_19 : decode cX7_clerk 19 = .ok (.invokestatic 257, 3) := by decide +kernel
theorem dX7_clerk_22 : decode cX7_clerk 22 = .ok (.aload_n 0, 1) := by decide +kernel
theorem dX7_clerk_23 : decode cX7_clerk 23 = .ok (.getfield 44, 3) := by decide +kernel
theorem dX7_clerk_26 : decode cX7_clerk 26 = .ok (.iload_n 3, 1) := by decide +kernel
theorem dX7_clerk_27 : decode cX7_clerk 27 = .ok (.invokevirtual 261, 3) := by decide +kernel
theorem dX7_clerk_30 : decode cX7_clerk 30 = .ok (.ireturn, 1) := by decide +kernel
theorem dX7_lost_0 : decode cX7_lost 0 = .ok (.aload_n 0, 1) := by decide +kernel
theorem dX7_lost_1 : decode cX7_lost 1 = .ok (.iload_n 1, 1) := by decide +kernel
theorem dX7_lost_2 : decode cX7_lost 2 = .ok (.iload_n 2, 1) := by decide +kernel
theorem dX7_lost_3 : decode cX7_lost 3 = .ok (.invokevirtual 254, 3) := by decide +kernel
theorem dX7_lost_6 : decode cX7_lost 6 = .ok (.istore 5, 2) := by decide +kernel
theorem dX7_lost_8 : decode cX7_lost 8 = .ok (.iload_n 3, 1) := by decide +kernel
theorem dX7_lost_9 : decode cX7_lost 9 = .ok (.iload 5, 2) := by decide +kernel
theorem dX7_lost_11 : decode cX7_lost 11 = .ok (.invokestatic 257, 3) := by decide +kernel
theorem dX7_lost_14 : decode cX7_lost 14 = .ok (.iload 4, 2) := by decide +kernel
theorem dX7_lost_16 : decode cX7_lost 16 = .ok (.invokestatic 220, 3) := by decide +kernel
theorem dX7_lost_19 : decode cX7_lost 19 = .ok (.aload_n 0, 1) := by decide +kernel
theorem dX7_lost_20 : decode cX7_lost 20 = .ok (.getfield 44, 3) := by decide +kernel
theorem dX7_lost_23 : decode cX7_lost 23 = .ok (.iload_n 3, 1) := by decide +kernel
theorem dX7_lost_24 : decode cX7_lost 24 = .ok (.iload 5, 2) := by decide +kernel
theorem dX7_lost_26 : decode cX7_lost 26 = .ok (.invokevirtual 264, 3) := by decide +kernel
theorem dX7_lost_29 : decode cX7_lost 29 = .ok (.lstore 6, 2) := by decide +kernel
theorem dX7_lost_31 : decode cX7_lost 31 = .ok (.aload_n 0, 1) := by decide +kernel
theorem dX7_lost_32 : decode cX7_lost 32 = .ok (.getfield 44, 3) := by decide +kernel
theorem dX7_lost_35 : decode cX7_lost 35 = .ok (.iload 5, 2) := by decide +kernel
theorem dX7_lost_37 : decode cX7_lost 37 = .ok (.invokevirtual 268, 3) := by decide +kernel
theorem dX7_lost_40 : decode cX7_lost 40 = .ok (.lstore 8, 2) := by decide +kernel
theorem dX7_lost_42 : decode cX7_lost 42 = .ok (.lload 8, 2) := by decide +kernel
theorem dX7_lost_44 : decode cX7_lost 44 = .ok (.lload 6, 2) := by decide +kernel
theorem dX7_lost_46 : decode cX7_lost 46 = .ok (.invokestatic 272, 3) := by decide +kernel
theorem dX7_lost_49 : decode cX7_lost 49 = .ok (.lstore 10, 2) := by decide +kernel
theorem dX7_lost_51 : decode cX7_lost 51 = .ok (.lload 10, 2) := by decide +kernel
theorem dX7_lost_53 : decode cX7_lost 53 = .ok (.lconst 0, 1) := by decide +kernel
theorem dX7_lost_54 : decode cX7_lost 54 = .ok (.lcmp, 1) := by decide +kernel
theorem dX7_lost_55 : decode cX7_lost 55 = .ok (.ifCond .ne 14, 3) := by decide +kernel
theorem dX7_lost_58 : decode cX7_lost 58 = .ok (.iload 4, 2) := by decide +kernel
theorem dX7_lost_60 : decode cX7_lost 60 = .ok (.ifCond .ne 7, 3) := by decide +kernel
theorem dX7_lost_63 : decode cX7_lost 63 = .ok (.lconst 0, 1) := by decide +kernel
theorem dX7_lost_64 : decode cX7_lost 64 = .ok (.goto 4, 3) := by decide +kernel
theorem dX7_lost_67 : decode cX7_lost 67 = .ok (.lconst 1, 1) := by decide +kernel
theorem dX7_lost_68 : decode cX7_lost 68 = .ok (.lreturn, 1) := by decide +kernel
theorem dX7_lost_69 : decode cX7_lost 69 = .ok (.iload 4, 2) := by decide +kernel
theorem dX7_lost_71 : decode cX7_lost 71 = .ok (.ifCond .ne 11, 3) := by decide +kernel
theorem dX7_lost_74 : decode cX7_lost 74 = .ok (.lload 6, 2) := by decide +kernel
theorem dX7_lost_76 : decode cX7_lost 76 = .ok (.lload 10, 2) := by decide +kernel
theorem dX7_lost_78 : decode cX7_lost 78 = .ok (.ldiv, 1) := by decide +kernel
theorem dX7_lost_79 : decode cX7_lost 79 = .ok (.goto 8, 3) := by decide +kernel
theorem dX7_lost_82 : decode cX7_lost 82 = .ok (.lload 8, 2) := by decide +kernel
theorem dX7_lost_84 : decode cX7_lost 84 = .ok (.lload 10, 2) := by decide +kernel
theorem dX7_lost_86 : decode cX7_lost 86 = .ok (.ldiv, 1) := by decide +kernel
theorem dX7_lost_87 : decode cX7_lost 87 = .ok (.lreturn, 1) := by decide +kernel
theorem dX7_clerksOf_0 : decode cX7_clerksOf 0 = .ok (.aload_n 0, 1) := by decide +kernel
theorem dX7_clerksOf_1 : decode cX7_clerksOf 1 = .ok (.iload_n 1, 1) := by decide +kernel
theorem dX7_clerksOf_2 : decode cX7_clerksOf 2 = .ok (.invokevirtual 162, 3) := by decide +kernel
theorem dX7_clerksOf_5 : decode cX7_clerksOf 5 = .ok (.aload_n 0, 1) := by decide +kernel
theorem dX7_clerksOf_6 : decode cX7_clerksOf 6 = .ok (.iload_n 2, 1) := by decide +kernel
theorem dX7_clerksOf_7 : decode cX7_clerksOf 7 = .ok (.invokevirtual 162, 3) := by decide +kernel
theorem dX7_clerksOf_10 : decode cX7_clerksOf 10 = .ok (.aload_n 0, 1) := by decide +kernel
theorem dX7_clerksOf_11 : decode cX7_clerksOf 11 = .ok (.getfield 44, 3) := by decide +kernel
theorem dX7_clerksOf_14 : decode cX7_clerksOf 14 = .ok (.iload_n 1, 1) := by decide +kernel
theorem dX7_clerksOf_15 : decode cX7_clerksOf 15 = .ok (.iload_n 2, 1) := by decide +kernel
theorem dX7_clerksOf_16 : decode cX7_clerksOf 16 = .ok (.invokevirtual 276, 3) := by decide +kernel
theorem dX7_clerksOf_19 : decode cX7_clerksOf 19 = .ok (.istore_n 3, 1) := by decide +kernel
theorem dX7_clerksOf_20 : decode cX7_clerksOf 20 = .ok (.iload_n 3, 1) := by decide +kernel
theorem dX7_clerksOf_21 : decode cX7_clerksOf 21 = .ok (.iconst (-1), 1) := by decide +kernel
theorem dX7_clerksOf_22 : decode cX7_clerksOf 22 = .ok (.if_icmp .ne 14, 3) := by decide +kernel
theorem dX7_clerksOf_25 : decode cX7_clerksOf 25 = .ok (.new 157, 3) := by decide +kernel
theorem dX7_clerksOf_28 : decode cX7_clerksOf 28 = .ok (.dup, 1) := by decide +kernel
theorem dX7_clerksOf_29 : decode cX7_clerksOf 29 = .ok (.ldc_w 279, 3) := by decide +kernel
theorem dX7_clerksOf_32 : decode cX7_clerksOf 32 = .ok (.invokespecial 161, 3) := by decide +kernel
theorem dX7_clerksOf_35 : decode cX7_clerksOf 35 = .ok (.athrow, 1) := by decide +kernel
theorem dX7_clerksOf_36 : decode cX7_clerksOf 36 = .ok (.iload_n 3, 1) := by decide +kernel
theorem dX7_clerksOf_37 : decode cX7_clerksOf 37 = .ok (.ireturn, 1) := by decide +kernel
theorem dX7_send_0 : decode cX7_send 0 = .ok (.aload_n 0, 1) := by decide +kernel
theorem dX7_send_1 : decode cX7_send 1 = .ok (.iload_n 1, 1) := by decide +kernel
theorem dX7_send_2 : decode cX7_send 2 = .ok (.invokevirtual 185, 3) := by decide +kernel
theorem dX7_send_5 : decode cX7_send 5 = .ok (.aload_n 0, 1) := by decide +kernel
theorem dX7_send_6 : decode cX7_send 6 = .ok (.iload_n 2, 1) := by decide +kernel
theorem dX7_send_7 : decode cX7_send 7 = .ok (.invokevirtual 162, 3) := by decide +kernel
theorem dX7_send_10 : decode cX7_send 10 = .ok (.aload_n 0, 1) := by decide +kernel
theorem dX7_send_11 : decode cX7_send 11 = .ok (.getfield 58, 3) := by decide +kernel
theorem dX7_send_14 : decode cX7_send 14 = .ok (.getfield 192, 3) := by decide +kernel
theorem dX7_send_17 : decode cX7_send 17 = .ok (.iload_n 1, 1) := by decide +kernel
theorem dX7_send_18 : decode cX7_send 18 = .ok (.invokestatic 153, 3) := by decide +kernel
theorem dX7_send_21 : decode cX7_send 21 = .ok (.istore_n 3, 1) := by decide +kernel
theorem dX7_send_22 : decode cX7_send 22 = .ok (.aload_n 0, 1) := by decide +kernel
theorem dX7_send_23 : decode cX7_send 23 = .ok (.getfield 58, 3) := by decide +kernel
theorem dX7_send_26 : decode cX7_send 26 = .ok (.iload_n 1, 1) := by decide +kernel
theorem dX7_send_27 : decode cX7_send 27 = .ok (.invokevirtual 188, 3) := by decide +kernel
theorem dX7_send_30 : decode cX7_send 30 = .ok (.ifCond .eq 20, 3) := by decide +kernel
theorem dX7_send_33 : decode cX7_send 33 = .ok (.iload_n 3, 1) := by decide +kernel
theorem dX7_send_34 : decode cX7_send 34 = .ok (.iload_n 2, 1) := by decide +kernel
theorem dX7_send_35 : decode cX7_send 35 = .ok (.if_icmp .eq 15, 3) := by decide +kernel
theorem dX7_send_38 : decode cX7_send 38 = .ok (.aload_n 0, 1) := by decide +kernel
theorem dX7_send_39 : decode cX7_send 39 = .ok (.getfield 44, 3) := by decide +kernel
theorem dX7_send_42 : decode cX7_send 42 = .ok (.iload_n 3, 1) := by decide +kernel
theorem dX7_send_43 : decode cX7_send 43 = .ok (.iload_n 2, 1) := by decide +kernel
theorem dX7_send_44 : decode cX7_send 44 = .ok (.invokevirtual 276, 3) := by decide +kernel
theorem dX7_send_47 : decode cX7_send 47 = .ok (.goto 4, 3) := by decide +kernel
theorem dX7_send_50 : decode cX7_send 50 = .ok (.iconst (-1), 1) := by decide +kernel
theorem dX7_send_51 : decode cX7_send 51 = .ok (.istore 4, 2) := by decide +kernel
theorem dX7_send_53 : decode cX7_send 53 = .ok (.iload 4, 2) := by decide +kernel
theorem dX7_send_55 : decode cX7_send 55 = .ok (.iconst (-1), 1) := by decide +kernel
theorem dX7_send_56 : decode cX7_send 56 = .ok (.if_icmp .ne 13, 3) := by decide +kernel
theorem dX7_send_59 : decode cX7_send 59 = .ok (.aload_n 0, 1) := by decide +kernel
theorem dX7_send_60 : decode cX7_send 60 = .ok (.getfield 58, 3) := by decide +kernel
theorem dX7_send_63 : decode cX7_send 63 = .ok (.iconst 1, 1) := by decide +kernel
theorem dX7_send_64 : decode cX7_send 64 = .ok (.invokevirtual 103, 3) := by decide +kernel
theorem dX7_send_67 : decode cX7_send 67 = .ok (.iconst (-1), 1) := by decide +kernel
theorem dX7_send_68 : decode cX7_send 68 = .ok (.ireturn, 1) := by decide +kernel
theorem dX7_send_69 : decode cX7_send 69 = .ok (.aload_n 0, 1) := by decide +kernel
theorem dX7_send_70 : decode cX7_send 70 = .ok (.getfield 72, 3) := by decide +kernel
theorem dX7_send_73 : decode cX7_send 73 = .ok (.aload_n 0, 1) := by decide +kernel
theorem dX7_send_74 : decode cX7_send 74 = .ok (.getfield 58, 3) := by decide +kernel
theorem dX7_send_77 : decode cX7_send 77 = .ok (.invokevirtual 281, 3) := by decide +kernel
theorem dX7_send_80 : decode cX7_send 80 = .ok (.aload_n 0, 1) := by decide +kernel
theorem dX7_send_81 : decode cX7_send 81 = .ok (.iload_n 1, 1) := by decide +kernel
theorem dX7_send_82 : decode cX7_send 82 = .ok (.iload 4, 2) := by decide +kernel
theorem dX7_send_84 : decode cX7_send 84 = .ok (.invokevirtual 285, 3) := by decide +kernel
theorem dX7_send_87 : decode cX7_send 87 = .ok (.aload_n 0, 1) := by decide +kernel
theorem dX7_send_88 : decode cX7_send 88 = .ok (.getfield 58, 3) := by decide +kernel
theorem dX7_send_91 : decode cX7_send 91 = .ok (.getfield 195, 3) := by decide +kernel
theorem dX7_send_94 : decode cX7_send 94 = .ok (.iload_n 1, 1) := by decide +kernel
theorem dX7_send_95 : decode cX7_send 95 = .ok (.invokestatic 153, 3) := by decide +kernel
theorem dX7_send_98 : decode cX7_send 98 = .ok (.ireturn, 1) := by decide +kernel
theorem dX7_ride_0 : decode cX7_ride 0 = .ok (.aload_n 0, 1) := by decide +kernel
theorem dX7_ride_1 : decode cX7_ride 1 = .ok (.getfield 58, 3) := by decide +kernel
theorem dX7_ride_4 : decode cX7_ride 4 = .ok (.getfield 137, 3) := by decide +kernel
theorem dX7_ride_7 : decode cX7_ride 7 = .ok (.istore_n 3, 1) := by decide +kernel
theorem dX7_ride_8 : decode cX7_ride 8 = .ok (.iconst 0, 1) := by decide +kernel
theorem dX7_ride_9 : decode cX7_ride 9 = .ok (.istore 4, 2) := by decide +kernel
theorem dX7_ride_11 : decode cX7_ride 11 = .ok (.iload 4, 2) := by decide +kernel
theorem dX7_ride_13 : decode cX7_ride 13 = .ok (.iload_n 2, 1) := by decide +kernel
theorem dX7_ride_14 : decode cX7_ride 14 = .ok (.if_icmp .ge 183, 3) := by decide +kernel
theorem dX7_ride_17 : decode cX7_ride 17 = .ok (.aload_n 0, 1) := by decide +kernel
theorem dX7_ride_18 : decode cX7_ride 18 = .ok (.getfield 44, 3) := by decide +kernel
theorem dX7_ride_21 : decode cX7_ride 21 = .ok (.iload 4, 2) := by decide +kernel
theorem dX7_ride_23 : decode cX7_ride 23 = .ok (.invokevirtual 261, 3) := by decide +kernel
theorem dX7_ride_26 : decode cX7_ride 26 = .ok (.istore 5, 2) := by decide +kernel
theorem dX7_ride_28 : decode cX7_ride 28 = .ok (.aload_n 0, 1) := by decide +kernel
theorem dX7_ride_29 : decode cX7_ride 29 = .ok (.getfield 44, 3) := by decide +kernel
theorem dX7_ride_32 : decode cX7_ride 32 = .ok (.iload 4, 2) := by decide +kernel
theorem dX7_ride_34 : decode cX7_ride 34 = .ok (.iconst 1, 1) := by decide +kernel
theorem dX7_ride_35 : decode cX7_ride 35 = .ok (.iadd, 1) := by decide +kernel
theorem dX7_ride_36 : decode cX7_ride 36 = .ok (.invokevirtual 261, 3) := by decide +kernel
theorem dX7_ride_39 : decode cX7_ride 39 = .ok (.istore 6, 2) := by decide +kernel
theorem dX7_ride_41 : decode cX7_ride 41 = .ok (.aload_n 0, 1) := by decide +kernel
theorem dX7_ride_42 : decode cX7_ride 42 = .ok (.getfield 58, 3) := by decide +kernel
theorem dX7_ride_45 : decode cX7_ride 45 = .ok (.getfield 146, 3) := by decide +kernel
theorem dX7_ride_48 : decode cX7_ride 48 = .ok (.ifCond .eq 43, 3) := by decide +kernel
theorem dX7_ride_51 : decode cX7_ride 51 = .ok (.aload_n 0, 1) := by decide +kernel
theorem dX7_ride_52 : decode cX7_ride 52 = .ok (.getfield 58, 3) := by decide +kernel
theorem dX7_ride_55 : decode cX7_ride 55 = .ok (.sipush 1000, 3) := by decide +kernel
theorem dX7_ride_58 : decode cX7_ride 58 = .ok (.invokevirtual 288, 3) := by decide +kernel
theorem dX7_ride_61 : decode cX7_ride 61 = .ok (.aload_n 0, 1) := by decide +kernel
theorem dX7_ride_62 : decode cX7_ride 62 = .ok (.getfield 23, 3) := by decide +kernel
theorem dX7_ride_65 : decode cX7_ride 65 = .ok (.getfield 168, 3) := by decide +kernel
theorem dX7_ride_68 : decode cX7_ride 68 = .ok (.iload 5, 2) := by decide +kernel
theorem dX7_ride_70 : decode cX7_ride 70 = .ok (.invokestatic 153, 3) := by decide +kernel
theorem dX7_ride_73 : decode cX7_ride 73 = .ok (.if_icmp .ge 18, 3) := by decide +kernel
theorem dX7_ride_76 : decode cX7_ride 76 = .ok (.aload_n 0, 1) := by decide +kernel
theorem dX7_ride_77 : decode cX7_ride 77 = .ok (.getfield 23, 3) := by decide +kernel
theorem dX7_ride_80 : decode cX7_ride 80 = .ok (.getfield 165, 3) := by decide +kernel
theorem dX7_ride_83 : decode cX7_ride 83 = .ok (.iload 5, 2) := by decide +kernel
theorem dX7_ride_85 : decode cX7_ride 85 = .ok (.invokestatic 153, 3) := by decide +kernel
theorem dX7_ride_88 : decode cX7_ride 88 = .ok (.goto 4, 3) := by decide +kernel
theorem dX7_ride_91 : decode cX7_ride 91 = .ok (.iconst 0, 1) := by decide +kernel
theorem dX7_ride_92 : decode cX7_ride 92 = .ok (.istore 7, 2) := by decide +kernel
theorem dX7_ride_94 : decode cX7_ride 94 = .ok (.iload 7, 2) := by decide +kernel
theorem dX7_ride_96 : decode cX7_ride 96 = .ok (.iconst 1, 1) := by decide +kernel
theorem dX7_ride_97 : decode cX7_ride 97 = .ok (.if_icmp .ne 17, 3) := by decide +kernel
theorem dX7_ride_100 : decode cX7_ride 100 = .ok (.aload_n 0, 1) := by decide +kernel
theorem dX7_ride_101 : decode cX7_ride 101 = .ok (.getfield 44, 3) := by decide +kernel
theorem dX7_ride_104 : decode cX7_ride 104 = .ok (.iload 5, 2) := by decide +kernel
theorem dX7_ride_106 : decode cX7_ride 106 = .ok (.iload 6, 2) := by decide +kernel
theorem dX7_ride_108 : decode cX7_ride 108 = .ok (.invokevirtual 291, 3) := by decide +kernel
theorem dX7_ride_111 : decode cX7_ride 111 = .ok (.goto 4, 3) := by decide +kernel
theorem dX7_ride_114 : decode cX7_ride 114 = .ok (.iconst (-1), 1) := by decide +kernel
theorem dX7_ride_115 : decode cX7_ride 115 = .ok (.istore 8, 2) := by decide +kernel
theorem dX7_ride_117 : decode cX7_ride 117 = .ok (.iload 7, 2) := by decide +kernel
theorem dX7_ride_119 : decode cX7_ride 119 = .ok (.iconst 3, 1) := by decide +kernel
theorem dX7_ride_120 : decode cX7_ride 120 = .ok (.if_icmp .ne 15, 3) := by decide +kernel
theorem dX7_ride_123 : decode cX7_ride 123 = .ok (.aload_n 0, 1) := by decide +kernel
theorem dX7_ride_124 : decode cX7_ride 124 = .ok (.getfield 58, 3) := by decide +kernel
theorem dX7_ride_127 : decode cX7_ride 127 = .ok (.iload_n 1, 1) := by decide +kernel
theorem dX7_ride_128 : decode cX7_ride 128 = .ok (.iload 5, 2) := by decide +kernel
theorem dX7_ride_130 : decode cX7_ride 130 = .ok (.iload_n 3, 1) := by decide +kernel
theorem dX7_ride_131 : decode cX7_ride 131 = .ok (.invokevirtual 294, 3) := by decide +kernel
theorem dX7_ride_134 : decode cX7_ride 134 = .ok (.return_, 1) := by decide +kernel
theorem dX7_ride_135 : decode cX7_ride 135 = .ok (.iload 8, 2) := by decide +kernel
theorem dX7_ride_137 : decode cX7_ride 137 = .ok (.iconst (-1), 1) := by decide +kernel
theorem dX7_ride_138 : decode cX7_ride 138 = .ok (.if_icmp .eq 27, 3) := by decide +kernel
theorem dX7_ride_141 : decode cX7_ride 141 = .ok (.aload_n 0, 1) := by decide +kernel
theorem dX7_ride_142 : decode cX7_ride 142 = .ok (.getfield 58, 3) := by decide +kernel
theorem dX7_ride_145 : decode cX7_ride 145 = .ok (.iload_n 1, 1) := by decide +kernel
theorem dX7_ride_146 : decode cX7_ride 146 = .ok (.iload 8, 2) := by decide +kernel
theorem dX7_ride_148 : decode cX7_ride 148 = .ok (.iload_n 3, 1) := by decide +kernel
theorem dX7_ride_149 : decode cX7_ride 149 = .ok (.aload_n 0, 1) := by decide +kernel
theorem dX7_ride_150 : decode cX7_ride 150 = .ok (.getfield 23, 3) := by decide +kernel
theorem dX7_ride_153 : decode cX7_ride 153 = .ok (.iload 5, 2) := by decide +kernel
theorem dX7_ride_155 : decode cX7_ride 155 = .ok (.iload 8, 2) := by decide +kernel
theorem dX7_ride_157 : decode cX7_ride 157 = .ok (.invokevirtual 297, 3) := by decide +kernel
theorem dX7_ride_160 : decode cX7_ride 160 = .ok (.iadd, 1) := by decide +kernel
theorem dX7_ride_161 : decode cX7_ride 161 = .ok (.invokevirtual 294, 3) := by decide +kernel
theorem dX7_ride_164 : decode cX7_ride 164 = .ok (.return_, 1) := by decide +kernel
theorem dX7_ride_165 : decode cX7_ride 165 = .ok (.iload_n 3, 1) := by decide +kernel
theorem dX7_ride_166 : decode cX7_ride 166 = .ok (.aload_n 0, 1) := by decide +kernel
theorem dX7_ride_167 : decode cX7_ride 167 = .ok (.getfield 23, 3) := by decide +kernel
theorem dX7_ride_170 : decode cX7_ride 170 = .ok (.iload 5, 2) := by decide +kernel
theorem dX7_ride_172 : decode cX7_ride 172 = .ok (.iload 6, 2) := by decide +kernel
theorem dX7_ride_174 : decode cX7_ride 174 = .ok (.invokevirtual 297, 3) := by decide +kernel
theorem dX7_ride_177 : decode cX7_ride 177 = .ok (.iload 7, 2) := by decide +kernel
theorem dX7_ride_179 : decode cX7_ride 179 = .ok (.iconst 2, 1) := by decide +kernel
theorem dX7_ride_180 : decode cX7_ride 180 = .ok (.if_icmp .ne 7, 3) := by decide +kernel
theorem dX7_ride_183 : decode cX7_ride 183 = .ok (.iconst 1, 1) := by decide +kernel
theorem dX7_ride_184 : decode cX7_ride 184 = .ok (.goto 4, 3) := by decide +kernel
theorem dX7_ride_187 : decode cX7_ride 187 = .ok (.iconst 0, 1) := by decide +kernel
theorem dX7_ride_188 : decode cX7_ride 188 = .ok (.iadd, 1) := by decide +kernel
theorem dX7_ride_189 : decode cX7_ride 189 = .ok (.iadd, 1) := by decide +kernel
theorem dX7_ride_190 : decode cX7_ride 190 = .ok (.istore_n 3, 1) := by decide +kernel
theorem dX7_ride_191 : decode cX7_ride 191 = .ok (.iinc 4 1, 3) := by decide +kernel
theorem dX7_ride_194 : decode cX7_ride 194 = .ok (.goto (-183), 3) := by decide +kernel
theorem dX7_ride_197 : decode cX7_ride 197 = .ok (.aload_n 0, 1) := by decide +kernel
theorem dX7_ride_198 : decode cX7_ride 198 = .ok (.getfield 58, 3) := by decide +kernel
theorem dX7_ride_201 : decode cX7_ride 201 = .ok (.iload_n 1, 1) := by decide +kernel
theorem dX7_ride_202 : decode cX7_ride 202 = .ok (.aload_n 0, 1) := by decide +kernel
theorem dX7_ride_203 : decode cX7_ride 203 = .ok (.getfield 44, 3) := by decide +kernel
theorem dX7_ride_206 : decode cX7_ride 206 = .ok (.iload_n 2, 1) := by decide +kernel
theorem dX7_ride_207 : decode cX7_ride 207 = .ok (.invokevirtual 261, 3) := by decide +kernel
theorem dX7_ride_210 : decode cX7_ride 210 = .ok (.iload_n 3, 1) := by decide +kernel
theorem dX7_ride_211 : decode cX7_ride 211 = .ok (.invokevirtual 294, 3) := by decide +kernel
theorem dX7_ride_214 : decode cX7_ride 214 = .ok (.return_, 1) := by decide +kernel
theorem dX7_seed_0 : decode cX7_seed 0 = .ok (.aload_n 0, 1) := by decide +kernel
theorem dX7_seed_1 : decode cX7_seed 1 = .ok (.getfield 58, 3) := by decide +kernel
theorem dX7_seed_4 : decode cX7_seed 4 = .ok (.iconst 1, 1) := by decide +kernel
theorem dX7_seed_5 : decode cX7_seed 5 = .ok (.putfield 146, 3) := by decide +kernel
theorem dX7_seed_8 : decode cX7_seed 8 = .ok (.aload_n 0, 1) := by decide +kernel
theorem dX7_seed_9 : decode cX7_seed 9 = .ok (.getfield 58, 3) := by decide +kernel
theorem dX7_seed_12 : decode cX7_seed 12 = .ok (.iload_n 1, 1) := by decide +kernel
theorem dX7_seed_13 : decode cX7_seed 13 = .ok (.putfield 300, 3) := by decide +kernel
theorem dX7_seed_16 : decode cX7_seed 16 = .ok (.return_, 1) := by decide +kernel
theorem dX7_days_0 : decode cX7_days 0 = .ok (.iload_n 1, 1) := by decide +kernel
theorem dX7_days_1 : decode cX7_days 1 = .ok (.ifCond .lt 9, 3) := by decide +kernel
theorem dX7_days_4 : decode cX7_days 4 = .ok (.iload_n 1, 1) := by decide +kernel
theorem dX7_days_5 : decode cX7_days 5 = .ok (.bipush 99, 2) := by decide +kernel
theorem dX7_days_7 : decode cX7_days 7 = .ok (.if_icmp .le 14, 3) := by decide +kernel
theorem dX7_days_10 : decode cX7_days 10 = .ok (.new 89, 3) := by decide +kernel
theorem dX7_days_13 : decode cX7_days 13 = .ok (.dup, 1) := by decide +kernel
theorem dX7_days_14 : decode cX7_days 14 = .ok (.ldc_w 303, 3) := by decide +kernel
theorem dX7_days_17 : decode cX7_days 17 = .ok (.invokespecial 93, 3) := by decide +kernel
theorem dX7_days_20 : decode cX7_days 20 = .ok (.athrow, 1) := by decide +kernel
theorem dX7_days_21 : decode cX7_days 21 = .ok (.aload_n 0, 1) := by decide +kernel
theorem dX7_days_22 : decode cX7_days 22 = .ok (.getfield 72, 3) := by decide +kernel
theorem dX7_days_25 : decode cX7_days 25 = .ok (.aload_n 0, 1) := by decide +kernel
theorem dX7_days_26 : decode cX7_days 26 = .ok (.getfield 58, 3) := by decide +kernel
theorem dX7_days_29 : decode cX7_days 29 = .ok (.invokevirtual 281, 3) := by decide +kernel
theorem dX7_days_32 : decode cX7_days 32 = .ok (.aload_n 0, 1) := by decide +kernel
theorem dX7_days_33 : decode cX7_days 33 = .ok (.getfield 58, 3) := by decide +kernel
theorem dX7_days_36 : decode cX7_days 36 = .ok (.dup, 1) := by decide +kernel
theorem dX7_days_37 : decode cX7_days 37 = .ok (.getfield 137, 3) := by decide +kernel
theorem dX7_days_40 : decode cX7_days 40 = .ok (.iload_n 1, 1) := by decide +kernel
theorem dX7_days_41 : decode cX7_days 41 = .ok (.iadd, 1) := by decide +kernel
theorem dX7_days_42 : decode cX7_days 42 = .ok (.putfield 137, 3) := by decide +kernel
theorem dX7_days_45 : decode cX7_days 45 = .ok (.aload_n 0, 1) := by decide +kernel
theorem dX7_days_46 : decode cX7_days 46 = .ok (.getfield 58, 3) := by decide +kernel
theorem dX7_days_49 : decode cX7_days 49 = .ok (.getfield 137, 3) := by decide +kernel
theorem dX7_days_52 : decode cX7_days 52 = .ok (.ireturn, 1) := by decide +kernel
theorem dX7_undo_0 : decode cX7_undo 0 = .ok (.aload_n 0, 1) := by decide +kernel
theorem dX7_undo_1 : decode cX7_undo 1 = .ok (.getfield 72, 3) := by decide +kernel
theorem dX7_undo_4 : decode cX7_undo 4 = .ok (.aload_n 0, 1) := by decide +kernel
theorem dX7_undo_5 : decode cX7_undo 5 = .ok (.getfield 58, 3) := by decide +kernel
theorem dX7_undo_8 : decode cX7_undo 8 = .ok (.invokevirtual 305, 3) := by decide +kernel
theorem dX7_undo_11 : decode cX7_undo 11 = .ok (.ireturn, 1) := by decide +kernel
theorem dX7_night_0 : decode cX7_night 0 = .ok (.aload_n 0, 1) := by decide +kernel
theorem dX7_night_1 : decode cX7_night 1 = .ok (.iload_n 2, 1) := by decide +kernel
theorem dX7_night_2 : decode cX7_night 2 = .ok (.invokevirtual 162, 3) := by decide +kernel
theorem dX7_night_5 : decode cX7_night 5 = .ok (.aload_n 0, 1) := by decide +kernel
theorem dX7_night_6 : decode cX7_night 6 = .ok (.iload_n 3, 1) := by decide +kernel
theorem dX7_night_7 : decode cX7_night 7 = .ok (.invokevirtual 200, 3) := by decide +kernel
theorem dX7_night_10 : decode cX7_night 10 = .ok (.aload_n 0, 1) := by decide +kernel
theorem dX7_night_11 : decode cX7_night 11 = .ok (.getfield 58, 3) := by decide +kernel
theorem dX7_night_14 : decode cX7_night 14 = .ok (.iload_n 1, 1) := by decide +kernel
theorem dX7_night_15 : decode cX7_night 15 = .ok (.iload_n 2, 1) := by decide +kernel
theorem dX7_night_16 : decode cX7_night 16 = .ok (.iload_n 3, 1) := by decide +kernel
theorem dX7_night_17 : decode cX7_night 17 = .ok (.invokevirtual 309, 3) := by decide +kernel
theorem dX7_night_20 : decode cX7_night 20 = .ok (.ifCond .ne 13, 3) := by decide +kernel
theorem dX7_night_23 : decode cX7_night 23 = .ok (.aload_n 0, 1) := by decide +kernel
theorem dX7_night_24 : decode cX7_night 24 = .ok (.getfield 58, 3) := by decide +kernel
theorem dX7_night_27 : decode cX7_night 27 = .ok (.iconst 2, 1) := by decide +kernel
theorem dX7_night_28 : decode cX7_night 28 = .ok (.invokevirtual 103, 3) := by decide +kernel
theorem dX7_night_31 : decode cX7_night 31 = .ok (.iconst (-1), 1) := by decide +kernel
theorem dX7_night_32 : decode cX7_night 32 = .ok (.ireturn, 1) := by decide +kernel
theorem dX7_night_33 : decode cX7_night 33 = .ok (.aload_n 0, 1) := by decide +kernel
theorem dX7_night_34 : decode cX7_night 34 = .ok (.getfield 58, 3) := by decide +kernel
theorem dX7_night_37 : decode cX7_night 37 = .ok (.getfield 140, 3) := by decide +kernel
theorem dX7_night_40 : decode cX7_night 40 = .ok (.ireturn, 1) := by decide +kernel
theorem dX7_forget_0 : decode cX7_forget 0 = .ok (.aload_n 0, 1) := by decide +kernel
theorem dX7_forget_1 : decode cX7_forget 1 = .ok (.getfield 58, 3) := by decide +kernel
theorem dX7_forget_4 : decode cX7_forget 4 = .ok (.iconst 0, 1) := by decide +kernel
theorem dX7_forget_5 : decode cX7_forget 5 = .ok (.putfield 140, 3) := by decide +kernel
theorem dX7_forget_8 : decode cX7_forget 8 = .ok (.return_, 1) := by decide +kernel
theorem dX7_tour_0 : decode cX7_tour 0 = .ok (.aload_n 0, 1) := by decide +kernel
theorem dX7_tour_1 : decode cX7_tour 1 = .ok (.getfield 81, 3) := by decide +kernel
theorem dX7_tour_4 : decode cX7_tour 4 = .ok (.invokevirtual 313, 3) := by decide +kernel
theorem dX7_tour_7 : decode cX7_tour 7 = .ok (.ireturn, 1) := by decide +kernel
theorem dX7_rides_0 : decode cX7_rides 0 = .ok (.aload_n 0, 1) := by decide +kernel
theorem dX7_rides_1 : decode cX7_rides 1 = .ok (.iload_n 1, 1) := by decide +kernel
theorem dX7_rides_2 : decode cX7_rides 2 = .ok (.invokevirtual 185, 3) := by decide +kernel
theorem dX7_rides_5 : decode cX7_rides 5 = .ok (.aload_n 0, 1) := by decide +kernel
theorem dX7_rides_6 : decode cX7_rides 6 = .ok (.getfield 81, 3) := by decide +kernel
theorem dX7_rides_9 : decode cX7_rides 9 = .ok (.invokevirtual 316, 3) := by decide +kernel
theorem dX7_rides_12 : decode cX7_rides 12 = .ok (.ifCond .ne 14, 3) := by decide +kernel
theorem dX7_rides_15 : decode cX7_rides 15 = .ok (.new 157, 3) := by decide +kernel
theorem dX7_rides_18 : decode cX7_rides 18 = .ok (.dup, 1) := by decide +kernel
theorem dX7_rides_19 : decode cX7_rides 19 = .ok (.ldc_w 320, 3) := by decide +kernel
theorem dX7_rides_22 : decode cX7_rides 22 = .ok (.invokespecial 161, 3) := by decide +kernel
theorem dX7_rides_25 : decode cX7_rides 25 = .ok (.athrow, 1) := by decide +kernel
theorem dX7_rides_26 : decode cX7_rides 26 = .ok (.aload_n 0, 1) := by decide +kernel
theorem dX7_rides_27 : decode cX7_rides 27 = .ok (.getfield 81, 3) := by decide +kernel
theorem dX7_rides_30 : decode cX7_rides 30 = .ok (.iload_n 1, 1) := by decide +kernel
theorem dX7_rides_31 : decode cX7_rides 31 = .ok (.invokevirtual 322, 3) := by decide +kernel
theorem dX7_rides_34 : decode cX7_rides 34 = .ok (.ireturn, 1) := by decide +kernel
theorem dX7_spared_0 : decode cX7_spared 0 = .ok (.iload_n 1, 1) := by decide +kernel
theorem dX7_spared_1 : decode cX7_spared 1 = .ok (.invokestatic 220, 3) := by decide +kernel
theorem dX7_spared_4 : decode cX7_spared 4 = .ok (.aload_n 0, 1) := by decide +kernel
theorem dX7_spared_5 : decode cX7_spared 5 = .ok (.getfield 81, 3) := by decide +kernel
theorem dX7_spared_8 : decode cX7_spared 8 = .ok (.invokevirtual 325, 3) := by decide +kernel
theorem dX7_spared_11 : decode cX7_spared 11 = .ok (.iload_n 1, 1) := by decide +kernel
theorem dX7_spared_12 : decode cX7_spared 12 = .ok (.ifCond .ne 13, 3) := by decide +kernel
theorem dX7_spared_15 : decode cX7_spared 15 = .ok (.aload_n 0, 1) := by decide +kernel
theorem dX7_spared_16 : decode cX7_spared 16 = .ok (.getfield 81, 3) := by decide +kernel
theorem dX7_spared_19 : decode cX7_spared 19 = .ok (.invokevirtual 328, 3) := by decide +kernel
theorem dX7_spared_22 : decode cX7_spared 22 = .ok (.goto 10, 3) := by decide +kernel
theorem dX7_spared_25 : decode cX7_spared 25 = .ok (.aload_n 0, 1) := by decide +kernel
theorem dX7_spared_26 : decode cX7_spared 26 = .ok (.getfield 81, 3) := by decide +kernel
theorem dX7_spared_29 : decode cX7_spared 29 = .ok (.invokevirtual 331, 3) := by decide +kernel
theorem dX7_spared_32 : decode cX7_spared 32 = .ok (.ireturn, 1) := by decide +kernel
theorem dX7_image_0 : decode cX7_image 0 = .ok (.aload_n 0, 1) := by decide +kernel
theorem dX7_image_1 : decode cX7_image 1 = .ok (.getfield 62, 3) := by decide +kernel
theorem dX7_image_4 : decode cX7_image 4 = .ok (.aload_n 0, 1) := by decide +kernel
theorem dX7_image_5 : decode cX7_image 5 = .ok (.getfield 58, 3) := by decide +kernel
theorem dX7_image_8 : decode cX7_image 8 = .ok (.invokevirtual 334, 3) := by decide +kernel
theorem dX7_image_11 : decode cX7_image 11 = .ok (.aload_n 0, 1) := by decide +kernel
theorem dX7_image_12 : decode cX7_image 12 = .ok (.iconst 1, 1) := by decide +kernel
theorem dX7_image_13 : decode cX7_image 13 = .ok (.putfield 65, 3) := by decide +kernel
theorem dX7_image_16 : decode cX7_image 16 = .ok (.return_, 1) := by decide +kernel
theorem dX7_restore_0 : decode cX7_restore 0 = .ok (.aload_n 0, 1) := by decide +kernel
theorem dX7_restore_1 : decode cX7_restore 1 = .ok (.getfield 65, 3) := by decide +kernel
theorem dX7_restore_4 : decode cX7_restore 4 = .ok (.ifCond .ne 5, 3) := by decide +kernel
theorem dX7_restore_7 : decode cX7_restore 7 = .ok (.iconst 0, 1) := by decide +kernel
theorem dX7_restore_8 : decode cX7_restore 8 = .ok (.ireturn, 1) := by decide +kernel
theorem dX7_restore_9 : decode cX7_restore 9 = .ok (.aload_n 0, 1) := by decide +kernel
theorem dX7_restore_10 : decode cX7_restore 10 = .ok (.getfield 58, 3) := by decide +kernel
theorem dX7_restore_13 : decode cX7_restore 13 = .ok (.aload_n 0, 1) := by decide +kernel
theorem dX7_restore_14 : decode cX7_restore 14 = .ok (.getfield 62, 3) := by decide +kernel
theorem dX7_restore_17 : decode cX7_restore 17 = .ok (.invokevirtual 334, 3) := by decide +kernel
theorem dX7_restore_20 : decode cX7_restore 20 = .ok (.aload_n 0, 1) := by decide +kernel
theorem dX7_restore_21 : decode cX7_restore 21 = .ok (.getfield 72, 3) := by decide +kernel
theorem dX7_restore_24 : decode cX7_restore 24 = .ok (.invokevirtual 118, 3) := by decide +kernel
theorem dX7_restore_27 : decode cX7_restore 27 = .ok (.iconst 1, 1) := by decide +kernel
theorem dX7_restore_28 : decode cX7_restore 28 = .ok (.ireturn, 1) := by decide +kernel
theorem dX7_checkTown_0 : decode cX7_checkTown 0 = .ok (.iload_n 1, 1) := by decide +kernel
theorem dX7_checkTown_1 : decode cX7_checkTown 1 = .ok (.ifCond .lt 14, 3) := by decide +kernel
theorem dX7_checkTown_4 : decode cX7_checkTown 4 = .ok (.iload_n 1, 1) := by decide +kernel
theorem dX7_checkTown_5 : decode cX7_checkTown 5 = .ok (.aload_n 0, 1) := by decide +kernel
theorem dX7_checkTown_6 : decode cX7_checkTown 6 = .ok (.getfield 23, 3) := by decide +kernel
theorem dX7_checkTown_9 : decode cX7_checkTown 9 = .ok (.getfield 122, 3) := by decide +kernel
theorem dX7_checkTown_12 : decode cX7_checkTown 12 = .ok (.if_icmp .lt 14, 3) := by decide +kernel
theorem dX7_checkTown_15 : decode cX7_checkTown 15 = .ok (.new 157, 3) := by decide +kernel
theorem dX7_checkTown_18 : decode cX7_checkTown 18 = .ok (.dup, 1) := by decide +kernel
theorem dX7_checkTown_19 : decode cX7_checkTown 19 = .ok (.ldc_w 336, 3) := by decide +kernel
theorem dX7_checkTown_22 : decode cX7_checkTown 22 = .ok (.invokespecial 161, 3) := by decide +kernel
theorem dX7_checkTown_25 : decode cX7_checkTown 25 = .ok (.athrow, 1) := by decide +kernel
theorem dX7_checkTown_26 : decode cX7_checkTown 26 = .ok (.return_, 1) := by decide +kernel
theorem dX7_checkTrunk_0 : decode cX7_checkTrunk 0 = .ok (.iload_n 1, 1) := by decide +kernel
theorem dX7_checkTrunk_1 : decode cX7_checkTrunk 1 = .ok (.ifCond .lt 14, 3) := by decide +kernel
theorem dX7_checkTrunk_4 : decode cX7_checkTrunk 4 = .ok (.iload_n 1, 1) := by decide +kernel
theorem dX7_checkTrunk_5 : decode cX7_checkTrunk 5 = .ok (.aload_n 0, 1) := by decide +kernel
theorem dX7_checkTrunk_6 : decode cX7_checkTrunk 6 = .ok (.getfield 23, 3) := by decide +kernel
theorem dX7_checkTrunk_9 : decode cX7_checkTrunk 9 = .ok (.getfield 125, 3) := by decide +kernel
theorem dX7_checkTrunk_12 : decode cX7_checkTrunk 12 = .ok (.if_icmp .lt 14, 3) := by decide +kernel
theorem dX7_checkTrunk_15 : decode cX7_checkTrunk 15 = .ok (.new 157, 3) := by decide +kernel
theorem dX7_checkTrunk_18 : decode cX7_checkTrunk 18 = .ok (.dup, 1) := by decide +kernel
theorem dX7_checkTrunk_19 : decode cX7_checkTrunk 19 = .ok (.ldc_w 338, 3) := by decide +kernel
theorem dX7_checkTrunk_22 : decode cX7_checkTrunk 22 = .ok (.invokespecial 161, 3) := by decide +kernel
theorem dX7_checkTrunk_25 : decode cX7_checkTrunk 25 = .ok (.athrow, 1) := by decide +kernel
theorem dX7_checkTrunk_26 : decode cX7_checkTrunk 26 = .ok (.return_, 1) := by decide +kernel
theorem dX7_checkPlay_0 : decode cX7_checkPlay 0 = .ok (.iload_n 1, 1) := by decide +kernel
theorem dX7_checkPlay_1 : decode cX7_checkPlay 1 = .ok (.ifCond .lt 14, 3) := by decide +kernel
theorem dX7_checkPlay_4 : decode cX7_checkPlay 4 = .ok (.iload_n 1, 1) := by decide +kernel
theorem dX7_checkPlay_5 : decode cX7_checkPlay 5 = .ok (.aload_n 0, 1) := by decide +kernel
theorem dX7_checkPlay_6 : decode cX7_checkPlay 6 = .ok (.getfield 23, 3) := by decide +kernel
theorem dX7_checkPlay_9 : decode cX7_checkPlay 9 = .ok (.getfield 131, 3) := by decide +kernel
theorem dX7_checkPlay_12 : decode cX7_checkPlay 12 = .ok (.if_icmp .lt 14, 3) := by decide +kernel
theorem dX7_checkPlay_15 : decode cX7_checkPlay 15 = .ok (.new 157, 3) := by decide +kernel
theorem dX7_checkPlay_18 : decode cX7_checkPlay 18 = .ok (.dup, 1) := by decide +kernel
theorem dX7_checkPlay_19 : decode cX7_checkPlay 19 = .ok (.ldc_w 340, 3) := by decide +kernel
theorem dX7_checkPlay_22 : decode cX7_checkPlay 22 = .ok (.invokespecial 161, 3) := by decide +kernel
theorem dX7_checkPlay_25 : decode cX7_checkPlay 25 = .ok (.athrow, 1) := by decide +kernel
theorem dX7_checkPlay_26 : decode cX7_checkPlay 26 = .ok (.return_, 1) := by decide +kernel
theorem dX7_checkPair_0 : decode cX7_checkPair 0 = .ok (.iload_n 0, 1) := by decide +kernel
theorem dX7_checkPair_1 : decode cX7_checkPair 1 = .ok (.ifCond .eq 19, 3) := by decide +kernel
theorem dX7_checkPair_4 : decode cX7_checkPair 4 = .ok (.iload_n 0, 1) := by decide +kernel
theorem dX7_checkPair_5 : decode cX7_checkPair 5 = .ok (.iconst 1, 1) := by decide +kernel
theorem dX7_checkPair_6 : decode cX7_checkPair 6 = .ok (.if_icmp .eq 14, 3) := by decide +kernel
theorem dX7_checkPair_9 : decode cX7_checkPair 9 = .ok (.new 157, 3) := by decide +kernel
theorem dX7_checkPair_12 : decode cX7_checkPair 12 = .ok (.dup, 1) := by decide +kernel
theorem dX7_checkPair_13 : decode cX7_checkPair 13 = .ok (.ldc_w 342, 3) := by decide +kernel
theorem dX7_checkPair_16 : decode cX7_checkPair 16 = .ok (.invokespecial 161, 3) := by decide +kernel
theorem dX7_checkPair_19 : decode cX7_checkPair 19 = .ok (.athrow, 1) := by decide +kernel
theorem dX7_checkPair_20 : decode cX7_checkPair 20 = .ok (.return_, 1) := by decide +kernel
theorem dX7_checkClerk_0 : decode cX7_checkClerk 0 = .ok (.iload_n 0, 1) := by decide +kernel
theorem dX7_checkClerk_1 : decode cX7_checkClerk 1 = .ok (.ifCond .lt 8, 3) := by decide +kernel
theorem dX7_checkClerk_4 : decode cX7_checkClerk 4 = .ok (.iload_n 0, 1) := by decide +kernel
theorem dX7_checkClerk_5 : decode cX7_checkClerk 5 = .ok (.iload_n 1, 1) := by decide +kernel
theorem dX7_checkClerk_6 : decode cX7_checkClerk 6 = .ok (.if_icmp .lt 14, 3) := by decide +kernel
theorem dX7_checkClerk_9 : decode cX7_checkClerk 9 = .ok (.new 157, 3) := by decide +kernel
theorem dX7_checkClerk_12 : decode cX7_checkClerk 12 = .ok (.dup, 1) := by decide +kernel
theorem dX7_checkClerk_13 : decode cX7_checkClerk 13 = .ok (.ldc_w 344, 3) := by decide +kernel
theorem dX7_checkClerk_16 : decode cX7_checkClerk 16 = .ok (.invokespecial 161, 3) := by decide +kernel
theorem dX7_checkClerk_19 : decode cX7_checkClerk 19 = .ok (.athrow, 1) := by decide +kernel
theorem dX7_checkClerk_20 : decode cX7_checkClerk 20 = .ok (.return_, 1) := by decide +kernel
theorem dX7_at_0 : decode cX7_at 0 = .ok (.iload_n 1, 1) := by decide +kernel
theorem dX7_at_1 : decode cX7_at 1 = .ok (.ifCond .lt 15, 3) := by decide +kernel
theorem dX7_at_4 : decode cX7_at 4 = .ok (.iload_n 1, 1) := by decide +kernel
theorem dX7_at_5 : decode cX7_at 5 = .ok (.aload_n 0, 1) := by decide +kernel
theorem dX7_at_6 : decode cX7_at 6 = .ok (.arraylength, 1) := by decide +kernel
theorem dX7_at_7 : decode cX7_at 7 = .ok (.if_icmp .ge 9, 3) := by decide +kernel
theorem dX7_at_10 : decode cX7_at 10 = .ok (.aload_n 0, 1) := by decide +kernel
theorem dX7_at_11 : decode cX7_at 11 = .ok (.iload_n 1, 1) := by decide +kernel
theorem dX7_at_12 : decode cX7_at 12 = .ok (.iaload, 1) := by decide +kernel
theorem dX7_at_13 : decode cX7_at 13 = .ok (.goto 4, 3) := by decide +kernel
theorem dX7_at_16 : decode cX7_at 16 = .ok (.iconst (-1), 1) := by decide +kernel
theorem dX7_at_17 : decode cX7_at 17 = .ok (.ireturn, 1) := by decide +kernel
theorem dX7_put_0 : decode cX7_put 0 = .ok (.iload_n 1, 1) := by decide +kernel
theorem dX7_put_1 : decode cX7_put 1 = .ok (.ifCond .lt 13, 3) := by decide +kernel
theorem dX7_put_4 : decode cX7_put 4 = .ok (.iload_n 1, 1) := by decide +kernel
theorem dX7_put_5 : decode cX7_put 5 = .ok (.aload_n 0, 1) := by decide +kernel
theorem dX7_put_6 : decode cX7_put 6 = .ok (.arraylength, 1) := by decide +kernel
theorem dX7_put_7 : decode cX7_put 7 = .ok (.if_icmp .ge 7, 3) := by decide +kernel
theorem dX7_put_10 : decode cX7_put 10 = .ok (.aload_n 0, 1) := by decide +kernel
theorem dX7_put_11 : decode cX7_put 11 = .ok (.iload_n 1, 1) := by decide +kernel
theorem dX7_put_12 : decode cX7_put 12 = .ok (.iload_n 2, 1) := by decide +kernel
theorem dX7_put_13 : decode cX7_put 13 = .ok (.iastore, 1) := by decide +kernel
theorem dX7_put_14 : decode cX7_put 14 = .ok (.return_, 1) := by decide +kernel
theorem dX7_isLess_0 : decode cX7_isLess 0 = .ok (.iload_n 0, 1) := by decide +kernel
theorem dX7_isLess_1 : decode cX7_isLess 1 = .ok (.iconst (-1), 1) := by decide +kernel
theorem dX7_isLess_2 : decode cX7_isLess 2 = .ok (.if_icmp .eq 17, 3) := by decide +kernel
theorem dX7_isLess_5 : decode cX7_isLess 5 = .ok (.iload_n 1, 1) := by decide +kernel
theorem dX7_isLess_6 : decode cX7_isLess 6 = .ok (.iconst (-1), 1) := by decide +kernel
theorem dX7_isLess_7 : decode cX7_isLess 7 = .ok (.if_icmp .eq 8, 3) := by decide +kernel
theorem dX7_isLess_10 : decode cX7_isLess 10 = .ok (.iload_n 0, 1) := by decide +kernel
theorem dX7_isLess_11 : decode cX7_isLess 11 = .ok (.iload_n 1, 1) := by decide +kernel
theorem dX7_isLess_12 : decode cX7_isLess 12 = .ok (.if_icmp .ge 7, 3) := by decide +kernel
theorem dX7_isLess_15 : decode cX7_isLess 15 = .ok (.iconst 1, 1) := by decide +kernel
theorem dX7_isLess_16 : decode cX7_isLess 16 = .ok (.goto 4, 3) := by decide +kernel
theorem dX7_isLess_19 : decode cX7_isLess 19 = .ok (.iconst 0, 1) := by decide +kernel
theorem dX7_isLess_20 : decode cX7_isLess 20 = .ok (.ireturn, 1) := by decide +kernel
theorem dX7_has_0 : decode cX7_has 0 = .ok (.iload_n 0, 1) := by decide +kernel
theorem dX7_has_1 : decode cX7_has 1 = .ok (.iload_n 1, 1) := by decide +kernel
theorem dX7_has_2 : decode cX7_has 2 = .ok (.iushr, 1) := by decide +kernel
theorem dX7_has_3 : decode cX7_has 3 = .ok (.iconst 1, 1) := by decide +kernel
theorem dX7_has_4 : decode cX7_has 4 = .ok (.iand, 1) := by decide +kernel
theorem dX7_has_5 : decode cX7_has 5 = .ok (.ifCond .eq 7, 3) := by decide +kernel
theorem dX7_has_8 : decode cX7_has 8 = .ok (.iconst 1, 1) := by decide +kernel
theorem dX7_has_9 : decode cX7_has 9 = .ok (.goto 4, 3) := by decide +kernel
theorem dX7_has_12 : decode cX7_has 12 = .ok (.iconst 0, 1) := by decide +kernel
theorem dX7_has_13 : decode cX7_has 13 = .ok (.ireturn, 1) := by decide +kernel
theorem dX7_lowBits_0 : decode cX7_lowBits 0 = .ok (.iconst 1, 1) := by decide +kernel
theorem dX7_lowBits_1 : decode cX7_lowBits 1 = .ok (.iload_n 0, 1) := by decide +kernel
theorem dX7_lowBits_2 : decode cX7_lowBits 2 = .ok (.ishl, 1) := by decide +kernel
theorem dX7_lowBits_3 : decode cX7_lowBits 3 = .ok (.iconst 1, 1) := by decide +kernel
theorem dX7_lowBits_4 : decode cX7_lowBits 4 = .ok (.isub, 1) := by decide +kernel
theorem dX7_lowBits_5 : decode cX7_lowBits 5 = .ok (.ireturn, 1) := by decide +kernel
theorem dX7_commonDivisor_0 : decode cX7_commonDivisor 0 = .ok (.iconst 0, 1) := by decide +kernel
theorem dX7_commonDivisor_1 : decode cX7_commonDivisor 1 = .ok (.istore 4, 2) := by decide +kernel
theorem dX7_commonDivisor_3 : decode cX7_commonDivisor 3 = .ok (.iload 4, 2) := by decide +kernel
theorem dX7_commonDivisor_5 : decode cX7_commonDivisor 5 = .ok (.bipush 100, 2) := by decide +kernel
theorem dX7_commonDivisor_7 : decode cX7_commonDivisor 7 = .ok (.if_icmp .ge 25, 3) := by decide +kernel
theorem dX7_commonDivisor_10 : decode cX7_commonDivisor 10 = .ok (.lload_n 2, 1) := by decide +kernel
theorem dX7_commonDivisor_11 : decode cX7_commonDivisor 11 = .ok (.lconst 0, 1) := by decide +kernel
theorem dX7_commonDivisor_12 : decode cX7_commonDivisor 12 = .ok (.lcmp, 1) := by decide +kernel
theorem dX7_commonDivisor_13 : decode cX7_commonDivisor 13 = .ok (.ifCond .eq 19, 3) := by decide +kernel
theorem dX7_commonDivisor_16 : decode cX7_commonDivisor 16 = .ok (.lload_n 0, 1) := by decide +kernel
theorem dX7_commonDivisor_17 : decode cX7_commonDivisor 17 = .ok (.lload_n 2, 1) := by decide +kernel
theorem dX7_commonDivisor_18 : decode cX7_commonDivisor 18 = .ok (.lrem, 1) := by decide +kernel
theorem dX7_commonDivisor_19 : decode cX7_commonDivisor 19 = .ok (.lstore 5, 2) := by decide +kernel
theorem dX7_commonDivisor_21 : decode cX7_commonDivisor 21 = .ok (.lload_n 2, 1) := by decide +kernel
theorem dX7_commonDivisor_22 : decode cX7_commonDivisor 22 = .ok (.lstore_n 0, 1) := by decide +kernel
theorem dX7_commonDivisor_23 : decode cX7_commonDivisor 23 = .ok (.lload 5, 2) := by decide +kernel
theorem dX7_commonDivisor_25 : decode cX7_commonDivisor 25 = .ok (.lstore_n 2, 1) := by decide +kernel
theorem dX7_commonDivisor_26 : decode cX7_commonDivisor 26 = .ok (.iinc 4 1, 3) := by decide +kernel
theorem dX7_commonDivisor_29 : decode cX7_commonDivisor 29 = .ok (.goto (-26), 3) := by decide +kernel
theorem dX7_commonDivisor_32 : decode cX7_commonDivisor 32 = .ok (.lload_n 0, 1) := by decide +kernel
theorem dX7_commonDivisor_33 : decode cX7_commonDivisor 33 = .ok (.lreturn, 1) := by decide +kernel
theorem dX7_copy_0 : decode cX7_copy 0 = .ok (.aload_n 0, 1) := by decide +kernel
theorem dX7_copy_1 : decode cX7_copy 1 = .ok (.iconst 0, 1) := by decide +kernel
theorem dX7_copy_2 : decode cX7_copy 2 = .ok (.aload_n 1, 1) := by decide +kernel
theorem dX7_copy_3 : decode cX7_copy 3 = .ok (.iconst 0, 1) := by decide +kernel
theorem dX7_copy_4 : decode cX7_copy 4 = .ok (.aload_n 0, 1) := by decide +kernel
theorem dX7_copy_5 : decode cX7_copy 5 = .ok (.arraylength, 1) := by decide +kernel
theorem dX7_copy_6 : decode cX7_copy 6 = .ok (.aload_n 1, 1) := by decide +kernel
theorem dX7_copy_7 : decode cX7_copy 7 = .ok (.arraylength, 1) := by decide +kernel
theorem dX7_copy_8 : decode cX7_copy 8 = .ok (.invokestatic 346, 3) := by decide +kernel
theorem dX7_copy_11 : decode cX7_copy 11 = .ok (.invokestatic 351, 3) := by decide +kernel
theorem dX7_copy_14 : decode cX7_copy 14 = .ok (.return_, 1) := by decide +kernel
theorem dX8_init_0 : decode cX8_init 0 = .ok (.aload_n 0, 1) := by decide +kernel
theorem dX8_init_1 : decode cX8_init 1 = .ok (.invokespecial 1, 3) := by decide +kernel
theorem dX8_init_4 : decode cX8_init 4 = .ok (.aload_n 0, 1) := by decide +kernel
theorem dX8_init_5 : decode cX8_init 5 = .ok (.iconst 4, 1) := by decide +kernel
theorem dX8_init_6 : decode cX8_init 6 = .ok (.anewarray 7, 3) := by decide +kernel
theorem dX8_init_9 : decode cX8_init 9 = .ok (.dup, 1) := by decide +kernel
theorem dX8_init_10 : decode cX8_init 10 = .ok (.iconst 0, 1) := by decide +kernel
theorem dX8_init_11 : decode cX8_init 11 = .ok (.ldc 9, 2) := by decide +kernel
theorem dX8_init_13 : decode cX8_init 13 = .ok (.aastore, 1) := by decide +kernel
theorem dX8_init_14 : decode cX8_init 14 = .ok (.dup, 1) := by decide +kernel
theorem dX8_init_15 : decode cX8_init 15 = .ok (.iconst 1, 1) := by decide +kernel
theorem dX8_init_16 : decode cX8_init 16 = .ok (.ldc 11, 2) := by decide +kernel
theorem dX8_init_18 : decode cX8_init 18 = .ok (.aastore, 1) := by decide +kernel
theorem dX8_init_19 : decode cX8_init 19 = .ok (.dup, 1) := by decide +kernel
theorem dX8_init_20 : decode cX8_init 20 = .ok (.iconst 2, 1) := by decide +kernel
theorem dX8_init_21 : decode cX8_init 21 = .ok (.ldc 13, 2) := by decide +kernel
theorem dX8_init_23 : decode cX8_init 23 = .ok (.aastore, 1) := by decide +kernel
theorem dX8_init_24 : decode cX8_init 24 = .ok (.dup, 1) := by decide +kernel
theorem dX8_init_25 : decode cX8_init 25 = .ok (.iconst 3, 1) := by decide +kernel
theorem dX8_init_26 : decode cX8_init 26 = .ok (.ldc 15, 2) := by decide +kernel
theorem dX8_init_28 : decode cX8_init 28 = .ok (.aastore, 1) := by decide +kernel
theorem dX8_init_29 : decode cX8_init 29 = .ok (.putfield 17, 3) := by decide +kernel
theorem dX8_init_32 : decode cX8_init 32 = .ok (.aload_n 0, 1) := by decide +kernel
theorem dX8_init_33 : decode cX8_init 33 = .ok (.bipush 10, 2) := by decide +kernel
theorem dX8_init_35 : decode cX8_init 35 = .ok (.newarray .int, 2) := by decide +kernel
theorem dX8_init_37 : decode cX8_init 37 = .ok (.dup, 1) := by decide +kernel
theorem dX8_init_38 : decode cX8_init 38 = .ok (.iconst 0, 1) := by decide +kernel
theorem dX8_init_39 : decode cX8_init 39 = .ok (.iconst 0, 1) := by decide +kernel
theorem dX8_init_40 : decode cX8_init 40 = .ok (.iastore, 1) := by decide +kernel
theorem dX8_init_41 : decode cX8_init 41 = .ok (.dup, 1) := by decide +kernel
theorem dX8_init_42 : decode cX8_init 42 = .ok (.iconst 1, 1) := by decide +kernel
theorem dX8_init_43 : decode cX8_init 43 = .ok (.iconst 0, 1) := by decide +kernel
theorem dX8_init_44 : decode cX8_init 44 = .ok (.iastore, 1) := by decide +kernel
theorem dX8_init_45 : decode cX8_init 45 = .ok (.dup, 1) := by decide +kernel
theorem dX8_init_46 : decode cX8_init 46 = .ok (.iconst 2, 1) := by decide +kernel
theorem dX8_init_47 : decode cX8_init 47 = .ok (.iconst 0, 1) := by decide +kernel
theorem dX8_init_48 : decode cX8_init 48 = .ok (.iastore, 1) := by decide +kernel
theorem dX8_init_49 : decode cX8_init 49 = .ok (.dup, 1) := by decide +kernel
theorem dX8_init_50 : decode cX8_init 50 = .ok (.iconst 3, 1) := by decide +kernel
theorem dX8_init_51 : decode cX8_init 51 = .ok (.iconst 0, 1) := by decide +kernel
theorem dX8_init_52 : decode cX8_init 52 = .ok (.iastore, 1) := by decide +kernel
theorem dX8_init_53 : decode cX8_init 53 = .ok (.dup, 1) := by decide +kernel
theorem dX8_init_54 : decode cX8_init 54 = .ok (.iconst 4, 1) := by decide +kernel
theorem dX8_init_55 : decode cX8_init 55 = .ok (.bipush 11, 2) := by decide +kernel
theorem dX8_init_57 : decode cX8_init 57 = .ok (.iastore, 1) := by decide +kernel
theorem dX8_init_58 : decode cX8_init 58 = .ok (.dup, 1) := by decide +kernel
theorem dX8_init_59 : decode cX8_init 59 = .ok (.iconst 5, 1) := by decide +kernel
theorem dX8_init_60 : decode cX8_init 60 = .ok (.iconst 0, 1) := by decide +kernel
theorem dX8_init_61 : decode cX8_init 61 = .ok (.iastore, 1) := by decide +kernel
theorem dX8_init_62 : decode cX8_init 62 = .ok (.dup, 1) := by decide +kernel
theorem dX8_init_63 : decode cX8_init 63 = .ok (.bipush 6, 2) := by decide +kernel
theorem dX8_init_65 : decode cX8_init 65 = .ok (.iconst 0, 1) := by decide +kernel
theorem dX8_init_66 : decode cX8_init 66 = .ok (.iastore, 1) := by decide +kernel
theorem dX8_init_67 : decode cX8_init 67 = .ok (.dup, 1) := by decide +kernel
theorem dX8_init_68 : decode cX8_init 68 = .ok (.bipush 7, 2) := by decide +kernel
theorem dX8_init_70 : decode cX8_init 70 = .ok (.iconst 0, 1) := by decide +kernel
theorem dX8_init_71 : decode cX8_init 71 = .ok (.iastore, 1) := by decide +kernel
theorem dX8_init_72 : decode cX8_init 72 = .ok (.dup, 1) := by decide +kernel
theorem dX8_init_73 : decode cX8_init 73 = .ok (.bipush 8, 2) := by decide +kernel
theorem dX8_init_75 : decode cX8_init 75 = .ok (.iconst 0, 1) := by decide +kernel
theorem dX8_init_76 : decode cX8_init 76 = .ok (.iastore, 1) := by decide +kernel
theorem dX8_init_77 : decode cX8_init 77 = .ok (.dup, 1) := by decide +kernel
theorem dX8_init_78 : decode cX8_init 78 = .ok (.bipush 9, 2) := by decide +kernel
theorem dX8_init_80 : decode cX8_init 80 = .ok (.bipush 11, 2) := by decide +kernel
theorem dX8_init_82 : decode cX8_init 82 = .ok (.iastore, 1) := by decide +kernel
theorem dX8_init_83 : decode cX8_init 83 = .ok (.putfield 23, 3) := by decide +kernel
theorem dX8_init_86 : decode cX8_init 86 = .ok (.aload_n 0, 1) := by decide +kernel
theorem dX8_init_87 : decode cX8_init 87 = .ok (.bipush 10, 2) := by decide +kernel
theorem dX8_init_89 : decode cX8_init 89 = .ok (.newarray .int, 2) := by decide +kernel
theorem dX8_init_91 : decode cX8_init 91 = .ok (.putfield 27, 3) := by decide +kernel
theorem dX8_init_94 : decode cX8_init 94 = .ok (.aload_n 0, 1) := by decide +kernel
theorem dX8_init_95 : decode cX8_init 95 = .ok (.bipush 10, 2) := by decide +kernel
theorem dX8_init_97 : decode cX8_init 97 = .ok (.newarray .int, 2) := by decide +kernel
theorem dX8_init_99 : decode cX8_init 99 = .ok (.putfield 30, 3) := by decide +kernel
theorem dX8_init_102 : decode cX8_init 102 = .ok (.aload_n 0, 1) := by decide +kernel
theorem dX8_init_103 : decode cX8_init 103 = .ok (.bipush 10, 2) := by decide +kernel
theorem dX8_init_105 : decode cX8_init 105 = .ok (.newarray .int, 2) := by decide +kernel
theorem dX8_init_107 : decode cX8_init 107 = .ok (.putfield 33, 3) := by decide +kernel
theorem dX8_init_110 : decode cX8_init 110 = .ok (.aload_n 0, 1) := by decide +kernel
theorem dX8_init_111 : decode cX8_init 111 = .ok (.bipush 10, 2) := by decide +kernel
theorem dX8_init_113 : decode cX8_init 113 = .ok (.newarray .int, 2) := by decide +kernel
theorem dX8_init_115 : decode cX8_init 115 = .ok (.putfield 36, 3) := by decide +kernel
theorem dX8_init_118 : decode cX8_init 118 = .ok (.aload_n 0, 1) := by decide +kernel
theorem dX8_init_119 : decode cX8_init 119 = .ok (.bipush 50, 2) := by decide +kernel
theorem dX8_init_121 : decode cX8_init 121 = .ok (.newarray .int, 2) := by decide +kernel
theorem dX8_init_123 : decode cX8_init 123 = .ok (.putfield 39, 3) := by decide +kernel
theorem dX8_init_126 : decode cX8_init 126 = .ok (.aload_n 0, 1) := by decide +kernel
theorem dX8_init_127 : decode cX8_init 127 = .ok (.iconst 5, 1) := by decide +kernel
theorem dX8_init_128 : decode cX8_init 128 = .ok (.newarray .int, 2) := by decide +kernel
theorem dX8_init_130 : decode cX8_init 130 = .ok (.putfield 42, 3) := by decide +kernel
theorem dX8_init_133 : decode cX8_init 133 = .ok (.aload_n 0, 1) := by decide +kernel
theorem dX8_init_134 : decode cX8_init 134 = .ok (.bipush 22, 2) := by decide +kernel
theorem dX8_init_136 : decode cX8_init 136 = .ok (.newarray .int, 2) := by decide +kernel
theorem dX8_init_138 : decode cX8_init 138 = .ok (.putfield 45, 3) := by decide +kernel
theorem dX8_init_141 : decode cX8_init 141 = .ok (.aload_n 0, 1) := by decide +kernel
theorem dX8_init_142 : decode cX8_init 142 = .ok (.bipush 22, 2) := by decide +kernel
theorem dX8_init_144 : decode cX8_init 144 = .ok (.newarray .int, 2) := by decide +kernel
theorem dX8_init_146 : decode cX8_init 146 = .ok (.putfield 48, 3) := by decide +kernel
theorem dX8_init_149 : decode cX8_init 149 = .ok (.aload_n 0, 1) := by decide +kernel
theorem dX8_init_150 : decode cX8_init 150 = .ok (.bipush 8, 2) := by decide +kernel
theorem dX8_init_152 : decode cX8_init 152 = .ok (.newarray .int, 2) := by decide +kernel
theorem dX8_init_154 : decode cX8_init 154 = .ok (.putfield 51, 3) := by decide +kernel
theorem dX8_init_157 : decode cX8_init 157 = .ok (.aload_n 0, 1) := by decide +kernel
theorem dX8_init_158 : decode cX8_init 158 = .ok (.bipush 32, 2) := by decide +kernel
theorem dX8_init_160 : decode cX8_init 160 = .ok (.newarray .int, 2) := by decide +kernel
theorem dX8_init_162 : decode cX8_init 162 = .ok (.putfield 54, 3) := by decide +kernel
theorem dX8_init_165 : decode cX8_init 165 = .ok (.aload_n 0, 1) := by decide +kernel
theorem dX8_init_166 : decode cX8_init 166 = .ok (.bipush 8, 2) := by decide +kernel
theorem dX8_init_168 : decode cX8_init 168 = .ok (.newarray .int, 2) := by decide +kernel
theorem dX8_init_170 : decode cX8_init 170 = .ok (.putfield 57, 3) := by decide +kernel
theorem dX8_init_173 : decode cX8_init 173 = .ok (.aload_n 0, 1) := by decide +kernel
theorem dX8_init_174 : decode cX8_init 174 = .ok (.sipush 800, 3) := by decide +kernel
theorem dX8_init_177 : decode cX8_init 177 = .ok (.newarray .int, 2) := by decide +kernel
theorem dX8_init_179 : decode cX8_init 179 = .ok (.putfield 60, 3) := by decide +kernel
theorem dX8_init_182 : decode cX8_init 182 = .ok (.aload_n 0, 1) := by decide +kernel
theorem dX8_init_183 : decode cX8_init 183 = .ok (.iconst 3, 1) := by decide +kernel
theorem dX8_init_184 : decode cX8_init 184 = .ok (.newarray .int, 2) := by decide +kernel
theorem dX8_init_186 : decode cX8_init 186 = .ok (.putfield 63, 3) := by decide +kernel
theorem dX8_init_189 : decode cX8_init 189 = .ok (.aload_n 0, 1) := by decide +kernel
theorem dX8_init_190 : decode cX8_init 190 = .ok (.sipush 700, 3) := by decide +kernel
theorem dX8_init_193 : decode cX8_init 193 = .ok (.newarray .int, 2) := by decide +kernel
theorem dX8_init_195 : decode cX8_init 195 = .ok (.putfield 66, 3) := by decide +kernel
theorem dX8_init_198 : decode cX8_init 198 = .ok (.aload_n 0, 1) := by decide +kernel
theorem dX8_init_199 : decode cX8_init 199 = .ok (.iconst (-1), 1) := by decide +kernel
theorem dX8_init_200 : decode cX8_init 200 = .ok (.putfield 69, 3) := by decide +kernel
theorem dX8_init_203 : decode cX8_init 203 = .ok (.aload_n 0, 1) := by decide +kernel
theorem dX8_init_204 : decode cX8_init 204 = .ok (.iconst 5, 1) := by decide +kernel
theorem dX8_init_205 : decode cX8_init 205 = .ok (.newarray .int, 2) := by decide +kernel
theorem dX8_init_207 : decode cX8_init 207 = .ok (.putfield 73, 3) := by decide +kernel
theorem dX8_init_210 : decode cX8_init 210 = .ok (.aload_n 0, 1) := by decide +kernel
theorem dX8_init_211 : decode cX8_init 211 = .ok (.iconst 5, 1) := by decide +kernel
theorem dX8_init_212 : decode cX8_init 212 = .ok (.newarray .int, 2) := by decide +kernel
theorem dX8_init_214 : decode cX8_init 214 = .ok (.putfield 76, 3) := by decide +kernel
theorem dX8_init_217 : decode cX8_init 217 = .ok (.aload_n 0, 1) := by decide +kernel
theorem dX8_init_218 : decode cX8_init 218 = .ok (.bipush 25, 2) := by decide +kernel
theorem dX8_init_220 : decode cX8_init 220 = .ok (.newarray .int, 2) := by decide +kernel
theorem dX8_init_222 : decode cX8_init 222 = .ok (.putfield 79, 3) := by decide +kernel
theorem dX8_init_225 : decode cX8_init 225 = .ok (.aload_n 0, 1) := by decide +kernel
theorem dX8_init_226 : decode cX8_init 226 = .ok (.bipush 25, 2) := by decide +kernel
theorem dX8_init_228 : decode cX8_init 228 = .ok (.newarray .int, 2) := by decide +kernel
theorem dX8_init_230 : decode cX8_init 230 = .ok (.putfield 82, 3) := by decide +kernel
theorem dX8_init_233 : decode cX8_init 233 = .ok (.aload_n 0, 1) := by decide +kernel
theorem dX8_init_234 : decode cX8_init 234 = .ok (.iconst 4, 1) := by decide +kernel
theorem dX8_init_235 : decode cX8_init 235 = .ok (.newarray .int, 2) := by decide +kernel
theorem dX8_init_237 : decode cX8_init 237 = .ok (.putfield 85, 3) := by decide +kernel
theorem dX8_init_240 : decode cX8_init 240 = .ok (.aload_n 0, 1) := by decide +kernel
theorem dX8_init_241 : decode cX8_init 241 = .ok (.iconst 4, 1) := by decide +kernel
theorem dX8_init_242 : decode cX8_init 242 = .ok (.newarray .int, 2) := by decide +kernel
theorem dX8_init_244 : decode cX8_init 244 = .ok (.putfield 88, 3) := by decide +kernel
theorem dX8_init_247 : decode cX8_init 247 = .ok (.aload_n 0, 1) := by decide +kernel
theorem dX8_init_248 : decode cX8_init 248 = .ok (.bipush 100, 2) := by decide +kernel
theorem dX8_init_250 : decode cX8_init 250 = .ok (.newarray .int, 2) := by decide +kernel
theorem dX8_init_252 : decode cX8_init 252 = .ok (.putfield 91, 3) := by decide +kernel
theorem dX8_init_255 : decode cX8_init 255 = .ok (.aload_n 0, 1) := by decide +kernel
theorem dX8_init_256 : decode cX8_init 256 = .ok (.bipush 100, 2) := by decide +kernel
theorem dX8_init_258 : decode cX8_init 258 = .ok (.newarray .int, 2) := by decide +kernel
theorem dX8_init_260 : decode cX8_init 260 = .ok (.putfield 94, 3) := by decide +kernel
theorem dX8_init_263 : decode cX8_init 263 = .ok (.aload_n 0, 1) := by decide +kernel
theorem dX8_init_264 : decode cX8_init 264 = .ok (.bipush 100, 2) := by decide +kernel
theorem dX8_init_266 : decode cX8_init 266 = .ok (.newarray .int, 2) := by decide +kernel
theorem dX8_init_268 : decode cX8_init 268 = .ok (.putfield 97, 3) := by decide +kernel
theorem dX8_init_271 : decode cX8_init 271 = .ok (.aload_n 0, 1) := by decide +kernel
theorem dX8_init_272 : decode cX8_init 272 = .ok (.bipush 100, 2) := by decide +kernel
theorem dX8_init_274 : decode cX8_init 274 = .ok (.newarray .int, 2) := by decide +kernel
theorem dX8_init_276 : decode cX8_init 276 = .ok (.putfield 100, 3) := by decide +kernel
theorem dX8_init_279 : decode cX8_init 279 = .ok (.aload_n 0, 1) := by decide +kernel
theorem dX8_init_280 : decode cX8_init 280 = .ok (.bipush 100, 2) := by decide +kernel
theorem dX8_init_282 : decode cX8_init 282 = .ok (.newarray .int, 2) := by decide +kernel
theorem dX8_init_284 : decode cX8_init 284 = .ok (.putfield 103, 3) := by decide +kernel
theorem dX8_init_287 : decode cX8_init 287 = .ok (.aload_n 0, 1) := by decide +kernel
theorem dX8_init_288 : decode cX8_init 288 = .ok (.bipush 100, 2) := by decide +kernel
theorem dX8_init_290 : decode cX8_init 290 = .ok (.newarray .boolean, 2) := by decide +kernel
theorem dX8_init_292 : decode cX8_init 292 = .ok (.putfield 106, 3) := by decide +kernel
theorem dX8_init_295 : decode cX8_init 295 = .ok (.aload_n 0, 1) := by decide +kernel
theorem dX8_init_296 : decode cX8_init 296 = .ok (.iconst 4, 1) := by decide +kernel
theorem dX8_init_297 : decode cX8_init 297 = .ok (.newarray .int, 2) := by decide +kernel
theorem dX8_init_299 : decode cX8_init 299 = .ok (.putfield 110, 3) := by decide +kernel
theorem dX8_init_302 : decode cX8_init 302 = .ok (.aload_n 0, 1) := by decide +kernel
theorem dX8_init_303 : decode cX8_init 303 = .ok (.iconst 4, 1) := by decide +kernel
theorem dX8_init_304 : decode cX8_init 304 = .ok (.newarray .int, 2) := by decide +kernel
theorem dX8_init_306 : decode cX8_init 306 = .ok (.putfield 113, 3) := by decide +kernel
theorem dX8_init_309 : decode cX8_init 309 = .ok (.aload_n 0, 1) := by decide +kernel
theorem dX8_init_310 : decode cX8_init 310 = .ok (.iconst 4, 1) := by decide +kernel
theorem dX8_init_311 : decode cX8_init 311 = .ok (.newarray .int, 2) := by decide +kernel
theorem dX8_init_313 : decode cX8_init 313 = .ok (.putfield 116, 3) := by decide +kernel
theorem dX8_init_316 : decode cX8_init 316 = .ok (.aload_n 0, 1) := by decide +kernel
theorem dX8_init_317 : decode cX8_init 317 = .ok (.sipush 128, 3) := by decide +kernel
theorem dX8_init_320 : decode cX8_init 320 = .ok (.newarray .int, 2) := by decide +kernel
theorem dX8_init_322 : decode cX8_init 322 = .ok (.putfield 119, 3) := by decide +kernel
theorem dX8_init_325 : decode cX8_init 325 = .ok (.aload_n 0, 1) := by decide +kernel
theorem dX8_init_326 : decode cX8_init 326 = .ok (.iconst 5, 1) := by decide +kernel
theorem dX8_init_327 : decode cX8_init 327 = .ok (.newarray .int, 2) := by decide +kernel
theorem dX8_init_329 : decode cX8_init 329 = .ok (.putfield 122, 3) := by decide +kernel
theorem dX8_init_332 : decode cX8_init 332 = .ok (.aload_n 0, 1) := by decide +kernel
theorem dX8_init_333 : decode cX8_init 333 = .ok (.iconst 5, 1) := by decide +kernel
theorem dX8_init_334 : decode cX8_init 334 = .ok (.newarray .int, 2) := by decide +kernel
theorem dX8_init_336 : decode cX8_init 336 = .ok (.putfield 125, 3) := by decide +kernel
theorem dX8_init_339 : decode cX8_init 339 = .ok (.aload_n 0, 1) := by decide +kernel
theorem dX8_init_340 : decode cX8_init 340 = .ok (.iconst 5, 1) := by decide +kernel
theorem dX8_init_341 : decode cX8_init 341 = .ok (.newarray .int, 2) := by decide +kernel
theorem dX8_init_343 : decode cX8_init 343 = .ok (.putfield 128, 3) := by decide +kernel
theorem dX8_init_346 : decode cX8_init 346 = .ok (.aload_n 0, 1) := by decide +kernel
theorem dX8_init_347 : decode cX8_init 347 = .ok (.iconst 5, 1) := by decide +kernel
theorem dX8_init_348 : decode cX8_init 348 = .ok (.newarray .int, 2) := by decide +kernel
theorem dX8_init_350 : decode cX8_init 350 = .ok (.putfield 131, 3) := by decide +kernel
theorem dX8_init_353 : decode cX8_init 353 = .ok (.aload_n 0, 1) := by decide +kernel
theorem dX8_init_354 : decode cX8_init 354 = .ok (.iconst 5, 1) := by decide +kernel
theorem dX8_init_355 : decode cX8_init 355 = .ok (.newarray .int, 2) := by decide +kernel
theorem dX8_init_357 : decode cX8_init 357 = .ok (.putfield 134, 3) := by decide +kernel
theorem dX8_init_360 : decode cX8_init 360 = .ok (.aload_n 0, 1) := by decide +kernel
theorem dX8_init_361 : decode cX8_init 361 = .ok (.iconst 4, 1) := by decide +kernel
theorem dX8_init_362 : decode cX8_init 362 = .ok (.newarray .int, 2) := by decide +kernel
theorem dX8_init_364 : decode cX8_init 364 = .ok (.putfield 137, 3) := by decide +kernel
theorem dX8_init_367 : decode cX8_init 367 = .ok (.aload_n 0, 1) := by decide +kernel
theorem dX8_init_368 : decode cX8_init 368 = .ok (.iconst 4, 1) := by decide +kernel
theorem dX8_init_369 : decode cX8_init 369 = .ok (.newarray .int, 2) := by decide +kernel
theorem dX8_init_371 : decode cX8_init 371 = .ok (.putfield 140, 3) := by decide +kernel
theorem dX8_init_374 : decode cX8_init 374 = .ok (.aload_n 0, 1) := by decide +kernel
theorem dX8_init_375 : decode cX8_init 375 = .ok (.iconst 4, 1) := by decide +kernel
theorem dX8_init_376 : decode cX8_init 376 = .ok (.newarray .int, 2) := by decide +kernel
theorem dX8_init_378 : decode cX8_init 378 = .ok (.putfield 143, 3) := by decide +kernel
theorem dX8_init_381 : decode cX8_init 381 = .ok (.aload_n 0, 1) := by decide +kernel
theorem dX8_init_382 : decode cX8_init 382 = .ok (.iconst 3, 1) := by decide +kernel
theorem dX8_init_383 : decode cX8_init 383 = .ok (.newarray .int, 2) := by decide +kernel
theorem dX8_init_385 : decode cX8_init 385 = .ok (.putfield 146, 3) := by decide +kernel
theorem dX8_init_388 : decode cX8_init 388 = .ok (.return_, 1) := by decide +kernel
theorem dX8_thrown_0 : decode cX8_thrown 0 = .ok (.aload_n 0, 1) := by decide +kernel
theorem dX8_thrown_1 : decode cX8_thrown 1 = .ok (.getfield 149, 3) := by decide +kernel
theorem dX8_thrown_4 : decode cX8_thrown 4 = .ok (.ireturn, 1) := by decide +kernel
theorem dX8_fail_0 : decode cX8_fail 0 = .ok (.aload_n 0, 1) := by decide +kernel
theorem dX8_fail_1 : decode cX8_fail 1 = .ok (.iload_n 1, 1) := by decide +kernel
theorem dX8_fail_2 : decode cX8_fail 2 = .ok (.putfield 149, 3) := by decide +kernel
theorem dX8_fail_5 : decode cX8_fail 5 = .ok (.iconst 0, 1) := by decide +kernel
theorem dX8_fail_6 : decode cX8_fail 6 = .ok (.ireturn, 1) := by decide +kernel
theorem dX8_isIn_0 : decode cX8_isIn 0 = .ok (.iload_n 0, 1) := by decide +kernel
theorem dX8_isIn_1 : decode cX8_isIn 1 = .ok (.iload_n 1, 1) := by decide +kernel
theorem dX8_isIn_2 : decode cX8_isIn 2 = .ok (.if_icmp .lt 12, 3) := by decide +kernel
theorem dX8_isIn_5 : decode cX8_isIn 5 = .ok (.iload_n 0, 1) := by decide +kernel
theorem dX8_isIn_6 : decode cX8_isIn 6 = .ok (.iload_n 2, 1) := by decide +kernel
theorem dX8_isIn_7 : decode cX8_isIn 7 = .ok (.if_icmp .gt 7, 3) := by decide +kernel
theorem dX8_isIn_10 : decode cX8_isIn 10 = .ok (.iconst 1, 1) := by decide +kernel
theorem dX8_isIn_11 : decode cX8_isIn 11 = .ok (.goto 4, 3) := by decide +kernel
theorem dX8_isIn_14 : decode cX8_isIn 14 = .ok (.iconst 0, 1) := by decide +kernel
theorem dX8_isIn_15 : decode cX8_isIn 15 = .ok (.ireturn, 1) := by decide +kernel
theorem dX8_isTown_0 : decode cX8_isTown 0 = .ok (.iload_n 1, 1) := by decide +kernel
theorem dX8_isTown_1 : decode cX8_isTown 1 = .ok (.iconst 0, 1) := by decide +kernel
theorem dX8_isTown_2 : decode cX8_isTown 2 = .ok (.aload_n 0, 1) := by decide +kernel
theorem dX8_isTown_3 : decode cX8_isTown 3 = .ok (.getfield 23, 3) := by decide +kernel
theorem dX8_isTown_6 : decode cX8_isTown 6 = .ok (.iconst 0, 1) := by decide +kernel
theorem dX8_isTown_7 : decode cX8_isTown 7 = .ok (.iaload, 1) := by decide +kernel
theorem dX8_isTown_8 : decode cX8_isTown 8 = .ok (.iconst 1, 1) := by decide +kernel
theorem dX8_isTown_9 : decode cX8_isTown 9 = .ok (.isub, 1) := by decide +kernel
theorem dX8_isTown_10 : decode cX8_isTown 10 = .ok (.invokestatic 152, 3) := by decide +kernel
theorem dX8_isTown_13 : decode cX8_isTown 13 = .ok (.ireturn, 1) := by decide +kernel
theorem dX8_isTrunk_0 : decode cX8_isTrunk 0 = .ok (.iload_n 1, 1) := by decide +kernel
theorem dX8_isTrunk_1 : decode cX8_isTrunk 1 = .ok (.iconst 0, 1) := by decide +kernel
theorem dX8_isTrunk_2 : decode cX8_isTrunk 2 = .ok (.aload_n 0, 1) := by decide +kernel
theorem dX8_isTrunk_3 : decode cX8_isTrunk 3 = .ok (.getfield 23, 3) := by decide +kernel
theorem dX8_isTrunk_6 : decode cX8_isTrunk 6 = .ok (.iconst 1, 1) := by decide +kernel
theorem dX8_isTrunk_7 : decode cX8_isTrunk 7 = .ok (.iaload, 1) := by decide +kernel
theorem dX8_isTrunk_8 : decode cX8_isTrunk 8 = .ok (.iconst 1, 1) := by decide +kernel
theorem dX8_isTrunk_9 : decode cX8_isTrunk 9 = .ok (.isub, 1) := by decide +kernel
theorem dX8_isTrunk_10 : decode cX8_isTrunk 10 = .ok (.invokestatic 152, 3) := by decide +kernel
theorem dX8_isTrunk_13 : decode cX8_isTrunk 13 = .ok (.ireturn, 1) := by decide +kernel
theorem dX8_isPlay_0 : decode cX8_isPlay 0 = .ok (.iload_n 1, 1) := by decide +kernel
theorem dX8_isPlay_1 : decode cX8_isPlay 1 = .ok (.iconst 0, 1) := by decide +kernel
theorem dX8_isPlay_2 : decode cX8_isPlay 2 = .ok (.aload_n 0, 1) := by decide +kernel
theorem dX8_isPlay_3 : decode cX8_isPlay 3 = .ok (.getfield 23, 3) := by decide +kernel
theorem dX8_isPlay_6 : decode cX8_isPlay 6 = .ok (.iconst 3, 1) := by decide +kernel
theorem dX8_isPlay_7 : decode cX8_isPlay 7 = .ok (.iaload, 1) := by decide +kernel
theorem dX8_isPlay_8 : decode cX8_isPlay 8 = .ok (.iconst 1, 1) := by decide +kernel
theorem dX8_isPlay_9 : decode cX8_isPlay 9 = .ok (.isub, 1) := by decide +kernel
theorem dX8_isPlay_10 : decode cX8_isPlay 10 = .ok (.invokestatic 152, 3) := by decide +kernel
theorem dX8_isPlay_13 : decode cX8_isPlay 13 = .ok (.ireturn, 1) := by decide +kernel
theorem dX8_feed_0 : decode cX8_feed 0 = .ok (.aload_n 0, 1) := by decide +kernel
theorem dX8_feed_1 : decode cX8_feed 1 = .ok (.iconst 0, 1) := by decide +kernel
theorem dX8_feed_2 : decode cX8_feed 2 = .ok (.putfield 149, 3) := by decide +kernel
theorem dX8_feed_5 : decode cX8_feed 5 = .ok (.aload_n 0, 1) := by decide +kernel
theorem dX8_feed_6 : decode cX8_feed 6 = .ok (.getfield 156, 3) := by decide +kernel
theorem dX8_feed_9 : decode cX8_feed 9 = .ok (.bipush 20, 2) := by decide +kernel
theorem dX8_feed_11 : decode cX8_feed 11 = .ok (.iadd, 1) := by decide +kernel
theorem dX8_feed_12 : decode cX8_feed 12 = .ok (.sipush 700, 3) := by decide +kernel
theorem dX8_feed_15 : decode cX8_feed 15 = .ok (.if_icmp .le 5, 3) := by decide +kernel
theorem dX8_feed_18 : decode cX8_feed 18 = .ok (.iconst (-1), 1) := by decide +kernel
theorem dX8_feed_19 : decode cX8_feed 19 = .ok (.ireturn, 1) := by decide +kernel
theorem dX8_feed_20 : decode cX8_feed 20 = .ok (.iconst 0, 1) := by decide +kernel
theorem dX8_feed_21 : decode cX8_feed 21 = .ok (.istore 6, 2) := by decide +kernel
theorem dX8_feed_23 : decode cX8_feed 23 = .ok (.iload 6, 2) := by decide +kernel
theorem dX8_feed_25 : decode cX8_feed 25 = .ok (.bipush 20, 2) := by decide +kernel
theorem dX8_feed_27 : decode cX8_feed 27 = .ok (.if_icmp .ge 93, 3) := by decide +kernel
theorem dX8_feed_30 : decode cX8_feed 30 = .ok (.iload 6, 2) := by decide +kernel
theorem dX8_feed_32 : decode cX8_feed 32 = .ok (.iconst 4, 1) := by decide +kernel
theorem dX8_feed_33 : decode cX8_feed 33 = .ok (.if_icmp .ge 7, 3) := by decide +kernel
theorem dX8_feed_36 : decode cX8_feed 36 = .ok (.iload_n 1, 1) := by decide +kernel
theorem dX8_feed_37 : decode cX8_feed 37 = .ok (.goto 39, 3) := by decide +kernel
theorem dX8_feed_40 : decode cX8_feed 40 = .ok (.iload 6, 2) := by decide +kernel
theorem dX8_feed_42 : decode cX8_feed 42 = .ok (.bipush 8, 2) := by decide +kernel
theorem dX8_feed_44 : decode cX8_feed 44 = .ok (.if_icmp .ge 7, 3) := by decide +kernel
theorem dX8_feed_47 : decode cX8_feed 47 = .ok (.iload_n 2, 1) := by decide +kernel
theorem dX8_feed_48 : decode cX8_feed 48 = .ok (.goto 28, 3) := by decide +kernel
theorem dX8_feed_51 : decode cX8_feed 51 = .ok (.iload 6, 2) := by decide +kernel
theorem dX8_feed_53 : decode cX8_feed 53 = .ok (.bipush 12, 2) := by decide +kernel
theorem dX8_feed_55 : decode cX8_feed 55 = .ok (.if_icmp .ge 7, 3) := by decide +kernel
theorem dX8_feed_58 : decode cX8_feed 58 = .ok (.iload_n 3, 1) := by decide +kernel
theorem dX8_feed_59 : decode cX8_feed 59 = .ok (.goto 17, 3) := by decide +kernel
theorem dX8_feed_62 : decode cX8_feed 62 = .ok (.iload 6, 2) := by decide +kernel
theorem dX8_feed_64 : decode cX8_feed 64 = .ok (.bipush 16, 2) := by decide +kernel
theorem dX8_feed_66 : decode cX8_feed 66 = .ok (.if_icmp .ge 8, 3) := by decide +kernel
theorem dX8_feed_69 : decode cX8_feed 69 = .ok (.iload 4, 2) := by decide +kernel
theorem dX8_feed_71 : decode cX8_feed 71 = .ok (.goto 5, 3) := by decide +kernel
theorem dX8_feed_74 : decode cX8_feed 74 = .ok (.iload 5, 2) := by decide +kernel
theorem dX8_feed_76 : decode cX8_feed 76 = .ok (.istore 7, 2) := by decide +kernel
theorem dX8_feed_78 : decode cX8_feed 78 = .ok (.aload_n 0, 1) := by decide +kernel
theorem dX8_feed_79 : decode cX8_feed 79 = .ok (.getfield 66, 3) := by decide +kernel
theorem dX8_feed_82 : decode cX8_feed 82 = .ok (.aload_n 0, 1) := by decide +kernel
theorem dX8_feed_83 : decode cX8_feed 83 = .ok (.getfield 156, 3) := by decide +kernel
theorem dX8_feed_86 : decode cX8_feed 86 = .ok (.iload 7, 2) := by decide +kernel
theorem dX8_feed_88 : decode cX8_feed 88 = .ok (.bipush 24, 2) := by decide +kernel
theorem dX8_feed_90 : decode cX8_feed 90 = .ok (.bipush 8, 2) := by decide +kernel
theorem dX8_feed_92 : decode cX8_feed 92 = .ok (.iload 6, 2) := by decide +kernel
theorem dX8_feed_94 : decode cX8_feed 94 = .ok (.iconst 4, 1) := by decide +kernel
theorem dX8_feed_95 : decode cX8_feed 95 = .ok (.irem, 1) := by decide +kernel
theorem dX8_feed_96 : decode cX8_feed 96 = .ok (.imul, 1) := by decide +kernel
theorem dX8_feed_97 : decode cX8_feed 97 = .ok (.isub, 1) := by decide +kernel
theorem dX8_feed_98 : decode cX8_feed 98 = .ok (.ishr, 1) := by decide +kernel
theorem dX8_feed_99 : decode cX8_feed 99 = .ok (.sipush 255, 3) := by decide +kernel
theorem dX8_feed_102 : decode cX8_feed 102 = .ok (.iand, 1) := by decide +kernel
theorem dX8_feed_103 : decode cX8_feed 103 = .ok (.iastore, 1) := by decide +kernel
theorem dX8_feed_104 : decode cX8_feed 104 = .ok (.aload_n 0, 1) := by decide +kernel
theorem dX8_feed_105 : decode cX8_feed 105 = .ok (.dup, 1) := by decide +kernel
theorem dX8_feed_106 : decode cX8_feed 106 = .ok (.getfield 156, 3) := by decide +kernel
theorem dX8_feed_109 : decode cX8_feed 109 = .ok (.iconst 1, 1) := by decide +kernel
theorem dX8_feed_110 : decode cX8_feed 110 = .ok (.iadd, 1) := by decide +kernel
theorem dX8_feed_111 : decode cX8_feed 111 = .ok (.putfield 156, 3) := by decide +kernel
theorem dX8_feed_114 : decode cX8_feed 114 = .ok (.iinc 6 1, 3) := by decide +kernel
theorem dX8_feed_117 : decode cX8_feed 117 = .ok (.goto (-94), 3) := by decide +kernel
theorem dX8_feed_120 : decode cX8_feed 120 = .ok (.aload_n 0, 1) := by decide +kernel
theorem dX8_feed_121 : decode cX8_feed 121 = .ok (.getfield 156, 3) := by decide +kernel
theorem dX8_feed_124 : decode cX8_feed 124 = .ok (.ireturn, 1) := by decide +kernel
theorem dX8_byteAt_0 : decode cX8_byteAt 0 = .ok (.iload_n 1, 1) := by decide +kernel
theorem dX8_byteAt_1 : decode cX8_byteAt 1 = .ok (.aload_n 0, 1) := by decide +kernel
theorem dX8_byteAt_2 : decode cX8_byteAt 2 = .ok (.getfield 159, 3) := by decide +kernel
theorem dX8_byteAt_5 : decode cX8_byteAt 5 = .ok (.if_icmp .ge 12, 3) := by decide +kernel
theorem dX8_byteAt_8 : decode cX8_byteAt 8 = .ok (.aload_n 0, 1) := by decide +kernel
theorem dX8_byteAt_9 : decode cX8_byteAt 9 = .ok (.getfield 66, 3) := by decide +kernel
theorem dX8_byteAt_12 : decode cX8_byteAt 12 = .ok (.iload_n 1, 1) := by decide +kernel
theorem dX8_byteAt_13 : decode cX8_byteAt 13 = .ok (.iaload, 1) := by decide +kernel
theorem dX8_byteAt_14 : decode cX8_byteAt 14 = .ok (.goto 4, 3) := by decide +kernel
theorem dX8_byteAt_17 : decode cX8_byteAt 17 = .ok (.iconst (-1), 1) := by decide +kernel
theorem dX8_byteAt_18 : decode cX8_byteAt 18 = .ok (.ireturn, 1) := by decide +kernel
theorem dX8_isLetter_0 : decode cX8_isLetter 0 = .ok (.iload_n 0, 1) := by decide +kernel
theorem dX8_isLetter_1 : decode cX8_isLetter 1 = .ok (.bipush 97, 2) := by decide +kernel
theorem dX8_isLetter_3 : decode cX8_isLetter 3 = .ok (.if_icmp .lt 13, 3) := by decide +kernel
theorem dX8_isLetter_6 : decode cX8_isLetter 6 = .ok (.iload_n 0, 1) := by decide +kernel
theorem dX8_isLetter_7 : decode cX8_isLetter 7 = .ok (.bipush 122, 2) := by decide +kernel
theorem dX8_isLetter_9 : decode cX8_isLetter 9 = .ok (.if_icmp .gt 7, 3) := by decide +kernel
theorem dX8_isLetter_12 : decode cX8_isLetter 12 = .ok (.iconst 1, 1) := by decide +kernel
theorem dX8_isLetter_13 : decode cX8_isLetter 13 = .ok (.goto 4, 3) := by decide +kernel
theorem dX8_isLetter_16 : decode cX8_isLetter 16 = .ok (.iconst 0, 1) := by decide +kernel
theorem dX8_isLetter_17 : decode cX8_isLetter 17 = .ok (.ireturn, 1) := by decide +kernel
theorem dX8_isDigit_0 : decode cX8_isDigit 0 = .ok (.iload_n 0, 1) := by decide +kernel
theorem dX8_isDigit_1 : decode cX8_isDigit 1 = .ok (.bipush 48, 2) := by decide +kernel
theorem dX8_isDigit_3 : decode cX8_isDigit 3 = .ok (.if_icmp .lt 13, 3) := by decide +kernel
theorem dX8_isDigit_6 : decode cX8_isDigit 6 = .ok (.iload_n 0, 1) := by decide +kernel
theorem dX8_isDigit_7 : decode cX8_isDigit 7 = .ok (.bipush 57, 2) := by decide +kernel
theorem dX8_isDigit_9 : decode cX8_isDigit 9 = .ok (.if_icmp .gt 7, 3) := by decide +kernel
theorem dX8_isDigit_12 : decode cX8_isDigit 12 = .ok (.iconst 1, 1) := by decide +kernel
theorem dX8_isDigit_13 : decode cX8_isDigit 13 = .ok (.goto 4, 3) := by decide +kernel
theorem dX8_isDigit_16 : decode cX8_isDigit 16 = .ok (.iconst 0, 1) := by decide +kernel
theorem dX8_isDigit_17 : decode cX8_isDigit 17 = .ok (.ireturn, 1) := by decide +kernel
theorem dX8_stepOn_0 : decode cX8_stepOn 0 = .ok (.aload_n 0, 1) := by decide +kernel
theorem dX8_stepOn_1 : decode cX8_stepOn 1 = .ok (.aload_n 0, 1) := by decide +kernel
theorem dX8_stepOn_2 : decode cX8_stepOn 2 = .ok (.getfield 162, 3) := by decide +kernel
theorem dX8_stepOn_5 : decode cX8_stepOn 5 = .ok (.invokevirtual 165, 3) := by decide +kernel
theorem dX8_stepOn_8 : decode cX8_stepOn 8 = .ok (.bipush 32, 2) := by decide +kernel
theorem dX8_stepOn_10 : decode cX8_stepOn 10 = .ok (.if_icmp .eq 16, 3) := by decide +kernel
theorem dX8_stepOn_13 : decode cX8_stepOn 13 = .ok (.aload_n 0, 1) := by decide +kernel
theorem dX8_stepOn_14 : decode cX8_stepOn 14 = .ok (.aload_n 0, 1) := by decide +kernel
theorem dX8_stepOn_15 : decode cX8_stepOn 15 = .ok (.getfield 162, 3) := by decide +kernel
theorem dX8_stepOn_18 : decode cX8_stepOn 18 = .ok (.invokevirtual 165, 3) := by decide +kernel
theorem dX8_stepOn_21 : decode cX8_stepOn 21 = .ok (.bipush 10, 2) := by decide +kernel
theorem dX8_stepOn_23 : decode cX8_stepOn 23 = .ok (.if_icmp .ne 16, 3) := by decide +kernel
theorem dX8_stepOn_26 : decode cX8_stepOn 26 = .ok (.aload_n 0, 1) := by decide +kernel
theorem dX8_stepOn_27 : decode cX8_stepOn 27 = .ok (.dup, 1) := by decide +kernel
theorem dX8_stepOn_28 : decode cX8_stepOn 28 = .ok (.getfield 162, 3) := by decide +kernel
theorem dX8_stepOn_31 : decode cX8_stepOn 31 = .ok (.iconst 1, 1) := by decide +kernel
theorem dX8_stepOn_32 : decode cX8_stepOn 32 = .ok (.iadd, 1) := by decide +kernel
theorem dX8_stepOn_33 : decode cX8_stepOn 33 = .ok (.putfield 162, 3) := by decide +kernel
theorem dX8_stepOn_36 : decode cX8_stepOn 36 = .ok (.goto (-36), 3) := by decide +kernel
theorem dX8_stepOn_39 : decode cX8_stepOn 39 = .ok (.aload_n 0, 1) := by decide +kernel
theorem dX8_stepOn_40 : decode cX8_stepOn 40 = .ok (.aload_n 0, 1) := by decide +kernel
theorem dX8_stepOn_41 : decode cX8_stepOn 41 = .ok (.getfield 162, 3) := by decide +kernel
theorem dX8_stepOn_44 : decode cX8_stepOn 44 = .ok (.putfield 169, 3) := by decide +kernel
theorem dX8_stepOn_47 : decode cX8_stepOn 47 = .ok (.aload_n 0, 1) := by decide +kernel
theorem dX8_stepOn_48 : decode cX8_stepOn 48 = .ok (.aload_n 0, 1) := by decide +kernel
theorem dX8_stepOn_49 : decode cX8_stepOn 49 = .ok (.getfield 162, 3) := by decide +kernel
theorem dX8_stepOn_52 : decode cX8_stepOn 52 = .ok (.invokevirtual 165, 3) := by decide +kernel
theorem dX8_stepOn_55 : decode cX8_stepOn 55 = .ok (.istore_n 1, 1) := by decide +kernel
theorem dX8_stepOn_56 : decode cX8_stepOn 56 = .ok (.iload_n 1, 1) := by decide +kernel
theorem dX8_stepOn_57 : decode cX8_stepOn 57 = .ok (.iconst (-1), 1) := by decide +kernel
theorem dX8_stepOn_58 : decode cX8_stepOn 58 = .ok (.if_icmp .ne 11, 3) := by decide +kernel
theorem dX8_stepOn_61 : decode cX8_stepOn 61 = .ok (.aload_n 0, 1) := by decide +kernel
theorem dX8_stepOn_62 : decode cX8_stepOn 62 = .ok (.iconst 0, 1) := by decide +kernel
theorem dX8_stepOn_63 : decode cX8_stepOn 63 = .ok (.putfield 172, 3) := by decide +kernel
theorem dX8_stepOn_66 : decode cX8_stepOn 66 = .ok (.goto 145, 3) := by decide +kernel
theorem dX8_stepOn_69 : decode cX8_stepOn 69 = .ok (.iload_n 1, 1) := by decide +kernel
theorem dX8_stepOn_70 : decode cX8_stepOn 70 = .ok (.invokestatic 175, 3) := by decide +kernel
theorem dX8_stepOn_73 : decode cX8_stepOn 73 = .ok (.ifCond .eq 38, 3) := by decide +kernel
theorem dX8_stepOn_76 : decode cX8_stepOn 76 = .ok (.aload_n 0, 1) := by decide +kernel
theorem dX8_stepOn_77 : decode cX8_stepOn 77 = .ok (.aload_n 0, 1) := by decide +kernel
theorem dX8_stepOn_78 : decode cX8_stepOn 78 = .ok (.getfield 162, 3) := by decide +kernel
theorem dX8_stepOn_81 : decode cX8_stepOn 81 = .ok (.invokevirtual 165, 3) := by decide +kernel
theorem dX8_stepOn_84 : decode cX8_stepOn 84 = .ok (.invokestatic 175, 3) := by decide +kernel
theorem dX8_stepOn_87 : decode cX8_stepOn 87 = .ok (.ifCond .eq 16, 3) := by decide +kernel
theorem dX8_stepOn_90 : decode cX8_stepOn 90 = .ok (.aload_n 0, 1) := by decide +kernel
theorem dX8_stepOn_91 : decode cX8_stepOn 91 = .ok (.dup, 1) := by decide +kernel
theorem dX8_stepOn_92 : decode cX8_stepOn 92 = .ok (.getfield 162, 3) := by decide +kernel
theorem dX8_stepOn_95 : decode cX8_stepOn 95 = .ok (.iconst 1, 1) := by decide +kernel
theorem dX8_stepOn_96 : decode cX8_stepOn 96 = .ok (.iadd, 1) := by decide +kernel
theorem dX8_stepOn_97 : decode cX8_stepOn 97 = .ok (.putfield 162, 3) := by decide +kernel
theorem dX8_stepOn_100 : decode cX8_stepOn 100 = .ok (.goto (-24), 3) := by decide +kernel
theorem dX8_stepOn_103 : decode cX8_stepOn 103 = .ok (.aload_n 0, 1) := by decide +kernel
theorem dX8_stepOn_104 : decode cX8_stepOn 104 = .ok (.iconst 1, 1) := by decide +kernel
theorem dX8_stepOn_105 : decode cX8_stepOn 105 = .ok (.putfield 172, 3) := by decide +kernel
theorem dX8_stepOn_108 : decode cX8_stepOn 108 = .ok (.goto 103, 3) := by decide +kernel
theorem dX8_stepOn_111 : decode cX8_stepOn 111 = .ok (.iload_n 1, 1) := by decide +kernel
theorem dX8_stepOn_112 : decode cX8_stepOn 112 = .ok (.invokestatic 179, 3) := by decide +kernel
theorem dX8_stepOn_115 : decode cX8_stepOn 115 = .ok (.ifCond .eq 71, 3) := by decide +kernel
theorem dX8_stepOn_118 : decode cX8_stepOn 118 = .ok (.aload_n 0, 1) := by decide +kernel
theorem dX8_stepOn_119 : decode cX8_stepOn 119 = .ok (.iconst 0, 1) := by decide +kernel
theorem dX8_stepOn_120 : decode cX8_stepOn 120 = .ok (.putfield 182, 3) := by decide +kernel
theorem dX8_stepOn_123 : decode cX8_stepOn 123 = .ok (.aload_n 0, 1) := by decide +kernel
theorem dX8_stepOn_124 : decode cX8_stepOn 124 = .ok (.aload_n 0, 1) := by decide +kernel
theorem dX8_stepOn_125 : decode cX8_stepOn 125 = .ok (.getfield 162, 3) := by decide +kernel
theorem dX8_stepOn_128 : decode cX8_stepOn 128 = .ok (.invokevirtual 165, 3) := by decide +kernel
theorem dX8_stepOn_131 : decode cX8_stepOn 131 = .ok (.invokestatic 179, 3) := by decide +kernel
theorem dX8_stepOn_134 : decode cX8_stepOn 134 = .ok (.ifCond .eq 44, 3) := by decide +kernel
theorem dX8_stepOn_137 : decode cX8_stepOn 137 = .ok (.aload_n 0, 1) := by decide +kernel
theorem dX8_stepOn_138 : decode cX8_stepOn 138 = .ok (.ldc 185, 2) := by decide +kernel
theorem dX8_stepOn_140 : decode cX8_stepOn 140 = .ok (.bipush 10, 2) := by decide +kernel
theorem dX8_stepOn_142 : decode cX8_stepOn 142 = .ok (.aload_n 0, 1) := by decide +kernel
theorem dX8_stepOn_143 : decode cX8_stepOn 143 = .ok (.getfield 182, 3) := by decide +kernel
theorem dX8_stepOn_146 : decode cX8_stepOn 146 = .ok (.imul, 1) := by decide +kernel
theorem dX8_stepOn_147 : decode cX8_stepOn 147 = .ok (.aload_n 0, 1) := by decide +kernel
theorem dX8_stepOn_148 : decode cX8_stepOn 148 = .ok (.aload_n 0, 1) := by decide +kernel
theorem dX8_stepOn_149 : decode cX8_stepOn 149 = .ok (.getfield 162, 3) := by decide +kernel
theorem dX8_stepOn_152 : decode cX8_stepOn 152 = .ok (.invokevirtual 165, 3) := by decide +kernel
theorem dX8_stepOn_155 : decode cX8_stepOn 155 = .ok (.iadd, 1) := by decide +kernel
theorem dX8_stepOn_156 : decode cX8_stepOn 156 = .ok (.bipush 48, 2) := by decide +kernel
theorem dX8_stepOn_158 : decode cX8_stepOn 158 = .ok (.isub, 1) := by decide +kernel
theorem dX8_stepOn_159 : decode cX8_stepOn 159 = .ok (.invokestatic 186, 3) := by decide +kernel
theorem dX8_stepOn_162 : decode cX8_stepOn 162 = .ok (.putfield 182, 3) := by decide +kernel
theorem dX8_stepOn_165 : decode cX8_stepOn 165 = .ok (.aload_n 0, 1) := by decide +kernel
theorem dX8_stepOn_166 : decode cX8_stepOn 166 = .ok (.dup, 1) := by decide +kernel
theorem dX8_stepOn_167 : decode cX8_stepOn 167 = .ok (.getfield 162, 3) := by decide +kernel
theorem dX8_stepOn_170 : decode cX8_stepOn 170 = .ok (.iconst 1, 1) := by decide +kernel
theorem dX8_stepOn_171 : decode cX8_stepOn 171 = .ok (.iadd, 1) := by decide +kernel
theorem dX8_stepOn_172 : decode cX8_stepOn 172 = .ok (.putfield 162, 3) := by decide +kernel
theorem dX8_stepOn_175 : decode cX8_stepOn 175 = .ok (.goto (-52), 3) := by decide +kernel
theorem dX8_stepOn_178 : decode cX8_stepOn 178 = .ok (.aload_n 0, 1) := by decide +kernel
theorem dX8_stepOn_179 : decode cX8_stepOn 179 = .ok (.iconst 2, 1) := by decide +kernel
theorem dX8_stepOn_180 : decode cX8_stepOn 180 = .ok (.putfield 172, 3) := by decide +kernel
theorem dX8_stepOn_183 : decode cX8_stepOn 183 = .ok (.goto 28, 3) := by decide +kernel
theorem dX8_stepOn_186 : decode cX8_stepOn 186 = .ok (.aload_n 0, 1) := by decide +kernel
theorem dX8_stepOn_187 : decode cX8_stepOn 187 = .ok (.dup, 1) := by decide +kernel
theorem dX8_stepOn_188 : decode cX8_stepOn 188 = .ok (.getfield 162, 3) := by decide +kernel
theorem dX8_stepOn_191 : decode cX8_stepOn 191 = .ok (.iconst 1, 1) := by decide +kernel
theorem dX8_stepOn_192 : decode cX8_stepOn 192 = .ok (.iadd, 1) := by decide +kernel
theorem dX8_stepOn_193 : decode cX8_stepOn 193 = .ok (.putfield 162, 3) := by decide +kernel
theorem dX8_stepOn_196 : decode cX8_stepOn 196 = .ok (.aload_n 0, 1) := by decide +kernel
theorem dX8_stepOn_197 : decode cX8_stepOn 197 = .ok (.iload_n 1, 1) := by decide +kernel
theorem dX8_stepOn_198 : decode cX8_stepOn 198 = .ok (.bipush 59, 2) := by decide +kernel
theorem dX8_stepOn_200 : decode cX8_stepOn 200 = .ok (.if_icmp .ne 7, 3) := by decide +kernel
theorem dX8_stepOn_203 : decode cX8_stepOn 203 = .ok (.iconst 3, 1) := by decide +kernel
theorem dX8_stepOn_204 : decode cX8_stepOn 204 = .ok (.goto 4, 3) := by decide +kernel
theorem dX8_stepOn_207 : decode cX8_stepOn 207 = .ok (.iconst 4, 1) := by decide +kernel
theorem dX8_stepOn_208 : decode cX8_stepOn 208 = .ok (.putfield 172, 3) := by decide +kernel
theorem dX8_stepOn_211 : decode cX8_stepOn 211 = .ok (.aload_n 0, 1) := by decide +kernel
theorem dX8_stepOn_212 : decode cX8_stepOn 212 = .ok (.aload_n 0, 1) := by decide +kernel
theorem dX8_stepOn_213 : decode cX8_stepOn 213 = .ok (.getfield 162, 3) := by decide +kernel
theorem dX8_stepOn_216 : decode cX8_stepOn 216 = .ok (.putfield 192, 3) := by decide +kernel
theorem dX8_stepOn_219 : decode cX8_stepOn 219 = .ok (.return_, 1) := by decide +kernel
theorem dX8_wrong_0 : decode cX8_wrong 0 = .ok (.aload_n 0, 1) := by decide +kernel
theorem dX8_wrong_1 : decode cX8_wrong 1 = .ok (.getfield 195, 3) := by decide +kernel
theorem dX8_wrong_4 : decode cX8_wrong 4 = .ok (.ifCond .eq 4, 3) := by decide +kernel
theorem dX8_wrong_7 : decode cX8_wrong 7 = .ok (.return_, 1) := by decide +kernel
theorem dX8_wrong_8 : decode cX8_wrong 8 = .ok (.aload_n 0, 1) := by decide +kernel
theorem dX8_wrong_9 : decode cX8_wrong 9 = .ok (.iload_n 1, 1) := by decide +kernel
theorem dX8_wrong_10 : decode cX8_wrong 10 = .ok (.putfield 195, 3) := by decide +kernel
theorem dX8_wrong_13 : decode cX8_wrong 13 = .ok (.aload_n 0, 1) := by decide +kernel
theorem dX8_wrong_14 : decode cX8_wrong 14 = .ok (.aload_n 0, 1) := by decide +kernel
theorem dX8_wrong_15 : decode cX8_wrong 15 = .ok (.getfield 169, 3) := by decide +kernel
theorem dX8_wrong_18 : decode cX8_wrong 18 = .ok (.putfield 198, 3) := by decide +kernel
theorem dX8_wrong_21 : decode cX8_wrong 21 = .ok (.return_, 1) := by decide +kernel
theorem dX8_is_0 : decode cX8_is 0 = .ok (.aload_n 0, 1) := by decide +kernel
theorem dX8_is_1 : decode cX8_is 1 = .ok (.getfield 195, 3) := by decide +kernel
theorem dX8_is_4 : decode cX8_is 4 = .ok (.ifCond .ne 31, 3) := by decide +kernel
theorem dX8_is_7 : decode cX8_is 7 = .ok (.aload_n 0, 1) := by decide +kernel
theorem dX8_is_8 : decode cX8_is 8 = .ok (.getfield 172, 3) := by decide +kernel
theorem dX8_is_11 : decode cX8_is 11 = .ok (.iconst 1, 1) := by decide +kernel
theorem dX8_is_12 : decode cX8_is 12 = .ok (.if_icmp .ne 23, 3) := by decide +kernel
theorem dX8_is_15 : decode cX8_is 15 = .ok (.aload_n 1, 1) := by decide +kernel
theorem dX8_is_16 : decode cX8_is 16 = .ok (.invokevirtual 201, 3) := by decide +kernel
theorem dX8_is_19 : decode cX8_is 19 = .ok (.aload_n 0, 1) := by decide +kernel
theorem dX8_is_20 : decode cX8_is 20 = .ok (.getfield 192, 3) := by decide +kernel
theorem dX8_is_23 : decode cX8_is 23 = .ok (.aload_n 0, 1) := by decide +kernel
theorem dX8_is_24 : decode cX8_is 24 = .ok (.getfield 169, 3) := by decide +kernel
theorem dX8_is_27 : decode cX8_is 27 = .ok (.isub, 1) := by decide +kernel
theorem dX8_is_28 : decode cX8_is 28 = .ok (.if_icmp .ne 7, 3) := by decide +kernel
theorem dX8_is_31 : decode cX8_is 31 = .ok (.iconst 1, 1) := by decide +kernel
theorem dX8_is_32 : decode cX8_is 32 = .ok (.goto 4, 3) := by decide +kernel
theorem dX8_is_35 : decode cX8_is 35 = .ok (.iconst 0, 1) := by decide +kernel
theorem dX8_is_36 : decode cX8_is 36 = .ok (.istore_n 2, 1) := by decide +kernel
theorem dX8_is_37 : decode cX8_is 37 = .ok (.iconst 0, 1) := by decide +kernel
theorem dX8_is_38 : decode cX8_is 38 = .ok (.istore_n 3, 1) := by decide +kernel
theorem dX8_is_39 : decode cX8_is 39 = .ok (.iload_n 2, 1) := by decide +kernel
theorem dX8_is_40 : decode cX8_is 40 = .ok (.ifCond .eq 42, 3) := by decide +kernel
theorem dX8_is_43 : decode cX8_is 43 = .ok (.iload_n 3, 1) := by decide +kernel
theorem dX8_is_44 : decode cX8_is 44 = .ok (.aload_n 1, 1) := by decide +kernel
theorem dX8_is_45 : decode cX8_is 45 = .ok (.invokevirtual 201, 3) := by decide +kernel
theorem dX8_is_48 : decode cX8_is 48 = .ok (.if_icmp .ge 34, 3) := by decide +kernel
theorem dX8_is_51 : decode cX8_is 51 = .ok (.aload_n 1, 1) := by decide +kernel
theorem dX8_is_52 : decode cX8_is 52 = .ok (.iload_n 3, 1) := by decide +kernel
theorem dX8_is_53 : decode cX8_is 53 = .ok (.invokevirtual 205, 3) := by decide +kernel
theorem dX8_is_56 : decode cX8_is 56 = .ok (.aload_n 0, 1) := by decide +kernel
theorem dX8_is_57 : decode cX8_is 57 = .ok (.getfield 66, 3) := by decide +kernel
theorem dX8_is_60 : decode cX8_is 60 = .ok (.aload_n 0, 1) := by decide +kernel
theorem dX8_is_61 : decode cX8_is 61 = .ok (.getfield 169, 3) := by decide +kernel
theorem dX8_is_64 : decode cX8_is 64 = .ok (.iload_n 3, 1) := by decide +kernel
theorem dX8_is_65 : decode cX8_is 65 = .ok (.iadd, 1) := by decide +kernel
theorem dX8_is_66 : decode cX8_is 66 = .ok (.iaload, 1) := by decide +kernel
theorem dX8_is_67 : decode cX8_is 67 = .ok (.if_icmp .ne 7, 3) := by decide +kernel
theorem dX8_is_70 : decode cX8_is 70 = .ok (.iconst 1, 1) := by decide +kernel
theorem dX8_is_71 : decode cX8_is 71 = .ok (.goto 4, 3) := by decide +kernel
theorem dX8_is_74 : decode cX8_is 74 = .ok (.iconst 0, 1) := by decide +kernel
theorem dX8_is_75 : decode cX8_is 75 = .ok (.istore_n 2, 1) := by decide +kernel
theorem dX8_is_76 : decode cX8_is 76 = .ok (.iinc 3 1, 3) := by decide +kernel
theorem dX8_is_79 : decode cX8_is 79 = .ok (.goto (-40), 3) := by decide +kernel
theorem dX8_is_82 : decode cX8_is 82 = .ok (.iload_n 2, 1) := by decide +kernel
theorem dX8_is_83 : decode cX8_is 83 = .ok (.ireturn, 1) := by decide +kernel
theorem dX8_passes_0 : decode cX8_passes 0 = .ok (.aload_n 0, 1) := by decide +kernel
theorem dX8_passes_1 : decode cX8_passes 1 = .ok (.aload_n 1, 1) := by decide +kernel
theorem dX8_passes_2 : decode cX8_passes 2 = .ok (.invokevirtual 209, 3) := by decide +kernel
theorem dX8_passes_5 : decode cX8_passes 5 = .ok (.istore_n 2, 1) := by decide +kernel
theorem dX8_passes_6 : decode cX8_passes 6 = .ok (.iload_n 2, 1) := by decide +kernel
theorem dX8_passes_7 : decode cX8_passes 7 = .ok (.ifCond .eq 7, 3) := by decide +kernel
theorem dX8_passes_10 : decode cX8_passes 10 = .ok (.aload_n 0, 1) := by decide +kernel
theorem dX8_passes_11 : decode cX8_passes 11 = .ok (.invokevirtual 213, 3) := by decide +kernel
theorem dX8_passes_14 : decode cX8_passes 14 = .ok (.iload_n 2, 1) := by decide +kernel
theorem dX8_passes_15 : decode cX8_passes 15 = .ok (.ireturn, 1) := by decide +kernel
theorem dX8_numberNow_0 : decode cX8_numberNow 0 = .ok (.aload_n 0, 1) := by decide +kernel
theorem dX8_numberNow_1 : decode cX8_numberNow 1 = .ok (.getfield 195, 3) := by decide +kernel
theorem dX8_numberNow_4 : decode cX8_numberNow 4 = .ok (.ifCond .eq 5, 3) := by decide +kernel
theorem dX8_numberNow_7 : decode cX8_numberNow 7 = .ok (.iconst 0, 1) := by decide +kernel
theorem dX8_numberNow_8 : decode cX8_numberNow 8 = .ok (.ireturn, 1) := by decide +kernel
theorem dX8_numberNow_9 : decode cX8_numberNow 9 = .ok (.aload_n 0, 1) := by decide +kernel
theorem dX8_numberNow_10 : decode cX8_numberNow 10 = .ok (.getfield 172, 3) := by decide +kernel
theorem dX8_numberNow_13 : decode cX8_numberNow 13 = .ok (.iconst 2, 1) := by decide +kernel
theorem dX8_numberNow_14 : decode cX8_numberNow 14 = .ok (.if_icmp .eq 11, 3) := by decide +kernel
theorem dX8_numberNow_17 : decode cX8_numberNow 17 = .ok (.aload_n 0, 1) := by decide +kernel
theorem dX8_numberNow_18 : decode cX8_numberNow 18 = .ok (.iconst 1, 1) := by decide +kernel
theorem dX8_numberNow_19 : decode cX8_numberNow 19 = .ok (.invokevirtual 216, 3) := by decide +kernel
theorem dX8_numberNow_22 : decode cX8_numberNow 22 = .ok (.goto 37, 3) := by decide +kernel
theorem dX8_numberNow_25 : decode cX8_numberNow 25 = .ok (.aload_n 0, 1) := by decide +kernel
theorem dX8_numberNow_26 : decode cX8_numberNow 26 = .ok (.getfield 192, 3) := by decide +kernel
theorem dX8_numberNow_29 : decode cX8_numberNow 29 = .ok (.aload_n 0, 1) := by decide +kernel
theorem dX8_numberNow_30 : decode cX8_numberNow 30 = .ok (.getfield 169, 3) := by decide +kernel
theorem dX8_numberNow_33 : decode cX8_numberNow 33 = .ok (.isub, 1) := by decide +kernel
theorem dX8_numberNow_34 : decode cX8_numberNow 34 = .ok (.iconst 4, 1) := by decide +kernel
theorem dX8_numberNow_35 : decode cX8_numberNow 35 = .ok (.if_icmp .gt 19, 3) := by decide +kernel
theorem dX8_numberNow_38 : decode cX8_numberNow 38 = .ok (.aload_n 0, 1) := by decide +kernel
theorem dX8_numberNow_39 : decode cX8_numberNow 39 = .ok (.getfield 182, 3) := by decide +kernel
theorem dX8_numberNow_42 : decode cX8_numberNow 42 = .ok (.iload_n 1, 1) := by decide +kernel
theorem dX8_numberNow_43 : decode cX8_numberNow 43 = .ok (.if_icmp .lt 11, 3) := by decide +kernel
theorem dX8_numberNow_46 : decode cX8_numberNow 46 = .ok (.aload_n 0, 1) := by decide +kernel
theorem dX8_numberNow_47 : decode cX8_numberNow 47 = .ok (.getfield 182, 3) := by decide +kernel
theorem dX8_numberNow_50 : decode cX8_numberNow 50 = .ok (.iload_n 2, 1) := by decide +kernel
theorem dX8_numberNow_51 : decode cX8_numberNow 51 = .ok (.if_icmp .le 8, 3) := by decide +kernel
theorem dX8_numberNow_54 : decode cX8_numberNow 54 = .ok (.aload_n 0, 1) := by decide +kernel
theorem dX8_numberNow_55 : decode cX8_numberNow 55 = .ok (.iconst 2, 1) := by decide +kernel
theorem dX8_numberNow_56 : decode cX8_numberNow 56 = .ok (.invokevirtual 216, 3) := by decide +kernel
theorem dX8_numberNow_59 : decode cX8_numberNow 59 = .ok (.aload_n 0, 1) := by decide +kernel
theorem dX8_numberNow_60 : decode cX8_numberNow 60 = .ok (.getfield 195, 3) := by decide +kernel
theorem dX8_numberNow_63 : decode cX8_numberNow 63 = .ok (.ifCond .ne 10, 3) := by decide +kernel
theorem dX8_numberNow_66 : decode cX8_numberNow 66 = .ok (.aload_n 0, 1) := by decide +kernel
theorem dX8_numberNow_67 : decode cX8_numberNow 67 = .ok (.getfield 182, 3) := by decide +kernel
theorem dX8_numberNow_70 : decode cX8_numberNow 70 = .ok (.goto 4, 3) := by decide +kernel
theorem dX8_numberNow_73 : decode cX8_numberNow 73 = .ok (.iconst 0, 1) := by decide +kernel
theorem dX8_numberNow_74 : decode cX8_numberNow 74 = .ok (.ireturn, 1) := by decide +kernel
theorem dX8_readNumber_0 : decode cX8_readNumber 0 = .ok (.aload_n 0, 1) := by decide +kernel
theorem dX8_readNumber_1 : decode cX8_readNumber 1 = .ok (.iload_n 1, 1) := by decide +kernel
theorem dX8_readNumber_2 : decode cX8_readNumber 2 = .ok (.iload_n 2, 1) := by decide +kernel
theorem dX8_readNumber_3 : decode cX8_readNumber 3 = .ok (.invokevirtual 220, 3) := by decide +kernel
theorem dX8_readNumber_6 : decode cX8_readNumber 6 = .ok (.istore_n 3, 1) := by decide +kernel
theorem dX8_readNumber_7 : decode cX8_readNumber 7 = .ok (.aload_n 0, 1) := by decide +kernel
theorem dX8_readNumber_8 : decode cX8_readNumber 8 = .ok (.getfield 195, 3) := by decide +kernel
theorem dX8_readNumber_11 : decode cX8_readNumber 11 = .ok (.ifCond .ne 7, 3) := by decide +kernel
theorem dX8_readNumber_14 : decode cX8_readNumber 14 = .ok (.aload_n 0, 1) := by decide +kernel
theorem dX8_readNumber_15 : decode cX8_readNumber 15 = .ok (.invokevirtual 213, 3) := by decide +kernel
theorem dX8_readNumber_18 : decode cX8_readNumber 18 = .ok (.iload_n 3, 1) := by decide +kernel
theorem dX8_readNumber_19 : decode cX8_readNumber 19 = .ok (.ireturn, 1) := by decide +kernel
theorem dX8_oneNow_0 : decode cX8_oneNow 0 = .ok (.aload_n 0, 1) := by decide +kernel
theorem dX8_oneNow_1 : decode cX8_oneNow 1 = .ok (.iconst 0, 1) := by decide +kernel
theorem dX8_oneNow_2 : decode cX8_oneNow 2 = .ok (.sipush 9999, 3) := by decide +kernel
theorem dX8_oneNow_5 : decode cX8_oneNow 5 = .ok (.invokevirtual 220, 3) := by decide +kernel
theorem dX8_oneNow_8 : decode cX8_oneNow 8 = .ok (.istore_n 2, 1) := by decide +kernel
theorem dX8_oneNow_9 : decode cX8_oneNow 9 = .ok (.aload_n 0, 1) := by decide +kernel
theorem dX8_oneNow_10 : decode cX8_oneNow 10 = .ok (.getfield 195, 3) := by decide +kernel
theorem dX8_oneNow_13 : decode cX8_oneNow 13 = .ok (.ifCond .ne 20, 3) := by decide +kernel
theorem dX8_oneNow_16 : decode cX8_oneNow 16 = .ok (.iload_n 2, 1) := by decide +kernel
theorem dX8_oneNow_17 : decode cX8_oneNow 17 = .ok (.aload_n 0, 1) := by decide +kernel
theorem dX8_oneNow_18 : decode cX8_oneNow 18 = .ok (.getfield 23, 3) := by decide +kernel
theorem dX8_oneNow_21 : decode cX8_oneNow 21 = .ok (.iconst 5, 1) := by decide +kernel
theorem dX8_oneNow_22 : decode cX8_oneNow 22 = .ok (.iload_n 1, 1) := by decide +kernel
theorem dX8_oneNow_23 : decode cX8_oneNow 23 = .ok (.iadd, 1) := by decide +kernel
theorem dX8_oneNow_24 : decode cX8_oneNow 24 = .ok (.iaload, 1) := by decide +kernel
theorem dX8_oneNow_25 : decode cX8_oneNow 25 = .ok (.if_icmp .lt 8, 3) := by decide +kernel
theorem dX8_oneNow_28 : decode cX8_oneNow 28 = .ok (.aload_n 0, 1) := by decide +kernel
theorem dX8_oneNow_29 : decode cX8_oneNow 29 = .ok (.iconst 3, 1) := by decide +kernel
theorem dX8_oneNow_30 : decode cX8_oneNow 30 = .ok (.invokevirtual 216, 3) := by decide +kernel
theorem dX8_oneNow_33 : decode cX8_oneNow 33 = .ok (.aload_n 0, 1) := by decide +kernel
theorem dX8_oneNow_34 : decode cX8_oneNow 34 = .ok (.getfield 195, 3) := by decide +kernel
theorem dX8_oneNow_37 : decode cX8_oneNow 37 = .ok (.ifCond .ne 7, 3) := by decide +kernel
theorem dX8_oneNow_40 : decode cX8_oneNow 40 = .ok (.iload_n 2, 1) := by decide +kernel
theorem dX8_oneNow_41 : decode cX8_oneNow 41 = .ok (.goto 4, 3) := by decide +kernel
theorem dX8_oneNow_44 : decode cX8_oneNow 44 = .ok (.iconst 0, 1) := by decide +kernel
theorem dX8_oneNow_45 : decode cX8_oneNow 45 = .ok (.ireturn, 1) := by decide +kernel
theorem dX8_readOne_0 : decode cX8_readOne 0 = .ok (.aload_n 0, 1) := by decide +kernel
theorem dX8_readOne_1 : decode cX8_readOne 1 = .ok (.iload_n 1, 1) := by decide +kernel
theorem dX8_readOne_2 : decode cX8_readOne 2 = .ok (.invokevirtual 223, 3) := by decide +kernel
theorem dX8_readOne_5 : decode cX8_readOne 5 = .ok (.istore_n 2, 1) := by decide +kernel
theorem dX8_readOne_6 : decode cX8_readOne 6 = .ok (.aload_n 0, 1) := by decide +kernel
theorem dX8_readOne_7 : decode cX8_readOne 7 = .ok (.getfield 195, 3) := by decide +kernel
theorem dX8_readOne_10 : decode cX8_readOne 10 = .ok (.ifCond .ne 7, 3) := by decide +kernel
theorem dX8_readOne_13 : decode cX8_readOne 13 = .ok (.aload_n 0, 1) := by decide +kernel
theorem dX8_readOne_14 : decode cX8_readOne 14 = .ok (.invokevirtual 213, 3) := by decide +kernel
theorem dX8_readOne_17 : decode cX8_readOne 17 = .ok (.iload_n 2, 1) := by decide +kernel
theorem dX8_readOne_18 : decode cX8_readOne 18 = .ok (.ireturn, 1) := by decide +kernel
theorem dX8_begin_0 : decode cX8_begin 0 = .ok (.aload_n 0, 1) := by decide +kernel
theorem dX8_begin_1 : decode cX8_begin 1 = .ok (.getfield 23, 3) := by decide +kernel
theorem dX8_begin_4 : decode cX8_begin 4 = .ok (.iconst 5, 1) := by decide +kernel
theorem dX8_begin_5 : decode cX8_begin 5 = .ok (.iload_n 1, 1) := by decide +kernel
theorem dX8_begin_6 : decode cX8_begin 6 = .ok (.iadd, 1) := by decide +kernel
theorem dX8_begin_7 : decode cX8_begin 7 = .ok (.iaload, 1) := by decide +kernel
theorem dX8_begin_8 : decode cX8_begin 8 = .ok (.iload_n 2, 1) := by decide +kernel
theorem dX8_begin_9 : decode cX8_begin 9 = .ok (.if_icmp .ne 8, 3) := by decide +kernel
theorem dX8_begin_12 : decode cX8_begin 12 = .ok (.aload_n 0, 1) := by decide +kernel
theorem dX8_begin_13 : decode cX8_begin 13 = .ok (.iconst 2, 1) := by decide +kernel
theorem dX8_begin_14 : decode cX8_begin 14 = .ok (.invokevirtual 216, 3) := by decide +kernel
theorem dX8_begin_17 : decode cX8_begin 17 = .ok (.aload_n 0, 1) := by decide +kernel
theorem dX8_begin_18 : decode cX8_begin 18 = .ok (.getfield 195, 3) := by decide +kernel
theorem dX8_begin_21 : decode cX8_begin 21 = .ok (.ifCond .eq 5, 3) := by decide +kernel
theorem dX8_begin_24 : decode cX8_begin 24 = .ok (.iconst 0, 1) := by decide +kernel
theorem dX8_begin_25 : decode cX8_begin 25 = .ok (.ireturn, 1) := by decide +kernel
theorem dX8_begin_26 : decode cX8_begin 26 = .ok (.aload_n 0, 1) := by decide +kernel
theorem dX8_begin_27 : decode cX8_begin 27 = .ok (.invokevirtual 213, 3) := by decide +kernel
theorem dX8_begin_30 : decode cX8_begin 30 = .ok (.iconst 1, 1) := by decide +kernel
theorem dX8_begin_31 : decode cX8_begin 31 = .ok (.ireturn, 1) := by decide +kernel
theorem dX8_readTown_0 : decode cX8_readTown 0 = .ok (.aload_n 0, 1) := by decide +kernel
theorem dX8_readTown_1 : decode cX8_readTown 1 = .ok (.iconst 0, 1) := by decide +kernel
theorem dX8_readTown_2 : decode cX8_readTown 2 = .ok (.iconst 5, 1) := by decide +kernel
theorem dX8_readTown_3 : decode cX8_readTown 3 = .ok (.invokevirtual 226, 3) := by decide +kernel
theorem dX8_readTown_6 : decode cX8_readTown 6 = .ok (.ifCond .ne 4, 3) := by decide +kernel
theorem dX8_readTown_9 : decode cX8_readTown 9 = .ok (.return_, 1) := by decide +kernel
theorem dX8_readTown_10 : decode cX8_readTown 10 = .ok (.iconst 5, 1) := by decide +kernel
theorem dX8_readTown_11 : decode cX8_readTown 11 = .ok (.aload_n 0, 1) := by decide +kernel
theorem dX8_readTown_12 : decode cX8_readTown 12 = .ok (.getfield 23, 3) := by decide +kernel
theorem dX8_readTown_15 : decode cX8_readTown 15 = .ok (.iconst 5, 1) := by decide +kernel
theorem dX8_readTown_16 : decode cX8_readTown 16 = .ok (.iaload, 1) := by decide +kernel
theorem dX8_readTown_17 : decode cX8_readTown 17 = .ok (.iadd, 1) := by decide +kernel
theorem dX8_readTown_18 : decode cX8_readTown 18 = .ok (.istore_n 1, 1) := by decide +kernel
theorem dX8_readTown_19 : decode cX8_readTown 19 = .ok (.iconst (-1), 1) := by decide +kernel
theorem dX8_readTown_20 : decode cX8_readTown 20 = .ok (.istore_n 2, 1) := by decide +kernel
theorem dX8_readTown_21 : decode cX8_readTown 21 = .ok (.iconst 0, 1) := by decide +kernel
theorem dX8_readTown_22 : decode cX8_readTown 22 = .ok (.istore_n 3, 1) := by decide +kernel
theorem dX8_readTown_23 : decode cX8_readTown 23 = .ok (.iload_n 3, 1) := by decide +kernel
theorem dX8_readTown_24 : decode cX8_readTown 24 = .ok (.aload_n 0, 1) := by decide +kernel
theorem dX8_readTown_25 : decode cX8_readTown 25 = .ok (.getfield 17, 3) := by decide +kernel
theorem dX8_readTown_28 : decode cX8_readTown 28 = .ok (.arraylength, 1) := by decide +kernel
theorem dX8_readTown_29 : decode cX8_readTown 29 = .ok (.if_icmp .ge 24, 3) := by decide +kernel
theorem dX8_readTown_32 : decode cX8_readTown 32 = .ok (.aload_n 0, 1) := by decide +kernel
theorem dX8_readTown_33 : decode cX8_readTown 33 = .ok (.aload_n 0, 1) := by decide +kernel
theorem dX8_readTown_34 : decode cX8_readTown 34 = .ok (.getfield 17, 3) := by decide +kernel
theorem dX8_readTown_37 : decode cX8_readTown 37 = .ok (.iload_n 3, 1) := by decide +kernel
theorem dX8_readTown_38 : decode cX8_readTown 38 = .ok (.aaload, 1) := by decide +kernel
theorem dX8_readTown_39 : decode cX8_readTown 39 = .ok (.invokevirtual 209, 3) := by decide +kernel
theorem dX8_readTown_42 : decode cX8_readTown 42 = .ok (.ifCond .eq 5, 3) := by decide +kernel
theorem dX8_readTown_45 : decode cX8_readTown 45 = .ok (.iload_n 3, 1) := by decide +kernel
theorem dX8_readTown_46 : decode cX8_readTown 46 = .ok (.istore_n 2, 1) := by decide +kernel
theorem dX8_readTown_47 : decode cX8_readTown 47 = .ok (.iinc 3 1, 3) := by decide +kernel
theorem dX8_readTown_50 : decode cX8_readTown 50 = .ok (.goto (-27), 3) := by decide +kernel
theorem dX8_readTown_53 : decode cX8_readTown 53 = .ok (.iload_n 2, 1) := by decide +kernel
theorem dX8_readTown_54 : decode cX8_readTown 54 = .ok (.iconst (-1), 1) := by decide +kernel
theorem dX8_readTown_55 : decode cX8_readTown 55 = .ok (.if_icmp .ne 8, 3) := by decide +kernel
theorem dX8_readTown_58 : decode cX8_readTown 58 = .ok (.aload_n 0, 1) := by decide +kernel
theorem dX8_readTown_59 : decode cX8_readTown 59 = .ok (.iconst 1, 1) := by decide +kernel
theorem dX8_readTown_60 : decode cX8_readTown 60 = .ok (.invokevirtual 216, 3) := by decide +kernel
theorem dX8_readTown_63 : decode cX8_readTown 63 = .ok (.aload_n 0, 1) := by decide +kernel
theorem dX8_readTown_64 : decode cX8_readTown 64 = .ok (.getfield 195, 3) := by decide +kernel
theorem dX8_readTown_67 : decode cX8_readTown 67 = .ok (.ifCond .ne 7, 3) := by decide +kernel
theorem dX8_readTown_70 : decode cX8_readTown 70 = .ok (.aload_n 0, 1) := by decide +kernel
theorem dX8_readTown_71 : decode cX8_readTown 71 = .ok (.invokevirtual 213, 3) := by decide +kernel
theorem dX8_readTown_74 : decode cX8_readTown 74 = .ok (.aload_n 0, 1) := by decide +kernel
theorem dX8_readTown_75 : decode cX8_readTown 75 = .ok (.getfield 27, 3) := by decide +kernel
theorem dX8_readTown_78 : decode cX8_readTown 78 = .ok (.iload_n 1, 1) := by decide +kernel
theorem dX8_readTown_79 : decode cX8_readTown 79 = .ok (.iload_n 2, 1) := by decide +kernel
theorem dX8_readTown_80 : decode cX8_readTown 80 = .ok (.iastore, 1) := by decide +kernel
theorem dX8_readTown_81 : decode cX8_readTown 81 = .ok (.aload_n 0, 1) := by decide +kernel
theorem dX8_readTown_82 : decode cX8_readTown 82 = .ok (.getfield 30, 3) := by decide +kernel
theorem dX8_readTown_85 : decode cX8_readTown 85 = .ok (.iload_n 1, 1) := by decide +kernel
theorem dX8_readTown_86 : decode cX8_readTown 86 = .ok (.iload_n 2, 1) := by decide +kernel
theorem dX8_readTown_87 : decode cX8_readTown 87 = .ok (.ifCond .ne 7, 3) := by decide +kernel
theorem dX8_readTown_90 : decode cX8_readTown 90 = .ok (.iconst 0, 1) := by decide +kernel
theorem dX8_readTown_91 : decode cX8_readTown 91 = .ok (.goto 11, 3) := by decide +kernel
theorem dX8_readTown_94 : decode cX8_readTown 94 = .ok (.aload_n 0, 1) := by decide +kernel
theorem dX8_readTown_95 : decode cX8_readTown 95 = .ok (.iconst 0, 1) := by decide +kernel
theorem dX8_readTown_96 : decode cX8_readTown 96 = .ok (.sipush 1000, 3) := by decide +kernel
theorem dX8_readTown_99 : decode cX8_readTown 99 = .ok (.invokevirtual 230, 3) := by decide +kernel
theorem dX8_readTown_102 : decode cX8_readTown 102 = .ok (.iastore, 1) := by decide +kernel
theorem dX8_readTown_103 : decode cX8_readTown 103 = .ok (.aload_n 0, 1) := by decide +kernel
theorem dX8_readTown_104 : decode cX8_readTown 104 = .ok (.ldc 233, 2) := by decide +kernel
theorem dX8_readTown_106 : decode cX8_readTown 106 = .ok (.invokevirtual 234, 3) := by decide +kernel
theorem dX8_readTown_109 : decode cX8_readTown 109 = .ok (.istore_n 3, 1) := by decide +kernel
theorem dX8_readTown_110 : decode cX8_readTown 110 = .ok (.aload_n 0, 1) := by decide +kernel
theorem dX8_readTown_111 : decode cX8_readTown 111 = .ok (.getfield 33, 3) := by decide +kernel
theorem dX8_readTown_114 : decode cX8_readTown 114 = .ok (.iload_n 1, 1) := by decide +kernel
theorem dX8_readTown_115 : decode cX8_readTown 115 = .ok (.iload_n 3, 1) := by decide +kernel
theorem dX8_readTown_116 : decode cX8_readTown 116 = .ok (.ifCond .eq 13, 3) := by decide +kernel
theorem dX8_readTown_119 : decode cX8_readTown 119 = .ok (.aload_n 0, 1) := by decide +kernel
theorem dX8_readTown_120 : decode cX8_readTown 120 = .ok (.iconst 0, 1) := by decide +kernel
theorem dX8_readTown_121 : decode cX8_readTown 121 = .ok (.bipush 9, 2) := by decide +kernel
theorem dX8_readTown_123 : decode cX8_readTown 123 = .ok (.invokevirtual 230, 3) := by decide +kernel
theorem dX8_readTown_126 : decode cX8_readTown 126 = .ok (.goto 4, 3) := by decide +kernel
theorem dX8_readTown_129 : decode cX8_readTown 129 = .ok (.iconst 0, 1) := by decide +kernel
theorem dX8_readTown_130 : decode cX8_readTown 130 = .ok (.iastore, 1) := by decide +kernel
theorem dX8_readTown_131 : decode cX8_readTown 131 = .ok (.aload_n 0, 1) := by decide +kernel
theorem dX8_readTown_132 : decode cX8_readTown 132 = .ok (.getfield 36, 3) := by decide +kernel
theorem dX8_readTown_135 : decode cX8_readTown 135 = .ok (.iload_n 1, 1) := by decide +kernel
theorem dX8_readTown_136 : decode cX8_readTown 136 = .ok (.iload_n 3, 1) := by decide +kernel
theorem dX8_readTown_137 : decode cX8_readTown 137 = .ok (.ifCond .eq 13, 3) := by decide +kernel
theorem dX8_readTown_140 : decode cX8_readTown 140 = .ok (.aload_n 0, 1) := by decide +kernel
theorem dX8_readTown_141 : decode cX8_readTown 141 = .ok (.iconst 0, 1) := by decide +kernel
theorem dX8_readTown_142 : decode cX8_readTown 142 = .ok (.bipush 99, 2) := by decide +kernel
theorem dX8_readTown_144 : decode cX8_readTown 144 = .ok (.invokevirtual 230, 3) := by decide +kernel
theorem dX8_readTown_147 : decode cX8_readTown 147 = .ok (.goto 4, 3) := by decide +kernel
theorem dX8_readTown_150 : decode cX8_readTown 150 = .ok (.iconst 0, 1) := by decide +kernel
theorem dX8_readTown_151 : decode cX8_readTown 151 = .ok (.iastore, 1) := by decide +kernel
theorem dX8_readTown_152 : decode cX8_readTown 152 = .ok (.aload_n 0, 1) := by decide +kernel
theorem dX8_readTown_153 : decode cX8_readTown 153 = .ok (.getfield 23, 3) := by decide +kernel
theorem dX8_readTown_156 : decode cX8_readTown 156 = .ok (.iconst 5, 1) := by decide +kernel
theorem dX8_readTown_157 : decode cX8_readTown 157 = .ok (.dup2, 1) := by decide +kernel
theorem dX8_readTown_158 : decode cX8_readTown 158 = .ok (.iaload, 1) := by decide +kernel
theorem dX8_readTown_159 : decode cX8_readTown 159 = .ok (.iconst 1, 1) := by decide +kernel
theorem dX8_readTown_160 : decode cX8_readTown 160 = .ok (.iadd, 1) := by decide +kernel
theorem dX8_readTown_161 : decode cX8_readTown 161 = .ok (.iastore, 1) := by decide +kernel
theorem dX8_readTown_162 : decode cX8_readTown 162 = .ok (.return_, 1) := by decide +kernel
theorem dX8_readTrain_0 : decode cX8_readTrain 0 = .ok (.aload_n 0, 1) := by decide +kernel
theorem dX8_readTrain_1 : decode cX8_readTrain 1 = .ok (.iconst 0, 1) := by decide +kernel
theorem dX8_readTrain_2 : decode cX8_readTrain 2 = .ok (.invokevirtual 237, 3) := by decide +kernel
theorem dX8_readTrain_5 : decode cX8_readTrain 5 = .ok (.istore_n 1, 1) := by decide +kernel
theorem dX8_readTrain_6 : decode cX8_readTrain 6 = .ok (.aload_n 0, 1) := by decide +kernel
theorem dX8_readTrain_7 : decode cX8_readTrain 7 = .ok (.iconst 0, 1) := by decide +kernel
theorem dX8_readTrain_8 : decode cX8_readTrain 8 = .ok (.invokevirtual 223, 3) := by decide +kernel
theorem dX8_readTrain_11 : decode cX8_readTrain 11 = .ok (.istore_n 2, 1) := by decide +kernel
theorem dX8_readTrain_12 : decode cX8_readTrain 12 = .ok (.bipush 25, 2) := by decide +kernel
theorem dX8_readTrain_14 : decode cX8_readTrain 14 = .ok (.iconst 5, 1) := by decide +kernel
theorem dX8_readTrain_15 : decode cX8_readTrain 15 = .ok (.iload_n 1, 1) := by decide +kernel
theorem dX8_readTrain_16 : decode cX8_readTrain 16 = .ok (.imul, 1) := by decide +kernel
theorem dX8_readTrain_17 : decode cX8_readTrain 17 = .ok (.iadd, 1) := by decide +kernel
theorem dX8_readTrain_18 : decode cX8_readTrain 18 = .ok (.iload_n 2, 1) := by decide +kernel
theorem dX8_readTrain_19 : decode cX8_readTrain 19 = .ok (.iadd, 1) := by decide +kernel
theorem dX8_readTrain_20 : decode cX8_readTrain 20 = .ok (.istore_n 3, 1) := by decide +kernel
theorem dX8_readTrain_21 : decode cX8_readTrain 21 = .ok (.aload_n 0, 1) := by decide +kernel
theorem dX8_readTrain_22 : decode cX8_readTrain 22 = .ok (.getfield 195, 3) := by decide +kernel
theorem dX8_readTrain_25 : decode cX8_readTrain 25 = .ok (.ifCond .ne 22, 3) := by decide +kernel
theorem dX8_readTrain_28 : decode cX8_readTrain 28 = .ok (.iload_n 1, 1) := by decide +kernel
theorem dX8_readTrain_29 : decode cX8_readTrain 29 = .ok (.iload_n 2, 1) := by decide +kernel
theorem dX8_readTrain_30 : decode cX8_readTrain 30 = .ok (.if_icmp .eq 12, 3) := by decide +kernel
theorem dX8_readTrain_33 : decode cX8_readTrain 33 = .ok (.aload_n 0, 1) := by decide +kernel
theorem dX8_readTrain_34 : decode cX8_readTrain 34 = .ok (.getfield 39, 3) := by decide +kernel
theorem dX8_readTrain_37 : decode cX8_readTrain 37 = .ok (.iload_n 3, 1) := by decide +kernel
theorem dX8_readTrain_38 : decode cX8_readTrain 38 = .ok (.iaload, 1) := by decide +kernel
theorem dX8_readTrain_39 : decode cX8_readTrain 39 = .ok (.ifCond .le 8, 3) := by decide +kernel
theorem dX8_readTrain_42 : decode cX8_readTrain 42 = .ok (.aload_n 0, 1) := by decide +kernel
theorem dX8_readTrain_43 : decode cX8_readTrain 43 = .ok (.iconst 4, 1) := by decide +kernel
theorem dX8_readTrain_44 : decode cX8_readTrain 44 = .ok (.invokevirtual 216, 3) := by decide +kernel
theorem dX8_readTrain_47 : decode cX8_readTrain 47 = .ok (.aload_n 0, 1) := by decide +kernel
theorem dX8_readTrain_48 : decode cX8_readTrain 48 = .ok (.getfield 195, 3) := by decide +kernel
theorem dX8_readTrain_51 : decode cX8_readTrain 51 = .ok (.ifCond .eq 4, 3) := by decide +kernel
theorem dX8_readTrain_54 : decode cX8_readTrain 54 = .ok (.return_, 1) := by decide +kernel
theorem dX8_readTrain_55 : decode cX8_readTrain 55 = .ok (.aload_n 0, 1) := by decide +kernel
theorem dX8_readTrain_56 : decode cX8_readTrain 56 = .ok (.invokevirtual 213, 3) := by decide +kernel
theorem dX8_readTrain_59 : decode cX8_readTrain 59 = .ok (.aload_n 0, 1) := by decide +kernel
theorem dX8_readTrain_60 : decode cX8_readTrain 60 = .ok (.getfield 39, 3) := by decide +kernel
theorem dX8_readTrain_63 : decode cX8_readTrain 63 = .ok (.iload_n 3, 1) := by decide +kernel
theorem dX8_readTrain_64 : decode cX8_readTrain 64 = .ok (.aload_n 0, 1) := by decide +kernel
theorem dX8_readTrain_65 : decode cX8_readTrain 65 = .ok (.iconst 1, 1) := by decide +kernel
theorem dX8_readTrain_66 : decode cX8_readTrain 66 = .ok (.bipush 9, 2) := by decide +kernel
theorem dX8_readTrain_68 : decode cX8_readTrain 68 = .ok (.invokevirtual 230, 3) := by decide +kernel
theorem dX8_readTrain_71 : decode cX8_readTrain 71 = .ok (.iastore, 1) := by decide +kernel
theorem dX8_readTrain_72 : decode cX8_readTrain 72 = .ok (.return_, 1) := by decide +kernel
theorem dX8_readThing_0 : decode cX8_readThing 0 = .ok (.aload_n 0, 1) := by decide +kernel
theorem dX8_readThing_1 : decode cX8_readThing 1 = .ok (.iconst 2, 1) := by decide +kernel
theorem dX8_readThing_2 : decode cX8_readThing 2 = .ok (.bipush 10, 2) := by decide +kernel
theorem dX8_readThing_4 : decode cX8_readThing 4 = .ok (.invokevirtual 226, 3) := by decide +kernel
theorem dX8_readThing_7 : decode cX8_readThing 7 = .ok (.ifCond .ne 4, 3) := by decide +kernel
theorem dX8_readThing_10 : decode cX8_readThing 10 = .ok (.return_, 1) := by decide +kernel
theorem dX8_readThing_11 : decode cX8_readThing 11 = .ok (.bipush 11, 2) := by decide +kernel
theorem dX8_readThing_13 : decode cX8_readThing 13 = .ok (.aload_n 0, 1) := by decide +kernel
theorem dX8_readThing_14 : decode cX8_readThing 14 = .ok (.getfield 23, 3) := by decide +kernel
theorem dX8_readThing_17 : decode cX8_readThing 17 = .ok (.bipush 7, 2) := by decide +kernel
theorem dX8_readThing_19 : decode cX8_readThing 19 = .ok (.iaload, 1) := by decide +kernel
theorem dX8_readThing_20 : decode cX8_readThing 20 = .ok (.iadd, 1) := by decide +kernel
theorem dX8_readThing_21 : decode cX8_readThing 21 = .ok (.istore_n 1, 1) := by decide +kernel
theorem dX8_readThing_22 : decode cX8_readThing 22 = .ok (.aload_n 0, 1) := by decide +kernel
theorem dX8_readThing_23 : decode cX8_readThing 23 = .ok (.getfield 45, 3) := by decide +kernel
theorem dX8_readThing_26 : decode cX8_readThing 26 = .ok (.iload_n 1, 1) := by decide +kernel
theorem dX8_readThing_27 : decode cX8_readThing 27 = .ok (.aload_n 0, 1) := by decide +kernel
theorem dX8_readThing_28 : decode cX8_readThing 28 = .ok (.iconst 0, 1) := by decide +kernel
theorem dX8_readThing_29 : decode cX8_readThing 29 = .ok (.bipush 19, 2) := by decide +kernel
theorem dX8_readThing_31 : decode cX8_readThing 31 = .ok (.invokevirtual 230, 3) := by decide +kernel
theorem dX8_readThing_34 : decode cX8_readThing 34 = .ok (.iastore, 1) := by decide +kernel
theorem dX8_readThing_35 : decode cX8_readThing 35 = .ok (.aload_n 0, 1) := by decide +kernel
theorem dX8_readThing_36 : decode cX8_readThing 36 = .ok (.getfield 48, 3) := by decide +kernel
theorem dX8_readThing_39 : decode cX8_readThing 39 = .ok (.iload_n 1, 1) := by decide +kernel
theorem dX8_readThing_40 : decode cX8_readThing 40 = .ok (.aload_n 0, 1) := by decide +kernel
theorem dX8_readThing_41 : decode cX8_readThing 41 = .ok (.iconst 1, 1) := by decide +kernel
theorem dX8_readThing_42 : decode cX8_readThing 42 = .ok (.invokevirtual 237, 3) := by decide +kernel
theorem dX8_readThing_45 : decode cX8_readThing 45 = .ok (.iastore, 1) := by decide +kernel
theorem dX8_readThing_46 : decode cX8_readThing 46 = .ok (.aload_n 0, 1) := by decide +kernel
theorem dX8_readThing_47 : decode cX8_readThing 47 = .ok (.getfield 23, 3) := by decide +kernel
theorem dX8_readThing_50 : decode cX8_readThing 50 = .ok (.bipush 7, 2) := by decide +kernel
theorem dX8_readThing_52 : decode cX8_readThing 52 = .ok (.dup2, 1) := by decide +kernel
theorem dX8_readThing_53 : decode cX8_readThing 53 = .ok (.iaload, 1) := by decide +kernel
theorem dX8_readThing_54 : decode cX8_readThing 54 = .ok (.iconst 1, 1) := by decide +kernel
theorem dX8_readThing_55 : decode cX8_readThing 55 = .ok (.iadd, 1) := by decide +kernel
theorem dX8_readThing_56 : decode cX8_readThing 56 = .ok (.iastore, 1) := by decide +kernel
theorem dX8_readThing_57 : decode cX8_readThing 57 = .ok (.return_, 1) := by decide +kernel
theorem dX8_readPlay_0 : decode cX8_readPlay 0 = .ok (.aload_n 0, 1) := by decide +kernel
theorem dX8_readPlay_1 : decode cX8_readPlay 1 = .ok (.iconst 3, 1) := by decide +kernel
theorem dX8_readPlay_2 : decode cX8_readPlay 2 = .ok (.iconst 4, 1) := by decide +kernel
theorem dX8_readPlay_3 : decode cX8_readPlay 3 = .ok (.invokevirtual 226, 3) := by decide +kernel
theorem dX8_readPlay_6 : decode cX8_readPlay 6 = .ok (.ifCond .ne 4, 3) := by decide +kernel
theorem dX8_readPlay_9 : decode cX8_readPlay 9 = .ok (.return_, 1) := by decide +kernel
theorem dX8_readPlay_10 : decode cX8_readPlay 10 = .ok (.iconst 4, 1) := by decide +kernel
theorem dX8_readPlay_11 : decode cX8_readPlay 11 = .ok (.aload_n 0, 1) := by decide +kernel
theorem dX8_readPlay_12 : decode cX8_readPlay 12 = .ok (.getfield 23, 3) := by decide +kernel
theorem dX8_readPlay_15 : decode cX8_readPlay 15 = .ok (.bipush 8, 2) := by decide +kernel
theorem dX8_readPlay_17 : decode cX8_readPlay 17 = .ok (.iaload, 1) := by decide +kernel
theorem dX8_readPlay_18 : decode cX8_readPlay 18 = .ok (.iadd, 1) := by decide +kernel
theorem dX8_readPlay_19 : decode cX8_readPlay 19 = .ok (.istore_n 1, 1) := by decide +kernel
theorem dX8_readPlay_20 : decode cX8_readPlay 20 = .ok (.aload_n 0, 1) := by decide +kernel
theorem dX8_readPlay_21 : decode cX8_readPlay 21 = .ok (.getfield 51, 3) := by decide +kernel
theorem dX8_readPlay_24 : decode cX8_readPlay 24 = .ok (.iload_n 1, 1) := by decide +kernel
theorem dX8_readPlay_25 : decode cX8_readPlay 25 = .ok (.aload_n 0, 1) := by decide +kernel
theorem dX8_readPlay_26 : decode cX8_readPlay 26 = .ok (.iconst 1, 1) := by decide +kernel
theorem dX8_readPlay_27 : decode cX8_readPlay 27 = .ok (.bipush 20, 2) := by decide +kernel
theorem dX8_readPlay_29 : decode cX8_readPlay 29 = .ok (.invokevirtual 230, 3) := by decide +kernel
theorem dX8_readPlay_32 : decode cX8_readPlay 32 = .ok (.iastore, 1) := by decide +kernel
theorem dX8_readPlay_33 : decode cX8_readPlay 33 = .ok (.aload_n 0, 1) := by decide +kernel
theorem dX8_readPlay_34 : decode cX8_readPlay 34 = .ok (.getfield 57, 3) := by decide +kernel
theorem dX8_readPlay_37 : decode cX8_readPlay 37 = .ok (.iload_n 1, 1) := by decide +kernel
theorem dX8_readPlay_38 : decode cX8_readPlay 38 = .ok (.iconst 0, 1) := by decide +kernel
theorem dX8_readPlay_39 : decode cX8_readPlay 39 = .ok (.iastore, 1) := by decide +kernel
theorem dX8_readPlay_40 : decode cX8_readPlay 40 = .ok (.aload_n 0, 1) := by decide +kernel
theorem dX8_readPlay_41 : decode cX8_readPlay 41 = .ok (.getfield 195, 3) := by decide +kernel
theorem dX8_readPlay_44 : decode cX8_readPlay 44 = .ok (.ifCond .ne 26, 3) := by decide +kernel
theorem dX8_readPlay_47 : decode cX8_readPlay 47 = .ok (.aload_n 0, 1) := by decide +kernel
theorem dX8_readPlay_48 : decode cX8_readPlay 48 = .ok (.getfield 172, 3) := by decide +kernel
theorem dX8_readPlay_51 : decode cX8_readPlay 51 = .ok (.iconst 2, 1) := by decide +kernel
theorem dX8_readPlay_52 : decode cX8_readPlay 52 = .ok (.if_icmp .ne 18, 3) := by decide +kernel
theorem dX8_readPlay_55 : decode cX8_readPlay 55 = .ok (.aload_n 0, 1) := by decide +kernel
theorem dX8_readPlay_56 : decode cX8_readPlay 56 = .ok (.getfield 57, 3) := by decide +kernel
theorem dX8_readPlay_59 : decode cX8_readPlay 59 = .ok (.iload_n 1, 1) := by decide +kernel
theorem dX8_readPlay_60 : decode cX8_readPlay 60 = .ok (.iaload, 1) := by decide +kernel
theorem dX8_readPlay_61 : decode cX8_readPlay 61 = .ok (.iconst 4, 1) := by decide +kernel
theorem dX8_readPlay_62 : decode cX8_readPlay 62 = .ok (.if_icmp .ne 8, 3) := by decide +kernel
theorem dX8_readPlay_65 : decode cX8_readPlay 65 = .ok (.aload_n 0, 1) := by decide +kernel
theorem dX8_readPlay_66 : decode cX8_readPlay 66 = .ok (.iconst 2, 1) := by decide +kernel
theorem dX8_readPlay_67 : decode cX8_readPlay 67 = .ok (.invokevirtual 216, 3) := by decide +kernel
theorem dX8_readPlay_70 : decode cX8_readPlay 70 = .ok (.aload_n 0, 1) := by decide +kernel
theorem dX8_readPlay_71 : decode cX8_readPlay 71 = .ok (.iconst 0, 1) := by decide +kernel
theorem dX8_readPlay_72 : decode cX8_readPlay 72 = .ok (.bipush 19, 2) := by decide +kernel
theorem dX8_readPlay_74 : decode cX8_readPlay 74 = .ok (.invokevirtual 230, 3) := by decide +kernel
theorem dX8_readPlay_77 : decode cX8_readPlay 77 = .ok (.istore_n 2, 1) := by decide +kernel
theorem dX8_readPlay_78 : decode cX8_readPlay 78 = .ok (.aload_n 0, 1) := by decide +kernel
theorem dX8_readPlay_79 : decode cX8_readPlay 79 = .ok (.getfield 195, 3) := by decide +kernel
theorem dX8_readPlay_82 : decode cX8_readPlay 82 = .ok (.ifCond .eq 4, 3) := by decide +kernel
theorem dX8_readPlay_85 : decode cX8_readPlay 85 = .ok (.return_, 1) := by decide +kernel
theorem dX8_readPlay_86 : decode cX8_readPlay 86 = .ok (.aload_n 0, 1) := by decide +kernel
theorem dX8_readPlay_87 : decode cX8_readPlay 87 = .ok (.getfield 54, 3) := by decide +kernel
theorem dX8_readPlay_90 : decode cX8_readPlay 90 = .ok (.iconst 4, 1) := by decide +kernel
theorem dX8_readPlay_91 : decode cX8_readPlay 91 = .ok (.iload_n 1, 1) := by decide +kernel
theorem dX8_readPlay_92 : decode cX8_readPlay 92 = .ok (.imul, 1) := by decide +kernel
theorem dX8_readPlay_93 : decode cX8_readPlay 93 = .ok (.aload_n 0, 1) := by decide +kernel
theorem dX8_readPlay_94 : decode cX8_readPlay 94 = .ok (.getfield 57, 3) := by decide +kernel
theorem dX8_readPlay_97 : decode cX8_readPlay 97 = .ok (.iload_n 1, 1) := by decide +kernel
theorem dX8_readPlay_98 : decode cX8_readPlay 98 = .ok (.iaload, 1) := by decide +kernel
theorem dX8_readPlay_99 : decode cX8_readPlay 99 = .ok (.iadd, 1) := by decide +kernel
theorem dX8_readPlay_100 : decode cX8_readPlay 100 = .ok (.iload_n 2, 1) := by decide +kernel
theorem dX8_readPlay_101 : decode cX8_readPlay 101 = .ok (.iastore, 1) := by decide +kernel
theorem dX8_readPlay_102 : decode cX8_readPlay 102 = .ok (.aload_n 0, 1) := by decide +kernel
theorem dX8_readPlay_103 : decode cX8_readPlay 103 = .ok (.getfield 57, 3) := by decide +kernel
theorem dX8_readPlay_106 : decode cX8_readPlay 106 = .ok (.iload_n 1, 1) := by decide +kernel
theorem dX8_readPlay_107 : decode cX8_readPlay 107 = .ok (.dup2, 1) := by decide +kernel
theorem dX8_readPlay_108 : decode cX8_readPlay 108 = .ok (.iaload, 1) := by decide +kernel
theorem dX8_readPlay_109 : decode cX8_readPlay 109 = .ok (.iconst 1, 1) := by decide +kernel
theorem dX8_readPlay_110 : decode cX8_readPlay 110 = .ok (.iadd, 1) := by decide +kernel
theorem dX8_readPlay_111 : decode cX8_readPlay 111 = .ok (.iastore, 1) := by decide +kernel
theorem dX8_readPlay_112 : decode cX8_readPlay 112 = .ok (.aload_n 0, 1) := by decide +kernel
theorem dX8_readPlay_113 : decode cX8_readPlay 113 = .ok (.getfield 172, 3) := by decide +kernel
theorem dX8_readPlay_116 : decode cX8_readPlay 116 = .ok (.iconst 2, 1) := by decide +kernel
theorem dX8_readPlay_117 : decode cX8_readPlay 117 = .ok (.if_icmp .eq (-77), 3) := by decide +kernel
theorem dX8_readPlay_120 : decode cX8_readPlay 120 = .ok (.aload_n 0, 1) := by decide +kernel
theorem dX8_readPlay_121 : decode cX8_readPlay 121 = .ok (.getfield 23, 3) := by decide +kernel
theorem dX8_readPlay_124 : decode cX8_readPlay 124 = .ok (.bipush 8, 2) := by decide +kernel
theorem dX8_readPlay_126 : decode cX8_readPlay 126 = .ok (.dup2, 1) := by decide +kernel
theorem dX8_readPlay_127 : decode cX8_readPlay 127 = .ok (.iaload, 1) := by decide +kernel
theorem dX8_readPlay_128 : decode cX8_readPlay 128 = .ok (.iconst 1, 1) := by decide +kernel
theorem dX8_readPlay_129 : decode cX8_readPlay 129 = .ok (.iadd, 1) := by decide +kernel
theorem dX8_readPlay_130 : decode cX8_readPlay 130 = .ok (.iastore, 1) := by decide +kernel
theorem dX8_readPlay_131 : decode cX8_readPlay 131 = .ok (.return_, 1) := by decide +kernel
theorem dX8_readLike_0 : decode cX8_readLike 0 = .ok (.aload_n 0, 1) := by decide +kernel
theorem dX8_readLike_1 : decode cX8_readLike 1 = .ok (.iconst 0, 1) := by decide +kernel
theorem dX8_readLike_2 : decode cX8_readLike 2 = .ok (.bipush 19, 2) := by decide +kernel
theorem dX8_readLike_4 : decode cX8_readLike 4 = .ok (.invokevirtual 230, 3) := by decide +kernel
theorem dX8_readLike_7 : decode cX8_readLike 7 = .ok (.istore_n 1, 1) := by decide +kernel
theorem dX8_readLike_8 : decode cX8_readLike 8 = .ok (.aload_n 0, 1) := by decide +kernel
theorem dX8_readLike_9 : decode cX8_readLike 9 = .ok (.iconst 0, 1) := by decide +kernel
theorem dX8_readLike_10 : decode cX8_readLike 10 = .ok (.bipush 19, 2) := by decide +kernel
theorem dX8_readLike_12 : decode cX8_readLike 12 = .ok (.invokevirtual 220, 3) := by decide +kernel
theorem dX8_readLike_15 : decode cX8_readLike 15 = .ok (.istore_n 2, 1) := by decide +kernel
theorem dX8_readLike_16 : decode cX8_readLike 16 = .ok (.sipush 400, 3) := by decide +kernel
theorem dX8_readLike_19 : decode cX8_readLike 19 = .ok (.bipush 20, 2) := by decide +kernel
theorem dX8_readLike_21 : decode cX8_readLike 21 = .ok (.iload_n 1, 1) := by decide +kernel
theorem dX8_readLike_22 : decode cX8_readLike 22 = .ok (.imul, 1) := by decide +kernel
theorem dX8_readLike_23 : decode cX8_readLike 23 = .ok (.iadd, 1) := by decide +kernel
theorem dX8_readLike_24 : decode cX8_readLike 24 = .ok (.iload_n 2, 1) := by decide +kernel
theorem dX8_readLike_25 : decode cX8_readLike 25 = .ok (.iadd, 1) := by decide +kernel
theorem dX8_readLike_26 : decode cX8_readLike 26 = .ok (.istore_n 3, 1) := by decide +kernel
theorem dX8_readLike_27 : decode cX8_readLike 27 = .ok (.aload_n 0, 1) := by decide +kernel
theorem dX8_readLike_28 : decode cX8_readLike 28 = .ok (.getfield 195, 3) := by decide +kernel
theorem dX8_readLike_31 : decode cX8_readLike 31 = .ok (.ifCond .ne 23, 3) := by decide +kernel
theorem dX8_readLike_34 : decode cX8_readLike 34 = .ok (.iload_n 1, 1) := by decide +kernel
theorem dX8_readLike_35 : decode cX8_readLike 35 = .ok (.iload_n 2, 1) := by decide +kernel
theorem dX8_readLike_36 : decode cX8_readLike 36 = .ok (.if_icmp .eq 13, 3) := by decide +kernel
theorem dX8_readLike_39 : decode cX8_readLike 39 = .ok (.aload_n 0, 1) := by decide +kernel
theorem dX8_readLike_40 : decode cX8_readLike 40 = .ok (.getfield 60, 3) := by decide +kernel
theorem dX8_readLike_43 : decode cX8_readLike 43 = .ok (.iload_n 3, 1) := by decide +kernel
theorem dX8_readLike_44 : decode cX8_readLike 44 = .ok (.iaload, 1) := by decide +kernel
theorem dX8_readLike_45 : decode cX8_readLike 45 = .ok (.iconst (-1), 1) := by decide +kernel
theorem dX8_readLike_46 : decode cX8_readLike 46 = .ok (.if_icmp .eq 8, 3) := by decide +kernel
theorem dX8_readLike_49 : decode cX8_readLike 49 = .ok (.aload_n 0, 1) := by decide +kernel
theorem dX8_readLike_50 : decode cX8_readLike 50 = .ok (.iconst 4, 1) := by decide +kernel
theorem dX8_readLike_51 : decode cX8_readLike 51 = .ok (.invokevirtual 216, 3) := by decide +kernel
theorem dX8_readLike_54 : decode cX8_readLike 54 = .ok (.aload_n 0, 1) := by decide +kernel
theorem dX8_readLike_55 : decode cX8_readLike 55 = .ok (.getfield 195, 3) := by decide +kernel
theorem dX8_readLike_58 : decode cX8_readLike 58 = .ok (.ifCond .eq 4, 3) := by decide +kernel
theorem dX8_readLike_61 : decode cX8_readLike 61 = .ok (.return_, 1) := by decide +kernel
theorem dX8_readLike_62 : decode cX8_readLike 62 = .ok (.aload_n 0, 1) := by decide +kernel
theorem dX8_readLike_63 : decode cX8_readLike 63 = .ok (.invokevirtual 213, 3) := by decide +kernel
theorem dX8_readLike_66 : decode cX8_readLike 66 = .ok (.aload_n 0, 1) := by decide +kernel
theorem dX8_readLike_67 : decode cX8_readLike 67 = .ok (.getfield 60, 3) := by decide +kernel
theorem dX8_readLike_70 : decode cX8_readLike 70 = .ok (.iload_n 3, 1) := by decide +kernel
theorem dX8_readLike_71 : decode cX8_readLike 71 = .ok (.aload_n 0, 1) := by decide +kernel
theorem dX8_readLike_72 : decode cX8_readLike 72 = .ok (.iconst 0, 1) := by decide +kernel
theorem dX8_readLike_73 : decode cX8_readLike 73 = .ok (.bipush 99, 2) := by decide +kernel
theorem dX8_readLike_75 : decode cX8_readLike 75 = .ok (.invokevirtual 230, 3) := by decide +kernel
theorem dX8_readLike_78 : decode cX8_readLike 78 = .ok (.iastore, 1) := by decide +kernel
theorem dX8_readLike_79 : decode cX8_readLike 79 = .ok (.return_, 1) := by decide +kernel
theorem dX8_readLine_0 : decode cX8_readLine 0 = .ok (.iload_n 1, 1) := by decide +kernel
theorem dX8_readLine_1 : decode cX8_readLine 1 = .ok (.istore_n 2, 1) := by decide +kernel
theorem dX8_readLine_2 : decode cX8_readLine 2 = .ok (.aload_n 0, 1) := by decide +kernel
theorem dX8_readLine_3 : decode cX8_readLine 3 = .ok (.ldc 240, 2) := by decide +kernel
theorem dX8_readLine_5 : decode cX8_readLine 5 = .ok (.invokevirtual 209, 3) := by decide +kernel
theorem dX8_readLine_8 : decode cX8_readLine 8 = .ok (.ifCond .eq 10, 3) := by decide +kernel
theorem dX8_readLine_11 : decode cX8_readLine 11 = .ok (.aload_n 0, 1) := by decide +kernel
theorem dX8_readLine_12 : decode cX8_readLine 12 = .ok (.invokevirtual 242, 3) := by decide +kernel
theorem dX8_readLine_15 : decode cX8_readLine 15 = .ok (.goto 172, 3) := by decide +kernel
theorem dX8_readLine_18 : decode cX8_readLine 18 = .ok (.aload_n 0, 1) := by decide +kernel
theorem dX8_readLine_19 : decode cX8_readLine 19 = .ok (.ldc 245, 2) := by decide +kernel
theorem dX8_readLine_21 : decode cX8_readLine 21 = .ok (.invokevirtual 234, 3) := by decide +kernel
theorem dX8_readLine_24 : decode cX8_readLine 24 = .ok (.ifCond .eq 10, 3) := by decide +kernel
theorem dX8_readLine_27 : decode cX8_readLine 27 = .ok (.aload_n 0, 1) := by decide +kernel
theorem dX8_readLine_28 : decode cX8_readLine 28 = .ok (.invokevirtual 246, 3) := by decide +kernel
theorem dX8_readLine_31 : decode cX8_readLine 31 = .ok (.goto 156, 3) := by decide +kernel
theorem dX8_readLine_34 : decode cX8_readLine 34 = .ok (.aload_n 0, 1) := by decide +kernel
theorem dX8_readLine_35 : decode cX8_readLine 35 = .ok (.ldc 249, 2) := by decide +kernel
theorem dX8_readLine_37 : decode cX8_readLine 37 = .ok (.invokevirtual 209, 3) := by decide +kernel
theorem dX8_readLine_40 : decode cX8_readLine 40 = .ok (.ifCond .eq 43, 3) := by decide +kernel
theorem dX8_readLine_43 : decode cX8_readLine 43 = .ok (.aload_n 0, 1) := by decide +kernel
theorem dX8_readLine_44 : decode cX8_readLine 44 = .ok (.iconst 1, 1) := by decide +kernel
theorem dX8_readLine_45 : decode cX8_readLine 45 = .ok (.iconst 5, 1) := by decide +kernel
theorem dX8_readLine_46 : decode cX8_readLine 46 = .ok (.invokevirtual 226, 3) := by decide +kernel
theorem dX8_readLine_49 : decode cX8_readLine 49 = .ok (.ifCond .eq 138, 3) := by decide +kernel
theorem dX8_readLine_52 : decode cX8_readLine 52 = .ok (.aload_n 0, 1) := by decide +kernel
theorem dX8_readLine_53 : decode cX8_readLine 53 = .ok (.getfield 42, 3) := by decide +kernel
theorem dX8_readLine_56 : decode cX8_readLine 56 = .ok (.aload_n 0, 1) := by decide +kernel
theorem dX8_readLine_57 : decode cX8_readLine 57 = .ok (.getfield 23, 3) := by decide +kernel
theorem dX8_readLine_60 : decode cX8_readLine 60 = .ok (.bipush 6, 2) := by decide +kernel
theorem dX8_readLine_62 : decode cX8_readLine 62 = .ok (.iaload, 1) := by decide +kernel
theorem dX8_readLine_63 : decode cX8_readLine 63 = .ok (.aload_n 0, 1) := by decide +kernel
theorem dX8_readLine_64 : decode cX8_readLine 64 = .ok (.iconst 0, 1) := by decide +kernel
theorem dX8_readLine_65 : decode cX8_readLine 65 = .ok (.invokevirtual 237, 3) := by decide +kernel
theorem dX8_readLine_68 : decode cX8_readLine 68 = .ok (.iastore, 1) := by decide +kernel
theorem dX8_readLine_69 : decode cX8_readLine 69 = .ok (.aload_n 0, 1) := by decide +kernel
theorem dX8_readLine_70 : decode cX8_readLine 70 = .ok (.getfield 23, 3) := by decide +kernel
theorem dX8_readLine_73 : decode cX8_readLine 73 = .ok (.bipush 6, 2) := by decide +kernel
theorem dX8_readLine_75 : decode cX8_readLine 75 = .ok (.dup2, 1) := by decide +kernel
theorem dX8_readLine_76 : decode cX8_readLine 76 = .ok (.iaload, 1) := by decide +kernel
theorem dX8_readLine_77 : decode cX8_readLine 77 = .ok (.iconst 1, 1) := by decide +kernel
theorem dX8_readLine_78 : decode cX8_readLine 78 = .ok (.iadd, 1) := by decide +kernel
theorem dX8_readLine_79 : decode cX8_readLine 79 = .ok (.iastore, 1) := by decide +kernel
theorem dX8_readLine_80 : decode cX8_readLine 80 = .ok (.goto 107, 3) := by decide +kernel
theorem dX8_readLine_83 : decode cX8_readLine 83 = .ok (.aload_n 0, 1) := by decide +kernel
theorem dX8_readLine_84 : decode cX8_readLine 84 = .ok (.ldc 251, 2) := by decide +kernel
theorem dX8_readLine_86 : decode cX8_readLine 86 = .ok (.invokevirtual 209, 3) := by decide +kernel
theorem dX8_readLine_89 : decode cX8_readLine 89 = .ok (.ifCond .eq 10, 3) := by decide +kernel
theorem dX8_readLine_92 : decode cX8_readLine 92 = .ok (.aload_n 0, 1) := by decide +kernel
theorem dX8_readLine_93 : decode cX8_readLine 93 = .ok (.invokevirtual 253, 3) := by decide +kernel
theorem dX8_readLine_96 : decode cX8_readLine 96 = .ok (.goto 91, 3) := by decide +kernel
theorem dX8_readLine_99 : decode cX8_readLine 99 = .ok (.aload_n 0, 1) := by decide +kernel
theorem dX8_readLine_100 : decode cX8_readLine 100 = .ok (.ldc_w 256, 3) := by decide +kernel
theorem dX8_readLine_103 : decode cX8_readLine 103 = .ok (.invokevirtual 209, 3) := by decide +kernel
theorem dX8_readLine_106 : decode cX8_readLine 106 = .ok (.ifCond .eq 10, 3) := by decide +kernel
theorem dX8_readLine_109 : decode cX8_readLine 109 = .ok (.aload_n 0, 1) := by decide +kernel
theorem dX8_readLine_110 : decode cX8_readLine 110 = .ok (.invokevirtual 258, 3) := by decide +kernel
theorem dX8_readLine_113 : decode cX8_readLine 113 = .ok (.goto 74, 3) := by decide +kernel
theorem dX8_readLine_116 : decode cX8_readLine 116 = .ok (.aload_n 0, 1) := by decide +kernel
theorem dX8_readLine_117 : decode cX8_readLine 117 = .ok (.ldc_w 261, 3) := by decide +kernel
theorem dX8_readLine_120 : decode cX8_readLine 120 = .ok (.invokevirtual 234, 3) := by decide +kernel
theorem dX8_readLine_123 : decode cX8_readLine 123 = .ok (.ifCond .eq 10, 3) := by decide +kernel
theorem dX8_readLine_126 : decode cX8_readLine 126 = .ok (.aload_n 0, 1) := by decide +kernel
theorem dX8_readLine_127 : decode cX8_readLine 127 = .ok (.invokevirtual 263, 3) := by decide +kernel
theorem dX8_readLine_130 : decode cX8_readLine 130 = .ok (.goto 57, 3) := by decide +kernel
theorem dX8_readLine_133 : decode cX8_readLine 133 = .ok (.aload_n 0, 1) := by decide +kernel
theorem dX8_readLine_134 : decode cX8_readLine 134 = .ok (.ldc_w 266, 3) := by decide +kernel
theorem dX8_readLine_137 : decode cX8_readLine 137 = .ok (.invokevirtual 209, 3) := by decide +kernel
theorem dX8_readLine_140 : decode cX8_readLine 140 = .ok (.ifCond .ne 11, 3) := by decide +kernel
theorem dX8_readLine_143 : decode cX8_readLine 143 = .ok (.aload_n 0, 1) := by decide +kernel
theorem dX8_readLine_144 : decode cX8_readLine 144 = .ok (.iconst 1, 1) := by decide +kernel
theorem dX8_readLine_145 : decode cX8_readLine 145 = .ok (.invokevirtual 216, 3) := by decide +kernel
theorem dX8_readLine_148 : decode cX8_readLine 148 = .ok (.goto 12, 3) := by decide +kernel
theorem dX8_readLine_151 : decode cX8_readLine 151 = .ok (.iload_n 1, 1) := by decide +kernel
theorem dX8_readLine_152 : decode cX8_readLine 152 = .ok (.ifCond .eq 8, 3) := by decide +kernel
theorem dX8_readLine_155 : decode cX8_readLine 155 = .ok (.aload_n 0, 1) := by decide +kernel
theorem dX8_readLine_156 : decode cX8_readLine 156 = .ok (.iconst 5, 1) := by decide +kernel
theorem dX8_readLine_157 : decode cX8_readLine 157 = .ok (.invokevirtual 216, 3) := by decide +kernel
theorem dX8_readLine_160 : decode cX8_readLine 160 = .ok (.aload_n 0, 1) := by decide +kernel
theorem dX8_readLine_161 : decode cX8_readLine 161 = .ok (.getfield 195, 3) := by decide +kernel
theorem dX8_readLine_164 : decode cX8_readLine 164 = .ok (.ifCond .ne 7, 3) := by decide +kernel
theorem dX8_readLine_167 : decode cX8_readLine 167 = .ok (.aload_n 0, 1) := by decide +kernel
theorem dX8_readLine_168 : decode cX8_readLine 168 = .ok (.invokevirtual 213, 3) := by decide +kernel
theorem dX8_readLine_171 : decode cX8_readLine 171 = .ok (.aload_n 0, 1) := by decide +kernel
theorem dX8_readLine_172 : decode cX8_readLine 172 = .ok (.getfield 23, 3) := by decide +kernel
theorem dX8_readLine_175 : decode cX8_readLine 175 = .ok (.bipush 9, 2) := by decide +kernel
theorem dX8_readLine_177 : decode cX8_readLine 177 = .ok (.aload_n 0, 1) := by decide +kernel
theorem dX8_readLine_178 : decode cX8_readLine 178 = .ok (.iconst 1, 1) := by decide +kernel
theorem dX8_readLine_179 : decode cX8_readLine 179 = .ok (.bipush 40, 2) := by decide +kernel
theorem dX8_readLine_181 : decode cX8_readLine 181 = .ok (.invokevirtual 230, 3) := by decide +kernel
theorem dX8_readLine_184 : decode cX8_readLine 184 = .ok (.iastore, 1) := by decide +kernel
theorem dX8_readLine_185 : decode cX8_readLine 185 = .ok (.iconst 1, 1) := by decide +kernel
theorem dX8_readLine_186 : decode cX8_readLine 186 = .ok (.istore_n 2, 1) := by decide +kernel
theorem dX8_readLine_187 : decode cX8_readLine 187 = .ok (.aload_n 0, 1) := by decide +kernel
theorem dX8_readLine_188 : decode cX8_readLine 188 = .ok (.getfield 195, 3) := by decide +kernel
theorem dX8_readLine_191 : decode cX8_readLine 191 = .ok (.ifCond .ne 16, 3) := by decide +kernel
theorem dX8_readLine_194 : decode cX8_readLine 194 = .ok (.aload_n 0, 1) := by decide +kernel
theorem dX8_readLine_195 : decode cX8_readLine 195 = .ok (.getfield 172, 3) := by decide +kernel
theorem dX8_readLine_198 : decode cX8_readLine 198 = .ok (.iconst 3, 1) := by decide +kernel
theorem dX8_readLine_199 : decode cX8_readLine 199 = .ok (.if_icmp .eq 8, 3) := by decide +kernel
theorem dX8_readLine_202 : decode cX8_readLine 202 = .ok (.aload_n 0, 1) := by decide +kernel
theorem dX8_readLine_203 : decode cX8_readLine 203 = .ok (.iconst 1, 1) := by decide +kernel
theorem dX8_readLine_204 : decode cX8_readLine 204 = .ok (.invokevirtual 216, 3) := by decide +kernel
theorem dX8_readLine_207 : decode cX8_readLine 207 = .ok (.aload_n 0, 1) := by decide +kernel
theorem dX8_readLine_208 : decode cX8_readLine 208 = .ok (.getfield 195, 3) := by decide +kernel
theorem dX8_readLine_211 : decode cX8_readLine 211 = .ok (.ifCond .ne 7, 3) := by decide +kernel
theorem dX8_readLine_214 : decode cX8_readLine 214 = .ok (.aload_n 0, 1) := by decide +kernel
theorem dX8_readLine_215 : decode cX8_readLine 215 = .ok (.invokevirtual 213, 3) := by decide +kernel
theorem dX8_readLine_218 : decode cX8_readLine 218 = .ok (.iload_n 2, 1) := by decide +kernel
theorem dX8_readLine_219 : decode cX8_readLine 219 = .ok (.ireturn, 1) := by decide +kernel
theorem dX8_told_0 : decode cX8_told 0 = .ok (.aload_n 0, 1) := by decide +kernel
theorem dX8_told_1 : decode cX8_told 1 = .ok (.iconst 0, 1) := by decide +kernel
theorem dX8_told_2 : decode cX8_told 2 = .ok (.putfield 149, 3) := by decide +kernel
theorem dX8_told_5 : decode cX8_told 5 = .ok (.iload_n 1, 1) := by decide +kernel
theorem dX8_told_6 : decode cX8_told 6 = .ok (.ifCond .lt 11, 3) := by decide +kernel
theorem dX8_told_9 : decode cX8_told 9 = .ok (.iload_n 1, 1) := by decide +kernel
theorem dX8_told_10 : decode cX8_told 10 = .ok (.aload_n 0, 1) := by decide +kernel
theorem dX8_told_11 : decode cX8_told 11 = .ok (.getfield 156, 3) := by decide +kernel
theorem dX8_told_14 : decode cX8_told 14 = .ok (.if_icmp .le 9, 3) := by decide +kernel
theorem dX8_told_17 : decode cX8_told 17 = .ok (.aload_n 0, 1) := by decide +kernel
theorem dX8_told_18 : decode cX8_told 18 = .ok (.iconst 1, 1) := by decide +kernel
theorem dX8_told_19 : decode cX8_told 19 = .ok (.invokevirtual 268, 3) := by decide +kernel
theorem dX8_told_22 : decode cX8_told 22 = .ok (.ireturn, 1) := by decide +kernel
theorem dX8_told_23 : decode cX8_told 23 = .ok (.aload_n 0, 1) := by decide +kernel
theorem dX8_told_24 : decode cX8_told 24 = .ok (.iconst 0, 1) := by decide +kernel
theorem dX8_told_25 : decode cX8_told 25 = .ok (.putfield 156, 3) := by decide +kernel
theorem dX8_told_28 : decode cX8_told 28 = .ok (.aload_n 0, 1) := by decide +kernel
theorem dX8_told_29 : decode cX8_told 29 = .ok (.iload_n 1, 1) := by decide +kernel
theorem dX8_told_30 : decode cX8_told 30 = .ok (.putfield 159, 3) := by decide +kernel
theorem dX8_told_33 : decode cX8_told 33 = .ok (.aload_n 0, 1) := by decide +kernel
theorem dX8_told_34 : decode cX8_told 34 = .ok (.iconst 0, 1) := by decide +kernel
theorem dX8_told_35 : decode cX8_told 35 = .ok (.putfield 162, 3) := by decide +kernel
theorem dX8_told_38 : decode cX8_told 38 = .ok (.aload_n 0, 1) := by decide +kernel
theorem dX8_told_39 : decode cX8_told 39 = .ok (.iconst 0, 1) := by decide +kernel
theorem dX8_told_40 : decode cX8_told 40 = .ok (.putfield 195, 3) := by decide +kernel
theorem dX8_told_43 : decode cX8_told 43 = .ok (.aload_n 0, 1) := by decide +kernel
theorem dX8_told_44 : decode cX8_told 44 = .ok (.iconst (-1), 1) := by decide +kernel
theorem dX8_told_45 : decode cX8_told 45 = .ok (.putfield 69, 3) := by decide +kernel
theorem dX8_told_48 : decode cX8_told 48 = .ok (.iconst 5, 1) := by decide +kernel
theorem dX8_told_49 : decode cX8_told 49 = .ok (.istore_n 2, 1) := by decide +kernel
theorem dX8_told_50 : decode cX8_told 50 = .ok (.iload_n 2, 1) := by decide +kernel
theorem dX8_told_51 : decode cX8_told 51 = .ok (.bipush 10, 2) := by decide +kernel
theorem dX8_told_53 : decode cX8_told 53 = .ok (.if_icmp .ge 27, 3) := by decide +kernel
theorem dX8_told_56 : decode cX8_told 56 = .ok (.aload_n 0, 1) := by decide +kernel
theorem dX8_told_57 : decode cX8_told 57 = .ok (.getfield 23, 3) := by decide +kernel
theorem dX8_told_60 : decode cX8_told 60 = .ok (.iload_n 2, 1) := by decide +kernel
theorem dX8_told_61 : decode cX8_told 61 = .ok (.iload_n 2, 1) := by decide +kernel
theorem dX8_told_62 : decode cX8_told 62 = .ok (.bipush 9, 2) := by decide +kernel
theorem dX8_told_64 : decode cX8_told 64 = .ok (.if_icmp .ne 8, 3) := by decide +kernel
theorem dX8_told_67 : decode cX8_told 67 = .ok (.bipush 11, 2) := by decide +kernel
theorem dX8_told_69 : decode cX8_told 69 = .ok (.goto 4, 3) := by decide +kernel
theorem dX8_told_72 : decode cX8_told 72 = .ok (.iconst 0, 1) := by decide +kernel
theorem dX8_told_73 : decode cX8_told 73 = .ok (.iastore, 1) := by decide +kernel
theorem dX8_told_74 : decode cX8_told 74 = .ok (.iinc 2 1, 3) := by decide +kernel
theorem dX8_told_77 : decode cX8_told 77 = .ok (.goto (-27), 3) := by decide +kernel
theorem dX8_told_80 : decode cX8_told 80 = .ok (.iconst 0, 1) := by decide +kernel
theorem dX8_told_81 : decode cX8_told 81 = .ok (.istore_n 2, 1) := by decide +kernel
theorem dX8_told_82 : decode cX8_told 82 = .ok (.iload_n 2, 1) := by decide +kernel
theorem dX8_told_83 : decode cX8_told 83 = .ok (.bipush 25, 2) := by decide +kernel
theorem dX8_told_85 : decode cX8_told 85 = .ok (.if_icmp .ge 19, 3) := by decide +kernel
theorem dX8_told_88 : decode cX8_told 88 = .ok (.aload_n 0, 1) := by decide +kernel
theorem dX8_told_89 : decode cX8_told 89 = .ok (.getfield 39, 3) := by decide +kernel
theorem dX8_told_92 : decode cX8_told 92 = .ok (.bipush 25, 2) := by decide +kernel
theorem dX8_told_94 : decode cX8_told 94 = .ok (.iload_n 2, 1) := by decide +kernel
theorem dX8_told_95 : decode cX8_told 95 = .ok (.iadd, 1) := by decide +kernel
theorem dX8_told_96 : decode cX8_told 96 = .ok (.iconst 0, 1) := by decide +kernel
theorem dX8_told_97 : decode cX8_told 97 = .ok (.iastore, 1) := by decide +kernel
theorem dX8_told_98 : decode cX8_told 98 = .ok (.iinc 2 1, 3) := by decide +kernel
theorem dX8_told_101 : decode cX8_told 101 = .ok (.goto (-19), 3) := by decide +kernel
theorem dX8_told_104 : decode cX8_told 104 = .ok (.iconst 0, 1) := by decide +kernel
theorem dX8_told_105 : decode cX8_told 105 = .ok (.istore_n 2, 1) := by decide +kernel
theorem dX8_told_106 : decode cX8_told 106 = .ok (.iload_n 2, 1) := by decide +kernel
theorem dX8_told_107 : decode cX8_told 107 = .ok (.sipush 400, 3) := by decide +kernel
theorem dX8_told_110 : decode cX8_told 110 = .ok (.if_icmp .ge 20, 3) := by decide +kernel
theorem dX8_told_113 : decode cX8_told 113 = .ok (.aload_n 0, 1) := by decide +kernel
theorem dX8_told_114 : decode cX8_told 114 = .ok (.getfield 60, 3) := by decide +kernel
theorem dX8_told_117 : decode cX8_told 117 = .ok (.sipush 400, 3) := by decide +kernel
theorem dX8_told_120 : decode cX8_told 120 = .ok (.iload_n 2, 1) := by decide +kernel
theorem dX8_told_121 : decode cX8_told 121 = .ok (.iadd, 1) := by decide +kernel
theorem dX8_told_122 : decode cX8_told 122 = .ok (.iconst (-1), 1) := by decide +kernel
theorem dX8_told_123 : decode cX8_told 123 = .ok (.iastore, 1) := by decide +kernel
theorem dX8_told_124 : decode cX8_told 124 = .ok (.iinc 2 1, 3) := by decide +kernel
theorem dX8_told_127 : decode cX8_told 127 = .ok (.goto (-21), 3) := by decide +kernel
theorem dX8_told_130 : decode cX8_told 130 = .ok (.aload_n 0, 1) := by decide +kernel
theorem dX8_told_131 : decode cX8_told 131 = .ok (.invokevirtual 213, 3) := by decide +kernel
theorem dX8_told_134 : decode cX8_told 134 = .ok (.iconst 0, 1) := by decide +kernel
theorem dX8_told_135 : decode cX8_told 135 = .ok (.istore_n 2, 1) := by decide +kernel
theorem dX8_told_136 : decode cX8_told 136 = .ok (.aload_n 0, 1) := by decide +kernel
theorem dX8_told_137 : decode cX8_told 137 = .ok (.getfield 195, 3) := by decide +kernel
theorem dX8_told_140 : decode cX8_told 140 = .ok (.ifCond .ne 19, 3) := by decide +kernel
theorem dX8_told_143 : decode cX8_told 143 = .ok (.aload_n 0, 1) := by decide +kernel
theorem dX8_told_144 : decode cX8_told 144 = .ok (.getfield 172, 3) := by decide +kernel
theorem dX8_told_147 : decode cX8_told 147 = .ok (.ifCond .eq 12, 3) := by decide +kernel
theorem dX8_told_150 : decode cX8_told 150 = .ok (.aload_n 0, 1) := by decide +kernel
theorem dX8_told_151 : decode cX8_told 151 = .ok (.iload_n 2, 1) := by decide +kernel
theorem dX8_told_152 : decode cX8_told 152 = .ok (.invokevirtual 271, 3) := by decide +kernel
theorem dX8_told_155 : decode cX8_told 155 = .ok (.istore_n 2, 1) := by decide +kernel
theorem dX8_told_156 : decode cX8_told 156 = .ok (.goto (-20), 3) := by decide +kernel
theorem dX8_told_159 : decode cX8_told 159 = .ok (.aload_n 0, 1) := by decide +kernel
theorem dX8_told_160 : decode cX8_told 160 = .ok (.getfield 195, 3) := by decide +kernel
theorem dX8_told_163 : decode cX8_told 163 = .ok (.ifCond .eq 26, 3) := by decide +kernel
theorem dX8_told_166 : decode cX8_told 166 = .ok (.aload_n 0, 1) := by decide +kernel
theorem dX8_told_167 : decode cX8_told 167 = .ok (.aload_n 0, 1) := by decide +kernel
theorem dX8_told_168 : decode cX8_told 168 = .ok (.getfield 198, 3) := by decide +kernel
theorem dX8_told_171 : decode cX8_told 171 = .ok (.putfield 69, 3) := by decide +kernel
theorem dX8_told_174 : decode cX8_told 174 = .ok (.aload_n 0, 1) := by decide +kernel
theorem dX8_told_175 : decode cX8_told 175 = .ok (.getfield 63, 3) := by decide +kernel
theorem dX8_told_178 : decode cX8_told 178 = .ok (.iconst 0, 1) := by decide +kernel
theorem dX8_told_179 : decode cX8_told 179 = .ok (.dup2, 1) := by decide +kernel
theorem dX8_told_180 : decode cX8_told 180 = .ok (.iaload, 1) := by decide +kernel
theorem dX8_told_181 : decode cX8_told 181 = .ok (.iconst 1, 1) := by decide +kernel
theorem dX8_told_182 : decode cX8_told 182 = .ok (.iadd, 1) := by decide +kernel
theorem dX8_told_183 : decode cX8_told 183 = .ok (.iastore, 1) := by decide +kernel
theorem dX8_told_184 : decode cX8_told 184 = .ok (.aload_n 0, 1) := by decide +kernel
theorem dX8_told_185 : decode cX8_told 185 = .ok (.getfield 195, 3) := by decide +kernel
theorem dX8_told_188 : decode cX8_told 188 = .ok (.ireturn, 1) := by decide +kernel
theorem dX8_told_189 : decode cX8_told 189 = .ok (.aload_n 0, 1) := by decide +kernel
theorem dX8_told_190 : decode cX8_told 190 = .ok (.invokevirtual 275, 3) := by decide +kernel
theorem dX8_told_193 : decode cX8_told 193 = .ok (.iconst 0, 1) := by decide +kernel
theorem dX8_told_194 : decode cX8_told 194 = .ok (.ireturn, 1) := by decide +kernel
theorem dX8_takeHalf_0 : decode cX8_takeHalf 0 = .ok (.iconst 0, 1) := by decide +kernel
theorem dX8_takeHalf_1 : decode cX8_takeHalf 1 = .ok (.istore_n 1, 1) := by decide +kernel
theorem dX8_takeHalf_2 : decode cX8_takeHalf 2 = .ok (.iload_n 1, 1) := by decide +kernel
theorem dX8_takeHalf_3 : decode cX8_takeHalf 3 = .ok (.aload_n 0, 1) := by decide +kernel
theorem dX8_takeHalf_4 : decode cX8_takeHalf 4 = .ok (.arraylength, 1) := by decide +kernel
theorem dX8_takeHalf_5 : decode cX8_takeHalf 5 = .ok (.iconst 2, 1) := by decide +kernel
theorem dX8_takeHalf_6 : decode cX8_takeHalf 6 = .ok (.idiv, 1) := by decide +kernel
theorem dX8_takeHalf_7 : decode cX8_takeHalf 7 = .ok (.if_icmp .ge 20, 3) := by decide +kernel
theorem dX8_takeHalf_10 : decode cX8_takeHalf 10 = .ok (.aload_n 0, 1) := by decide +kernel
theorem dX8_takeHalf_11 : decode cX8_takeHalf 11 = .ok (.iload_n 1, 1) := by decide +kernel
theorem dX8_takeHalf_12 : decode cX8_takeHalf 12 = .ok (.aload_n 0, 1) := by decide +kernel
theorem dX8_takeHalf_13 : decode cX8_takeHalf 13 = .ok (.aload_n 0, 1) := by decide +kernel
theorem dX8_takeHalf_14 : decode cX8_takeHalf 14 = .ok (.arraylength, 1) := by decide +kernel
theorem dX8_takeHalf_15 : decode cX8_takeHalf 15 = .ok (.iconst 2, 1) := by decide +kernel
theorem dX8_takeHalf_16 : decode cX8_takeHalf 16 = .ok (.idiv, 1) := by decide +kernel
theorem dX8_takeHalf_17 : decode cX8_takeHalf 17 = .ok (.iload_n 1, 1) := by decide +kernel
theorem dX8_takeHalf_18 : decode cX8_takeHalf 18 = .ok (.iadd, 1) := by decide +kernel
theorem dX8_takeHalf_19 : decode cX8_takeHalf 19 = .ok (.iaload, 1) := by decide +kernel
theorem dX8_takeHalf_20 : decode cX8_takeHalf 20 = .ok (.iastore, 1) := by decide +kernel
theorem dX8_takeHalf_21 : decode cX8_takeHalf 21 = .ok (.iinc 1 1, 3) := by decide +kernel
theorem dX8_takeHalf_24 : decode cX8_takeHalf 24 = .ok (.goto (-22), 3) := by decide +kernel
theorem dX8_takeHalf_27 : decode cX8_takeHalf 27 = .ok (.return_, 1) := by decide +kernel
theorem dX8_take_0 : decode cX8_take 0 = .ok (.aload_n 0, 1) := by decide +kernel
theorem dX8_take_1 : decode cX8_take 1 = .ok (.getfield 23, 3) := by decide +kernel
theorem dX8_take_4 : decode cX8_take 4 = .ok (.invokestatic 278, 3) := by decide +kernel
theorem dX8_take_7 : decode cX8_take 7 = .ok (.aload_n 0, 1) := by decide +kernel
theorem dX8_take_8 : decode cX8_take 8 = .ok (.getfield 27, 3) := by decide +kernel
theorem dX8_take_11 : decode cX8_take 11 = .ok (.invokestatic 278, 3) := by decide +kernel
theorem dX8_take_14 : decode cX8_take 14 = .ok (.aload_n 0, 1) := by decide +kernel
theorem dX8_take_15 : decode cX8_take 15 = .ok (.getfield 30, 3) := by decide +kernel
theorem dX8_take_18 : decode cX8_take 18 = .ok (.invokestatic 278, 3) := by decide +kernel
theorem dX8_take_21 : decode cX8_take 21 = .ok (.aload_n 0, 1) := by decide +kernel
theorem dX8_take_22 : decode cX8_take 22 = .ok (.getfield 33, 3) := by decide +kernel
theorem dX8_take_25 : decode cX8_take 25 = .ok (.invokestatic 278, 3) := by decide +kernel
theorem dX8_take_28 : decode cX8_take 28 = .ok (.aload_n 0, 1) := by decide +kernel
theorem dX8_take_29 : decode cX8_take 29 = .ok (.getfield 36, 3) := by decide +kernel
theorem dX8_take_32 : decode cX8_take 32 = .ok (.invokestatic 278, 3) := by decide +kernel
theorem dX8_take_35 : decode cX8_take 35 = .ok (.aload_n 0, 1) := by decide +kernel
theorem dX8_take_36 : decode cX8_take 36 = .ok (.getfield 39, 3) := by decide +kernel
theorem dX8_take_39 : decode cX8_take 39 = .ok (.invokestatic 278, 3) := by decide +kernel
theorem dX8_take_42 : decode cX8_take 42 = .ok (.aload_n 0, 1) := by decide +kernel
theorem dX8_take_43 : decode cX8_take 43 = .ok (.getfield 45, 3) := by decide +kernel
theorem dX8_take_46 : decode cX8_take 46 = .ok (.invokestatic 278, 3) := by decide +kernel
theorem dX8_take_49 : decode cX8_take 49 = .ok (.aload_n 0, 1) := by decide +kernel
theorem dX8_take_50 : decode cX8_take 50 = .ok (.getfield 48, 3) := by decide +kernel
theorem dX8_take_53 : decode cX8_take 53 = .ok (.invokestatic 278, 3) := by decide +kernel
theorem dX8_take_56 : decode cX8_take 56 = .ok (.aload_n 0, 1) := by decide +kernel
theorem dX8_take_57 : decode cX8_take 57 = .ok (.getfield 51, 3) := by decide +kernel
theorem dX8_take_60 : decode cX8_take 60 = .ok (.invokestatic 278, 3) := by decide +kernel
theorem dX8_take_63 : decode cX8_take 63 = .ok (.aload_n 0, 1) := by decide +kernel
theorem dX8_take_64 : decode cX8_take 64 = .ok (.getfield 54, 3) := by decide +kernel
theorem dX8_take_67 : decode cX8_take 67 = .ok (.invokestatic 278, 3) := by decide +kernel
theorem dX8_take_70 : decode cX8_take 70 = .ok (.aload_n 0, 1) := by decide +kernel
theorem dX8_take_71 : decode cX8_take 71 = .ok (.getfield 57, 3) := by decide +kernel
theorem dX8_take_74 : decode cX8_take 74 = .ok (.invokestatic 278, 3) := by decide +kernel
theorem dX8_take_77 : decode cX8_take 77 = .ok (.aload_n 0, 1) := by decide +kernel
theorem dX8_take_78 : decode cX8_take 78 = .ok (.getfield 60, 3) := by decide +kernel
theorem dX8_take_81 : decode cX8_take 81 = .ok (.invokestatic 278, 3) := by decide +kernel
theorem dX8_take_84 : decode cX8_take 84 = .ok (.iconst 0, 1) := by decide +kernel
theorem dX8_take_85 : decode cX8_take 85 = .ok (.istore_n 1, 1) := by decide +kernel
theorem dX8_take_86 : decode cX8_take 86 = .ok (.iload_n 1, 1) := by decide +kernel
theorem dX8_take_87 : decode cX8_take 87 = .ok (.iconst 5, 1) := by decide +kernel
theorem dX8_take_88 : decode cX8_take 88 = .ok (.if_icmp .ge 42, 3) := by decide +kernel
theorem dX8_take_91 : decode cX8_take 91 = .ok (.aload_n 0, 1) := by decide +kernel
theorem dX8_take_92 : decode cX8_take 92 = .ok (.getfield 73, 3) := by decide +kernel
theorem dX8_take_95 : decode cX8_take 95 = .ok (.iload_n 1, 1) := by decide +kernel
theorem dX8_take_96 : decode cX8_take 96 = .ok (.iload_n 1, 1) := by decide +kernel
theorem dX8_take_97 : decode cX8_take 97 = .ok (.aload_n 0, 1) := by decide +kernel
theorem dX8_take_98 : decode cX8_take 98 = .ok (.getfield 23, 3) := by decide +kernel
theorem dX8_take_101 : decode cX8_take 101 = .ok (.iconst 1, 1) := by decide +kernel
theorem dX8_take_102 : decode cX8_take 102 = .ok (.iaload, 1) := by decide +kernel
theorem dX8_take_103 : decode cX8_take 103 = .ok (.if_icmp .ge 12, 3) := by decide +kernel
theorem dX8_take_106 : decode cX8_take 106 = .ok (.aload_n 0, 1) := by decide +kernel
theorem dX8_take_107 : decode cX8_take 107 = .ok (.getfield 42, 3) := by decide +kernel
theorem dX8_take_110 : decode cX8_take 110 = .ok (.iload_n 1, 1) := by decide +kernel
theorem dX8_take_111 : decode cX8_take 111 = .ok (.iaload, 1) := by decide +kernel
theorem dX8_take_112 : decode cX8_take 112 = .ok (.goto 4, 3) := by decide +kernel
theorem dX8_take_115 : decode cX8_take 115 = .ok (.iconst 0, 1) := by decide +kernel
theorem dX8_take_116 : decode cX8_take 116 = .ok (.iastore, 1) := by decide +kernel
theorem dX8_take_117 : decode cX8_take 117 = .ok (.aload_n 0, 1) := by decide +kernel
theorem dX8_take_118 : decode cX8_take 118 = .ok (.getfield 76, 3) := by decide +kernel
theorem dX8_take_121 : decode cX8_take 121 = .ok (.iload_n 1, 1) := by decide +kernel
theorem dX8_take_122 : decode cX8_take 122 = .ok (.iconst 0, 1) := by decide +kernel
theorem dX8_take_123 : decode cX8_take 123 = .ok (.iastore, 1) := by decide +kernel
theorem dX8_take_124 : decode cX8_take 124 = .ok (.iinc 1 1, 3) := by decide +kernel
theorem dX8_take_127 : decode cX8_take 127 = .ok (.goto (-41), 3) := by decide +kernel
theorem dX8_take_130 : decode cX8_take 130 = .ok (.aload_n 0, 1) := by decide +kernel
theorem dX8_take_131 : decode cX8_take 131 = .ok (.iconst 0, 1) := by decide +kernel
theorem dX8_take_132 : decode cX8_take 132 = .ok (.putfield 282, 3) := by decide +kernel
theorem dX8_take_135 : decode cX8_take 135 = .ok (.aload_n 0, 1) := by decide +kernel
theorem dX8_take_136 : decode cX8_take 136 = .ok (.iconst 0, 1) := by decide +kernel
theorem dX8_take_137 : decode cX8_take 137 = .ok (.putfield 285, 3) := by decide +kernel
theorem dX8_take_140 : decode cX8_take 140 = .ok (.aload_n 0, 1) := by decide +kernel
theorem dX8_take_141 : decode cX8_take 141 = .ok (.iconst 0, 1) := by decide +kernel
theorem dX8_take_142 : decode cX8_take 142 = .ok (.putfield 289, 3) := by decide +kernel
theorem dX8_take_145 : decode cX8_take 145 = .ok (.aload_n 0, 1) := by decide +kernel
theorem dX8_take_146 : decode cX8_take 146 = .ok (.iconst 0, 1) := by decide +kernel
theorem dX8_take_147 : decode cX8_take 147 = .ok (.putfield 292, 3) := by decide +kernel
theorem dX8_take_150 : decode cX8_take 150 = .ok (.aload_n 0, 1) := by decide +kernel
theorem dX8_take_151 : decode cX8_take 151 = .ok (.iconst 0, 1) := by decide +kernel
theorem dX8_take_152 : decode cX8_take 152 = .ok (.putfield 295, 3) := by decide +kernel
theorem dX8_take_155 : decode cX8_take 155 = .ok (.aload_n 0, 1) := by decide +kernel
theorem dX8_take_156 : decode cX8_take 156 = .ok (.iconst 0, 1) := by decide +kernel
theorem dX8_take_157 : decode cX8_take 157 = .ok (.putfield 298, 3) := by decide +kernel
theorem dX8_take_160 : decode cX8_take 160 = .ok (.aload_n 0, 1) := by decide +kernel
theorem dX8_take_161 : decode cX8_take 161 = .ok (.invokevirtual 301, 3) := by decide +kernel
theorem dX8_take_164 : decode cX8_take 164 = .ok (.return_, 1) := by decide +kernel
theorem dX8_fault_0 : decode cX8_fault 0 = .ok (.aload_n 0, 1) := by decide +kernel
theorem dX8_fault_1 : decode cX8_fault 1 = .ok (.iconst 0, 1) := by decide +kernel
theorem dX8_fault_2 : decode cX8_fault 2 = .ok (.putfield 149, 3) := by decide +kernel
theorem dX8_fault_5 : decode cX8_fault 5 = .ok (.aload_n 0, 1) := by decide +kernel
theorem dX8_fault_6 : decode cX8_fault 6 = .ok (.getfield 69, 3) := by decide +kernel
theorem dX8_fault_9 : decode cX8_fault 9 = .ok (.ireturn, 1) := by decide +kernel
theorem dX8_count_0 : decode cX8_count 0 = .ok (.aload_n 0, 1) := by decide +kernel
theorem dX8_count_1 : decode cX8_count 1 = .ok (.iconst 0, 1) := by decide +kernel
theorem dX8_count_2 : decode cX8_count 2 = .ok (.putfield 149, 3) := by decide +kernel
theorem dX8_count_5 : decode cX8_count 5 = .ok (.iload_n 1, 1) := by decide +kernel
theorem dX8_count_6 : decode cX8_count 6 = .ok (.iconst 0, 1) := by decide +kernel
theorem dX8_count_7 : decode cX8_count 7 = .ok (.iconst 4, 1) := by decide +kernel
theorem dX8_count_8 : decode cX8_count 8 = .ok (.invokestatic 152, 3) := by decide +kernel
theorem dX8_count_11 : decode cX8_count 11 = .ok (.ifCond .eq 10, 3) := by decide +kernel
theorem dX8_count_14 : decode cX8_count 14 = .ok (.aload_n 0, 1) := by decide +kernel
theorem dX8_count_15 : decode cX8_count 15 = .ok (.getfield 23, 3) := by decide +kernel
theorem dX8_count_18 : decode cX8_count 18 = .ok (.iload_n 1, 1) := by decide +kernel
theorem dX8_count_19 : decode cX8_count 19 = .ok (.iaload, 1) := by decide +kernel
theorem dX8_count_20 : decode cX8_count 20 = .ok (.ireturn, 1) := by decide +kernel
theorem dX8_count_21 : decode cX8_count 21 = .ok (.iload_n 1, 1) := by decide +kernel
theorem dX8_count_22 : decode cX8_count 22 = .ok (.tableswitch 89 5 12 #[46, 51, 56, 61, 74, 79, 79, 79], 46) := by decide +kernel
theorem dX8_count_68 : decode cX8_count 68 = .ok (.aload_n 0, 1) := by decide +kernel
theorem dX8_count_69 : decode cX8_count 69 = .ok (.getfield 282, 3) := by decide +kernel
theorem dX8_count_72 : decode cX8_count 72 = .ok (.ireturn, 1) := by decide +kernel
theorem dX8_count_73 : decode cX8_count 73 = .ok (.aload_n 0, 1) := by decide +kernel
theorem dX8_count_74 : decode cX8_count 74 = .ok (.getfield 292, 3) := by decide +kernel
theorem dX8_count_77 : decode cX8_count 77 = .ok (.ireturn, 1) := by decide +kernel
theorem dX8_count_78 : decode cX8_count 78 = .ok (.aload_n 0, 1) := by decide +kernel
theorem dX8_count_79 : decode cX8_count 79 = .ok (.getfield 289, 3) := by decide +kernel
theorem dX8_count_82 : decode cX8_count 82 = .ok (.ireturn, 1) := by decide +kernel
theorem dX8_count_83 : decode cX8_count 83 = .ok (.aload_n 0, 1) := by decide +kernel
theorem dX8_count_84 : decode cX8_count 84 = .ok (.getfield 285, 3) := by decide +kernel
theorem dX8_count_87 : decode cX8_count 87 = .ok (.ifCond .eq 7, 3) := by decide +kernel
theorem dX8_count_90 : decode cX8_count 90 = .ok (.iconst 1, 1) := by decide +kernel
theorem dX8_count_91 : decode cX8_count 91 = .ok (.goto 4, 3) := by decide +kernel
theorem dX8_count_94 : decode cX8_count 94 = .ok (.iconst 0, 1) := by decide +kernel
theorem dX8_count_95 : decode cX8_count 95 = .ok (.ireturn, 1) := by decide +kernel
theorem dX8_count_96 : decode cX8_count 96 = .ok (.aload_n 0, 1) := by decide +kernel
theorem dX8_count_97 : decode cX8_count 97 = .ok (.getfield 156, 3) := by decide +kernel
theorem dX8_count_100 : decode cX8_count 100 = .ok (.ireturn, 1) := by decide +kernel
theorem dX8_count_101 : decode cX8_count 101 = .ok (.aload_n 0, 1) := by decide +kernel
theorem dX8_count_102 : decode cX8_count 102 = .ok (.getfield 63, 3) := by decide +kernel
theorem dX8_count_105 : decode cX8_count 105 = .ok (.iload_n 1, 1) := by decide +kernel
theorem dX8_count_106 : decode cX8_count 106 = .ok (.bipush 10, 2) := by decide +kernel
theorem dX8_count_108 : decode cX8_count 108 = .ok (.isub, 1) := by decide +kernel
theorem dX8_count_109 : decode cX8_count 109 = .ok (.iaload, 1) := by decide +kernel
theorem dX8_count_110 : decode cX8_count 110 = .ok (.ireturn, 1) := by decide +kernel
theorem dX8_count_111 : decode cX8_count 111 = .ok (.aload_n 0, 1) := by decide +kernel
theorem dX8_count_112 : decode cX8_count 112 = .ok (.iconst 1, 1) := by decide +kernel
theorem dX8_count_113 : decode cX8_count 113 = .ok (.invokevirtual 268, 3) := by decide +kernel
theorem dX8_count_116 : decode cX8_count 116 = .ok (.ireturn, 1) := by decide +kernel
theorem dX8_trunksAt_0 : decode cX8_trunksAt 0 = .ok (.iconst 0, 1) := by decide +kernel
theorem dX8_trunksAt_1 : decode cX8_trunksAt 1 = .ok (.istore_n 2, 1) := by decide +kernel
theorem dX8_trunksAt_2 : decode cX8_trunksAt 2 = .ok (.iconst 0, 1) := by decide +kernel
theorem dX8_trunksAt_3 : decode cX8_trunksAt 3 = .ok (.istore_n 3, 1) := by decide +kernel
theorem dX8_trunksAt_4 : decode cX8_trunksAt 4 = .ok (.iload_n 3, 1) := by decide +kernel
theorem dX8_trunksAt_5 : decode cX8_trunksAt 5 = .ok (.aload_n 0, 1) := by decide +kernel
theorem dX8_trunksAt_6 : decode cX8_trunksAt 6 = .ok (.getfield 23, 3) := by decide +kernel
theorem dX8_trunksAt_9 : decode cX8_trunksAt 9 = .ok (.iconst 1, 1) := by decide +kernel
theorem dX8_trunksAt_10 : decode cX8_trunksAt 10 = .ok (.iaload, 1) := by decide +kernel
theorem dX8_trunksAt_11 : decode cX8_trunksAt 11 = .ok (.if_icmp .ge 42, 3) := by decide +kernel
theorem dX8_trunksAt_14 : decode cX8_trunksAt 14 = .ok (.iload_n 2, 1) := by decide +kernel
theorem dX8_trunksAt_15 : decode cX8_trunksAt 15 = .ok (.aload_n 0, 1) := by decide +kernel
theorem dX8_trunksAt_16 : decode cX8_trunksAt 16 = .ok (.getfield 73, 3) := by decide +kernel
theorem dX8_trunksAt_19 : decode cX8_trunksAt 19 = .ok (.iload_n 3, 1) := by decide +kernel
theorem dX8_trunksAt_20 : decode cX8_trunksAt 20 = .ok (.iaload, 1) := by decide +kernel
theorem dX8_trunksAt_21 : decode cX8_trunksAt 21 = .ok (.iload_n 1, 1) := by decide +kernel
theorem dX8_trunksAt_22 : decode cX8_trunksAt 22 = .ok (.if_icmp .ne 22, 3) := by decide +kernel
theorem dX8_trunksAt_25 : decode cX8_trunksAt 25 = .ok (.aload_n 0, 1) := by decide +kernel
theorem dX8_trunksAt_26 : decode cX8_trunksAt 26 = .ok (.getfield 76, 3) := by decide +kernel
theorem dX8_trunksAt_29 : decode cX8_trunksAt 29 = .ok (.iload_n 3, 1) := by decide +kernel
theorem dX8_trunksAt_30 : decode cX8_trunksAt 30 = .ok (.iaload, 1) := by decide +kernel
theorem dX8_trunksAt_31 : decode cX8_trunksAt 31 = .ok (.aload_n 0, 1) := by decide +kernel
theorem dX8_trunksAt_32 : decode cX8_trunksAt 32 = .ok (.getfield 282, 3) := by decide +kernel
theorem dX8_trunksAt_35 : decode cX8_trunksAt 35 = .ok (.if_icmp .gt 9, 3) := by decide +kernel
theorem dX8_trunksAt_38 : decode cX8_trunksAt 38 = .ok (.iconst 1, 1) := by decide +kernel
theorem dX8_trunksAt_39 : decode cX8_trunksAt 39 = .ok (.iload_n 3, 1) := by decide +kernel
theorem dX8_trunksAt_40 : decode cX8_trunksAt 40 = .ok (.ishl, 1) := by decide +kernel
theorem dX8_trunksAt_41 : decode cX8_trunksAt 41 = .ok (.goto 4, 3) := by decide +kernel
theorem dX8_trunksAt_44 : decode cX8_trunksAt 44 = .ok (.iconst 0, 1) := by decide +kernel
theorem dX8_trunksAt_45 : decode cX8_trunksAt 45 = .ok (.ior, 1) := by decide +kernel
theorem dX8_trunksAt_46 : decode cX8_trunksAt 46 = .ok (.istore_n 2, 1) := by decide +kernel
theorem dX8_trunksAt_47 : decode cX8_trunksAt 47 = .ok (.iinc 3 1, 3) := by decide +kernel
theorem dX8_trunksAt_50 : decode cX8_trunksAt 50 = .ok (.goto (-46), 3) := by decide +kernel
theorem dX8_trunksAt_53 : decode cX8_trunksAt 53 = .ok (.iload_n 2, 1) := by decide +kernel
theorem dX8_trunksAt_54 : decode cX8_trunksAt 54 = .ok (.ireturn, 1) := by decide +kernel
theorem dX8_thingsOf_0 : decode cX8_thingsOf 0 = .ok (.iconst 0, 1) := by decide +kernel
theorem dX8_thingsOf_1 : decode cX8_thingsOf 1 = .ok (.istore_n 2, 1) := by decide +kernel
theorem dX8_thingsOf_2 : decode cX8_thingsOf 2 = .ok (.iconst 0, 1) := by decide +kernel
theorem dX8_thingsOf_3 : decode cX8_thingsOf 3 = .ok (.istore_n 3, 1) := by decide +kernel
theorem dX8_thingsOf_4 : decode cX8_thingsOf 4 = .ok (.iload_n 3, 1) := by decide +kernel
theorem dX8_thingsOf_5 : decode cX8_thingsOf 5 = .ok (.aload_n 0, 1) := by decide +kernel
theorem dX8_thingsOf_6 : decode cX8_thingsOf 6 = .ok (.getfield 23, 3) := by decide +kernel
theorem dX8_thingsOf_9 : decode cX8_thingsOf 9 = .ok (.iconst 2, 1) := by decide +kernel
theorem dX8_thingsOf_10 : decode cX8_thingsOf 10 = .ok (.iaload, 1) := by decide +kernel
theorem dX8_thingsOf_11 : decode cX8_thingsOf 11 = .ok (.if_icmp .ge 33, 3) := by decide +kernel
theorem dX8_thingsOf_14 : decode cX8_thingsOf 14 = .ok (.iload_n 2, 1) := by decide +kernel
theorem dX8_thingsOf_15 : decode cX8_thingsOf 15 = .ok (.iload_n 1, 1) := by decide +kernel
theorem dX8_thingsOf_16 : decode cX8_thingsOf 16 = .ok (.aload_n 0, 1) := by decide +kernel
theorem dX8_thingsOf_17 : decode cX8_thingsOf 17 = .ok (.getfield 48, 3) := by decide +kernel
theorem dX8_thingsOf_20 : decode cX8_thingsOf 20 = .ok (.iload_n 3, 1) := by decide +kernel
theorem dX8_thingsOf_21 : decode cX8_thingsOf 21 = .ok (.iaload, 1) := by decide +kernel
theorem dX8_thingsOf_22 : decode cX8_thingsOf 22 = .ok (.ishr, 1) := by decide +kernel
theorem dX8_thingsOf_23 : decode cX8_thingsOf 23 = .ok (.iconst 1, 1) := by decide +kernel
theorem dX8_thingsOf_24 : decode cX8_thingsOf 24 = .ok (.iand, 1) := by decide +kernel
theorem dX8_thingsOf_25 : decode cX8_thingsOf 25 = .ok (.iconst 1, 1) := by decide +kernel
theorem dX8_thingsOf_26 : decode cX8_thingsOf 26 = .ok (.if_icmp .ne 9, 3) := by decide +kernel
theorem dX8_thingsOf_29 : decode cX8_thingsOf 29 = .ok (.iconst 1, 1) := by decide +kernel
theorem dX8_thingsOf_30 : decode cX8_thingsOf 30 = .ok (.iload_n 3, 1) := by decide +kernel
theorem dX8_thingsOf_31 : decode cX8_thingsOf 31 = .ok (.ishl, 1) := by decide +kernel
theorem dX8_thingsOf_32 : decode cX8_thingsOf 32 = .ok (.goto 4, 3) := by decide +kernel
theorem dX8_thingsOf_35 : decode cX8_thingsOf 35 = .ok (.iconst 0, 1) := by decide +kernel
theorem dX8_thingsOf_36 : decode cX8_thingsOf 36 = .ok (.ior, 1) := by decide +kernel
theorem dX8_thingsOf_37 : decode cX8_thingsOf 37 = .ok (.istore_n 2, 1) := by decide +kernel
theorem dX8_thingsOf_38 : decode cX8_thingsOf 38 = .ok (.iinc 3 1, 3) := by decide +kernel
theorem dX8_thingsOf_41 : decode cX8_thingsOf 41 = .ok (.goto (-37), 3) := by decide +kernel
theorem dX8_thingsOf_44 : decode cX8_thingsOf 44 = .ok (.iload_n 2, 1) := by decide +kernel
theorem dX8_thingsOf_45 : decode cX8_thingsOf 45 = .ok (.ireturn, 1) := by decide +kernel
theorem dX8_town_0 : decode cX8_town 0 = .ok (.aload_n 0, 1) := by decide +kernel
theorem dX8_town_1 : decode cX8_town 1 = .ok (.iconst 0, 1) := by decide +kernel
theorem dX8_town_2 : decode cX8_town 2 = .ok (.putfield 149, 3) := by decide +kernel
theorem dX8_town_5 : decode cX8_town 5 = .ok (.aload_n 0, 1) := by decide +kernel
theorem dX8_town_6 : decode cX8_town 6 = .ok (.iload_n 1, 1) := by decide +kernel
theorem dX8_town_7 : decode cX8_town 7 = .ok (.invokevirtual 304, 3) := by decide +kernel
theorem dX8_town_10 : decode cX8_town 10 = .ok (.ifCond .ne 9, 3) := by decide +kernel
theorem dX8_town_13 : decode cX8_town 13 = .ok (.aload_n 0, 1) := by decide +kernel
theorem dX8_town_14 : decode cX8_town 14 = .ok (.iconst 1, 1) := by decide +kernel
theorem dX8_town_15 : decode cX8_town 15 = .ok (.invokevirtual 268, 3) := by decide +kernel
theorem dX8_town_18 : decode cX8_town 18 = .ok (.ireturn, 1) := by decide +kernel
theorem dX8_town_19 : decode cX8_town 19 = .ok (.iload_n 2, 1) := by decide +kernel
theorem dX8_town_20 : decode cX8_town 20 = .ok (.tableswitch 84 0 5 #[40, 47, 54, 61, 68, 74], 40) := by decide +kernel
theorem dX8_town_60 : decode cX8_town 60 = .ok (.aload_n 0, 1) := by decide +kernel
theorem dX8_town_61 : decode cX8_town 61 = .ok (.getfield 27, 3) := by decide +kernel
theorem dX8_town_64 : decode cX8_town 64 = .ok (.iload_n 1, 1) := by decide +kernel
theorem dX8_town_65 : decode cX8_town 65 = .ok (.iaload, 1) := by decide +kernel
theorem dX8_town_66 : decode cX8_town 66 = .ok (.ireturn, 1) := by decide +kernel
theorem dX8_town_67 : decode cX8_town 67 = .ok (.aload_n 0, 1) := by decide +kernel
theorem dX8_town_68 : decode cX8_town 68 = .ok (.getfield 30, 3) := by decide +kernel
theorem dX8_town_71 : decode cX8_town 71 = .ok (.iload_n 1, 1) := by decide +kernel
theorem dX8_town_72 : decode cX8_town 72 = .ok (.iaload, 1) := by decide +kernel
theorem dX8_town_73 : decode cX8_town 73 = .ok (.ireturn, 1) := by decide +kernel
theorem dX8_town_74 : decode cX8_town 74 = .ok (.aload_n 0, 1) := by decide +kernel
theorem dX8_town_75 : decode cX8_town 75 = .ok (.getfield 33, 3) := by decide +kernel
theorem dX8_town_78 : decode cX8_town 78 = .ok (.iload_n 1, 1) := by decide +kernel
theorem dX8_town_79 : decode cX8_town 79 = .ok (.iaload, 1) := by decide +kernel
theorem dX8_town_80 : decode cX8_town 80 = .ok (.ireturn, 1) := by decide +kernel
theorem dX8_town_81 : decode cX8_town 81 = .ok (.aload_n 0, 1) := by decide +kernel
theorem dX8_town_82 : decode cX8_town 82 = .ok (.getfield 36, 3) := by decide +kernel
theorem dX8_town_85 : decode cX8_town 85 = .ok (.iload_n 1, 1) := by decide +kernel
theorem dX8_town_86 : decode cX8_town 86 = .ok (.iaload, 1) := by decide +kernel
theorem dX8_town_87 : decode cX8_town 87 = .ok (.ireturn, 1) := by decide +kernel
theorem dX8_town_88 : decode cX8_town 88 = .ok (.aload_n 0, 1) := by decide +kernel
theorem dX8_town_89 : decode cX8_town 89 = .ok (.iload_n 1, 1) := by decide +kernel
theorem dX8_town_90 : decode cX8_town 90 = .ok (.invokevirtual 307, 3) := by decide +kernel
theorem dX8_town_93 : decode cX8_town 93 = .ok (.ireturn, 1) := by decide +kernel
theorem dX8_town_94 : decode cX8_town 94 = .ok (.aload_n 0, 1) := by decide +kernel
theorem dX8_town_95 : decode cX8_town 95 = .ok (.aload_n 0, 1) := by decide +kernel
theorem dX8_town_96 : decode cX8_town 96 = .ok (.iload_n 1, 1) := by decide +kernel
theorem dX8_town_97 : decode cX8_town 97 = .ok (.invokevirtual 307, 3) := by decide +kernel
theorem dX8_town_100 : decode cX8_town 100 = .ok (.invokevirtual 310, 3) := by decide +kernel
theorem dX8_town_103 : decode cX8_town 103 = .ok (.ireturn, 1) := by decide +kernel
theorem dX8_town_104 : decode cX8_town 104 = .ok (.aload_n 0, 1) := by decide +kernel
theorem dX8_town_105 : decode cX8_town 105 = .ok (.iconst 1, 1) := by decide +kernel
theorem dX8_town_106 : decode cX8_town 106 = .ok (.invokevirtual 268, 3) := by decide +kernel
theorem dX8_town_109 : decode cX8_town 109 = .ok (.ireturn, 1) := by decide +kernel
theorem dX8_trunk_0 : decode cX8_trunk 0 = .ok (.aload_n 0, 1) := by decide +kernel
theorem dX8_trunk_1 : decode cX8_trunk 1 = .ok (.iconst 0, 1) := by decide +kernel
theorem dX8_trunk_2 : decode cX8_trunk 2 = .ok (.putfield 149, 3) := by decide +kernel
theorem dX8_trunk_5 : decode cX8_trunk 5 = .ok (.aload_n 0, 1) := by decide +kernel
theorem dX8_trunk_6 : decode cX8_trunk 6 = .ok (.iload_n 1, 1) := by decide +kernel
theorem dX8_trunk_7 : decode cX8_trunk 7 = .ok (.invokevirtual 313, 3) := by decide +kernel
theorem dX8_trunk_10 : decode cX8_trunk 10 = .ok (.ifCond .ne 9, 3) := by decide +kernel
theorem dX8_trunk_13 : decode cX8_trunk 13 = .ok (.aload_n 0, 1) := by decide +kernel
theorem dX8_trunk_14 : decode cX8_trunk 14 = .ok (.iconst 1, 1) := by decide +kernel
theorem dX8_trunk_15 : decode cX8_trunk 15 = .ok (.invokevirtual 268, 3) := by decide +kernel
theorem dX8_trunk_18 : decode cX8_trunk 18 = .ok (.ireturn, 1) := by decide +kernel
theorem dX8_trunk_19 : decode cX8_trunk 19 = .ok (.iload_n 2, 1) := by decide +kernel
theorem dX8_trunk_20 : decode cX8_trunk 20 = .ok (.tableswitch 78 0 3 #[32, 56, 63, 70], 32) := by decide +kernel
theorem dX8_trunk_52 : decode cX8_trunk 52 = .ok (.aload_n 0, 1) := by decide +kernel
theorem dX8_trunk_53 : decode cX8_trunk 53 = .ok (.getfield 76, 3) := by decide +kernel
theorem dX8_trunk_56 : decode cX8_trunk 56 = .ok (.iload_n 1, 1) := by decide +kernel
theorem dX8_trunk_57 : decode cX8_trunk 57 = .ok (.iaload, 1) := by decide +kernel
theorem dX8_trunk_58 : decode cX8_trunk 58 = .ok (.aload_n 0, 1) := by decide +kernel
theorem dX8_trunk_59 : decode cX8_trunk 59 = .ok (.getfield 282, 3) := by decide +kernel
theorem dX8_trunk_62 : decode cX8_trunk 62 = .ok (.if_icmp .gt 12, 3) := by decide +kernel
theorem dX8_trunk_65 : decode cX8_trunk 65 = .ok (.aload_n 0, 1) := by decide +kernel
theorem dX8_trunk_66 : decode cX8_trunk 66 = .ok (.getfield 73, 3) := by decide +kernel
theorem dX8_trunk_69 : decode cX8_trunk 69 = .ok (.iload_n 1, 1) := by decide +kernel
theorem dX8_trunk_70 : decode cX8_trunk 70 = .ok (.iaload, 1) := by decide +kernel
theorem dX8_trunk_71 : decode cX8_trunk 71 = .ok (.goto 4, 3) := by decide +kernel
theorem dX8_trunk_74 : decode cX8_trunk 74 = .ok (.iconst (-1), 1) := by decide +kernel
theorem dX8_trunk_75 : decode cX8_trunk 75 = .ok (.ireturn, 1) := by decide +kernel
theorem dX8_trunk_76 : decode cX8_trunk 76 = .ok (.aload_n 0, 1) := by decide +kernel
theorem dX8_trunk_77 : decode cX8_trunk 77 = .ok (.getfield 73, 3) := by decide +kernel
theorem dX8_trunk_80 : decode cX8_trunk 80 = .ok (.iload_n 1, 1) := by decide +kernel
theorem dX8_trunk_81 : decode cX8_trunk 81 = .ok (.iaload, 1) := by decide +kernel
theorem dX8_trunk_82 : decode cX8_trunk 82 = .ok (.ireturn, 1) := by decide +kernel
theorem dX8_trunk_83 : decode cX8_trunk 83 = .ok (.aload_n 0, 1) := by decide +kernel
theorem dX8_trunk_84 : decode cX8_trunk 84 = .ok (.getfield 76, 3) := by decide +kernel
theorem dX8_trunk_87 : decode cX8_trunk 87 = .ok (.iload_n 1, 1) := by decide +kernel
theorem dX8_trunk_88 : decode cX8_trunk 88 = .ok (.iaload, 1) := by decide +kernel
theorem dX8_trunk_89 : decode cX8_trunk 89 = .ok (.ireturn, 1) := by decide +kernel
theorem dX8_trunk_90 : decode cX8_trunk 90 = .ok (.aload_n 0, 1) := by decide +kernel
theorem dX8_trunk_91 : decode cX8_trunk 91 = .ok (.iconst 1, 1) := by decide +kernel
theorem dX8_trunk_92 : decode cX8_trunk 92 = .ok (.iload_n 1, 1) := by decide +kernel
theorem dX8_trunk_93 : decode cX8_trunk 93 = .ok (.ishl, 1) := by decide +kernel
theorem dX8_trunk_94 : decode cX8_trunk 94 = .ok (.invokevirtual 310, 3) := by decide +kernel
theorem dX8_trunk_97 : decode cX8_trunk 97 = .ok (.ireturn, 1) := by decide +kernel
theorem dX8_trunk_98 : decode cX8_trunk 98 = .ok (.aload_n 0, 1) := by decide +kernel
theorem dX8_trunk_99 : decode cX8_trunk 99 = .ok (.iconst 1, 1) := by decide +kernel
theorem dX8_trunk_100 : decode cX8_trunk 100 = .ok (.invokevirtual 268, 3) := by decide +kernel
theorem dX8_trunk_103 : decode cX8_trunk 103 = .ok (.ireturn, 1) := by decide +kernel
theorem dX8_tellWays_0 : decode cX8_tellWays 0 = .ok (.iconst 0, 1) := by decide +kernel
theorem dX8_tellWays_1 : decode cX8_tellWays 1 = .ok (.istore_n 1, 1) := by decide +kernel
theorem dX8_tellWays_2 : decode cX8_tellWays 2 = .ok (.iload_n 1, 1) := by decide +kernel
theorem dX8_tellWays_3 : decode cX8_tellWays 3 = .ok (.iconst 5, 1) := by decide +kernel
theorem dX8_tellWays_4 : decode cX8_tellWays 4 = .ok (.if_icmp .ge 70, 3) := by decide +kernel
theorem dX8_tellWays_7 : decode cX8_tellWays 7 = .ok (.iconst 0, 1) := by decide +kernel
theorem dX8_tellWays_8 : decode cX8_tellWays 8 = .ok (.istore_n 2, 1) := by decide +kernel
theorem dX8_tellWays_9 : decode cX8_tellWays 9 = .ok (.iload_n 2, 1) := by decide +kernel
theorem dX8_tellWays_10 : decode cX8_tellWays 10 = .ok (.iconst 5, 1) := by decide +kernel
theorem dX8_tellWays_11 : decode cX8_tellWays 11 = .ok (.if_icmp .ge 57, 3) := by decide +kernel
theorem dX8_tellWays_14 : decode cX8_tellWays 14 = .ok (.aload_n 0, 1) := by decide +kernel
theorem dX8_tellWays_15 : decode cX8_tellWays 15 = .ok (.getfield 79, 3) := by decide +kernel
theorem dX8_tellWays_18 : decode cX8_tellWays 18 = .ok (.iconst 5, 1) := by decide +kernel
theorem dX8_tellWays_19 : decode cX8_tellWays 19 = .ok (.iload_n 1, 1) := by decide +kernel
theorem dX8_tellWays_20 : decode cX8_tellWays 20 = .ok (.imul, 1) := by decide +kernel
theorem dX8_tellWays_21 : decode cX8_tellWays 21 = .ok (.iload_n 2, 1) := by decide +kernel
theorem dX8_tellWays_22 : decode cX8_tellWays 22 = .ok (.iadd, 1) := by decide +kernel
theorem dX8_tellWays_23 : decode cX8_tellWays 23 = .ok (.iload_n 1, 1) := by decide +kernel
theorem dX8_tellWays_24 : decode cX8_tellWays 24 = .ok (.iload_n 2, 1) := by decide +kernel
theorem dX8_tellWays_25 : decode cX8_tellWays 25 = .ok (.if_icmp .ne 7, 3) := by decide +kernel
theorem dX8_tellWays_28 : decode cX8_tellWays 28 = .ok (.iconst 0, 1) := by decide +kernel
theorem dX8_tellWays_29 : decode cX8_tellWays 29 = .ok (.goto 32, 3) := by decide +kernel
theorem dX8_tellWays_32 : decode cX8_tellWays 32 = .ok (.aload_n 0, 1) := by decide +kernel
theorem dX8_tellWays_33 : decode cX8_tellWays 33 = .ok (.getfield 39, 3) := by decide +kernel
theorem dX8_tellWays_36 : decode cX8_tellWays 36 = .ok (.iconst 5, 1) := by decide +kernel
theorem dX8_tellWays_37 : decode cX8_tellWays 37 = .ok (.iload_n 1, 1) := by decide +kernel
theorem dX8_tellWays_38 : decode cX8_tellWays 38 = .ok (.imul, 1) := by decide +kernel
theorem dX8_tellWays_39 : decode cX8_tellWays 39 = .ok (.iload_n 2, 1) := by decide +kernel
theorem dX8_tellWays_40 : decode cX8_tellWays 40 = .ok (.iadd, 1) := by decide +kernel
theorem dX8_tellWays_41 : decode cX8_tellWays 41 = .ok (.iaload, 1) := by decide +kernel
theorem dX8_tellWays_42 : decode cX8_tellWays 42 = .ok (.ifCond .le 16, 3) := by decide +kernel
theorem dX8_tellWays_45 : decode cX8_tellWays 45 = .ok (.aload_n 0, 1) := by decide +kernel
theorem dX8_tellWays_46 : decode cX8_tellWays 46 = .ok (.getfield 39, 3) := by decide +kernel
theorem dX8_tellWays_49 : decode cX8_tellWays 49 = .ok (.iconst 5, 1) := by decide +kernel
theorem dX8_tellWays_50 : decode cX8_tellWays 50 = .ok (.iload_n 1, 1) := by decide +kernel
theorem dX8_tellWays_51 : decode cX8_tellWays 51 = .ok (.imul, 1) := by decide +kernel
theorem dX8_tellWays_52 : decode cX8_tellWays 52 = .ok (.iload_n 2, 1) := by decide +kernel
theorem dX8_tellWays_53 : decode cX8_tellWays 53 = .ok (.iadd, 1) := by decide +kernel
theorem dX8_tellWays_54 : decode cX8_tellWays 54 = .ok (.iaload, 1) := by decide +kernel
theorem dX8_tellWays_55 : decode cX8_tellWays 55 = .ok (.goto 6, 3) := by decide +kernel
theorem dX8_tellWays_58 : decode cX8_tellWays 58 = .ok (.ldc_w 316, 3) := by decide +kernel
theorem dX8_tellWays_61 : decode cX8_tellWays 61 = .ok (.iastore, 1) := by decide +kernel
theorem dX8_tellWays_62 : decode cX8_tellWays 62 = .ok (.iinc 2 1, 3) := by decide +kernel
theorem dX8_tellWays_65 : decode cX8_tellWays 65 = .ok (.goto (-56), 3) := by decide +kernel
theorem dX8_tellWays_68 : decode cX8_tellWays 68 = .ok (.iinc 1 1, 3) := by decide +kernel
theorem dX8_tellWays_71 : decode cX8_tellWays 71 = .ok (.goto (-69), 3) := by decide +kernel
theorem dX8_tellWays_74 : decode cX8_tellWays 74 = .ok (.iconst 0, 1) := by decide +kernel
theorem dX8_tellWays_75 : decode cX8_tellWays 75 = .ok (.istore_n 1, 1) := by decide +kernel
theorem dX8_tellWays_76 : decode cX8_tellWays 76 = .ok (.iload_n 1, 1) := by decide +kernel
theorem dX8_tellWays_77 : decode cX8_tellWays 77 = .ok (.iconst 5, 1) := by decide +kernel
theorem dX8_tellWays_78 : decode cX8_tellWays 78 = .ok (.if_icmp .ge 79, 3) := by decide +kernel
theorem dX8_tellWays_81 : decode cX8_tellWays 81 = .ok (.iconst 0, 1) := by decide +kernel
theorem dX8_tellWays_82 : decode cX8_tellWays 82 = .ok (.istore_n 2, 1) := by decide +kernel
theorem dX8_tellWays_83 : decode cX8_tellWays 83 = .ok (.iload_n 2, 1) := by decide +kernel
theorem dX8_tellWays_84 : decode cX8_tellWays 84 = .ok (.iconst 5, 1) := by decide +kernel
theorem dX8_tellWays_85 : decode cX8_tellWays 85 = .ok (.if_icmp .ge 66, 3) := by decide +kernel
theorem dX8_tellWays_88 : decode cX8_tellWays 88 = .ok (.iconst 0, 1) := by decide +kernel
theorem dX8_tellWays_89 : decode cX8_tellWays 89 = .ok (.istore_n 3, 1) := by decide +kernel
theorem dX8_tellWays_90 : decode cX8_tellWays 90 = .ok (.iload_n 3, 1) := by decide +kernel
theorem dX8_tellWays_91 : decode cX8_tellWays 91 = .ok (.iconst 5, 1) := by decide +kernel
theorem dX8_tellWays_92 : decode cX8_tellWays 92 = .ok (.if_icmp .ge 53, 3) := by decide +kernel
theorem dX8_tellWays_95 : decode cX8_tellWays 95 = .ok (.aload_n 0, 1) := by decide +kernel
theorem dX8_tellWays_96 : decode cX8_tellWays 96 = .ok (.getfield 79, 3) := by decide +kernel
theorem dX8_tellWays_99 : decode cX8_tellWays 99 = .ok (.iconst 5, 1) := by decide +kernel
theorem dX8_tellWays_100 : decode cX8_tellWays 100 = .ok (.iload_n 2, 1) := by decide +kernel
theorem dX8_tellWays_101 : decode cX8_tellWays 101 = .ok (.imul, 1) := by decide +kernel
theorem dX8_tellWays_102 : decode cX8_tellWays 102 = .ok (.iload_n 3, 1) := by decide +kernel
theorem dX8_tellWays_103 : decode cX8_tellWays 103 = .ok (.iadd, 1) := by decide +kernel
theorem dX8_tellWays_104 : decode cX8_tellWays 104 = .ok (.aload_n 0, 1) := by decide +kernel
theorem dX8_tellWays_105 : decode cX8_tellWays 105 = .ok (.getfield 79, 3) := by decide +kernel
theorem dX8_tellWays_108 : decode cX8_tellWays 108 = .ok (.iconst 5, 1) := by decide +kernel
theorem dX8_tellWays_109 : decode cX8_tellWays 109 = .ok (.iload_n 2, 1) := by decide +kernel
theorem dX8_tellWays_110 : decode cX8_tellWays 110 = .ok (.imul, 1) := by decide +kernel
theorem dX8_tellWays_111 : decode cX8_tellWays 111 = .ok (.iload_n 3, 1) := by decide +kernel
theorem dX8_tellWays_112 : decode cX8_tellWays 112 = .ok (.iadd, 1) := by decide +kernel
theorem dX8_tellWays_113 : decode cX8_tellWays 113 = .ok (.iaload, 1) := by decide +kernel
theorem dX8_tellWays_114 : decode cX8_tellWays 114 = .ok (.aload_n 0, 1) := by decide +kernel
theorem dX8_tellWays_115 : decode cX8_tellWays 115 = .ok (.getfield 79, 3) := by decide +kernel
theorem dX8_tellWays_118 : decode cX8_tellWays 118 = .ok (.iconst 5, 1) := by decide +kernel
theorem dX8_tellWays_119 : decode cX8_tellWays 119 = .ok (.iload_n 2, 1) := by decide +kernel
theorem dX8_tellWays_120 : decode cX8_tellWays 120 = .ok (.imul, 1) := by decide +kernel
theorem dX8_tellWays_121 : decode cX8_tellWays 121 = .ok (.iload_n 1, 1) := by decide +kernel
theorem dX8_tellWays_122 : decode cX8_tellWays 122 = .ok (.iadd, 1) := by decide +kernel
theorem dX8_tellWays_123 : decode cX8_tellWays 123 = .ok (.iaload, 1) := by decide +kernel
theorem dX8_tellWays_124 : decode cX8_tellWays 124 = .ok (.aload_n 0, 1) := by decide +kernel
theorem dX8_tellWays_125 : decode cX8_tellWays 125 = .ok (.getfield 79, 3) := by decide +kernel
theorem dX8_tellWays_128 : decode cX8_tellWays 128 = .ok (.iconst 5, 1) := by decide +kernel
theorem dX8_tellWays_129 : decode cX8_tellWays 129 = .ok (.iload_n 1, 1) := by decide +kernel
theorem dX8_tellWays_130 : decode cX8_tellWays 130 = .ok (.imul, 1) := by decide +kernel
theorem dX8_tellWays_131 : decode cX8_tellWays 131 = .ok (.iload_n 3, 1) := by decide +kernel
theorem dX8_tellWays_132 : decode cX8_tellWays 132 = .ok (.iadd, 1) := by decide +kernel
theorem dX8_tellWays_133 : decode cX8_tellWays 133 = .ok (.iaload, 1) := by decide +kernel
theorem dX8_tellWays_134 : decode cX8_tellWays 134 = .ok (.iadd, 1) := by decide +kernel
theorem dX8_tellWays_135 : decode cX8_tellWays 135 = .ok (.invokestatic 186, 3) := by decide +kernel
theorem dX8_tellWays_138 : decode cX8_tellWays 138 = .ok (.iastore, 1) := by decide +kernel
theorem dX8_tellWays_139 : decode cX8_tellWays 139 = .ok (.iinc 3 1, 3) := by decide +kernel
theorem dX8_tellWays_142 : decode cX8_tellWays 142 = .ok (.goto (-52), 3) := by decide +kernel
theorem dX8_tellWays_145 : decode cX8_tellWays 145 = .ok (.iinc 2 1, 3) := by decide +kernel
theorem dX8_tellWays_148 : decode cX8_tellWays 148 = .ok (.goto (-65), 3) := by decide +kernel
theorem dX8_tellWays_151 : decode cX8_tellWays 151 = .ok (.iinc 1 1, 3) := by decide +kernel
theorem dX8_tellWays_154 : decode cX8_tellWays 154 = .ok (.goto (-78), 3) := by decide +kernel
theorem dX8_tellWays_157 : decode cX8_tellWays 157 = .ok (.iconst 0, 1) := by decide +kernel
theorem dX8_tellWays_158 : decode cX8_tellWays 158 = .ok (.istore_n 1, 1) := by decide +kernel
theorem dX8_tellWays_159 : decode cX8_tellWays 159 = .ok (.iload_n 1, 1) := by decide +kernel
theorem dX8_tellWays_160 : decode cX8_tellWays 160 = .ok (.iconst 5, 1) := by decide +kernel
theorem dX8_tellWays_161 : decode cX8_tellWays 161 = .ok (.if_icmp .ge 38, 3) := by decide +kernel
theorem dX8_tellWays_164 : decode cX8_tellWays 164 = .ok (.iconst 0, 1) := by decide +kernel
theorem dX8_tellWays_165 : decode cX8_tellWays 165 = .ok (.istore_n 2, 1) := by decide +kernel
theorem dX8_tellWays_166 : decode cX8_tellWays 166 = .ok (.iload_n 2, 1) := by decide +kernel
theorem dX8_tellWays_167 : decode cX8_tellWays 167 = .ok (.iconst 5, 1) := by decide +kernel
theorem dX8_tellWays_168 : decode cX8_tellWays 168 = .ok (.if_icmp .ge 25, 3) := by decide +kernel
theorem dX8_tellWays_171 : decode cX8_tellWays 171 = .ok (.aload_n 0, 1) := by decide +kernel
theorem dX8_tellWays_172 : decode cX8_tellWays 172 = .ok (.getfield 82, 3) := by decide +kernel
theorem dX8_tellWays_175 : decode cX8_tellWays 175 = .ok (.iconst 5, 1) := by decide +kernel
theorem dX8_tellWays_176 : decode cX8_tellWays 176 = .ok (.iload_n 1, 1) := by decide +kernel
theorem dX8_tellWays_177 : decode cX8_tellWays 177 = .ok (.imul, 1) := by decide +kernel
theorem dX8_tellWays_178 : decode cX8_tellWays 178 = .ok (.iload_n 2, 1) := by decide +kernel
theorem dX8_tellWays_179 : decode cX8_tellWays 179 = .ok (.iadd, 1) := by decide +kernel
theorem dX8_tellWays_180 : decode cX8_tellWays 180 = .ok (.aload_n 0, 1) := by decide +kernel
theorem dX8_tellWays_181 : decode cX8_tellWays 181 = .ok (.iload_n 1, 1) := by decide +kernel
theorem dX8_tellWays_182 : decode cX8_tellWays 182 = .ok (.iload_n 2, 1) := by decide +kernel
theorem dX8_tellWays_183 : decode cX8_tellWays 183 = .ok (.invokevirtual 317, 3) := by decide +kernel
theorem dX8_tellWays_186 : decode cX8_tellWays 186 = .ok (.iastore, 1) := by decide +kernel
theorem dX8_tellWays_187 : decode cX8_tellWays 187 = .ok (.iinc 2 1, 3) := by decide +kernel
theorem dX8_tellWays_190 : decode cX8_tellWays 190 = .ok (.goto (-24), 3) := by decide +kernel
theorem dX8_tellWays_193 : decode cX8_tellWays 193 = .ok (.iinc 1 1, 3) := by decide +kernel
theorem dX8_tellWays_196 : decode cX8_tellWays 196 = .ok (.goto (-37), 3) := by decide +kernel
theorem dX8_tellWays_199 : decode cX8_tellWays 199 = .ok (.return_, 1) := by decide +kernel
theorem dX8_nextOf_0 : decode cX8_nextOf 0 = .ok (.iconst 0, 1) := by decide +kernel
theorem dX8_nextOf_1 : decode cX8_nextOf 1 = .ok (.istore_n 3, 1) := by decide +kernel
theorem dX8_nextOf_2 : decode cX8_nextOf 2 = .ok (.iload_n 3, 1) := by decide +kernel
theorem dX8_nextOf_3 : decode cX8_nextOf 3 = .ok (.iconst 5, 1) := by decide +kernel
theorem dX8_nextOf_4 : decode cX8_nextOf 4 = .ok (.if_icmp .ge 79, 3) := by decide +kernel
theorem dX8_nextOf_7 : decode cX8_nextOf 7 = .ok (.iload_n 1, 1) := by decide +kernel
theorem dX8_nextOf_8 : decode cX8_nextOf 8 = .ok (.iload_n 2, 1) := by decide +kernel
theorem dX8_nextOf_9 : decode cX8_nextOf 9 = .ok (.if_icmp .eq 74, 3) := by decide +kernel
theorem dX8_nextOf_12 : decode cX8_nextOf 12 = .ok (.aload_n 0, 1) := by decide +kernel
theorem dX8_nextOf_13 : decode cX8_nextOf 13 = .ok (.getfield 79, 3) := by decide +kernel
theorem dX8_nextOf_16 : decode cX8_nextOf 16 = .ok (.iconst 5, 1) := by decide +kernel
theorem dX8_nextOf_17 : decode cX8_nextOf 17 = .ok (.iload_n 1, 1) := by decide +kernel
theorem dX8_nextOf_18 : decode cX8_nextOf 18 = .ok (.imul, 1) := by decide +kernel
theorem dX8_nextOf_19 : decode cX8_nextOf 19 = .ok (.iload_n 2, 1) := by decide +kernel
theorem dX8_nextOf_20 : decode cX8_nextOf 20 = .ok (.iadd, 1) := by decide +kernel
theorem dX8_nextOf_21 : decode cX8_nextOf 21 = .ok (.iaload, 1) := by decide +kernel
theorem dX8_nextOf_22 : decode cX8_nextOf 22 = .ok (.ldc_w 316, 3) := by decide +kernel
theorem dX8_nextOf_25 : decode cX8_nextOf 25 = .ok (.if_icmp .ge 58, 3) := by decide +kernel
theorem dX8_nextOf_28 : decode cX8_nextOf 28 = .ok (.aload_n 0, 1) := by decide +kernel
theorem dX8_nextOf_29 : decode cX8_nextOf 29 = .ok (.getfield 39, 3) := by decide +kernel
theorem dX8_nextOf_32 : decode cX8_nextOf 32 = .ok (.iconst 5, 1) := by decide +kernel
theorem dX8_nextOf_33 : decode cX8_nextOf 33 = .ok (.iload_n 1, 1) := by decide +kernel
theorem dX8_nextOf_34 : decode cX8_nextOf 34 = .ok (.imul, 1) := by decide +kernel
theorem dX8_nextOf_35 : decode cX8_nextOf 35 = .ok (.iload_n 3, 1) := by decide +kernel
theorem dX8_nextOf_36 : decode cX8_nextOf 36 = .ok (.iadd, 1) := by decide +kernel
theorem dX8_nextOf_37 : decode cX8_nextOf 37 = .ok (.iaload, 1) := by decide +kernel
theorem dX8_nextOf_38 : decode cX8_nextOf 38 = .ok (.ifCond .le 39, 3) := by decide +kernel
theorem dX8_nextOf_41 : decode cX8_nextOf 41 = .ok (.aload_n 0, 1) := by decide +kernel
theorem dX8_nextOf_42 : decode cX8_nextOf 42 = .ok (.getfield 39, 3) := by decide +kernel
theorem dX8_nextOf_45 : decode cX8_nextOf 45 = .ok (.iconst 5, 1) := by decide +kernel
theorem dX8_nextOf_46 : decode cX8_nextOf 46 = .ok (.iload_n 1, 1) := by decide +kernel
theorem dX8_nextOf_47 : decode cX8_nextOf 47 = .ok (.imul, 1) := by decide +kernel
theorem dX8_nextOf_48 : decode cX8_nextOf 48 = .ok (.iload_n 3, 1) := by decide +kernel
theorem dX8_nextOf_49 : decode cX8_nextOf 49 = .ok (.iadd, 1) := by decide +kernel
theorem dX8_nextOf_50 : decode cX8_nextOf 50 = .ok (.iaload, 1) := by decide +kernel
theorem dX8_nextOf_51 : decode cX8_nextOf 51 = .ok (.aload_n 0, 1) := by decide +kernel
theorem dX8_nextOf_52 : decode cX8_nextOf 52 = .ok (.getfield 79, 3) := by decide +kernel
theorem dX8_nextOf_55 : decode cX8_nextOf 55 = .ok (.iconst 5, 1) := by decide +kernel
theorem dX8_nextOf_56 : decode cX8_nextOf 56 = .ok (.iload_n 3, 1) := by decide +kernel
theorem dX8_nextOf_57 : decode cX8_nextOf 57 = .ok (.imul, 1) := by decide +kernel
theorem dX8_nextOf_58 : decode cX8_nextOf 58 = .ok (.iload_n 2, 1) := by decide +kernel
theorem dX8_nextOf_59 : decode cX8_nextOf 59 = .ok (.iadd, 1) := by decide +kernel
theorem dX8_nextOf_60 : decode cX8_nextOf 60 = .ok (.iaload, 1) := by decide +kernel
theorem dX8_nextOf_61 : decode cX8_nextOf 61 = .ok (.iadd, 1) := by decide +kernel
theorem dX8_nextOf_62 : decode cX8_nextOf 62 = .ok (.aload_n 0, 1) := by decide +kernel
theorem dX8_nextOf_63 : decode cX8_nextOf 63 = .ok (.getfield 79, 3) := by decide +kernel
theorem dX8_nextOf_66 : decode cX8_nextOf 66 = .ok (.iconst 5, 1) := by decide +kernel
theorem dX8_nextOf_67 : decode cX8_nextOf 67 = .ok (.iload_n 1, 1) := by decide +kernel
theorem dX8_nextOf_68 : decode cX8_nextOf 68 = .ok (.imul, 1) := by decide +kernel
theorem dX8_nextOf_69 : decode cX8_nextOf 69 = .ok (.iload_n 2, 1) := by decide +kernel
theorem dX8_nextOf_70 : decode cX8_nextOf 70 = .ok (.iadd, 1) := by decide +kernel
theorem dX8_nextOf_71 : decode cX8_nextOf 71 = .ok (.iaload, 1) := by decide +kernel
theorem dX8_nextOf_72 : decode cX8_nextOf 72 = .ok (.if_icmp .ne 5, 3) := by decide +kernel
theorem dX8_nextOf_75 : decode cX8_nextOf 75 = .ok (.iload_n 3, 1) := by decide +kernel
theorem dX8_nextOf_76 : decode cX8_nextOf 76 = .ok (.ireturn, 1) := by decide +kernel
theorem dX8_nextOf_77 : decode cX8_nextOf 77 = .ok (.iinc 3 1, 3) := by decide +kernel
theorem dX8_nextOf_80 : decode cX8_nextOf 80 = .ok (.goto (-78), 3) := by decide +kernel
theorem dX8_nextOf_83 : decode cX8_nextOf 83 = .ok (.iconst (-1), 1) := by decide +kernel
theorem dX8_nextOf_84 : decode cX8_nextOf 84 = .ok (.ireturn, 1) := by decide +kernel
theorem dX8_hasWay_0 : decode cX8_hasWay 0 = .ok (.aload_n 0, 1) := by decide +kernel
theorem dX8_hasWay_1 : decode cX8_hasWay 1 = .ok (.getfield 79, 3) := by decide +kernel
theorem dX8_hasWay_4 : decode cX8_hasWay 4 = .ok (.iconst 5, 1) := by decide +kernel
theorem dX8_hasWay_5 : decode cX8_hasWay 5 = .ok (.iload_n 1, 1) := by decide +kernel
theorem dX8_hasWay_6 : decode cX8_hasWay 6 = .ok (.imul, 1) := by decide +kernel
theorem dX8_hasWay_7 : decode cX8_hasWay 7 = .ok (.iload_n 2, 1) := by decide +kernel
theorem dX8_hasWay_8 : decode cX8_hasWay 8 = .ok (.iadd, 1) := by decide +kernel
theorem dX8_hasWay_9 : decode cX8_hasWay 9 = .ok (.iaload, 1) := by decide +kernel
theorem dX8_hasWay_10 : decode cX8_hasWay 10 = .ok (.ldc_w 316, 3) := by decide +kernel
theorem dX8_hasWay_13 : decode cX8_hasWay 13 = .ok (.if_icmp .ge 7, 3) := by decide +kernel
theorem dX8_hasWay_16 : decode cX8_hasWay 16 = .ok (.iconst 1, 1) := by decide +kernel
theorem dX8_hasWay_17 : decode cX8_hasWay 17 = .ok (.goto 4, 3) := by decide +kernel
theorem dX8_hasWay_20 : decode cX8_hasWay 20 = .ok (.iconst 0, 1) := by decide +kernel
theorem dX8_hasWay_21 : decode cX8_hasWay 21 = .ok (.ireturn, 1) := by decide +kernel
theorem dX8_way_0 : decode cX8_way 0 = .ok (.aload_n 0, 1) := by decide +kernel
theorem dX8_way_1 : decode cX8_way 1 = .ok (.iconst 0, 1) := by decide +kernel
theorem dX8_way_2 : decode cX8_way 2 = .ok (.putfield 149, 3) := by decide +kernel
theorem dX8_way_5 : decode cX8_way 5 = .ok (.aload_n 0, 1) := by decide +kernel
theorem dX8_way_6 : decode cX8_way 6 = .ok (.iload_n 1, 1) := by decide +kernel
theorem dX8_way_7 : decode cX8_way 7 = .ok (.invokevirtual 304, 3) := by decide +kernel
theorem dX8_way_10 : decode cX8_way 10 = .ok (.ifCond .eq 37, 3) := by decide +kernel
theorem dX8_way_13 : decode cX8_way 13 = .ok (.aload_n 0, 1) := by decide +kernel
theorem dX8_way_14 : decode cX8_way 14 = .ok (.iload_n 2, 1) := by decide +kernel
theorem dX8_way_15 : decode cX8_way 15 = .ok (.invokevirtual 304, 3) := by decide +kernel
theorem dX8_way_18 : decode cX8_way 18 = .ok (.ifCond .eq 29, 3) := by decide +kernel
theorem dX8_way_21 : decode cX8_way 21 = .ok (.aload_n 0, 1) := by decide +kernel
theorem dX8_way_22 : decode cX8_way 22 = .ok (.iload_n 1, 1) := by decide +kernel
theorem dX8_way_23 : decode cX8_way 23 = .ok (.iload_n 2, 1) := by decide +kernel
theorem dX8_way_24 : decode cX8_way 24 = .ok (.invokevirtual 320, 3) := by decide +kernel
theorem dX8_way_27 : decode cX8_way 27 = .ok (.ifCond .eq 16, 3) := by decide +kernel
theorem dX8_way_30 : decode cX8_way 30 = .ok (.aload_n 0, 1) := by decide +kernel
theorem dX8_way_31 : decode cX8_way 31 = .ok (.getfield 79, 3) := by decide +kernel
theorem dX8_way_34 : decode cX8_way 34 = .ok (.iconst 5, 1) := by decide +kernel
theorem dX8_way_35 : decode cX8_way 35 = .ok (.iload_n 1, 1) := by decide +kernel
theorem dX8_way_36 : decode cX8_way 36 = .ok (.imul, 1) := by decide +kernel
theorem dX8_way_37 : decode cX8_way 37 = .ok (.iload_n 2, 1) := by decide +kernel
theorem dX8_way_38 : decode cX8_way 38 = .ok (.iadd, 1) := by decide +kernel
theorem dX8_way_39 : decode cX8_way 39 = .ok (.iaload, 1) := by decide +kernel
theorem dX8_way_40 : decode cX8_way 40 = .ok (.goto 12, 3) := by decide +kernel
theorem dX8_way_43 : decode cX8_way 43 = .ok (.iconst (-1), 1) := by decide +kernel
theorem dX8_way_44 : decode cX8_way 44 = .ok (.goto 8, 3) := by decide +kernel
theorem dX8_way_47 : decode cX8_way 47 = .ok (.aload_n 0, 1) := by decide +kernel
theorem dX8_way_48 : decode cX8_way 48 = .ok (.iconst 1, 1) := by decide +kernel
theorem dX8_way_49 : decode cX8_way 49 = .ok (.invokevirtual 268, 3) := by decide +kernel
theorem dX8_way_52 : decode cX8_way 52 = .ok (.ireturn, 1) := by decide +kernel
theorem dX8_clerksOf_0 : decode cX8_clerksOf 0 = .ok (.iconst 0, 1) := by decide +kernel
theorem dX8_clerksOf_1 : decode cX8_clerksOf 1 = .ok (.istore_n 3, 1) := by decide +kernel
theorem dX8_clerksOf_2 : decode cX8_clerksOf 2 = .ok (.iload_n 1, 1) := by decide +kernel
theorem dX8_clerksOf_3 : decode cX8_clerksOf 3 = .ok (.istore 4, 2) := by decide +kernel
theorem dX8_clerksOf_5 : decode cX8_clerksOf 5 = .ok (.iload 4, 2) := by decide +kernel
theorem dX8_clerksOf_7 : decode cX8_clerksOf 7 = .ok (.iload_n 2, 1) := by decide +kernel
theorem dX8_clerksOf_8 : decode cX8_clerksOf 8 = .ok (.if_icmp .eq 22, 3) := by decide +kernel
theorem dX8_clerksOf_11 : decode cX8_clerksOf 11 = .ok (.iinc 3 1, 3) := by decide +kernel
theorem dX8_clerksOf_14 : decode cX8_clerksOf 14 = .ok (.aload_n 0, 1) := by decide +kernel
theorem dX8_clerksOf_15 : decode cX8_clerksOf 15 = .ok (.getfield 82, 3) := by decide +kernel
theorem dX8_clerksOf_18 : decode cX8_clerksOf 18 = .ok (.iconst 5, 1) := by decide +kernel
theorem dX8_clerksOf_19 : decode cX8_clerksOf 19 = .ok (.iload 4, 2) := by decide +kernel
theorem dX8_clerksOf_21 : decode cX8_clerksOf 21 = .ok (.imul, 1) := by decide +kernel
theorem dX8_clerksOf_22 : decode cX8_clerksOf 22 = .ok (.iload_n 2, 1) := by decide +kernel
theorem dX8_clerksOf_23 : decode cX8_clerksOf 23 = .ok (.iadd, 1) := by decide +kernel
theorem dX8_clerksOf_24 : decode cX8_clerksOf 24 = .ok (.iaload, 1) := by decide +kernel
theorem dX8_clerksOf_25 : decode cX8_clerksOf 25 = .ok (.istore 4, 2) := by decide +kernel
theorem dX8_clerksOf_27 : decode cX8_clerksOf 27 = .ok (.goto (-22), 3) := by decide +kernel
theorem dX8_clerksOf_30 : decode cX8_clerksOf 30 = .ok (.iload_n 3, 1) := by decide +kernel
theorem dX8_clerksOf_31 : decode cX8_clerksOf 31 = .ok (.ireturn, 1) := by decide +kernel
theorem dX8_clerkAt_0 : decode cX8_clerkAt 0 = .ok (.iload_n 1, 1) := by decide +kernel
theorem dX8_clerkAt_1 : decode cX8_clerkAt 1 = .ok (.istore 4, 2) := by decide +kernel
theorem dX8_clerkAt_3 : decode cX8_clerkAt 3 = .ok (.iconst 0, 1) := by decide +kernel
theorem dX8_clerkAt_4 : decode cX8_clerkAt 4 = .ok (.istore 5, 2) := by decide +kernel
theorem dX8_clerkAt_6 : decode cX8_clerkAt 6 = .ok (.iload 5, 2) := by decide +kernel
theorem dX8_clerkAt_8 : decode cX8_clerkAt 8 = .ok (.iload_n 3, 1) := by decide +kernel
theorem dX8_clerkAt_9 : decode cX8_clerkAt 9 = .ok (.if_icmp .ge 22, 3) := by decide +kernel
theorem dX8_clerkAt_12 : decode cX8_clerkAt 12 = .ok (.aload_n 0, 1) := by decide +kernel
theorem dX8_clerkAt_13 : decode cX8_clerkAt 13 = .ok (.getfield 82, 3) := by decide +kernel
theorem dX8_clerkAt_16 : decode cX8_clerkAt 16 = .ok (.iconst 5, 1) := by decide +kernel
theorem dX8_clerkAt_17 : decode cX8_clerkAt 17 = .ok (.iload 4, 2) := by decide +kernel
theorem dX8_clerkAt_19 : decode cX8_clerkAt 19 = .ok (.imul, 1) := by decide +kernel
theorem dX8_clerkAt_20 : decode cX8_clerkAt 20 = .ok (.iload_n 2, 1) := by decide +kernel
theorem dX8_clerkAt_21 : decode cX8_clerkAt 21 = .ok (.iadd, 1) := by decide +kernel
theorem dX8_clerkAt_22 : decode cX8_clerkAt 22 = .ok (.iaload, 1) := by decide +kernel
theorem dX8_clerkAt_23 : decode cX8_clerkAt 23 = .ok (.istore 4, 2) := by decide +kernel
theorem dX8_clerkAt_25 : decode cX8_clerkAt 25 = .ok (.iinc 5 1, 3) := by decide +kernel
theorem dX8_clerkAt_28 : decode cX8_clerkAt 28 = .ok (.goto (-22), 3) := by decide +kernel
theorem dX8_clerkAt_31 : decode cX8_clerkAt 31 = .ok (.iload 4, 2) := by decide +kernel
theorem dX8_clerkAt_33 : decode cX8_clerkAt 33 = .ok (.ireturn, 1) := by decide +kernel
theorem dX8_clerk_0 : decode cX8_clerk 0 = .ok (.aload_n 0, 1) := by decide +kernel
theorem dX8_clerk_1 : decode cX8_clerk 1 = .ok (.iconst 0, 1) := by decide +kernel
theorem dX8_clerk_2 : decode cX8_clerk 2 = .ok (.putfield 149, 3) := by decide +kernel
theorem dX8_clerk_5 : decode cX8_clerk 5 = .ok (.aload_n 0, 1) := by decide +kernel
theorem dX8_clerk_6 : decode cX8_clerk 6 = .ok (.iload_n 1, 1) := by decide +kernel
theorem dX8_clerk_7 : decode cX8_clerk 7 = .ok (.invokevirtual 304, 3) := by decide +kernel
theorem dX8_clerk_10 : decode cX8_clerk 10 = .ok (.ifCond .eq 20, 3) := by decide +kernel
theorem dX8_clerk_13 : decode cX8_clerk 13 = .ok (.aload_n 0, 1) := by decide +kernel
theorem dX8_clerk_14 : decode cX8_clerk 14 = .ok (.iload_n 2, 1) := by decide +kernel
theorem dX8_clerk_15 : decode cX8_clerk 15 = .ok (.invokevirtual 304, 3) := by decide +kernel
theorem dX8_clerk_18 : decode cX8_clerk 18 = .ok (.ifCond .eq 12, 3) := by decide +kernel
theorem dX8_clerk_21 : decode cX8_clerk 21 = .ok (.aload_n 0, 1) := by decide +kernel
theorem dX8_clerk_22 : decode cX8_clerk 22 = .ok (.iload_n 1, 1) := by decide +kernel
theorem dX8_clerk_23 : decode cX8_clerk 23 = .ok (.iload_n 2, 1) := by decide +kernel
theorem dX8_clerk_24 : decode cX8_clerk 24 = .ok (.invokevirtual 320, 3) := by decide +kernel
theorem dX8_clerk_27 : decode cX8_clerk 27 = .ok (.ifCond .ne 9, 3) := by decide +kernel
theorem dX8_clerk_30 : decode cX8_clerk 30 = .ok (.aload_n 0, 1) := by decide +kernel
theorem dX8_clerk_31 : decode cX8_clerk 31 = .ok (.iconst 1, 1) := by decide +kernel
theorem dX8_clerk_32 : decode cX8_clerk 32 = .ok (.invokevirtual 268, 3) := by decide +kernel
theorem dX8_clerk_35 : decode cX8_clerk 35 = .ok (.ireturn, 1) := by decide +kernel
theorem dX8_clerk_36 : decode cX8_clerk 36 = .ok (.aload_n 0, 1) := by decide +kernel
theorem dX8_clerk_37 : decode cX8_clerk 37 = .ok (.iload_n 1, 1) := by decide +kernel
theorem dX8_clerk_38 : decode cX8_clerk 38 = .ok (.iload_n 2, 1) := by decide +kernel
theorem dX8_clerk_39 : decode cX8_clerk 39 = .ok (.invokevirtual 323, 3) := by decide +kernel
theorem dX8_clerk_42 : decode cX8_clerk 42 = .ok (.istore 4, 2) := by decide +kernel
theorem dX8_clerk_44 : decode cX8_clerk 44 = .ok (.iload_n 3, 1) := by decide +kernel
theorem dX8_clerk_45 : decode cX8_clerk 45 = .ok (.iconst (-1), 1) := by decide +kernel
theorem dX8_clerk_46 : decode cX8_clerk 46 = .ok (.if_icmp .ne 8, 3) := by decide +kernel
theorem dX8_clerk_49 : decode cX8_clerk 49 = .ok (.iload 4, 2) := by decide +kernel
theorem dX8_clerk_51 : decode cX8_clerk 51 = .ok (.goto 30, 3) := by decide +kernel
theorem dX8_clerk_54 : decode cX8_clerk 54 = .ok (.iload_n 3, 1) := by decide +kernel
theorem dX8_clerk_55 : decode cX8_clerk 55 = .ok (.iconst 0, 1) := by decide +kernel
theorem dX8_clerk_56 : decode cX8_clerk 56 = .ok (.iload 4, 2) := by decide +kernel
theorem dX8_clerk_58 : decode cX8_clerk 58 = .ok (.iconst 1, 1) := by decide +kernel
theorem dX8_clerk_59 : decode cX8_clerk 59 = .ok (.isub, 1) := by decide +kernel
theorem dX8_clerk_60 : decode cX8_clerk 60 = .ok (.invokestatic 152, 3) := by decide +kernel
theorem dX8_clerk_63 : decode cX8_clerk 63 = .ok (.ifCond .eq 13, 3) := by decide +kernel
theorem dX8_clerk_66 : decode cX8_clerk 66 = .ok (.aload_n 0, 1) := by decide +kernel
theorem dX8_clerk_67 : decode cX8_clerk 67 = .ok (.iload_n 1, 1) := by decide +kernel
theorem dX8_clerk_68 : decode cX8_clerk 68 = .ok (.iload_n 2, 1) := by decide +kernel
theorem dX8_clerk_69 : decode cX8_clerk 69 = .ok (.iload_n 3, 1) := by decide +kernel
theorem dX8_clerk_70 : decode cX8_clerk 70 = .ok (.invokevirtual 326, 3) := by decide +kernel
theorem dX8_clerk_73 : decode cX8_clerk 73 = .ok (.goto 8, 3) := by decide +kernel
theorem dX8_clerk_76 : decode cX8_clerk 76 = .ok (.aload_n 0, 1) := by decide +kernel
theorem dX8_clerk_77 : decode cX8_clerk 77 = .ok (.iconst 1, 1) := by decide +kernel
theorem dX8_clerk_78 : decode cX8_clerk 78 = .ok (.invokevirtual 268, 3) := by decide +kernel
theorem dX8_clerk_81 : decode cX8_clerk 81 = .ok (.ireturn, 1) := by decide +kernel
theorem dX8_elsewhere_0 : decode cX8_elsewhere 0 = .ok (.iconst 0, 1) := by decide +kernel
theorem dX8_elsewhere_1 : decode cX8_elsewhere 1 = .ok (.istore_n 3, 1) := by decide +kernel
theorem dX8_elsewhere_2 : decode cX8_elsewhere 2 = .ok (.iload_n 3, 1) := by decide +kernel
theorem dX8_elsewhere_3 : decode cX8_elsewhere 3 = .ok (.iconst 5, 1) := by decide +kernel
theorem dX8_elsewhere_4 : decode cX8_elsewhere 4 = .ok (.if_icmp .ge 29, 3) := by decide +kernel
theorem dX8_elsewhere_7 : decode cX8_elsewhere 7 = .ok (.iload_n 3, 1) := by decide +kernel
theorem dX8_elsewhere_8 : decode cX8_elsewhere 8 = .ok (.iload_n 2, 1) := by decide +kernel
theorem dX8_elsewhere_9 : decode cX8_elsewhere 9 = .ok (.if_icmp .eq 18, 3) := by decide +kernel
theorem dX8_elsewhere_12 : decode cX8_elsewhere 12 = .ok (.aload_n 0, 1) := by decide +kernel
theorem dX8_elsewhere_13 : decode cX8_elsewhere 13 = .ok (.getfield 39, 3) := by decide +kernel
theorem dX8_elsewhere_16 : decode cX8_elsewhere 16 = .ok (.iconst 5, 1) := by decide +kernel
theorem dX8_elsewhere_17 : decode cX8_elsewhere 17 = .ok (.iload_n 1, 1) := by decide +kernel
theorem dX8_elsewhere_18 : decode cX8_elsewhere 18 = .ok (.imul, 1) := by decide +kernel
theorem dX8_elsewhere_19 : decode cX8_elsewhere 19 = .ok (.iload_n 3, 1) := by decide +kernel
theorem dX8_elsewhere_20 : decode cX8_elsewhere 20 = .ok (.iadd, 1) := by decide +kernel
theorem dX8_elsewhere_21 : decode cX8_elsewhere 21 = .ok (.iaload, 1) := by decide +kernel
theorem dX8_elsewhere_22 : decode cX8_elsewhere 22 = .ok (.ifCond .le 5, 3) := by decide +kernel
theorem dX8_elsewhere_25 : decode cX8_elsewhere 25 = .ok (.iload_n 3, 1) := by decide +kernel
theorem dX8_elsewhere_26 : decode cX8_elsewhere 26 = .ok (.ireturn, 1) := by decide +kernel
theorem dX8_elsewhere_27 : decode cX8_elsewhere 27 = .ok (.iinc 3 1, 3) := by decide +kernel
theorem dX8_elsewhere_30 : decode cX8_elsewhere 30 = .ok (.goto (-28), 3) := by decide +kernel
theorem dX8_elsewhere_33 : decode cX8_elsewhere 33 = .ok (.iconst (-1), 1) := by decide +kernel
theorem dX8_elsewhere_34 : decode cX8_elsewhere 34 = .ok (.ireturn, 1) := by decide +kernel
theorem dX8_slipOf_0 : decode cX8_slipOf 0 = .ok (.aload_n 0, 1) := by decide +kernel
theorem dX8_slipOf_1 : decode cX8_slipOf 1 = .ok (.getfield 27, 3) := by decide +kernel
theorem dX8_slipOf_4 : decode cX8_slipOf 4 = .ok (.iload_n 1, 1) := by decide +kernel
theorem dX8_slipOf_5 : decode cX8_slipOf 5 = .ok (.iaload, 1) := by decide +kernel
theorem dX8_slipOf_6 : decode cX8_slipOf 6 = .ok (.iconst 3, 1) := by decide +kernel
theorem dX8_slipOf_7 : decode cX8_slipOf 7 = .ok (.if_icmp .eq 32, 3) := by decide +kernel
theorem dX8_slipOf_10 : decode cX8_slipOf 10 = .ok (.aload_n 0, 1) := by decide +kernel
theorem dX8_slipOf_11 : decode cX8_slipOf 11 = .ok (.getfield 27, 3) := by decide +kernel
theorem dX8_slipOf_14 : decode cX8_slipOf 14 = .ok (.iload_n 1, 1) := by decide +kernel
theorem dX8_slipOf_15 : decode cX8_slipOf 15 = .ok (.iaload, 1) := by decide +kernel
theorem dX8_slipOf_16 : decode cX8_slipOf 16 = .ok (.iconst 1, 1) := by decide +kernel
theorem dX8_slipOf_17 : decode cX8_slipOf 17 = .ok (.if_icmp .ne 26, 3) := by decide +kernel
theorem dX8_slipOf_20 : decode cX8_slipOf 20 = .ok (.aload_n 0, 1) := by decide +kernel
theorem dX8_slipOf_21 : decode cX8_slipOf 21 = .ok (.iload_n 1, 1) := by decide +kernel
theorem dX8_slipOf_22 : decode cX8_slipOf 22 = .ok (.aload_n 0, 1) := by decide +kernel
theorem dX8_slipOf_23 : decode cX8_slipOf 23 = .ok (.getfield 82, 3) := by decide +kernel
theorem dX8_slipOf_26 : decode cX8_slipOf 26 = .ok (.iconst 5, 1) := by decide +kernel
theorem dX8_slipOf_27 : decode cX8_slipOf 27 = .ok (.iload_n 1, 1) := by decide +kernel
theorem dX8_slipOf_28 : decode cX8_slipOf 28 = .ok (.imul, 1) := by decide +kernel
theorem dX8_slipOf_29 : decode cX8_slipOf 29 = .ok (.iload_n 2, 1) := by decide +kernel
theorem dX8_slipOf_30 : decode cX8_slipOf 30 = .ok (.iadd, 1) := by decide +kernel
theorem dX8_slipOf_31 : decode cX8_slipOf 31 = .ok (.iaload, 1) := by decide +kernel
theorem dX8_slipOf_32 : decode cX8_slipOf 32 = .ok (.invokevirtual 330, 3) := by decide +kernel
theorem dX8_slipOf_35 : decode cX8_slipOf 35 = .ok (.iconst (-1), 1) := by decide +kernel
theorem dX8_slipOf_36 : decode cX8_slipOf 36 = .ok (.if_icmp .eq 7, 3) := by decide +kernel
theorem dX8_slipOf_39 : decode cX8_slipOf 39 = .ok (.iconst 1, 1) := by decide +kernel
theorem dX8_slipOf_40 : decode cX8_slipOf 40 = .ok (.goto 4, 3) := by decide +kernel
theorem dX8_slipOf_43 : decode cX8_slipOf 43 = .ok (.iconst 0, 1) := by decide +kernel
theorem dX8_slipOf_44 : decode cX8_slipOf 44 = .ok (.istore_n 3, 1) := by decide +kernel
theorem dX8_slipOf_45 : decode cX8_slipOf 45 = .ok (.iload_n 3, 1) := by decide +kernel
theorem dX8_slipOf_46 : decode cX8_slipOf 46 = .ok (.ifCond .eq 12, 3) := by decide +kernel
theorem dX8_slipOf_49 : decode cX8_slipOf 49 = .ok (.aload_n 0, 1) := by decide +kernel
theorem dX8_slipOf_50 : decode cX8_slipOf 50 = .ok (.getfield 30, 3) := by decide +kernel
theorem dX8_slipOf_53 : decode cX8_slipOf 53 = .ok (.iload_n 1, 1) := by decide +kernel
theorem dX8_slipOf_54 : decode cX8_slipOf 54 = .ok (.iaload, 1) := by decide +kernel
theorem dX8_slipOf_55 : decode cX8_slipOf 55 = .ok (.goto 4, 3) := by decide +kernel
theorem dX8_slipOf_58 : decode cX8_slipOf 58 = .ok (.iconst 0, 1) := by decide +kernel
theorem dX8_slipOf_59 : decode cX8_slipOf 59 = .ok (.ireturn, 1) := by decide +kernel
theorem dX8_lostBy_0 : decode cX8_lostBy 0 = .ok (.lconst 1, 1) := by decide +kernel
theorem dX8_lostBy_1 : decode cX8_lostBy 1 = .ok (.lstore 5, 2) := by decide +kernel
theorem dX8_lostBy_3 : decode cX8_lostBy 3 = .ok (.iconst 0, 1) := by decide +kernel
theorem dX8_lostBy_4 : decode cX8_lostBy 4 = .ok (.istore 7, 2) := by decide +kernel
theorem dX8_lostBy_6 : decode cX8_lostBy 6 = .ok (.iload 7, 2) := by decide +kernel
theorem dX8_lostBy_8 : decode cX8_lostBy 8 = .ok (.iload 4, 2) := by decide +kernel
theorem dX8_lostBy_10 : decode cX8_lostBy 10 = .ok (.if_icmp .ge 60, 3) := by decide +kernel
theorem dX8_lostBy_13 : decode cX8_lostBy 13 = .ok (.aload_n 0, 1) := by decide +kernel
theorem dX8_lostBy_14 : decode cX8_lostBy 14 = .ok (.aload_n 0, 1) := by decide +kernel
theorem dX8_lostBy_15 : decode cX8_lostBy 15 = .ok (.iload_n 1, 1) := by decide +kernel
theorem dX8_lostBy_16 : decode cX8_lostBy 16 = .ok (.iload_n 2, 1) := by decide +kernel
theorem dX8_lostBy_17 : decode cX8_lostBy 17 = .ok (.iload 7, 2) := by decide +kernel
theorem dX8_lostBy_19 : decode cX8_lostBy 19 = .ok (.invokevirtual 326, 3) := by decide +kernel
theorem dX8_lostBy_22 : decode cX8_lostBy 22 = .ok (.iload_n 2, 1) := by decide +kernel
theorem dX8_lostBy_23 : decode cX8_lostBy 23 = .ok (.invokevirtual 333, 3) := by decide +kernel
theorem dX8_lostBy_26 : decode cX8_lostBy 26 = .ok (.istore 8, 2) := by decide +kernel
theorem dX8_lostBy_28 : decode cX8_lostBy 28 = .ok (.lload 5, 2) := by decide +kernel
theorem dX8_lostBy_30 : decode cX8_lostBy 30 = .ok (.iload 7, 2) := by decide +kernel
theorem dX8_lostBy_32 : decode cX8_lostBy 32 = .ok (.iload_n 3, 1) := by decide +kernel
theorem dX8_lostBy_33 : decode cX8_lostBy 33 = .ok (.if_icmp .ge 13, 3) := by decide +kernel
theorem dX8_lostBy_36 : decode cX8_lostBy 36 = .ok (.sipush 1000, 3) := by decide +kernel
theorem dX8_lostBy_39 : decode cX8_lostBy 39 = .ok (.iload 8, 2) := by decide +kernel
theorem dX8_lostBy_41 : decode cX8_lostBy 41 = .ok (.isub, 1) := by decide +kernel
theorem dX8_lostBy_42 : decode cX8_lostBy 42 = .ok (.i2l, 1) := by decide +kernel
theorem dX8_lostBy_43 : decode cX8_lostBy 43 = .ok (.goto 18, 3) := by decide +kernel
theorem dX8_lostBy_46 : decode cX8_lostBy 46 = .ok (.iload 7, 2) := by decide +kernel
theorem dX8_lostBy_48 : decode cX8_lostBy 48 = .ok (.iload_n 3, 1) := by decide +kernel
theorem dX8_lostBy_49 : decode cX8_lostBy 49 = .ok (.if_icmp .ne 9, 3) := by decide +kernel
theorem dX8_lostBy_52 : decode cX8_lostBy 52 = .ok (.iload 8, 2) := by decide +kernel
theorem dX8_lostBy_54 : decode cX8_lostBy 54 = .ok (.i2l, 1) := by decide +kernel
theorem dX8_lostBy_55 : decode cX8_lostBy 55 = .ok (.goto 6, 3) := by decide +kernel
theorem dX8_lostBy_58 : decode cX8_lostBy 58 = .ok (.ldc2_w 336, 3) := by decide +kernel
theorem dX8_lostBy_61 : decode cX8_lostBy 61 = .ok (.lmul, 1) := by decide +kernel
theorem dX8_lostBy_62 : decode cX8_lostBy 62 = .ok (.lstore 5, 2) := by decide +kernel
theorem dX8_lostBy_64 : decode cX8_lostBy 64 = .ok (.iinc 7 1, 3) := by decide +kernel
theorem dX8_lostBy_67 : decode cX8_lostBy 67 = .ok (.goto (-61), 3) := by decide +kernel
theorem dX8_lostBy_70 : decode cX8_lostBy 70 = .ok (.lload 5, 2) := by decide +kernel
theorem dX8_lostBy_72 : decode cX8_lostBy 72 = .ok (.lreturn, 1) := by decide +kernel
theorem dX8_common_0 : decode cX8_common 0 = .ok (.lload_n 0, 1) := by decide +kernel
theorem dX8_common_1 : decode cX8_common 1 = .ok (.lstore 4, 2) := by decide +kernel
theorem dX8_common_3 : decode cX8_common 3 = .ok (.lload_n 2, 1) := by decide +kernel
theorem dX8_common_4 : decode cX8_common 4 = .ok (.lstore 6, 2) := by decide +kernel
theorem dX8_common_6 : decode cX8_common 6 = .ok (.lload 6, 2) := by decide +kernel
theorem dX8_common_8 : decode cX8_common 8 = .ok (.lconst 0, 1) := by decide +kernel
theorem dX8_common_9 : decode cX8_common 9 = .ok (.lcmp, 1) := by decide +kernel
theorem dX8_common_10 : decode cX8_common 10 = .ok (.ifCond .eq 21, 3) := by decide +kernel
theorem dX8_common_13 : decode cX8_common 13 = .ok (.lload 4, 2) := by decide +kernel
theorem dX8_common_15 : decode cX8_common 15 = .ok (.lload 6, 2) := by decide +kernel
theorem dX8_common_17 : decode cX8_common 17 = .ok (.lrem, 1) := by decide +kernel
theorem dX8_common_18 : decode cX8_common 18 = .ok (.lstore 8, 2) := by decide +kernel
theorem dX8_common_20 : decode cX8_common 20 = .ok (.lload 6, 2) := by decide +kernel
theorem dX8_common_22 : decode cX8_common 22 = .ok (.lstore 4, 2) := by decide +kernel
theorem dX8_common_24 : decode cX8_common 24 = .ok (.lload 8, 2) := by decide +kernel
theorem dX8_common_26 : decode cX8_common 26 = .ok (.lstore 6, 2) := by decide +kernel
theorem dX8_common_28 : decode cX8_common 28 = .ok (.goto (-22), 3) := by decide +kernel
theorem dX8_common_31 : decode cX8_common 31 = .ok (.lload 4, 2) := by decide +kernel
theorem dX8_common_33 : decode cX8_common 33 = .ok (.lreturn, 1) := by decide +kernel
theorem dX8_lost_0 : decode cX8_lost 0 = .ok (.aload_n 0, 1) := by decide +kernel
theorem dX8_lost_1 : decode cX8_lost 1 = .ok (.iconst 0, 1) := by decide +kernel
theorem dX8_lost_2 : decode cX8_lost 2 = .ok (.putfield 149, 3) := by decide +kernel
theorem dX8_lost_5 : decode cX8_lost 5 = .ok (.aload_n 0, 1) := by decide +kernel
theorem dX8_lost_6 : decode cX8_lost 6 = .ok (.iload_n 1, 1) := by decide +kernel
theorem dX8_lost_7 : decode cX8_lost 7 = .ok (.invokevirtual 304, 3) := by decide +kernel
theorem dX8_lost_10 : decode cX8_lost 10 = .ok (.ifCond .eq 47, 3) := by decide +kernel
theorem dX8_lost_13 : decode cX8_lost 13 = .ok (.aload_n 0, 1) := by decide +kernel
theorem dX8_lost_14 : decode cX8_lost 14 = .ok (.iload_n 2, 1) := by decide +kernel
theorem dX8_lost_15 : decode cX8_lost 15 = .ok (.invokevirtual 304, 3) := by decide +kernel
theorem dX8_lost_18 : decode cX8_lost 18 = .ok (.ifCond .eq 39, 3) := by decide +kernel
theorem dX8_lost_21 : decode cX8_lost 21 = .ok (.iload 4, 2) := by decide +kernel
theorem dX8_lost_23 : decode cX8_lost 23 = .ok (.ifCond .lt 34, 3) := by decide +kernel
theorem dX8_lost_26 : decode cX8_lost 26 = .ok (.iload 4, 2) := by decide +kernel
theorem dX8_lost_28 : decode cX8_lost 28 = .ok (.iconst 1, 1) := by decide +kernel
theorem dX8_lost_29 : decode cX8_lost 29 = .ok (.if_icmp .gt 28, 3) := by decide +kernel
theorem dX8_lost_32 : decode cX8_lost 32 = .ok (.aload_n 0, 1) := by decide +kernel
theorem dX8_lost_33 : decode cX8_lost 33 = .ok (.iload_n 1, 1) := by decide +kernel
theorem dX8_lost_34 : decode cX8_lost 34 = .ok (.iload_n 2, 1) := by decide +kernel
theorem dX8_lost_35 : decode cX8_lost 35 = .ok (.invokevirtual 320, 3) := by decide +kernel
theorem dX8_lost_38 : decode cX8_lost 38 = .ok (.ifCond .eq 19, 3) := by decide +kernel
theorem dX8_lost_41 : decode cX8_lost 41 = .ok (.iload_n 3, 1) := by decide +kernel
theorem dX8_lost_42 : decode cX8_lost 42 = .ok (.iconst 0, 1) := by decide +kernel
theorem dX8_lost_43 : decode cX8_lost 43 = .ok (.aload_n 0, 1) := by decide +kernel
theorem dX8_lost_44 : decode cX8_lost 44 = .ok (.iload_n 1, 1) := by decide +kernel
theorem dX8_lost_45 : decode cX8_lost 45 = .ok (.iload_n 2, 1) := by decide +kernel
theorem dX8_lost_46 : decode cX8_lost 46 = .ok (.invokevirtual 323, 3) := by decide +kernel
theorem dX8_lost_49 : decode cX8_lost 49 = .ok (.iconst 1, 1) := by decide +kernel
theorem dX8_lost_50 : decode cX8_lost 50 = .ok (.isub, 1) := by decide +kernel
theorem dX8_lost_51 : decode cX8_lost 51 = .ok (.invokestatic 152, 3) := by decide +kernel
theorem dX8_lost_54 : decode cX8_lost 54 = .ok (.ifCond .ne 10, 3) := by decide +kernel
theorem dX8_lost_57 : decode cX8_lost 57 = .ok (.aload_n 0, 1) := by decide +kernel
theorem dX8_lost_58 : decode cX8_lost 58 = .ok (.iconst 1, 1) := by decide +kernel
theorem dX8_lost_59 : decode cX8_lost 59 = .ok (.invokevirtual 268, 3) := by decide +kernel
theorem dX8_lost_62 : decode cX8_lost 62 = .ok (.i2l, 1) := by decide +kernel
theorem dX8_lost_63 : decode cX8_lost 63 = .ok (.lreturn, 1) := by decide +kernel
theorem dX8_lost_64 : decode cX8_lost 64 = .ok (.aload_n 0, 1) := by decide +kernel
theorem dX8_lost_65 : decode cX8_lost 65 = .ok (.iload_n 1, 1) := by decide +kernel
theorem dX8_lost_66 : decode cX8_lost 66 = .ok (.iload_n 2, 1) := by decide +kernel
theorem dX8_lost_67 : decode cX8_lost 67 = .ok (.invokevirtual 323, 3) := by decide +kernel
theorem dX8_lost_70 : decode cX8_lost 70 = .ok (.istore 5, 2) := by decide +kernel
theorem dX8_lost_72 : decode cX8_lost 72 = .ok (.lconst 0, 1) := by decide +kernel
theorem dX8_lost_73 : decode cX8_lost 73 = .ok (.lstore 6, 2) := by decide +kernel
theorem dX8_lost_75 : decode cX8_lost 75 = .ok (.iconst 0, 1) := by decide +kernel
theorem dX8_lost_76 : decode cX8_lost 76 = .ok (.istore 8, 2) := by decide +kernel
theorem dX8_lost_78 : decode cX8_lost 78 = .ok (.iload 8, 2) := by decide +kernel
theorem dX8_lost_80 : decode cX8_lost 80 = .ok (.iload 5, 2) := by decide +kernel
theorem dX8_lost_82 : decode cX8_lost 82 = .ok (.if_icmp .ge 24, 3) := by decide +kernel
theorem dX8_lost_85 : decode cX8_lost 85 = .ok (.lload 6, 2) := by decide +kernel
theorem dX8_lost_87 : decode cX8_lost 87 = .ok (.aload_n 0, 1) := by decide +kernel
theorem dX8_lost_88 : decode cX8_lost 88 = .ok (.iload_n 1, 1) := by decide +kernel
theorem dX8_lost_89 : decode cX8_lost 89 = .ok (.iload_n 2, 1) := by decide +kernel
theorem dX8_lost_90 : decode cX8_lost 90 = .ok (.iload 8, 2) := by decide +kernel
theorem dX8_lost_92 : decode cX8_lost 92 = .ok (.iload 5, 2) := by decide +kernel
theorem dX8_lost_94 : decode cX8_lost 94 = .ok (.invokevirtual 338, 3) := by decide +kernel
theorem dX8_lost_97 : decode cX8_lost 97 = .ok (.ladd, 1) := by decide +kernel
theorem dX8_lost_98 : decode cX8_lost 98 = .ok (.lstore 6, 2) := by decide +kernel
theorem dX8_lost_100 : decode cX8_lost 100 = .ok (.iinc 8 1, 3) := by decide +kernel
theorem dX8_lost_103 : decode cX8_lost 103 = .ok (.goto (-25), 3) := by decide +kernel
theorem dX8_lost_106 : decode cX8_lost 106 = .ok (.aload_n 0, 1) := by decide +kernel
theorem dX8_lost_107 : decode cX8_lost 107 = .ok (.iload_n 1, 1) := by decide +kernel
theorem dX8_lost_108 : decode cX8_lost 108 = .ok (.iload_n 2, 1) := by decide +kernel
theorem dX8_lost_109 : decode cX8_lost 109 = .ok (.iload_n 3, 1) := by decide +kernel
theorem dX8_lost_110 : decode cX8_lost 110 = .ok (.iload 5, 2) := by decide +kernel
theorem dX8_lost_112 : decode cX8_lost 112 = .ok (.invokevirtual 338, 3) := by decide +kernel
theorem dX8_lost_115 : decode cX8_lost 115 = .ok (.lstore 8, 2) := by decide +kernel
theorem dX8_lost_117 : decode cX8_lost 117 = .ok (.lload 6, 2) := by decide +kernel
theorem dX8_lost_119 : decode cX8_lost 119 = .ok (.lconst 0, 1) := by decide +kernel
theorem dX8_lost_120 : decode cX8_lost 120 = .ok (.lcmp, 1) := by decide +kernel
theorem dX8_lost_121 : decode cX8_lost 121 = .ok (.ifCond .ne 7, 3) := by decide +kernel
theorem dX8_lost_124 : decode cX8_lost 124 = .ok (.lconst 1, 1) := by decide +kernel
theorem dX8_lost_125 : decode cX8_lost 125 = .ok (.goto 10, 3) := by decide +kernel
theorem dX8_lost_128 : decode cX8_lost 128 = .ok (.lload 6, 2) := by decide +kernel
theorem dX8_lost_130 : decode cX8_lost 130 = .ok (.lload 8, 2) := by decide +kernel
theorem dX8_lost_132 : decode cX8_lost 132 = .ok (.invokestatic 342, 3) := by decide +kernel
theorem dX8_lost_135 : decode cX8_lost 135 = .ok (.lstore 10, 2) := by decide +kernel
theorem dX8_lost_137 : decode cX8_lost 137 = .ok (.iload 4, 2) := by decide +kernel
theorem dX8_lost_139 : decode cX8_lost 139 = .ok (.ifCond .ne 11, 3) := by decide +kernel
theorem dX8_lost_142 : decode cX8_lost 142 = .ok (.lload 8, 2) := by decide +kernel
theorem dX8_lost_144 : decode cX8_lost 144 = .ok (.lload 10, 2) := by decide +kernel
theorem dX8_lost_146 : decode cX8_lost 146 = .ok (.ldiv, 1) := by decide +kernel
theorem dX8_lost_147 : decode cX8_lost 147 = .ok (.goto 19, 3) := by decide +kernel
theorem dX8_lost_150 : decode cX8_lost 150 = .ok (.lload 6, 2) := by decide +kernel
theorem dX8_lost_152 : decode cX8_lost 152 = .ok (.lconst 0, 1) := by decide +kernel
theorem dX8_lost_153 : decode cX8_lost 153 = .ok (.lcmp, 1) := by decide +kernel
theorem dX8_lost_154 : decode cX8_lost 154 = .ok (.ifCond .ne 7, 3) := by decide +kernel
theorem dX8_lost_157 : decode cX8_lost 157 = .ok (.lconst 1, 1) := by decide +kernel
theorem dX8_lost_158 : decode cX8_lost 158 = .ok (.goto 8, 3) := by decide +kernel
theorem dX8_lost_161 : decode cX8_lost 161 = .ok (.lload 6, 2) := by decide +kernel
theorem dX8_lost_163 : decode cX8_lost 163 = .ok (.lload 10, 2) := by decide +kernel
theorem dX8_lost_165 : decode cX8_lost 165 = .ok (.ldiv, 1) := by decide +kernel
theorem dX8_lost_166 : decode cX8_lost 166 = .ok (.lreturn, 1) := by decide +kernel
theorem dX8_standsFor_0 : decode cX8_standsFor 0 = .ok (.aload_n 0, 1) := by decide +kernel
theorem dX8_standsFor_1 : decode cX8_standsFor 1 = .ok (.getfield 45, 3) := by decide +kernel
theorem dX8_standsFor_4 : decode cX8_standsFor 4 = .ok (.iload_n 1, 1) := by decide +kernel
theorem dX8_standsFor_5 : decode cX8_standsFor 5 = .ok (.iaload, 1) := by decide +kernel
theorem dX8_standsFor_6 : decode cX8_standsFor 6 = .ok (.iload_n 2, 1) := by decide +kernel
theorem dX8_standsFor_7 : decode cX8_standsFor 7 = .ok (.if_icmp .ne 7, 3) := by decide +kernel
theorem dX8_standsFor_10 : decode cX8_standsFor 10 = .ok (.iconst 0, 1) := by decide +kernel
theorem dX8_standsFor_11 : decode cX8_standsFor 11 = .ok (.goto 19, 3) := by decide +kernel
theorem dX8_standsFor_14 : decode cX8_standsFor 14 = .ok (.aload_n 0, 1) := by decide +kernel
theorem dX8_standsFor_15 : decode cX8_standsFor 15 = .ok (.getfield 60, 3) := by decide +kernel
theorem dX8_standsFor_18 : decode cX8_standsFor 18 = .ok (.bipush 20, 2) := by decide +kernel
theorem dX8_standsFor_20 : decode cX8_standsFor 20 = .ok (.aload_n 0, 1) := by decide +kernel
theorem dX8_standsFor_21 : decode cX8_standsFor 21 = .ok (.getfield 45, 3) := by decide +kernel
theorem dX8_standsFor_24 : decode cX8_standsFor 24 = .ok (.iload_n 1, 1) := by decide +kernel
theorem dX8_standsFor_25 : decode cX8_standsFor 25 = .ok (.iaload, 1) := by decide +kernel
theorem dX8_standsFor_26 : decode cX8_standsFor 26 = .ok (.imul, 1) := by decide +kernel
theorem dX8_standsFor_27 : decode cX8_standsFor 27 = .ok (.iload_n 2, 1) := by decide +kernel
