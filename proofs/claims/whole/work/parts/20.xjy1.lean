theorem dX6_read_75 : decode cX6_read 75 = .ok (.aload_n 0, 1) := by decide +kernel
theorem dX6_read_76 : decode cX6_read 76 = .ok (.iload_n 3, 1) := by decide +kernel
theorem dX6_read_77 : decode cX6_read 77 = .ok (.iload 4, 2) := by decide +kernel
theorem dX6_read_79 : decode cX6_read 79 = .ok (.invokevirtual 80, 3) := by decide +kernel
theorem dX6_read_82 : decode cX6_read 82 = .ok (.aload_n 0, 1) := by decide +kernel
theorem dX6_read_83 : decode cX6_read 83 = .ok (.getfield 43, 3) := by decide +kernel
theorem dX6_read_86 : decode cX6_read 86 = .ok (.iload_n 3, 1) := by decide +kernel
theorem dX6_read_87 : decode cX6_read 87 = .ok (.iload 4, 2) := by decide +kernel
theorem dX6_read_89 : decode cX6_read 89 = .ok (.iadd, 1) := by decide +kernel
theorem dX6_read_90 : decode cX6_read 90 = .ok (.iconst 1, 1) := by decide +kernel
theorem dX6_read_91 : decode cX6_read 91 = .ok (.isub, 1) := by decide +kernel
theorem dX6_read_92 : decode cX6_read 92 = .ok (.invokevirtual 84, 3) := by decide +kernel
theorem dX6_read_95 : decode cX6_read 95 = .ok (.istore_n 2, 1) := by decide +kernel
theorem dX6_read_96 : decode cX6_read 96 = .ok (.iinc 3 1, 3) := by decide +kernel
theorem dX6_read_99 : decode cX6_read 99 = .ok (.goto (-67), 3) := by decide +kernel
theorem dX6_read_102 : decode cX6_read 102 = .ok (.return_, 1) := by decide +kernel
theorem dX6_mostWordsAt_0 : decode cX6_mostWordsAt 0 = .ok (.aload_n 0, 1) := by decide +kernel
theorem dX6_mostWordsAt_1 : decode cX6_mostWordsAt 1 = .ok (.getfield 30, 3) := by decide +kernel
theorem dX6_mostWordsAt_4 : decode cX6_mostWordsAt 4 = .ok (.invokevirtual 87, 3) := by decide +kernel
theorem dX6_mostWordsAt_7 : decode cX6_mostWordsAt 7 = .ok (.bipush 60, 2) := by decide +kernel
theorem dX6_mostWordsAt_9 : decode cX6_mostWordsAt 9 = .ok (.invokestatic 92, 3) := by decide +kernel
theorem dX6_mostWordsAt_12 : decode cX6_mostWordsAt 12 = .ok (.istore_n 3, 1) := by decide +kernel
theorem dX6_mostWordsAt_13 : decode cX6_mostWordsAt 13 = .ok (.iconst 0, 1) := by decide +kernel
theorem dX6_mostWordsAt_14 : decode cX6_mostWordsAt 14 = .ok (.istore 4, 2) := by decide +kernel
theorem dX6_mostWordsAt_16 : decode cX6_mostWordsAt 16 = .ok (.iconst 0, 1) := by decide +kernel
theorem dX6_mostWordsAt_17 : decode cX6_mostWordsAt 17 = .ok (.istore 5, 2) := by decide +kernel
theorem dX6_mostWordsAt_19 : decode cX6_mostWordsAt 19 = .ok (.iload 5, 2) := by decide +kernel
theorem dX6_mostWordsAt_21 : decode cX6_mostWordsAt 21 = .ok (.iload_n 3, 1) := by decide +kernel
theorem dX6_mostWordsAt_22 : decode cX6_mostWordsAt 22 = .ok (.if_icmp .ge 62, 3) := by decide +kernel
theorem dX6_mostWordsAt_25 : decode cX6_mostWordsAt 25 = .ok (.aload_n 0, 1) := by decide +kernel
theorem dX6_mostWordsAt_26 : decode cX6_mostWordsAt 26 = .ok (.getfield 30, 3) := by decide +kernel
theorem dX6_mostWordsAt_29 : decode cX6_mostWordsAt 29 = .ok (.iload 5, 2) := by decide +kernel
theorem dX6_mostWordsAt_31 : decode cX6_mostWordsAt 31 = .ok (.invokevirtual 98, 3) := by decide +kernel
theorem dX6_mostWordsAt_34 : decode cX6_mostWordsAt 34 = .ok (.astore 6, 2) := by decide +kernel
theorem dX6_mostWordsAt_36 : decode cX6_mostWordsAt 36 = .ok (.aload_n 0, 1) := by decide +kernel
theorem dX6_mostWordsAt_37 : decode cX6_mostWordsAt 37 = .ok (.getfield 9, 3) := by decide +kernel
theorem dX6_mostWordsAt_40 : decode cX6_mostWordsAt 40 = .ok (.iload 5, 2) := by decide +kernel
theorem dX6_mostWordsAt_42 : decode cX6_mostWordsAt 42 = .ok (.aload_n 0, 1) := by decide +kernel
theorem dX6_mostWordsAt_43 : decode cX6_mostWordsAt 43 = .ok (.getfield 30, 3) := by decide +kernel
theorem dX6_mostWordsAt_46 : decode cX6_mostWordsAt 46 = .ok (.aload_n 1, 1) := by decide +kernel
theorem dX6_mostWordsAt_47 : decode cX6_mostWordsAt 47 = .ok (.iload_n 2, 1) := by decide +kernel
theorem dX6_mostWordsAt_48 : decode cX6_mostWordsAt 48 = .ok (.aload 6, 2) := by decide +kernel
theorem dX6_mostWordsAt_50 : decode cX6_mostWordsAt 50 = .ok (.invokevirtual 102, 3) := by decide +kernel
theorem dX6_mostWordsAt_53 : decode cX6_mostWordsAt 53 = .ok (.iastore, 1) := by decide +kernel
theorem dX6_mostWordsAt_54 : decode cX6_mostWordsAt 54 = .ok (.aload_n 0, 1) := by decide +kernel
theorem dX6_mostWordsAt_55 : decode cX6_mostWordsAt 55 = .ok (.getfield 9, 3) := by decide +kernel
theorem dX6_mostWordsAt_58 : decode cX6_mostWordsAt 58 = .ok (.iload 5, 2) := by decide +kernel
theorem dX6_mostWordsAt_60 : decode cX6_mostWordsAt 60 = .ok (.iaload, 1) := by decide +kernel
theorem dX6_mostWordsAt_61 : decode cX6_mostWordsAt 61 = .ok (.bipush (-2), 2) := by decide +kernel
theorem dX6_mostWordsAt_63 : decode cX6_mostWordsAt 63 = .ok (.if_icmp .eq 15, 3) := by decide +kernel
theorem dX6_mostWordsAt_66 : decode cX6_mostWordsAt 66 = .ok (.iload 4, 2) := by decide +kernel
theorem dX6_mostWordsAt_68 : decode cX6_mostWordsAt 68 = .ok (.aload 6, 2) := by decide +kernel
theorem dX6_mostWordsAt_70 : decode cX6_mostWordsAt 70 = .ok (.getfield 106, 3) := by decide +kernel
theorem dX6_mostWordsAt_73 : decode cX6_mostWordsAt 73 = .ok (.invokestatic 110, 3) := by decide +kernel
theorem dX6_mostWordsAt_76 : decode cX6_mostWordsAt 76 = .ok (.istore 4, 2) := by decide +kernel
theorem dX6_mostWordsAt_78 : decode cX6_mostWordsAt 78 = .ok (.iinc 5 1, 3) := by decide +kernel
theorem dX6_mostWordsAt_81 : decode cX6_mostWordsAt 81 = .ok (.goto (-62), 3) := by decide +kernel
theorem dX6_mostWordsAt_84 : decode cX6_mostWordsAt 84 = .ok (.iconst 0, 1) := by decide +kernel
theorem dX6_mostWordsAt_85 : decode cX6_mostWordsAt 85 = .ok (.istore 5, 2) := by decide +kernel
theorem dX6_mostWordsAt_87 : decode cX6_mostWordsAt 87 = .ok (.iload 5, 2) := by decide +kernel
theorem dX6_mostWordsAt_89 : decode cX6_mostWordsAt 89 = .ok (.iload_n 3, 1) := by decide +kernel
theorem dX6_mostWordsAt_90 : decode cX6_mostWordsAt 90 = .ok (.if_icmp .ge 35, 3) := by decide +kernel
theorem dX6_mostWordsAt_93 : decode cX6_mostWordsAt 93 = .ok (.aload_n 0, 1) := by decide +kernel
theorem dX6_mostWordsAt_94 : decode cX6_mostWordsAt 94 = .ok (.getfield 30, 3) := by decide +kernel
theorem dX6_mostWordsAt_97 : decode cX6_mostWordsAt 97 = .ok (.iload 5, 2) := by decide +kernel
theorem dX6_mostWordsAt_99 : decode cX6_mostWordsAt 99 = .ok (.invokevirtual 98, 3) := by decide +kernel
theorem dX6_mostWordsAt_102 : decode cX6_mostWordsAt 102 = .ok (.getfield 106, 3) := by decide +kernel
theorem dX6_mostWordsAt_105 : decode cX6_mostWordsAt 105 = .ok (.iload 4, 2) := by decide +kernel
theorem dX6_mostWordsAt_107 : decode cX6_mostWordsAt 107 = .ok (.if_icmp .eq 12, 3) := by decide +kernel
theorem dX6_mostWordsAt_110 : decode cX6_mostWordsAt 110 = .ok (.aload_n 0, 1) := by decide +kernel
theorem dX6_mostWordsAt_111 : decode cX6_mostWordsAt 111 = .ok (.getfield 9, 3) := by decide +kernel
theorem dX6_mostWordsAt_114 : decode cX6_mostWordsAt 114 = .ok (.iload 5, 2) := by decide +kernel
theorem dX6_mostWordsAt_116 : decode cX6_mostWordsAt 116 = .ok (.bipush (-2), 2) := by decide +kernel
theorem dX6_mostWordsAt_118 : decode cX6_mostWordsAt 118 = .ok (.iastore, 1) := by decide +kernel
theorem dX6_mostWordsAt_119 : decode cX6_mostWordsAt 119 = .ok (.iinc 5 1, 3) := by decide +kernel
theorem dX6_mostWordsAt_122 : decode cX6_mostWordsAt 122 = .ok (.goto (-35), 3) := by decide +kernel
theorem dX6_mostWordsAt_125 : decode cX6_mostWordsAt 125 = .ok (.iload 4, 2) := by decide +kernel
theorem dX6_mostWordsAt_127 : decode cX6_mostWordsAt 127 = .ok (.ireturn, 1) := by decide +kernel
theorem dX6_keepUse_0 : decode cX6_keepUse 0 = .ok (.aload_n 0, 1) := by decide +kernel
theorem dX6_keepUse_1 : decode cX6_keepUse 1 = .ok (.getfield 47, 3) := by decide +kernel
theorem dX6_keepUse_4 : decode cX6_keepUse 4 = .ok (.sipush 300, 3) := by decide +kernel
theorem dX6_keepUse_7 : decode cX6_keepUse 7 = .ok (.if_icmp .lt 4, 3) := by decide +kernel
theorem dX6_keepUse_10 : decode cX6_keepUse 10 = .ok (.return_, 1) := by decide +kernel
theorem dX6_keepUse_11 : decode cX6_keepUse 11 = .ok (.iload_n 1, 1) := by decide +kernel
theorem dX6_keepUse_12 : decode cX6_keepUse 12 = .ok (.iload_n 2, 1) := by decide +kernel
theorem dX6_keepUse_13 : decode cX6_keepUse 13 = .ok (.iadd, 1) := by decide +kernel
theorem dX6_keepUse_14 : decode cX6_keepUse 14 = .ok (.iconst 1, 1) := by decide +kernel
theorem dX6_keepUse_15 : decode cX6_keepUse 15 = .ok (.isub, 1) := by decide +kernel
theorem dX6_keepUse_16 : decode cX6_keepUse 16 = .ok (.istore_n 3, 1) := by decide +kernel
theorem dX6_keepUse_17 : decode cX6_keepUse 17 = .ok (.aload_n 0, 1) := by decide +kernel
theorem dX6_keepUse_18 : decode cX6_keepUse 18 = .ok (.aload_n 0, 1) := by decide +kernel
theorem dX6_keepUse_19 : decode cX6_keepUse 19 = .ok (.iload_n 1, 1) := by decide +kernel
theorem dX6_keepUse_20 : decode cX6_keepUse 20 = .ok (.iload_n 3, 1) := by decide +kernel
theorem dX6_keepUse_21 : decode cX6_keepUse 21 = .ok (.invokevirtual 113, 3) := by decide +kernel
theorem dX6_keepUse_24 : decode cX6_keepUse 24 = .ok (.invokevirtual 116, 3) := by decide +kernel
theorem dX6_keepUse_27 : decode cX6_keepUse 27 = .ok (.istore 4, 2) := by decide +kernel
theorem dX6_keepUse_29 : decode cX6_keepUse 29 = .ok (.aload_n 0, 1) := by decide +kernel
theorem dX6_keepUse_30 : decode cX6_keepUse 30 = .ok (.getfield 15, 3) := by decide +kernel
theorem dX6_keepUse_33 : decode cX6_keepUse 33 = .ok (.aload_n 0, 1) := by decide +kernel
theorem dX6_keepUse_34 : decode cX6_keepUse 34 = .ok (.getfield 47, 3) := by decide +kernel
theorem dX6_keepUse_37 : decode cX6_keepUse 37 = .ok (.aload_n 0, 1) := by decide +kernel
theorem dX6_keepUse_38 : decode cX6_keepUse 38 = .ok (.getfield 43, 3) := by decide +kernel
theorem dX6_keepUse_41 : decode cX6_keepUse 41 = .ok (.iload_n 1, 1) := by decide +kernel
theorem dX6_keepUse_42 : decode cX6_keepUse 42 = .ok (.invokevirtual 72, 3) := by decide +kernel
theorem dX6_keepUse_45 : decode cX6_keepUse 45 = .ok (.iastore, 1) := by decide +kernel
theorem dX6_keepUse_46 : decode cX6_keepUse 46 = .ok (.aload_n 0, 1) := by decide +kernel
theorem dX6_keepUse_47 : decode cX6_keepUse 47 = .ok (.getfield 18, 3) := by decide +kernel
theorem dX6_keepUse_50 : decode cX6_keepUse 50 = .ok (.aload_n 0, 1) := by decide +kernel
theorem dX6_keepUse_51 : decode cX6_keepUse 51 = .ok (.getfield 47, 3) := by decide +kernel
theorem dX6_keepUse_54 : decode cX6_keepUse 54 = .ok (.aload_n 0, 1) := by decide +kernel
theorem dX6_keepUse_55 : decode cX6_keepUse 55 = .ok (.getfield 43, 3) := by decide +kernel
theorem dX6_keepUse_58 : decode cX6_keepUse 58 = .ok (.iload_n 3, 1) := by decide +kernel
theorem dX6_keepUse_59 : decode cX6_keepUse 59 = .ok (.invokevirtual 84, 3) := by decide +kernel
theorem dX6_keepUse_62 : decode cX6_keepUse 62 = .ok (.iastore, 1) := by decide +kernel
theorem dX6_keepUse_63 : decode cX6_keepUse 63 = .ok (.aload_n 0, 1) := by decide +kernel
theorem dX6_keepUse_64 : decode cX6_keepUse 64 = .ok (.getfield 21, 3) := by decide +kernel
theorem dX6_keepUse_67 : decode cX6_keepUse 67 = .ok (.aload_n 0, 1) := by decide +kernel
theorem dX6_keepUse_68 : decode cX6_keepUse 68 = .ok (.getfield 47, 3) := by decide +kernel
theorem dX6_keepUse_71 : decode cX6_keepUse 71 = .ok (.iload 4, 2) := by decide +kernel
theorem dX6_keepUse_73 : decode cX6_keepUse 73 = .ok (.iastore, 1) := by decide +kernel
theorem dX6_keepUse_74 : decode cX6_keepUse 74 = .ok (.aload_n 0, 1) := by decide +kernel
theorem dX6_keepUse_75 : decode cX6_keepUse 75 = .ok (.getfield 24, 3) := by decide +kernel
theorem dX6_keepUse_78 : decode cX6_keepUse 78 = .ok (.aload_n 0, 1) := by decide +kernel
theorem dX6_keepUse_79 : decode cX6_keepUse 79 = .ok (.getfield 47, 3) := by decide +kernel
theorem dX6_keepUse_82 : decode cX6_keepUse 82 = .ok (.iload 4, 2) := by decide +kernel
theorem dX6_keepUse_84 : decode cX6_keepUse 84 = .ok (.ifCond .lt 20, 3) := by decide +kernel
theorem dX6_keepUse_87 : decode cX6_keepUse 87 = .ok (.iload 4, 2) := by decide +kernel
theorem dX6_keepUse_89 : decode cX6_keepUse 89 = .ok (.bipush 60, 2) := by decide +kernel
theorem dX6_keepUse_91 : decode cX6_keepUse 91 = .ok (.if_icmp .ge 13, 3) := by decide +kernel
theorem dX6_keepUse_94 : decode cX6_keepUse 94 = .ok (.aload_n 0, 1) := by decide +kernel
theorem dX6_keepUse_95 : decode cX6_keepUse 95 = .ok (.getfield 9, 3) := by decide +kernel
theorem dX6_keepUse_98 : decode cX6_keepUse 98 = .ok (.iload 4, 2) := by decide +kernel
theorem dX6_keepUse_100 : decode cX6_keepUse 100 = .ok (.iaload, 1) := by decide +kernel
theorem dX6_keepUse_101 : decode cX6_keepUse 101 = .ok (.goto 4, 3) := by decide +kernel
theorem dX6_keepUse_104 : decode cX6_keepUse 104 = .ok (.iconst (-1), 1) := by decide +kernel
theorem dX6_keepUse_105 : decode cX6_keepUse 105 = .ok (.iastore, 1) := by decide +kernel
theorem dX6_keepUse_106 : decode cX6_keepUse 106 = .ok (.aload_n 0, 1) := by decide +kernel
theorem dX6_keepUse_107 : decode cX6_keepUse 107 = .ok (.getfield 27, 3) := by decide +kernel
theorem dX6_keepUse_110 : decode cX6_keepUse 110 = .ok (.aload_n 0, 1) := by decide +kernel
theorem dX6_keepUse_111 : decode cX6_keepUse 111 = .ok (.getfield 47, 3) := by decide +kernel
theorem dX6_keepUse_114 : decode cX6_keepUse 114 = .ok (.aload_n 0, 1) := by decide +kernel
theorem dX6_keepUse_115 : decode cX6_keepUse 115 = .ok (.iload 4, 2) := by decide +kernel
theorem dX6_keepUse_117 : decode cX6_keepUse 117 = .ok (.invokevirtual 119, 3) := by decide +kernel
theorem dX6_keepUse_120 : decode cX6_keepUse 120 = .ok (.iastore, 1) := by decide +kernel
theorem dX6_keepUse_121 : decode cX6_keepUse 121 = .ok (.aload_n 0, 1) := by decide +kernel
theorem dX6_keepUse_122 : decode cX6_keepUse 122 = .ok (.dup, 1) := by decide +kernel
theorem dX6_keepUse_123 : decode cX6_keepUse 123 = .ok (.getfield 47, 3) := by decide +kernel
theorem dX6_keepUse_126 : decode cX6_keepUse 126 = .ok (.iconst 1, 1) := by decide +kernel
theorem dX6_keepUse_127 : decode cX6_keepUse 127 = .ok (.iadd, 1) := by decide +kernel
theorem dX6_keepUse_128 : decode cX6_keepUse 128 = .ok (.putfield 47, 3) := by decide +kernel
theorem dX6_keepUse_131 : decode cX6_keepUse 131 = .ok (.aload_n 0, 1) := by decide +kernel
theorem dX6_keepUse_132 : decode cX6_keepUse 132 = .ok (.iload 4, 2) := by decide +kernel
theorem dX6_keepUse_134 : decode cX6_keepUse 134 = .ok (.invokevirtual 122, 3) := by decide +kernel
theorem dX6_keepUse_137 : decode cX6_keepUse 137 = .ok (.return_, 1) := by decide +kernel
theorem dX6_thingMeant_0 : decode cX6_thingMeant 0 = .ok (.aload_n 0, 1) := by decide +kernel
theorem dX6_thingMeant_1 : decode cX6_thingMeant 1 = .ok (.invokevirtual 126, 3) := by decide +kernel
theorem dX6_thingMeant_4 : decode cX6_thingMeant 4 = .ok (.lstore_n 3, 1) := by decide +kernel
theorem dX6_thingMeant_5 : decode cX6_thingMeant 5 = .ok (.iconst (-1), 1) := by decide +kernel
theorem dX6_thingMeant_6 : decode cX6_thingMeant 6 = .ok (.istore 5, 2) := by decide +kernel
theorem dX6_thingMeant_8 : decode cX6_thingMeant 8 = .ok (.iconst (-1), 1) := by decide +kernel
theorem dX6_thingMeant_9 : decode cX6_thingMeant 9 = .ok (.istore 6, 2) := by decide +kernel
theorem dX6_thingMeant_11 : decode cX6_thingMeant 11 = .ok (.iconst 0, 1) := by decide +kernel
theorem dX6_thingMeant_12 : decode cX6_thingMeant 12 = .ok (.istore 7, 2) := by decide +kernel
theorem dX6_thingMeant_14 : decode cX6_thingMeant 14 = .ok (.iload 7, 2) := by decide +kernel
theorem dX6_thingMeant_16 : decode cX6_thingMeant 16 = .ok (.bipush 40, 2) := by decide +kernel
theorem dX6_thingMeant_18 : decode cX6_thingMeant 18 = .ok (.if_icmp .ge 61, 3) := by decide +kernel
theorem dX6_thingMeant_21 : decode cX6_thingMeant 21 = .ok (.lload_n 3, 1) := by decide +kernel
theorem dX6_thingMeant_22 : decode cX6_thingMeant 22 = .ok (.iload 7, 2) := by decide +kernel
theorem dX6_thingMeant_24 : decode cX6_thingMeant 24 = .ok (.lshr, 1) := by decide +kernel
theorem dX6_thingMeant_25 : decode cX6_thingMeant 25 = .ok (.lconst 1, 1) := by decide +kernel
theorem dX6_thingMeant_26 : decode cX6_thingMeant 26 = .ok (.land, 1) := by decide +kernel
theorem dX6_thingMeant_27 : decode cX6_thingMeant 27 = .ok (.lconst 0, 1) := by decide +kernel
theorem dX6_thingMeant_28 : decode cX6_thingMeant 28 = .ok (.lcmp, 1) := by decide +kernel
theorem dX6_thingMeant_29 : decode cX6_thingMeant 29 = .ok (.ifCond .eq 44, 3) := by decide +kernel
theorem dX6_thingMeant_32 : decode cX6_thingMeant 32 = .ok (.aload_n 0, 1) := by decide +kernel
theorem dX6_thingMeant_33 : decode cX6_thingMeant 33 = .ok (.getfield 43, 3) := by decide +kernel
theorem dX6_thingMeant_36 : decode cX6_thingMeant 36 = .ok (.iload 7, 2) := by decide +kernel
theorem dX6_thingMeant_38 : decode cX6_thingMeant 38 = .ok (.iload_n 1, 1) := by decide +kernel
theorem dX6_thingMeant_39 : decode cX6_thingMeant 39 = .ok (.iload_n 2, 1) := by decide +kernel
theorem dX6_thingMeant_40 : decode cX6_thingMeant 40 = .ok (.invokevirtual 130, 3) := by decide +kernel
theorem dX6_thingMeant_43 : decode cX6_thingMeant 43 = .ok (.istore 8, 2) := by decide +kernel
theorem dX6_thingMeant_45 : decode cX6_thingMeant 45 = .ok (.iload 8, 2) := by decide +kernel
theorem dX6_thingMeant_47 : decode cX6_thingMeant 47 = .ok (.iload 6, 2) := by decide +kernel
theorem dX6_thingMeant_49 : decode cX6_thingMeant 49 = .ok (.if_icmp .le 14, 3) := by decide +kernel
theorem dX6_thingMeant_52 : decode cX6_thingMeant 52 = .ok (.iload 8, 2) := by decide +kernel
theorem dX6_thingMeant_54 : decode cX6_thingMeant 54 = .ok (.istore 6, 2) := by decide +kernel
theorem dX6_thingMeant_56 : decode cX6_thingMeant 56 = .ok (.iload 7, 2) := by decide +kernel
theorem dX6_thingMeant_58 : decode cX6_thingMeant 58 = .ok (.istore 5, 2) := by decide +kernel
theorem dX6_thingMeant_60 : decode cX6_thingMeant 60 = .ok (.goto 13, 3) := by decide +kernel
theorem dX6_thingMeant_63 : decode cX6_thingMeant 63 = .ok (.iload 8, 2) := by decide +kernel
theorem dX6_thingMeant_65 : decode cX6_thingMeant 65 = .ok (.iload 6, 2) := by decide +kernel
theorem dX6_thingMeant_67 : decode cX6_thingMeant 67 = .ok (.if_icmp .ne 6, 3) := by decide +kernel
theorem dX6_thingMeant_70 : decode cX6_thingMeant 70 = .ok (.iconst (-1), 1) := by decide +kernel
theorem dX6_thingMeant_71 : decode cX6_thingMeant 71 = .ok (.istore 5, 2) := by decide +kernel
theorem dX6_thingMeant_73 : decode cX6_thingMeant 73 = .ok (.iinc 7 1, 3) := by decide +kernel
theorem dX6_thingMeant_76 : decode cX6_thingMeant 76 = .ok (.goto (-62), 3) := by decide +kernel
theorem dX6_thingMeant_79 : decode cX6_thingMeant 79 = .ok (.iload 5, 2) := by decide +kernel
theorem dX6_thingMeant_81 : decode cX6_thingMeant 81 = .ok (.ireturn, 1) := by decide +kernel
theorem dX6_thingsPossible_0 : decode cX6_thingsPossible 0 = .ok (.aload_n 0, 1) := by decide +kernel
theorem dX6_thingsPossible_1 : decode cX6_thingsPossible 1 = .ok (.getfield 30, 3) := by decide +kernel
theorem dX6_thingsPossible_4 : decode cX6_thingsPossible 4 = .ok (.invokevirtual 87, 3) := by decide +kernel
theorem dX6_thingsPossible_7 : decode cX6_thingsPossible 7 = .ok (.bipush 60, 2) := by decide +kernel
theorem dX6_thingsPossible_9 : decode cX6_thingsPossible 9 = .ok (.invokestatic 92, 3) := by decide +kernel
theorem dX6_thingsPossible_12 : decode cX6_thingsPossible 12 = .ok (.istore_n 1, 1) := by decide +kernel
theorem dX6_thingsPossible_13 : decode cX6_thingsPossible 13 = .ok (.lconst 0, 1) := by decide +kernel
theorem dX6_thingsPossible_14 : decode cX6_thingsPossible 14 = .ok (.lstore_n 2, 1) := by decide +kernel
theorem dX6_thingsPossible_15 : decode cX6_thingsPossible 15 = .ok (.iconst 0, 1) := by decide +kernel
theorem dX6_thingsPossible_16 : decode cX6_thingsPossible 16 = .ok (.istore 4, 2) := by decide +kernel
theorem dX6_thingsPossible_18 : decode cX6_thingsPossible 18 = .ok (.iload 4, 2) := by decide +kernel
theorem dX6_thingsPossible_20 : decode cX6_thingsPossible 20 = .ok (.iload_n 1, 1) := by decide +kernel
theorem dX6_thingsPossible_21 : decode cX6_thingsPossible 21 = .ok (.if_icmp .ge 38, 3) := by decide +kernel
theorem dX6_thingsPossible_24 : decode cX6_thingsPossible 24 = .ok (.aload_n 0, 1) := by decide +kernel
theorem dX6_thingsPossible_25 : decode cX6_thingsPossible 25 = .ok (.getfield 9, 3) := by decide +kernel
theorem dX6_thingsPossible_28 : decode cX6_thingsPossible 28 = .ok (.iload 4, 2) := by decide +kernel
theorem dX6_thingsPossible_30 : decode cX6_thingsPossible 30 = .ok (.iaload, 1) := by decide +kernel
theorem dX6_thingsPossible_31 : decode cX6_thingsPossible 31 = .ok (.bipush (-2), 2) := by decide +kernel
theorem dX6_thingsPossible_33 : decode cX6_thingsPossible 33 = .ok (.if_icmp .eq 20, 3) := by decide +kernel
theorem dX6_thingsPossible_36 : decode cX6_thingsPossible 36 = .ok (.lload_n 2, 1) := by decide +kernel
theorem dX6_thingsPossible_37 : decode cX6_thingsPossible 37 = .ok (.lconst 1, 1) := by decide +kernel
theorem dX6_thingsPossible_38 : decode cX6_thingsPossible 38 = .ok (.aload_n 0, 1) := by decide +kernel
theorem dX6_thingsPossible_39 : decode cX6_thingsPossible 39 = .ok (.getfield 30, 3) := by decide +kernel
theorem dX6_thingsPossible_42 : decode cX6_thingsPossible 42 = .ok (.iload 4, 2) := by decide +kernel
theorem dX6_thingsPossible_44 : decode cX6_thingsPossible 44 = .ok (.invokevirtual 98, 3) := by decide +kernel
theorem dX6_thingsPossible_47 : decode cX6_thingsPossible 47 = .ok (.getfield 134, 3) := by decide +kernel
theorem dX6_thingsPossible_50 : decode cX6_thingsPossible 50 = .ok (.lshl, 1) := by decide +kernel
theorem dX6_thingsPossible_51 : decode cX6_thingsPossible 51 = .ok (.lor, 1) := by decide +kernel
theorem dX6_thingsPossible_52 : decode cX6_thingsPossible 52 = .ok (.lstore_n 2, 1) := by decide +kernel
theorem dX6_thingsPossible_53 : decode cX6_thingsPossible 53 = .ok (.iinc 4 1, 3) := by decide +kernel
theorem dX6_thingsPossible_56 : decode cX6_thingsPossible 56 = .ok (.goto (-38), 3) := by decide +kernel
theorem dX6_thingsPossible_59 : decode cX6_thingsPossible 59 = .ok (.lload_n 2, 1) := by decide +kernel
theorem dX6_thingsPossible_60 : decode cX6_thingsPossible 60 = .ok (.lreturn, 1) := by decide +kernel
theorem dX6_leastTermOf_0 : decode cX6_leastTermOf 0 = .ok (.aload_n 0, 1) := by decide +kernel
theorem dX6_leastTermOf_1 : decode cX6_leastTermOf 1 = .ok (.getfield 30, 3) := by decide +kernel
theorem dX6_leastTermOf_4 : decode cX6_leastTermOf 4 = .ok (.invokevirtual 87, 3) := by decide +kernel
theorem dX6_leastTermOf_7 : decode cX6_leastTermOf 7 = .ok (.bipush 60, 2) := by decide +kernel
theorem dX6_leastTermOf_9 : decode cX6_leastTermOf 9 = .ok (.invokestatic 92, 3) := by decide +kernel
theorem dX6_leastTermOf_12 : decode cX6_leastTermOf 12 = .ok (.istore_n 2, 1) := by decide +kernel
theorem dX6_leastTermOf_13 : decode cX6_leastTermOf 13 = .ok (.iconst 0, 1) := by decide +kernel
theorem dX6_leastTermOf_14 : decode cX6_leastTermOf 14 = .ok (.istore_n 3, 1) := by decide +kernel
theorem dX6_leastTermOf_15 : decode cX6_leastTermOf 15 = .ok (.iload_n 3, 1) := by decide +kernel
theorem dX6_leastTermOf_16 : decode cX6_leastTermOf 16 = .ok (.iload_n 2, 1) := by decide +kernel
theorem dX6_leastTermOf_17 : decode cX6_leastTermOf 17 = .ok (.if_icmp .ge 37, 3) := by decide +kernel
theorem dX6_leastTermOf_20 : decode cX6_leastTermOf 20 = .ok (.aload_n 0, 1) := by decide +kernel
theorem dX6_leastTermOf_21 : decode cX6_leastTermOf 21 = .ok (.getfield 9, 3) := by decide +kernel
theorem dX6_leastTermOf_24 : decode cX6_leastTermOf 24 = .ok (.iload_n 3, 1) := by decide +kernel
theorem dX6_leastTermOf_25 : decode cX6_leastTermOf 25 = .ok (.iaload, 1) := by decide +kernel
theorem dX6_leastTermOf_26 : decode cX6_leastTermOf 26 = .ok (.bipush (-2), 2) := by decide +kernel
theorem dX6_leastTermOf_28 : decode cX6_leastTermOf 28 = .ok (.if_icmp .eq 20, 3) := by decide +kernel
theorem dX6_leastTermOf_31 : decode cX6_leastTermOf 31 = .ok (.aload_n 0, 1) := by decide +kernel
theorem dX6_leastTermOf_32 : decode cX6_leastTermOf 32 = .ok (.getfield 30, 3) := by decide +kernel
theorem dX6_leastTermOf_35 : decode cX6_leastTermOf 35 = .ok (.iload_n 3, 1) := by decide +kernel
theorem dX6_leastTermOf_36 : decode cX6_leastTermOf 36 = .ok (.invokevirtual 98, 3) := by decide +kernel
theorem dX6_leastTermOf_39 : decode cX6_leastTermOf 39 = .ok (.getfield 134, 3) := by decide +kernel
theorem dX6_leastTermOf_42 : decode cX6_leastTermOf 42 = .ok (.iload_n 1, 1) := by decide +kernel
theorem dX6_leastTermOf_43 : decode cX6_leastTermOf 43 = .ok (.if_icmp .ne 5, 3) := by decide +kernel
theorem dX6_leastTermOf_46 : decode cX6_leastTermOf 46 = .ok (.iload_n 3, 1) := by decide +kernel
theorem dX6_leastTermOf_47 : decode cX6_leastTermOf 47 = .ok (.ireturn, 1) := by decide +kernel
theorem dX6_leastTermOf_48 : decode cX6_leastTermOf 48 = .ok (.iinc 3 1, 3) := by decide +kernel
theorem dX6_leastTermOf_51 : decode cX6_leastTermOf 51 = .ok (.goto (-36), 3) := by decide +kernel
theorem dX6_leastTermOf_54 : decode cX6_leastTermOf 54 = .ok (.iconst (-1), 1) := by decide +kernel
theorem dX6_leastTermOf_55 : decode cX6_leastTermOf 55 = .ok (.ireturn, 1) := by decide +kernel
theorem dX6_findingNow_0 : decode cX6_findingNow 0 = .ok (.aload_n 0, 1) := by decide +kernel
theorem dX6_findingNow_1 : decode cX6_findingNow 1 = .ok (.getfield 30, 3) := by decide +kernel
theorem dX6_findingNow_4 : decode cX6_findingNow 4 = .ok (.iload_n 1, 1) := by decide +kernel
theorem dX6_findingNow_5 : decode cX6_findingNow 5 = .ok (.invokevirtual 137, 3) := by decide +kernel
theorem dX6_findingNow_8 : decode cX6_findingNow 8 = .ok (.ifCond .ne 5, 3) := by decide +kernel
theorem dX6_findingNow_11 : decode cX6_findingNow 11 = .ok (.iconst 1, 1) := by decide +kernel
theorem dX6_findingNow_12 : decode cX6_findingNow 12 = .ok (.ireturn, 1) := by decide +kernel
theorem dX6_findingNow_13 : decode cX6_findingNow 13 = .ok (.aload_n 0, 1) := by decide +kernel
theorem dX6_findingNow_14 : decode cX6_findingNow 14 = .ok (.getfield 30, 3) := by decide +kernel
theorem dX6_findingNow_17 : decode cX6_findingNow 17 = .ok (.iload_n 1, 1) := by decide +kernel
theorem dX6_findingNow_18 : decode cX6_findingNow 18 = .ok (.invokevirtual 98, 3) := by decide +kernel
theorem dX6_findingNow_21 : decode cX6_findingNow 21 = .ok (.astore_n 2, 1) := by decide +kernel
theorem dX6_findingNow_22 : decode cX6_findingNow 22 = .ok (.aload_n 2, 1) := by decide +kernel
theorem dX6_findingNow_23 : decode cX6_findingNow 23 = .ok (.getfield 140, 3) := by decide +kernel
theorem dX6_findingNow_26 : decode cX6_findingNow 26 = .ok (.iconst 1, 1) := by decide +kernel
theorem dX6_findingNow_27 : decode cX6_findingNow 27 = .ok (.if_icmp .ne 5, 3) := by decide +kernel
theorem dX6_findingNow_30 : decode cX6_findingNow 30 = .ok (.iconst 2, 1) := by decide +kernel
theorem dX6_findingNow_31 : decode cX6_findingNow 31 = .ok (.ireturn, 1) := by decide +kernel
theorem dX6_findingNow_32 : decode cX6_findingNow 32 = .ok (.aload_n 2, 1) := by decide +kernel
theorem dX6_findingNow_33 : decode cX6_findingNow 33 = .ok (.getfield 140, 3) := by decide +kernel
theorem dX6_findingNow_36 : decode cX6_findingNow 36 = .ok (.iconst 2, 1) := by decide +kernel
theorem dX6_findingNow_37 : decode cX6_findingNow 37 = .ok (.if_icmp .ne 21, 3) := by decide +kernel
theorem dX6_findingNow_40 : decode cX6_findingNow 40 = .ok (.aload_n 0, 1) := by decide +kernel
theorem dX6_findingNow_41 : decode cX6_findingNow 41 = .ok (.getfield 66, 3) := by decide +kernel
theorem dX6_findingNow_44 : decode cX6_findingNow 44 = .ok (.aload_n 2, 1) := by decide +kernel
theorem dX6_findingNow_45 : decode cX6_findingNow 45 = .ok (.getfield 134, 3) := by decide +kernel
theorem dX6_findingNow_48 : decode cX6_findingNow 48 = .ok (.lshr, 1) := by decide +kernel
theorem dX6_findingNow_49 : decode cX6_findingNow 49 = .ok (.lconst 1, 1) := by decide +kernel
theorem dX6_findingNow_50 : decode cX6_findingNow 50 = .ok (.land, 1) := by decide +kernel
theorem dX6_findingNow_51 : decode cX6_findingNow 51 = .ok (.lconst 0, 1) := by decide +kernel
theorem dX6_findingNow_52 : decode cX6_findingNow 52 = .ok (.lcmp, 1) := by decide +kernel
theorem dX6_findingNow_53 : decode cX6_findingNow 53 = .ok (.ifCond .ne 5, 3) := by decide +kernel
theorem dX6_findingNow_56 : decode cX6_findingNow 56 = .ok (.iconst 3, 1) := by decide +kernel
theorem dX6_findingNow_57 : decode cX6_findingNow 57 = .ok (.ireturn, 1) := by decide +kernel
theorem dX6_findingNow_58 : decode cX6_findingNow 58 = .ok (.aload_n 0, 1) := by decide +kernel
theorem dX6_findingNow_59 : decode cX6_findingNow 59 = .ok (.getfield 34, 3) := by decide +kernel
theorem dX6_findingNow_62 : decode cX6_findingNow 62 = .ok (.aload_n 2, 1) := by decide +kernel
theorem dX6_findingNow_63 : decode cX6_findingNow 63 = .ok (.getfield 134, 3) := by decide +kernel
theorem dX6_findingNow_66 : decode cX6_findingNow 66 = .ok (.aload_n 0, 1) := by decide +kernel
theorem dX6_findingNow_67 : decode cX6_findingNow 67 = .ok (.getfield 59, 3) := by decide +kernel
theorem dX6_findingNow_70 : decode cX6_findingNow 70 = .ok (.invokevirtual 143, 3) := by decide +kernel
theorem dX6_findingNow_73 : decode cX6_findingNow 73 = .ok (.ifCond .eq 7, 3) := by decide +kernel
theorem dX6_findingNow_76 : decode cX6_findingNow 76 = .ok (.iconst 0, 1) := by decide +kernel
theorem dX6_findingNow_77 : decode cX6_findingNow 77 = .ok (.goto 4, 3) := by decide +kernel
theorem dX6_findingNow_80 : decode cX6_findingNow 80 = .ok (.iconst 4, 1) := by decide +kernel
theorem dX6_findingNow_81 : decode cX6_findingNow 81 = .ok (.ireturn, 1) := by decide +kernel
theorem dX6_see_0 : decode cX6_see 0 = .ok (.aload_n 0, 1) := by decide +kernel
theorem dX6_see_1 : decode cX6_see 1 = .ok (.getfield 30, 3) := by decide +kernel
theorem dX6_see_4 : decode cX6_see 4 = .ok (.iload_n 1, 1) := by decide +kernel
theorem dX6_see_5 : decode cX6_see 5 = .ok (.invokevirtual 137, 3) := by decide +kernel
theorem dX6_see_8 : decode cX6_see 8 = .ok (.ifCond .ne 4, 3) := by decide +kernel
theorem dX6_see_11 : decode cX6_see 11 = .ok (.return_, 1) := by decide +kernel
theorem dX6_see_12 : decode cX6_see 12 = .ok (.aload_n 0, 1) := by decide +kernel
theorem dX6_see_13 : decode cX6_see 13 = .ok (.getfield 30, 3) := by decide +kernel
theorem dX6_see_16 : decode cX6_see 16 = .ok (.iload_n 1, 1) := by decide +kernel
theorem dX6_see_17 : decode cX6_see 17 = .ok (.invokevirtual 98, 3) := by decide +kernel
theorem dX6_see_20 : decode cX6_see 20 = .ok (.astore_n 2, 1) := by decide +kernel
theorem dX6_see_21 : decode cX6_see 21 = .ok (.aload_n 0, 1) := by decide +kernel
theorem dX6_see_22 : decode cX6_see 22 = .ok (.dup, 1) := by decide +kernel
theorem dX6_see_23 : decode cX6_see 23 = .ok (.getfield 55, 3) := by decide +kernel
theorem dX6_see_26 : decode cX6_see 26 = .ok (.lconst 1, 1) := by decide +kernel
theorem dX6_see_27 : decode cX6_see 27 = .ok (.iload_n 1, 1) := by decide +kernel
theorem dX6_see_28 : decode cX6_see 28 = .ok (.lshl, 1) := by decide +kernel
theorem dX6_see_29 : decode cX6_see 29 = .ok (.lor, 1) := by decide +kernel
theorem dX6_see_30 : decode cX6_see 30 = .ok (.putfield 55, 3) := by decide +kernel
theorem dX6_see_33 : decode cX6_see 33 = .ok (.aload_n 0, 1) := by decide +kernel
theorem dX6_see_34 : decode cX6_see 34 = .ok (.dup, 1) := by decide +kernel
theorem dX6_see_35 : decode cX6_see 35 = .ok (.getfield 59, 3) := by decide +kernel
theorem dX6_see_38 : decode cX6_see 38 = .ok (.lconst 1, 1) := by decide +kernel
theorem dX6_see_39 : decode cX6_see 39 = .ok (.aload_n 2, 1) := by decide +kernel
theorem dX6_see_40 : decode cX6_see 40 = .ok (.getfield 134, 3) := by decide +kernel
theorem dX6_see_43 : decode cX6_see 43 = .ok (.lshl, 1) := by decide +kernel
theorem dX6_see_44 : decode cX6_see 44 = .ok (.lor, 1) := by decide +kernel
theorem dX6_see_45 : decode cX6_see 45 = .ok (.putfield 59, 3) := by decide +kernel
theorem dX6_see_48 : decode cX6_see 48 = .ok (.aload_n 2, 1) := by decide +kernel
theorem dX6_see_49 : decode cX6_see 49 = .ok (.getfield 140, 3) := by decide +kernel
theorem dX6_see_52 : decode cX6_see 52 = .ok (.ifCond .ne 18, 3) := by decide +kernel
theorem dX6_see_55 : decode cX6_see 55 = .ok (.aload_n 0, 1) := by decide +kernel
theorem dX6_see_56 : decode cX6_see 56 = .ok (.dup, 1) := by decide +kernel
theorem dX6_see_57 : decode cX6_see 57 = .ok (.getfield 66, 3) := by decide +kernel
theorem dX6_see_60 : decode cX6_see 60 = .ok (.lconst 1, 1) := by decide +kernel
theorem dX6_see_61 : decode cX6_see 61 = .ok (.aload_n 2, 1) := by decide +kernel
theorem dX6_see_62 : decode cX6_see 62 = .ok (.getfield 134, 3) := by decide +kernel
theorem dX6_see_65 : decode cX6_see 65 = .ok (.lshl, 1) := by decide +kernel
theorem dX6_see_66 : decode cX6_see 66 = .ok (.lor, 1) := by decide +kernel
theorem dX6_see_67 : decode cX6_see 67 = .ok (.putfield 66, 3) := by decide +kernel
theorem dX6_see_70 : decode cX6_see 70 = .ok (.return_, 1) := by decide +kernel
theorem dX7_init_0 : decode cX7_init 0 = .ok (.aload_n 0, 1) := by decide +kernel
theorem dX7_init_1 : decode cX7_init 1 = .ok (.invokespecial 3, 3) := by decide +kernel
theorem dX7_init_4 : decode cX7_init 4 = .ok (.aload_n 0, 1) := by decide +kernel
theorem dX7_init_5 : decode cX7_init 5 = .ok (.sipush 300, 3) := by decide +kernel
theorem dX7_init_8 : decode cX7_init 8 = .ok (.newarray .int, 2) := by decide +kernel
theorem dX7_init_10 : decode cX7_init 10 = .ok (.putfield 11, 3) := by decide +kernel
theorem dX7_init_13 : decode cX7_init 13 = .ok (.aload_n 0, 1) := by decide +kernel
theorem dX7_init_14 : decode cX7_init 14 = .ok (.sipush 300, 3) := by decide +kernel
theorem dX7_init_17 : decode cX7_init 17 = .ok (.newarray .int, 2) := by decide +kernel
theorem dX7_init_19 : decode cX7_init 19 = .ok (.putfield 15, 3) := by decide +kernel
theorem dX7_init_22 : decode cX7_init 22 = .ok (.aload_n 0, 1) := by decide +kernel
theorem dX7_init_23 : decode cX7_init 23 = .ok (.sipush 300, 3) := by decide +kernel
theorem dX7_init_26 : decode cX7_init 26 = .ok (.newarray .int, 2) := by decide +kernel
theorem dX7_init_28 : decode cX7_init 28 = .ok (.putfield 18, 3) := by decide +kernel
theorem dX7_init_31 : decode cX7_init 31 = .ok (.aload_n 0, 1) := by decide +kernel
theorem dX7_init_32 : decode cX7_init 32 = .ok (.sipush 300, 3) := by decide +kernel
theorem dX7_init_35 : decode cX7_init 35 = .ok (.newarray .long, 2) := by decide +kernel
theorem dX7_init_37 : decode cX7_init 37 = .ok (.putfield 21, 3) := by decide +kernel
theorem dX7_init_40 : decode cX7_init 40 = .ok (.aload_n 0, 1) := by decide +kernel
theorem dX7_init_41 : decode cX7_init 41 = .ok (.bipush 40, 2) := by decide +kernel
theorem dX7_init_43 : decode cX7_init 43 = .ok (.newarray .int, 2) := by decide +kernel
theorem dX7_init_45 : decode cX7_init 45 = .ok (.putfield 25, 3) := by decide +kernel
theorem dX7_init_48 : decode cX7_init 48 = .ok (.aload_n 0, 1) := by decide +kernel
theorem dX7_init_49 : decode cX7_init 49 = .ok (.aload_n 1, 1) := by decide +kernel
theorem dX7_init_50 : decode cX7_init 50 = .ok (.putfield 28, 3) := by decide +kernel
theorem dX7_init_53 : decode cX7_init 53 = .ok (.return_, 1) := by decide +kernel
theorem dX7_size_0 : decode cX7_size 0 = .ok (.aload_n 0, 1) := by decide +kernel
theorem dX7_size_1 : decode cX7_size 1 = .ok (.getfield 32, 3) := by decide +kernel
theorem dX7_size_4 : decode cX7_size 4 = .ok (.ireturn, 1) := by decide +kernel
theorem dX7_beginOf_0 : decode cX7_beginOf 0 = .ok (.iload_n 1, 1) := by decide +kernel
theorem dX7_beginOf_1 : decode cX7_beginOf 1 = .ok (.ifCond .lt 20, 3) := by decide +kernel
theorem dX7_beginOf_4 : decode cX7_beginOf 4 = .ok (.iload_n 1, 1) := by decide +kernel
theorem dX7_beginOf_5 : decode cX7_beginOf 5 = .ok (.aload_n 0, 1) := by decide +kernel
theorem dX7_beginOf_6 : decode cX7_beginOf 6 = .ok (.getfield 32, 3) := by decide +kernel
theorem dX7_beginOf_9 : decode cX7_beginOf 9 = .ok (.if_icmp .ge 12, 3) := by decide +kernel
theorem dX7_beginOf_12 : decode cX7_beginOf 12 = .ok (.aload_n 0, 1) := by decide +kernel
theorem dX7_beginOf_13 : decode cX7_beginOf 13 = .ok (.getfield 11, 3) := by decide +kernel
theorem dX7_beginOf_16 : decode cX7_beginOf 16 = .ok (.iload_n 1, 1) := by decide +kernel
theorem dX7_beginOf_17 : decode cX7_beginOf 17 = .ok (.iaload, 1) := by decide +kernel
theorem dX7_beginOf_18 : decode cX7_beginOf 18 = .ok (.goto 4, 3) := by decide +kernel
theorem dX7_beginOf_21 : decode cX7_beginOf 21 = .ok (.iconst (-1), 1) := by decide +kernel
theorem dX7_beginOf_22 : decode cX7_beginOf 22 = .ok (.ireturn, 1) := by decide +kernel
theorem dX7_endOf_0 : decode cX7_endOf 0 = .ok (.iload_n 1, 1) := by decide +kernel
theorem dX7_endOf_1 : decode cX7_endOf 1 = .ok (.ifCond .lt 20, 3) := by decide +kernel
theorem dX7_endOf_4 : decode cX7_endOf 4 = .ok (.iload_n 1, 1) := by decide +kernel
theorem dX7_endOf_5 : decode cX7_endOf 5 = .ok (.aload_n 0, 1) := by decide +kernel
theorem dX7_endOf_6 : decode cX7_endOf 6 = .ok (.getfield 32, 3) := by decide +kernel
theorem dX7_endOf_9 : decode cX7_endOf 9 = .ok (.if_icmp .ge 12, 3) := by decide +kernel
theorem dX7_endOf_12 : decode cX7_endOf 12 = .ok (.aload_n 0, 1) := by decide +kernel
theorem dX7_endOf_13 : decode cX7_endOf 13 = .ok (.getfield 15, 3) := by decide +kernel
theorem dX7_endOf_16 : decode cX7_endOf 16 = .ok (.iload_n 1, 1) := by decide +kernel
theorem dX7_endOf_17 : decode cX7_endOf 17 = .ok (.iaload, 1) := by decide +kernel
theorem dX7_endOf_18 : decode cX7_endOf 18 = .ok (.goto 4, 3) := by decide +kernel
theorem dX7_endOf_21 : decode cX7_endOf 21 = .ok (.iconst (-1), 1) := by decide +kernel
theorem dX7_endOf_22 : decode cX7_endOf 22 = .ok (.ireturn, 1) := by decide +kernel
theorem dX7_read_0 : decode cX7_read 0 = .ok (.aload_n 0, 1) := by decide +kernel
theorem dX7_read_1 : decode cX7_read 1 = .ok (.iconst 0, 1) := by decide +kernel
theorem dX7_read_2 : decode cX7_read 2 = .ok (.putfield 32, 3) := by decide +kernel
theorem dX7_read_5 : decode cX7_read 5 = .ok (.aload_n 0, 1) := by decide +kernel
theorem dX7_read_6 : decode cX7_read 6 = .ok (.iconst (-1), 1) := by decide +kernel
theorem dX7_read_7 : decode cX7_read 7 = .ok (.putfield 36, 3) := by decide +kernel
theorem dX7_read_10 : decode cX7_read 10 = .ok (.iconst 0, 1) := by decide +kernel
theorem dX7_read_11 : decode cX7_read 11 = .ok (.istore_n 2, 1) := by decide +kernel
theorem dX7_read_12 : decode cX7_read 12 = .ok (.iconst 0, 1) := by decide +kernel
theorem dX7_read_13 : decode cX7_read 13 = .ok (.istore_n 3, 1) := by decide +kernel
theorem dX7_read_14 : decode cX7_read 14 = .ok (.iconst 0, 1) := by decide +kernel
theorem dX7_read_15 : decode cX7_read 15 = .ok (.istore 4, 2) := by decide +kernel
theorem dX7_read_17 : decode cX7_read 17 = .ok (.iload 4, 2) := by decide +kernel
theorem dX7_read_19 : decode cX7_read 19 = .ok (.aload_n 1, 1) := by decide +kernel
theorem dX7_read_20 : decode cX7_read 20 = .ok (.invokevirtual 39, 3) := by decide +kernel
theorem dX7_read_23 : decode cX7_read 23 = .ok (.if_icmp .ge 71, 3) := by decide +kernel
theorem dX7_read_26 : decode cX7_read 26 = .ok (.aload_n 1, 1) := by decide +kernel
theorem dX7_read_27 : decode cX7_read 27 = .ok (.iload 4, 2) := by decide +kernel
theorem dX7_read_29 : decode cX7_read 29 = .ok (.invokevirtual 44, 3) := by decide +kernel
theorem dX7_read_32 : decode cX7_read 32 = .ok (.ifCond .eq 41, 3) := by decide +kernel
theorem dX7_read_35 : decode cX7_read 35 = .ok (.aload_n 1, 1) := by decide +kernel
theorem dX7_read_36 : decode cX7_read 36 = .ok (.iload 4, 2) := by decide +kernel
theorem dX7_read_38 : decode cX7_read 38 = .ok (.iconst 1, 1) := by decide +kernel
theorem dX7_read_39 : decode cX7_read 39 = .ok (.isub, 1) := by decide +kernel
theorem dX7_read_40 : decode cX7_read 40 = .ok (.invokevirtual 44, 3) := by decide +kernel
theorem dX7_read_43 : decode cX7_read 43 = .ok (.ifCond .ne 6, 3) := by decide +kernel
theorem dX7_read_46 : decode cX7_read 46 = .ok (.iload 4, 2) := by decide +kernel
theorem dX7_read_48 : decode cX7_read 48 = .ok (.istore_n 3, 1) := by decide +kernel
theorem dX7_read_49 : decode cX7_read 49 = .ok (.aload_n 1, 1) := by decide +kernel
theorem dX7_read_50 : decode cX7_read 50 = .ok (.iload 4, 2) := by decide +kernel
theorem dX7_read_52 : decode cX7_read 52 = .ok (.iconst 1, 1) := by decide +kernel
theorem dX7_read_53 : decode cX7_read 53 = .ok (.iadd, 1) := by decide +kernel
theorem dX7_read_54 : decode cX7_read 54 = .ok (.invokevirtual 44, 3) := by decide +kernel
theorem dX7_read_57 : decode cX7_read 57 = .ok (.ifCond .ne 31, 3) := by decide +kernel
theorem dX7_read_60 : decode cX7_read 60 = .ok (.aload_n 0, 1) := by decide +kernel
theorem dX7_read_61 : decode cX7_read 61 = .ok (.iload_n 3, 1) := by decide +kernel
theorem dX7_read_62 : decode cX7_read 62 = .ok (.iload 4, 2) := by decide +kernel
theorem dX7_read_64 : decode cX7_read 64 = .ok (.iconst 1, 1) := by decide +kernel
theorem dX7_read_65 : decode cX7_read 65 = .ok (.iadd, 1) := by decide +kernel
theorem dX7_read_66 : decode cX7_read 66 = .ok (.iload_n 2, 1) := by decide +kernel
theorem dX7_read_67 : decode cX7_read 67 = .ok (.invokevirtual 48, 3) := by decide +kernel
theorem dX7_read_70 : decode cX7_read 70 = .ok (.goto 18, 3) := by decide +kernel
theorem dX7_read_73 : decode cX7_read 73 = .ok (.aload_n 1, 1) := by decide +kernel
theorem dX7_read_74 : decode cX7_read 74 = .ok (.iload 4, 2) := by decide +kernel
theorem dX7_read_76 : decode cX7_read 76 = .ok (.invokevirtual 52, 3) := by decide +kernel
theorem dX7_read_79 : decode cX7_read 79 = .ok (.invokestatic 56, 3) := by decide +kernel
theorem dX7_read_82 : decode cX7_read 82 = .ok (.ifCond .eq 6, 3) := by decide +kernel
theorem dX7_read_85 : decode cX7_read 85 = .ok (.iinc 2 1, 3) := by decide +kernel
theorem dX7_read_88 : decode cX7_read 88 = .ok (.iinc 4 1, 3) := by decide +kernel
theorem dX7_read_91 : decode cX7_read 91 = .ok (.goto (-74), 3) := by decide +kernel
theorem dX7_read_94 : decode cX7_read 94 = .ok (.iconst 0, 1) := by decide +kernel
theorem dX7_read_95 : decode cX7_read 95 = .ok (.istore 4, 2) := by decide +kernel
theorem dX7_read_97 : decode cX7_read 97 = .ok (.iload 4, 2) := by decide +kernel
theorem dX7_read_99 : decode cX7_read 99 = .ok (.aload_n 0, 1) := by decide +kernel
theorem dX7_read_100 : decode cX7_read 100 = .ok (.getfield 32, 3) := by decide +kernel
theorem dX7_read_103 : decode cX7_read 103 = .ok (.if_icmp .ge 38, 3) := by decide +kernel
theorem dX7_read_106 : decode cX7_read 106 = .ok (.aload_n 0, 1) := by decide +kernel
theorem dX7_read_107 : decode cX7_read 107 = .ok (.getfield 21, 3) := by decide +kernel
theorem dX7_read_110 : decode cX7_read 110 = .ok (.iload 4, 2) := by decide +kernel
theorem dX7_read_112 : decode cX7_read 112 = .ok (.aload_n 0, 1) := by decide +kernel
theorem dX7_read_113 : decode cX7_read 113 = .ok (.getfield 28, 3) := by decide +kernel
theorem dX7_read_116 : decode cX7_read 116 = .ok (.aload_n 1, 1) := by decide +kernel
theorem dX7_read_117 : decode cX7_read 117 = .ok (.aload_n 0, 1) := by decide +kernel
theorem dX7_read_118 : decode cX7_read 118 = .ok (.getfield 11, 3) := by decide +kernel
theorem dX7_read_121 : decode cX7_read 121 = .ok (.iload 4, 2) := by decide +kernel
theorem dX7_read_123 : decode cX7_read 123 = .ok (.iaload, 1) := by decide +kernel
theorem dX7_read_124 : decode cX7_read 124 = .ok (.aload_n 0, 1) := by decide +kernel
theorem dX7_read_125 : decode cX7_read 125 = .ok (.getfield 15, 3) := by decide +kernel
theorem dX7_read_128 : decode cX7_read 128 = .ok (.iload 4, 2) := by decide +kernel
theorem dX7_read_130 : decode cX7_read 130 = .ok (.iaload, 1) := by decide +kernel
theorem dX7_read_131 : decode cX7_read 131 = .ok (.invokevirtual 59, 3) := by decide +kernel
theorem dX7_read_134 : decode cX7_read 134 = .ok (.lastore, 1) := by decide +kernel
theorem dX7_read_135 : decode cX7_read 135 = .ok (.iinc 4 1, 3) := by decide +kernel
theorem dX7_read_138 : decode cX7_read 138 = .ok (.goto (-41), 3) := by decide +kernel
theorem dX7_read_141 : decode cX7_read 141 = .ok (.return_, 1) := by decide +kernel
theorem dX7_keepWord_0 : decode cX7_keepWord 0 = .ok (.aload_n 0, 1) := by decide +kernel
theorem dX7_keepWord_1 : decode cX7_keepWord 1 = .ok (.getfield 32, 3) := by decide +kernel
theorem dX7_keepWord_4 : decode cX7_keepWord 4 = .ok (.sipush 300, 3) := by decide +kernel
theorem dX7_keepWord_7 : decode cX7_keepWord 7 = .ok (.if_icmp .ge 43, 3) := by decide +kernel
theorem dX7_keepWord_10 : decode cX7_keepWord 10 = .ok (.aload_n 0, 1) := by decide +kernel
theorem dX7_keepWord_11 : decode cX7_keepWord 11 = .ok (.getfield 11, 3) := by decide +kernel
theorem dX7_keepWord_14 : decode cX7_keepWord 14 = .ok (.aload_n 0, 1) := by decide +kernel
theorem dX7_keepWord_15 : decode cX7_keepWord 15 = .ok (.getfield 32, 3) := by decide +kernel
theorem dX7_keepWord_18 : decode cX7_keepWord 18 = .ok (.iload_n 1, 1) := by decide +kernel
theorem dX7_keepWord_19 : decode cX7_keepWord 19 = .ok (.iastore, 1) := by decide +kernel
theorem dX7_keepWord_20 : decode cX7_keepWord 20 = .ok (.aload_n 0, 1) := by decide +kernel
theorem dX7_keepWord_21 : decode cX7_keepWord 21 = .ok (.getfield 15, 3) := by decide +kernel
theorem dX7_keepWord_24 : decode cX7_keepWord 24 = .ok (.aload_n 0, 1) := by decide +kernel
theorem dX7_keepWord_25 : decode cX7_keepWord 25 = .ok (.getfield 32, 3) := by decide +kernel
theorem dX7_keepWord_28 : decode cX7_keepWord 28 = .ok (.iload_n 2, 1) := by decide +kernel
theorem dX7_keepWord_29 : decode cX7_keepWord 29 = .ok (.iastore, 1) := by decide +kernel
theorem dX7_keepWord_30 : decode cX7_keepWord 30 = .ok (.aload_n 0, 1) := by decide +kernel
theorem dX7_keepWord_31 : decode cX7_keepWord 31 = .ok (.getfield 18, 3) := by decide +kernel
theorem dX7_keepWord_34 : decode cX7_keepWord 34 = .ok (.aload_n 0, 1) := by decide +kernel
theorem dX7_keepWord_35 : decode cX7_keepWord 35 = .ok (.getfield 32, 3) := by decide +kernel
theorem dX7_keepWord_38 : decode cX7_keepWord 38 = .ok (.iload_n 3, 1) := by decide +kernel
theorem dX7_keepWord_39 : decode cX7_keepWord 39 = .ok (.iastore, 1) := by decide +kernel
theorem dX7_keepWord_40 : decode cX7_keepWord 40 = .ok (.aload_n 0, 1) := by decide +kernel
theorem dX7_keepWord_41 : decode cX7_keepWord 41 = .ok (.dup, 1) := by decide +kernel
theorem dX7_keepWord_42 : decode cX7_keepWord 42 = .ok (.getfield 32, 3) := by decide +kernel
theorem dX7_keepWord_45 : decode cX7_keepWord 45 = .ok (.iconst 1, 1) := by decide +kernel
theorem dX7_keepWord_46 : decode cX7_keepWord 46 = .ok (.iadd, 1) := by decide +kernel
theorem dX7_keepWord_47 : decode cX7_keepWord 47 = .ok (.putfield 32, 3) := by decide +kernel
theorem dX7_keepWord_50 : decode cX7_keepWord 50 = .ok (.return_, 1) := by decide +kernel
theorem dX7_scoreOf_0 : decode cX7_scoreOf 0 = .ok (.iload_n 1, 1) := by decide +kernel
theorem dX7_scoreOf_1 : decode cX7_scoreOf 1 = .ok (.ifCond .lt 21, 3) := by decide +kernel
theorem dX7_scoreOf_4 : decode cX7_scoreOf 4 = .ok (.iload_n 1, 1) := by decide +kernel
theorem dX7_scoreOf_5 : decode cX7_scoreOf 5 = .ok (.bipush 40, 2) := by decide +kernel
theorem dX7_scoreOf_7 : decode cX7_scoreOf 7 = .ok (.if_icmp .ge 15, 3) := by decide +kernel
theorem dX7_scoreOf_10 : decode cX7_scoreOf 10 = .ok (.iload_n 2, 1) := by decide +kernel
theorem dX7_scoreOf_11 : decode cX7_scoreOf 11 = .ok (.ifCond .lt 11, 3) := by decide +kernel
theorem dX7_scoreOf_14 : decode cX7_scoreOf 14 = .ok (.iload_n 3, 1) := by decide +kernel
theorem dX7_scoreOf_15 : decode cX7_scoreOf 15 = .ok (.aload_n 0, 1) := by decide +kernel
theorem dX7_scoreOf_16 : decode cX7_scoreOf 16 = .ok (.getfield 32, 3) := by decide +kernel
theorem dX7_scoreOf_19 : decode cX7_scoreOf 19 = .ok (.if_icmp .lt 5, 3) := by decide +kernel
theorem dX7_scoreOf_22 : decode cX7_scoreOf 22 = .ok (.iconst 0, 1) := by decide +kernel
theorem dX7_scoreOf_23 : decode cX7_scoreOf 23 = .ok (.ireturn, 1) := by decide +kernel
theorem dX7_scoreOf_24 : decode cX7_scoreOf 24 = .ok (.aload_n 0, 1) := by decide +kernel
theorem dX7_scoreOf_25 : decode cX7_scoreOf 25 = .ok (.iload_n 2, 1) := by decide +kernel
theorem dX7_scoreOf_26 : decode cX7_scoreOf 26 = .ok (.invokevirtual 65, 3) := by decide +kernel
theorem dX7_scoreOf_29 : decode cX7_scoreOf 29 = .ok (.aload_n 0, 1) := by decide +kernel
theorem dX7_scoreOf_30 : decode cX7_scoreOf 30 = .ok (.getfield 25, 3) := by decide +kernel
theorem dX7_scoreOf_33 : decode cX7_scoreOf 33 = .ok (.iload_n 1, 1) := by decide +kernel
theorem dX7_scoreOf_34 : decode cX7_scoreOf 34 = .ok (.iaload, 1) := by decide +kernel
theorem dX7_scoreOf_35 : decode cX7_scoreOf 35 = .ok (.istore 4, 2) := by decide +kernel
theorem dX7_scoreOf_37 : decode cX7_scoreOf 37 = .ok (.iload_n 2, 1) := by decide +kernel
theorem dX7_scoreOf_38 : decode cX7_scoreOf 38 = .ok (.istore 5, 2) := by decide +kernel
theorem dX7_scoreOf_40 : decode cX7_scoreOf 40 = .ok (.iload 5, 2) := by decide +kernel
theorem dX7_scoreOf_42 : decode cX7_scoreOf 42 = .ok (.iload_n 3, 1) := by decide +kernel
theorem dX7_scoreOf_43 : decode cX7_scoreOf 43 = .ok (.if_icmp .gt 28, 3) := by decide +kernel
theorem dX7_scoreOf_46 : decode cX7_scoreOf 46 = .ok (.aload_n 0, 1) := by decide +kernel
theorem dX7_scoreOf_47 : decode cX7_scoreOf 47 = .ok (.getfield 21, 3) := by decide +kernel
theorem dX7_scoreOf_50 : decode cX7_scoreOf 50 = .ok (.iload 5, 2) := by decide +kernel
theorem dX7_scoreOf_52 : decode cX7_scoreOf 52 = .ok (.laload, 1) := by decide +kernel
theorem dX7_scoreOf_53 : decode cX7_scoreOf 53 = .ok (.iload_n 1, 1) := by decide +kernel
theorem dX7_scoreOf_54 : decode cX7_scoreOf 54 = .ok (.lshr, 1) := by decide +kernel
theorem dX7_scoreOf_55 : decode cX7_scoreOf 55 = .ok (.lconst 1, 1) := by decide +kernel
theorem dX7_scoreOf_56 : decode cX7_scoreOf 56 = .ok (.land, 1) := by decide +kernel
theorem dX7_scoreOf_57 : decode cX7_scoreOf 57 = .ok (.lconst 0, 1) := by decide +kernel
theorem dX7_scoreOf_58 : decode cX7_scoreOf 58 = .ok (.lcmp, 1) := by decide +kernel
theorem dX7_scoreOf_59 : decode cX7_scoreOf 59 = .ok (.ifCond .eq 6, 3) := by decide +kernel
theorem dX7_scoreOf_62 : decode cX7_scoreOf 62 = .ok (.iinc 4 (-1), 3) := by decide +kernel
theorem dX7_scoreOf_65 : decode cX7_scoreOf 65 = .ok (.iinc 5 1, 3) := by decide +kernel
theorem dX7_scoreOf_68 : decode cX7_scoreOf 68 = .ok (.goto (-28), 3) := by decide +kernel
theorem dX7_scoreOf_71 : decode cX7_scoreOf 71 = .ok (.iload 4, 2) := by decide +kernel
theorem dX7_scoreOf_73 : decode cX7_scoreOf 73 = .ok (.ireturn, 1) := by decide +kernel
theorem dX7_tallySentenceOf_0 : decode cX7_tallySentenceOf 0 = .ok (.iload_n 1, 1) := by decide +kernel
theorem dX7_tallySentenceOf_1 : decode cX7_tallySentenceOf 1 = .ok (.ifCond .lt 20, 3) := by decide +kernel
theorem dX7_tallySentenceOf_4 : decode cX7_tallySentenceOf 4 = .ok (.iload_n 1, 1) := by decide +kernel
theorem dX7_tallySentenceOf_5 : decode cX7_tallySentenceOf 5 = .ok (.aload_n 0, 1) := by decide +kernel
theorem dX7_tallySentenceOf_6 : decode cX7_tallySentenceOf 6 = .ok (.getfield 32, 3) := by decide +kernel
theorem dX7_tallySentenceOf_9 : decode cX7_tallySentenceOf 9 = .ok (.if_icmp .ge 12, 3) := by decide +kernel
theorem dX7_tallySentenceOf_12 : decode cX7_tallySentenceOf 12 = .ok (.aload_n 0, 1) := by decide +kernel
theorem dX7_tallySentenceOf_13 : decode cX7_tallySentenceOf 13 = .ok (.getfield 18, 3) := by decide +kernel
theorem dX7_tallySentenceOf_16 : decode cX7_tallySentenceOf 16 = .ok (.iload_n 1, 1) := by decide +kernel
theorem dX7_tallySentenceOf_17 : decode cX7_tallySentenceOf 17 = .ok (.iaload, 1) := by decide +kernel
theorem dX7_tallySentenceOf_18 : decode cX7_tallySentenceOf 18 = .ok (.goto 4, 3) := by decide +kernel
theorem dX7_tallySentenceOf_21 : decode cX7_tallySentenceOf 21 = .ok (.iconst (-1), 1) := by decide +kernel
theorem dX7_tallySentenceOf_22 : decode cX7_tallySentenceOf 22 = .ok (.istore_n 2, 1) := by decide +kernel
theorem dX7_tallySentenceOf_23 : decode cX7_tallySentenceOf 23 = .ok (.iload_n 2, 1) := by decide +kernel
theorem dX7_tallySentenceOf_24 : decode cX7_tallySentenceOf 24 = .ok (.aload_n 0, 1) := by decide +kernel
theorem dX7_tallySentenceOf_25 : decode cX7_tallySentenceOf 25 = .ok (.getfield 36, 3) := by decide +kernel
theorem dX7_tallySentenceOf_28 : decode cX7_tallySentenceOf 28 = .ok (.if_icmp .ne 4, 3) := by decide +kernel
theorem dX7_tallySentenceOf_31 : decode cX7_tallySentenceOf 31 = .ok (.return_, 1) := by decide +kernel
theorem dX7_tallySentenceOf_32 : decode cX7_tallySentenceOf 32 = .ok (.aload_n 0, 1) := by decide +kernel
theorem dX7_tallySentenceOf_33 : decode cX7_tallySentenceOf 33 = .ok (.iload_n 2, 1) := by decide +kernel
theorem dX7_tallySentenceOf_34 : decode cX7_tallySentenceOf 34 = .ok (.putfield 36, 3) := by decide +kernel
theorem dX7_tallySentenceOf_37 : decode cX7_tallySentenceOf 37 = .ok (.iconst 0, 1) := by decide +kernel
theorem dX7_tallySentenceOf_38 : decode cX7_tallySentenceOf 38 = .ok (.istore_n 3, 1) := by decide +kernel
theorem dX7_tallySentenceOf_39 : decode cX7_tallySentenceOf 39 = .ok (.iload_n 3, 1) := by decide +kernel
theorem dX7_tallySentenceOf_40 : decode cX7_tallySentenceOf 40 = .ok (.bipush 40, 2) := by decide +kernel
theorem dX7_tallySentenceOf_42 : decode cX7_tallySentenceOf 42 = .ok (.if_icmp .ge 16, 3) := by decide +kernel
theorem dX7_tallySentenceOf_45 : decode cX7_tallySentenceOf 45 = .ok (.aload_n 0, 1) := by decide +kernel
theorem dX7_tallySentenceOf_46 : decode cX7_tallySentenceOf 46 = .ok (.getfield 25, 3) := by decide +kernel
theorem dX7_tallySentenceOf_49 : decode cX7_tallySentenceOf 49 = .ok (.iload_n 3, 1) := by decide +kernel
theorem dX7_tallySentenceOf_50 : decode cX7_tallySentenceOf 50 = .ok (.iconst 0, 1) := by decide +kernel
theorem dX7_tallySentenceOf_51 : decode cX7_tallySentenceOf 51 = .ok (.iastore, 1) := by decide +kernel
theorem dX7_tallySentenceOf_52 : decode cX7_tallySentenceOf 52 = .ok (.iinc 3 1, 3) := by decide +kernel
theorem dX7_tallySentenceOf_55 : decode cX7_tallySentenceOf 55 = .ok (.goto (-16), 3) := by decide +kernel
theorem dX7_tallySentenceOf_58 : decode cX7_tallySentenceOf 58 = .ok (.iconst 0, 1) := by decide +kernel
theorem dX7_tallySentenceOf_59 : decode cX7_tallySentenceOf 59 = .ok (.istore_n 3, 1) := by decide +kernel
theorem dX7_tallySentenceOf_60 : decode cX7_tallySentenceOf 60 = .ok (.iload_n 3, 1) := by decide +kernel
theorem dX7_tallySentenceOf_61 : decode cX7_tallySentenceOf 61 = .ok (.aload_n 0, 1) := by decide +kernel
theorem dX7_tallySentenceOf_62 : decode cX7_tallySentenceOf 62 = .ok (.getfield 32, 3) := by decide +kernel
theorem dX7_tallySentenceOf_65 : decode cX7_tallySentenceOf 65 = .ok (.if_icmp .ge 68, 3) := by decide +kernel
theorem dX7_tallySentenceOf_68 : decode cX7_tallySentenceOf 68 = .ok (.aload_n 0, 1) := by decide +kernel
theorem dX7_tallySentenceOf_69 : decode cX7_tallySentenceOf 69 = .ok (.getfield 18, 3) := by decide +kernel
theorem dX7_tallySentenceOf_72 : decode cX7_tallySentenceOf 72 = .ok (.iload_n 3, 1) := by decide +kernel
theorem dX7_tallySentenceOf_73 : decode cX7_tallySentenceOf 73 = .ok (.iaload, 1) := by decide +kernel
theorem dX7_tallySentenceOf_74 : decode cX7_tallySentenceOf 74 = .ok (.iload_n 2, 1) := by decide +kernel
theorem dX7_tallySentenceOf_75 : decode cX7_tallySentenceOf 75 = .ok (.if_icmp .ne 52, 3) := by decide +kernel
theorem dX7_tallySentenceOf_78 : decode cX7_tallySentenceOf 78 = .ok (.aload_n 0, 1) := by decide +kernel
theorem dX7_tallySentenceOf_79 : decode cX7_tallySentenceOf 79 = .ok (.getfield 21, 3) := by decide +kernel
theorem dX7_tallySentenceOf_82 : decode cX7_tallySentenceOf 82 = .ok (.iload_n 3, 1) := by decide +kernel
theorem dX7_tallySentenceOf_83 : decode cX7_tallySentenceOf 83 = .ok (.laload, 1) := by decide +kernel
theorem dX7_tallySentenceOf_84 : decode cX7_tallySentenceOf 84 = .ok (.lconst 0, 1) := by decide +kernel
theorem dX7_tallySentenceOf_85 : decode cX7_tallySentenceOf 85 = .ok (.lcmp, 1) := by decide +kernel
theorem dX7_tallySentenceOf_86 : decode cX7_tallySentenceOf 86 = .ok (.ifCond .eq 41, 3) := by decide +kernel
theorem dX7_tallySentenceOf_89 : decode cX7_tallySentenceOf 89 = .ok (.iconst 0, 1) := by decide +kernel
theorem dX7_tallySentenceOf_90 : decode cX7_tallySentenceOf 90 = .ok (.istore 4, 2) := by decide +kernel
theorem dX7_tallySentenceOf_92 : decode cX7_tallySentenceOf 92 = .ok (.iload 4, 2) := by decide +kernel
theorem dX7_tallySentenceOf_94 : decode cX7_tallySentenceOf 94 = .ok (.bipush 40, 2) := by decide +kernel
theorem dX7_tallySentenceOf_96 : decode cX7_tallySentenceOf 96 = .ok (.if_icmp .ge 31, 3) := by decide +kernel
theorem dX7_tallySentenceOf_99 : decode cX7_tallySentenceOf 99 = .ok (.aload_n 0, 1) := by decide +kernel
theorem dX7_tallySentenceOf_100 : decode cX7_tallySentenceOf 100 = .ok (.getfield 25, 3) := by decide +kernel
theorem dX7_tallySentenceOf_103 : decode cX7_tallySentenceOf 103 = .ok (.iload 4, 2) := by decide +kernel
theorem dX7_tallySentenceOf_105 : decode cX7_tallySentenceOf 105 = .ok (.dup2, 1) := by decide +kernel
theorem dX7_tallySentenceOf_106 : decode cX7_tallySentenceOf 106 = .ok (.iaload, 1) := by decide +kernel
theorem dX7_tallySentenceOf_107 : decode cX7_tallySentenceOf 107 = .ok (.aload_n 0, 1) := by decide +kernel
theorem dX7_tallySentenceOf_108 : decode cX7_tallySentenceOf 108 = .ok (.getfield 21, 3) := by decide +kernel
theorem dX7_tallySentenceOf_111 : decode cX7_tallySentenceOf 111 = .ok (.iload_n 3, 1) := by decide +kernel
theorem dX7_tallySentenceOf_112 : decode cX7_tallySentenceOf 112 = .ok (.laload, 1) := by decide +kernel
theorem dX7_tallySentenceOf_113 : decode cX7_tallySentenceOf 113 = .ok (.iload 4, 2) := by decide +kernel
theorem dX7_tallySentenceOf_115 : decode cX7_tallySentenceOf 115 = .ok (.lshr, 1) := by decide +kernel
theorem dX7_tallySentenceOf_116 : decode cX7_tallySentenceOf 116 = .ok (.lconst 1, 1) := by decide +kernel
theorem dX7_tallySentenceOf_117 : decode cX7_tallySentenceOf 117 = .ok (.land, 1) := by decide +kernel
theorem dX7_tallySentenceOf_118 : decode cX7_tallySentenceOf 118 = .ok (.l2i, 1) := by decide +kernel
theorem dX7_tallySentenceOf_119 : decode cX7_tallySentenceOf 119 = .ok (.iadd, 1) := by decide +kernel
theorem dX7_tallySentenceOf_120 : decode cX7_tallySentenceOf 120 = .ok (.iastore, 1) := by decide +kernel
theorem dX7_tallySentenceOf_121 : decode cX7_tallySentenceOf 121 = .ok (.iinc 4 1, 3) := by decide +kernel
theorem dX7_tallySentenceOf_124 : decode cX7_tallySentenceOf 124 = .ok (.goto (-32), 3) := by decide +kernel
theorem dX7_tallySentenceOf_127 : decode cX7_tallySentenceOf 127 = .ok (.iinc 3 1, 3) := by decide +kernel
theorem dX7_tallySentenceOf_130 : decode cX7_tallySentenceOf 130 = .ok (.goto (-70), 3) := by decide +kernel
theorem dX7_tallySentenceOf_133 : decode cX7_tallySentenceOf 133 = .ok (.return_, 1) := by decide +kernel
theorem dX8_init_0 : decode cX8_init 0 = .ok (.aload_n 0, 1) := by decide +kernel
theorem dX8_init_1 : decode cX8_init 1 = .ok (.invokespecial 1, 3) := by decide +kernel
theorem dX8_init_4 : decode cX8_init 4 = .ok (.aload_n 0, 1) := by decide +kernel
theorem dX8_init_5 : decode cX8_init 5 = .ok (.new 7, 3) := by decide +kernel
theorem dX8_init_8 : decode cX8_init 8 = .ok (.dup, 1) := by decide +kernel
theorem dX8_init_9 : decode cX8_init 9 = .ok (.bipush 40, 2) := by decide +kernel
theorem dX8_init_11 : decode cX8_init 11 = .ok (.invokespecial 11, 3) := by decide +kernel
theorem dX8_init_14 : decode cX8_init 14 = .ok (.putfield 14, 3) := by decide +kernel
theorem dX8_init_17 : decode cX8_init 17 = .ok (.aload_n 0, 1) := by decide +kernel
theorem dX8_init_18 : decode cX8_init 18 = .ok (.bipush 8, 2) := by decide +kernel
theorem dX8_init_20 : decode cX8_init 20 = .ok (.anewarray 7, 3) := by decide +kernel
theorem dX8_init_23 : decode cX8_init 23 = .ok (.putfield 18, 3) := by decide +kernel
theorem dX8_init_26 : decode cX8_init 26 = .ok (.iconst 0, 1) := by decide +kernel
theorem dX8_init_27 : decode cX8_init 27 = .ok (.istore_n 1, 1) := by decide +kernel
theorem dX8_init_28 : decode cX8_init 28 = .ok (.iload_n 1, 1) := by decide +kernel
theorem dX8_init_29 : decode cX8_init 29 = .ok (.bipush 8, 2) := by decide +kernel
theorem dX8_init_31 : decode cX8_init 31 = .ok (.if_icmp .ge 25, 3) := by decide +kernel
theorem dX8_init_34 : decode cX8_init 34 = .ok (.aload_n 0, 1) := by decide +kernel
theorem dX8_init_35 : decode cX8_init 35 = .ok (.getfield 18, 3) := by decide +kernel
theorem dX8_init_38 : decode cX8_init 38 = .ok (.iload_n 1, 1) := by decide +kernel
theorem dX8_init_39 : decode cX8_init 39 = .ok (.new 7, 3) := by decide +kernel
theorem dX8_init_42 : decode cX8_init 42 = .ok (.dup, 1) := by decide +kernel
theorem dX8_init_43 : decode cX8_init 43 = .ok (.sipush 600, 3) := by decide +kernel
theorem dX8_init_46 : decode cX8_init 46 = .ok (.invokespecial 11, 3) := by decide +kernel
theorem dX8_init_49 : decode cX8_init 49 = .ok (.aastore, 1) := by decide +kernel
theorem dX8_init_50 : decode cX8_init 50 = .ok (.iinc 1 1, 3) := by decide +kernel
theorem dX8_init_53 : decode cX8_init 53 = .ok (.goto (-25), 3) := by decide +kernel
theorem dX8_init_56 : decode cX8_init 56 = .ok (.aload_n 0, 1) := by decide +kernel
theorem dX8_init_57 : decode cX8_init 57 = .ok (.new 22, 3) := by decide +kernel
theorem dX8_init_60 : decode cX8_init 60 = .ok (.dup, 1) := by decide +kernel
theorem dX8_init_61 : decode cX8_init 61 = .ok (.invokespecial 24, 3) := by decide +kernel
theorem dX8_init_64 : decode cX8_init 64 = .ok (.putfield 25, 3) := by decide +kernel
theorem dX8_init_67 : decode cX8_init 67 = .ok (.aload_n 0, 1) := by decide +kernel
theorem dX8_init_68 : decode cX8_init 68 = .ok (.new 29, 3) := by decide +kernel
theorem dX8_init_71 : decode cX8_init 71 = .ok (.dup, 1) := by decide +kernel
theorem dX8_init_72 : decode cX8_init 72 = .ok (.invokespecial 31, 3) := by decide +kernel
theorem dX8_init_75 : decode cX8_init 75 = .ok (.putfield 32, 3) := by decide +kernel
theorem dX8_init_78 : decode cX8_init 78 = .ok (.aload_n 0, 1) := by decide +kernel
theorem dX8_init_79 : decode cX8_init 79 = .ok (.new 36, 3) := by decide +kernel
theorem dX8_init_82 : decode cX8_init 82 = .ok (.dup, 1) := by decide +kernel
theorem dX8_init_83 : decode cX8_init 83 = .ok (.aload_n 0, 1) := by decide +kernel
theorem dX8_init_84 : decode cX8_init 84 = .ok (.getfield 25, 3) := by decide +kernel
theorem dX8_init_87 : decode cX8_init 87 = .ok (.aload_n 0, 1) := by decide +kernel
theorem dX8_init_88 : decode cX8_init 88 = .ok (.getfield 32, 3) := by decide +kernel
theorem dX8_init_91 : decode cX8_init 91 = .ok (.invokespecial 38, 3) := by decide +kernel
theorem dX8_init_94 : decode cX8_init 94 = .ok (.putfield 41, 3) := by decide +kernel
theorem dX8_init_97 : decode cX8_init 97 = .ok (.aload_n 0, 1) := by decide +kernel
theorem dX8_init_98 : decode cX8_init 98 = .ok (.new 45, 3) := by decide +kernel
theorem dX8_init_101 : decode cX8_init 101 = .ok (.dup, 1) := by decide +kernel
theorem dX8_init_102 : decode cX8_init 102 = .ok (.aload_n 0, 1) := by decide +kernel
theorem dX8_init_103 : decode cX8_init 103 = .ok (.getfield 25, 3) := by decide +kernel
theorem dX8_init_106 : decode cX8_init 106 = .ok (.invokespecial 47, 3) := by decide +kernel
theorem dX8_init_109 : decode cX8_init 109 = .ok (.putfield 50, 3) := by decide +kernel
theorem dX8_init_112 : decode cX8_init 112 = .ok (.return_, 1) := by decide +kernel
theorem dX8_letter_0 : decode cX8_letter 0 = .ok (.iload_n 1, 1) := by decide +kernel
theorem dX8_letter_1 : decode cX8_letter 1 = .ok (.ifCond .lt 9, 3) := by decide +kernel
theorem dX8_letter_4 : decode cX8_letter 4 = .ok (.iload_n 1, 1) := by decide +kernel
theorem dX8_letter_5 : decode cX8_letter 5 = .ok (.bipush 26, 2) := by decide +kernel
theorem dX8_letter_7 : decode cX8_letter 7 = .ok (.if_icmp .le 5, 3) := by decide +kernel
theorem dX8_letter_10 : decode cX8_letter 10 = .ok (.iconst (-1), 1) := by decide +kernel
theorem dX8_letter_11 : decode cX8_letter 11 = .ok (.ireturn, 1) := by decide +kernel
theorem dX8_letter_12 : decode cX8_letter 12 = .ok (.aload_n 0, 1) := by decide +kernel
theorem dX8_letter_13 : decode cX8_letter 13 = .ok (.getfield 14, 3) := by decide +kernel
theorem dX8_letter_16 : decode cX8_letter 16 = .ok (.iload_n 1, 1) := by decide +kernel
theorem dX8_letter_17 : decode cX8_letter 17 = .ok (.bipush 26, 2) := by decide +kernel
theorem dX8_letter_19 : decode cX8_letter 19 = .ok (.if_icmp .ne 8, 3) := by decide +kernel
theorem dX8_letter_22 : decode cX8_letter 22 = .ok (.bipush 32, 2) := by decide +kernel
theorem dX8_letter_24 : decode cX8_letter 24 = .ok (.goto 7, 3) := by decide +kernel
theorem dX8_letter_27 : decode cX8_letter 27 = .ok (.bipush 97, 2) := by decide +kernel
theorem dX8_letter_29 : decode cX8_letter 29 = .ok (.iload_n 1, 1) := by decide +kernel
theorem dX8_letter_30 : decode cX8_letter 30 = .ok (.iadd, 1) := by decide +kernel
theorem dX8_letter_31 : decode cX8_letter 31 = .ok (.invokevirtual 54, 3) := by decide +kernel
theorem dX8_letter_34 : decode cX8_letter 34 = .ok (.ifCond .eq 13, 3) := by decide +kernel
theorem dX8_letter_37 : decode cX8_letter 37 = .ok (.aload_n 0, 1) := by decide +kernel
theorem dX8_letter_38 : decode cX8_letter 38 = .ok (.getfield 14, 3) := by decide +kernel
theorem dX8_letter_41 : decode cX8_letter 41 = .ok (.invokevirtual 58, 3) := by decide +kernel
theorem dX8_letter_44 : decode cX8_letter 44 = .ok (.goto 4, 3) := by decide +kernel
theorem dX8_letter_47 : decode cX8_letter 47 = .ok (.iconst (-1), 1) := by decide +kernel
theorem dX8_letter_48 : decode cX8_letter 48 = .ok (.ireturn, 1) := by decide +kernel
theorem dX8_ending_0 : decode cX8_ending 0 = .ok (.aload_n 0, 1) := by decide +kernel
theorem dX8_ending_1 : decode cX8_ending 1 = .ok (.getfield 25, 3) := by decide +kernel
theorem dX8_ending_4 : decode cX8_ending 4 = .ok (.aload_n 0, 1) := by decide +kernel
theorem dX8_ending_5 : decode cX8_ending 5 = .ok (.getfield 14, 3) := by decide +kernel
theorem dX8_ending_8 : decode cX8_ending 8 = .ok (.invokevirtual 62, 3) := by decide +kernel
theorem dX8_ending_11 : decode cX8_ending 11 = .ok (.istore_n 1, 1) := by decide +kernel
theorem dX8_ending_12 : decode cX8_ending 12 = .ok (.aload_n 0, 1) := by decide +kernel
theorem dX8_ending_13 : decode cX8_ending 13 = .ok (.getfield 14, 3) := by decide +kernel
theorem dX8_ending_16 : decode cX8_ending 16 = .ok (.iconst 0, 1) := by decide +kernel
theorem dX8_ending_17 : decode cX8_ending 17 = .ok (.invokevirtual 66, 3) := by decide +kernel
theorem dX8_ending_20 : decode cX8_ending 20 = .ok (.iload_n 1, 1) := by decide +kernel
theorem dX8_ending_21 : decode cX8_ending 21 = .ok (.ireturn, 1) := by decide +kernel
theorem dX8_term_0 : decode cX8_term 0 = .ok (.iload_n 1, 1) := by decide +kernel
theorem dX8_term_1 : decode cX8_term 1 = .ok (.invokestatic 69, 3) := by decide +kernel
theorem dX8_term_4 : decode cX8_term 4 = .ok (.iload_n 2, 1) := by decide +kernel
theorem dX8_term_5 : decode cX8_term 5 = .ok (.invokestatic 72, 3) := by decide +kernel
theorem dX8_term_8 : decode cX8_term 8 = .ok (.iload_n 3, 1) := by decide +kernel
theorem dX8_term_9 : decode cX8_term 9 = .ok (.ifCond .lt 9, 3) := by decide +kernel
theorem dX8_term_12 : decode cX8_term 12 = .ok (.iload_n 3, 1) := by decide +kernel
theorem dX8_term_13 : decode cX8_term 13 = .ok (.bipush 63, 2) := by decide +kernel
theorem dX8_term_15 : decode cX8_term 15 = .ok (.if_icmp .le 13, 3) := by decide +kernel
theorem dX8_term_18 : decode cX8_term 18 = .ok (.new 75, 3) := by decide +kernel
theorem dX8_term_21 : decode cX8_term 21 = .ok (.dup, 1) := by decide +kernel
theorem dX8_term_22 : decode cX8_term 22 = .ok (.ldc 77, 2) := by decide +kernel
theorem dX8_term_24 : decode cX8_term 24 = .ok (.invokespecial 79, 3) := by decide +kernel
theorem dX8_term_27 : decode cX8_term 27 = .ok (.athrow, 1) := by decide +kernel
theorem dX8_term_28 : decode cX8_term 28 = .ok (.aload_n 0, 1) := by decide +kernel
theorem dX8_term_29 : decode cX8_term 29 = .ok (.getfield 25, 3) := by decide +kernel
theorem dX8_term_32 : decode cX8_term 32 = .ok (.aload_n 0, 1) := by decide +kernel
theorem dX8_term_33 : decode cX8_term 33 = .ok (.getfield 14, 3) := by decide +kernel
theorem dX8_term_36 : decode cX8_term 36 = .ok (.iload_n 1, 1) := by decide +kernel
theorem dX8_term_37 : decode cX8_term 37 = .ok (.iload_n 2, 1) := by decide +kernel
theorem dX8_term_38 : decode cX8_term 38 = .ok (.iload_n 3, 1) := by decide +kernel
theorem dX8_term_39 : decode cX8_term 39 = .ok (.invokevirtual 82, 3) := by decide +kernel
theorem dX8_term_42 : decode cX8_term 42 = .ok (.istore 4, 2) := by decide +kernel
theorem dX8_term_44 : decode cX8_term 44 = .ok (.aload_n 0, 1) := by decide +kernel
theorem dX8_term_45 : decode cX8_term 45 = .ok (.getfield 14, 3) := by decide +kernel
theorem dX8_term_48 : decode cX8_term 48 = .ok (.iconst 0, 1) := by decide +kernel
theorem dX8_term_49 : decode cX8_term 49 = .ok (.invokevirtual 66, 3) := by decide +kernel
theorem dX8_term_52 : decode cX8_term 52 = .ok (.iload 4, 2) := by decide +kernel
theorem dX8_term_54 : decode cX8_term 54 = .ok (.ireturn, 1) := by decide +kernel
theorem dX8_neighbour_0 : decode cX8_neighbour 0 = .ok (.iload_n 1, 1) := by decide +kernel
theorem dX8_neighbour_1 : decode cX8_neighbour 1 = .ok (.invokestatic 69, 3) := by decide +kernel
theorem dX8_neighbour_4 : decode cX8_neighbour 4 = .ok (.aload_n 0, 1) := by decide +kernel
theorem dX8_neighbour_5 : decode cX8_neighbour 5 = .ok (.getfield 25, 3) := by decide +kernel
theorem dX8_neighbour_8 : decode cX8_neighbour 8 = .ok (.aload_n 0, 1) := by decide +kernel
theorem dX8_neighbour_9 : decode cX8_neighbour 9 = .ok (.getfield 14, 3) := by decide +kernel
theorem dX8_neighbour_12 : decode cX8_neighbour 12 = .ok (.iload_n 1, 1) := by decide +kernel
theorem dX8_neighbour_13 : decode cX8_neighbour 13 = .ok (.invokevirtual 86, 3) := by decide +kernel
theorem dX8_neighbour_16 : decode cX8_neighbour 16 = .ok (.istore_n 2, 1) := by decide +kernel
theorem dX8_neighbour_17 : decode cX8_neighbour 17 = .ok (.aload_n 0, 1) := by decide +kernel
theorem dX8_neighbour_18 : decode cX8_neighbour 18 = .ok (.getfield 14, 3) := by decide +kernel
theorem dX8_neighbour_21 : decode cX8_neighbour 21 = .ok (.iconst 0, 1) := by decide +kernel
theorem dX8_neighbour_22 : decode cX8_neighbour 22 = .ok (.invokevirtual 66, 3) := by decide +kernel
theorem dX8_neighbour_25 : decode cX8_neighbour 25 = .ok (.iload_n 2, 1) := by decide +kernel
theorem dX8_neighbour_26 : decode cX8_neighbour 26 = .ok (.ireturn, 1) := by decide +kernel
theorem dX8_define_0 : decode cX8_define 0 = .ok (.iload_n 1, 1) := by decide +kernel
theorem dX8_define_1 : decode cX8_define 1 = .ok (.invokestatic 69, 3) := by decide +kernel
theorem dX8_define_4 : decode cX8_define 4 = .ok (.lload_n 2, 1) := by decide +kernel
theorem dX8_define_5 : decode cX8_define 5 = .ok (.lconst 0, 1) := by decide +kernel
theorem dX8_define_6 : decode cX8_define 6 = .ok (.lcmp, 1) := by decide +kernel
theorem dX8_define_7 : decode cX8_define 7 = .ok (.ifCond .lt 11, 3) := by decide +kernel
theorem dX8_define_10 : decode cX8_define 10 = .ok (.lload_n 2, 1) := by decide +kernel
theorem dX8_define_11 : decode cX8_define 11 = .ok (.ldc2_w 90, 3) := by decide +kernel
theorem dX8_define_14 : decode cX8_define 14 = .ok (.lcmp, 1) := by decide +kernel
theorem dX8_define_15 : decode cX8_define 15 = .ok (.ifCond .lt 13, 3) := by decide +kernel
theorem dX8_define_18 : decode cX8_define 18 = .ok (.new 75, 3) := by decide +kernel
theorem dX8_define_21 : decode cX8_define 21 = .ok (.dup, 1) := by decide +kernel
theorem dX8_define_22 : decode cX8_define 22 = .ok (.ldc 92, 2) := by decide +kernel
theorem dX8_define_24 : decode cX8_define 24 = .ok (.invokespecial 79, 3) := by decide +kernel
theorem dX8_define_27 : decode cX8_define 27 = .ok (.athrow, 1) := by decide +kernel
theorem dX8_define_28 : decode cX8_define 28 = .ok (.aload_n 0, 1) := by decide +kernel
theorem dX8_define_29 : decode cX8_define 29 = .ok (.getfield 32, 3) := by decide +kernel
theorem dX8_define_32 : decode cX8_define 32 = .ok (.iload_n 1, 1) := by decide +kernel
theorem dX8_define_33 : decode cX8_define 33 = .ok (.lload_n 2, 1) := by decide +kernel
theorem dX8_define_34 : decode cX8_define 34 = .ok (.invokevirtual 94, 3) := by decide +kernel
theorem dX8_define_37 : decode cX8_define 37 = .ok (.lreturn, 1) := by decide +kernel
theorem dX8_know_0 : decode cX8_know 0 = .ok (.iload_n 1, 1) := by decide +kernel
theorem dX8_know_1 : decode cX8_know 1 = .ok (.invokestatic 69, 3) := by decide +kernel
theorem dX8_know_4 : decode cX8_know 4 = .ok (.aload_n 0, 1) := by decide +kernel
theorem dX8_know_5 : decode cX8_know 5 = .ok (.getfield 32, 3) := by decide +kernel
theorem dX8_know_8 : decode cX8_know 8 = .ok (.iload_n 1, 1) := by decide +kernel
theorem dX8_know_9 : decode cX8_know 9 = .ok (.iload_n 2, 1) := by decide +kernel
theorem dX8_know_10 : decode cX8_know 10 = .ok (.invokevirtual 98, 3) := by decide +kernel
theorem dX8_know_13 : decode cX8_know 13 = .ok (.ireturn, 1) := by decide +kernel
theorem dX8_kind_0 : decode cX8_kind 0 = .ok (.aload_n 0, 1) := by decide +kernel
theorem dX8_kind_1 : decode cX8_kind 1 = .ok (.iload_n 1, 1) := by decide +kernel
theorem dX8_kind_2 : decode cX8_kind 2 = .ok (.invokevirtual 102, 3) := by decide +kernel
theorem dX8_kind_5 : decode cX8_kind 5 = .ok (.astore_n 3, 1) := by decide +kernel
theorem dX8_kind_6 : decode cX8_kind 6 = .ok (.iload_n 2, 1) := by decide +kernel
theorem dX8_kind_7 : decode cX8_kind 7 = .ok (.invokestatic 72, 3) := by decide +kernel
theorem dX8_kind_10 : decode cX8_kind 10 = .ok (.aload_n 3, 1) := by decide +kernel
theorem dX8_kind_11 : decode cX8_kind 11 = .ok (.getfield 106, 3) := by decide +kernel
theorem dX8_kind_14 : decode cX8_kind 14 = .ok (.istore 4, 2) := by decide +kernel
theorem dX8_kind_16 : decode cX8_kind 16 = .ok (.aload_n 3, 1) := by decide +kernel
theorem dX8_kind_17 : decode cX8_kind 17 = .ok (.iload_n 2, 1) := by decide +kernel
theorem dX8_kind_18 : decode cX8_kind 18 = .ok (.putfield 106, 3) := by decide +kernel
theorem dX8_kind_21 : decode cX8_kind 21 = .ok (.iload 4, 2) := by decide +kernel
theorem dX8_kind_23 : decode cX8_kind 23 = .ok (.ireturn, 1) := by decide +kernel
theorem dX8_about_0 : decode cX8_about 0 = .ok (.aload_n 0, 1) := by decide +kernel
theorem dX8_about_1 : decode cX8_about 1 = .ok (.iload_n 1, 1) := by decide +kernel
theorem dX8_about_2 : decode cX8_about 2 = .ok (.invokevirtual 102, 3) := by decide +kernel
theorem dX8_about_5 : decode cX8_about 5 = .ok (.astore_n 3, 1) := by decide +kernel
theorem dX8_about_6 : decode cX8_about 6 = .ok (.iload_n 2, 1) := by decide +kernel
theorem dX8_about_7 : decode cX8_about 7 = .ok (.tableswitch 58 0 4 #[33, 38, 43, 48, 53], 33) := by decide +kernel
theorem dX8_about_40 : decode cX8_about 40 = .ok (.aload_n 3, 1) := by decide +kernel
theorem dX8_about_41 : decode cX8_about 41 = .ok (.getfield 112, 3) := by decide +kernel
theorem dX8_about_44 : decode cX8_about 44 = .ok (.ireturn, 1) := by decide +kernel
theorem dX8_about_45 : decode cX8_about 45 = .ok (.aload_n 3, 1) := by decide +kernel
theorem dX8_about_46 : decode cX8_about 46 = .ok (.getfield 106, 3) := by decide +kernel
theorem dX8_about_49 : decode cX8_about 49 = .ok (.ireturn, 1) := by decide +kernel
theorem dX8_about_50 : decode cX8_about 50 = .ok (.aload_n 3, 1) := by decide +kernel
theorem dX8_about_51 : decode cX8_about 51 = .ok (.getfield 115, 3) := by decide +kernel
theorem dX8_about_54 : decode cX8_about 54 = .ok (.ireturn, 1) := by decide +kernel
theorem dX8_about_55 : decode cX8_about 55 = .ok (.aload_n 3, 1) := by decide +kernel
theorem dX8_about_56 : decode cX8_about 56 = .ok (.getfield 118, 3) := by decide +kernel
theorem dX8_about_59 : decode cX8_about 59 = .ok (.ireturn, 1) := by decide +kernel
theorem dX8_about_60 : decode cX8_about 60 = .ok (.aload_n 3, 1) := by decide +kernel
theorem dX8_about_61 : decode cX8_about 61 = .ok (.invokevirtual 121, 3) := by decide +kernel
theorem dX8_about_64 : decode cX8_about 64 = .ok (.ireturn, 1) := by decide +kernel
theorem dX8_about_65 : decode cX8_about 65 = .ok (.new 124, 3) := by decide +kernel
theorem dX8_about_68 : decode cX8_about 68 = .ok (.dup, 1) := by decide +kernel
theorem dX8_about_69 : decode cX8_about 69 = .ok (.ldc 126, 2) := by decide +kernel
theorem dX8_about_71 : decode cX8_about 71 = .ok (.invokespecial 128, 3) := by decide +kernel
theorem dX8_about_74 : decode cX8_about 74 = .ok (.athrow, 1) := by decide +kernel
theorem dX8_write_0 : decode cX8_write 0 = .ok (.aload_n 0, 1) := by decide +kernel
theorem dX8_write_1 : decode cX8_write 1 = .ok (.iload_n 1, 1) := by decide +kernel
theorem dX8_write_2 : decode cX8_write 2 = .ok (.invokevirtual 129, 3) := by decide +kernel
theorem dX8_write_5 : decode cX8_write 5 = .ok (.astore 7, 2) := by decide +kernel
theorem dX8_write_7 : decode cX8_write 7 = .ok (.aload 7, 2) := by decide +kernel
theorem dX8_write_9 : decode cX8_write 9 = .ok (.invokevirtual 58, 3) := by decide +kernel
theorem dX8_write_12 : decode cX8_write 12 = .ok (.sipush 580, 3) := by decide +kernel
theorem dX8_write_15 : decode cX8_write 15 = .ok (.if_icmp .le 5, 3) := by decide +kernel
theorem dX8_write_18 : decode cX8_write 18 = .ok (.iconst (-1), 1) := by decide +kernel
theorem dX8_write_19 : decode cX8_write 19 = .ok (.ireturn, 1) := by decide +kernel
theorem dX8_write_20 : decode cX8_write 20 = .ok (.aload 7, 2) := by decide +kernel
theorem dX8_write_22 : decode cX8_write 22 = .ok (.iload_n 2, 1) := by decide +kernel
theorem dX8_write_23 : decode cX8_write 23 = .ok (.invokestatic 133, 3) := by decide +kernel
theorem dX8_write_26 : decode cX8_write 26 = .ok (.aload 7, 2) := by decide +kernel
theorem dX8_write_28 : decode cX8_write 28 = .ok (.iload_n 3, 1) := by decide +kernel
theorem dX8_write_29 : decode cX8_write 29 = .ok (.invokestatic 133, 3) := by decide +kernel
theorem dX8_write_32 : decode cX8_write 32 = .ok (.aload 7, 2) := by decide +kernel
theorem dX8_write_34 : decode cX8_write 34 = .ok (.iload 4, 2) := by decide +kernel
theorem dX8_write_36 : decode cX8_write 36 = .ok (.invokestatic 133, 3) := by decide +kernel
theorem dX8_write_39 : decode cX8_write 39 = .ok (.aload 7, 2) := by decide +kernel
theorem dX8_write_41 : decode cX8_write 41 = .ok (.iload 5, 2) := by decide +kernel
theorem dX8_write_43 : decode cX8_write 43 = .ok (.invokestatic 133, 3) := by decide +kernel
theorem dX8_write_46 : decode cX8_write 46 = .ok (.aload 7, 2) := by decide +kernel
theorem dX8_write_48 : decode cX8_write 48 = .ok (.iload 6, 2) := by decide +kernel
theorem dX8_write_50 : decode cX8_write 50 = .ok (.invokestatic 133, 3) := by decide +kernel
theorem dX8_write_53 : decode cX8_write 53 = .ok (.aload 7, 2) := by decide +kernel
theorem dX8_write_55 : decode cX8_write 55 = .ok (.invokevirtual 58, 3) := by decide +kernel
theorem dX8_write_58 : decode cX8_write 58 = .ok (.ireturn, 1) := by decide +kernel
theorem dX8_cut_0 : decode cX8_cut 0 = .ok (.aload_n 0, 1) := by decide +kernel
theorem dX8_cut_1 : decode cX8_cut 1 = .ok (.iload_n 1, 1) := by decide +kernel
theorem dX8_cut_2 : decode cX8_cut 2 = .ok (.invokevirtual 129, 3) := by decide +kernel
theorem dX8_cut_5 : decode cX8_cut 5 = .ok (.astore_n 3, 1) := by decide +kernel
theorem dX8_cut_6 : decode cX8_cut 6 = .ok (.aload_n 3, 1) := by decide +kernel
theorem dX8_cut_7 : decode cX8_cut 7 = .ok (.invokevirtual 58, 3) := by decide +kernel
theorem dX8_cut_10 : decode cX8_cut 10 = .ok (.istore 4, 2) := by decide +kernel
theorem dX8_cut_12 : decode cX8_cut 12 = .ok (.iload_n 2, 1) := by decide +kernel
theorem dX8_cut_13 : decode cX8_cut 13 = .ok (.ifCond .lt 9, 3) := by decide +kernel
theorem dX8_cut_16 : decode cX8_cut 16 = .ok (.iload_n 2, 1) := by decide +kernel
theorem dX8_cut_17 : decode cX8_cut 17 = .ok (.iload 4, 2) := by decide +kernel
theorem dX8_cut_19 : decode cX8_cut 19 = .ok (.if_icmp .le 5, 3) := by decide +kernel
theorem dX8_cut_22 : decode cX8_cut 22 = .ok (.iconst (-1), 1) := by decide +kernel
theorem dX8_cut_23 : decode cX8_cut 23 = .ok (.ireturn, 1) := by decide +kernel
theorem dX8_cut_24 : decode cX8_cut 24 = .ok (.aload_n 3, 1) := by decide +kernel
theorem dX8_cut_25 : decode cX8_cut 25 = .ok (.iload_n 2, 1) := by decide +kernel
theorem dX8_cut_26 : decode cX8_cut 26 = .ok (.invokevirtual 66, 3) := by decide +kernel
theorem dX8_cut_29 : decode cX8_cut 29 = .ok (.iload 4, 2) := by decide +kernel
theorem dX8_cut_31 : decode cX8_cut 31 = .ok (.iload_n 2, 1) := by decide +kernel
theorem dX8_cut_32 : decode cX8_cut 32 = .ok (.isub, 1) := by decide +kernel
theorem dX8_cut_33 : decode cX8_cut 33 = .ok (.ireturn, 1) := by decide +kernel
theorem dX8_byteAt_0 : decode cX8_byteAt 0 = .ok (.aload_n 0, 1) := by decide +kernel
theorem dX8_byteAt_1 : decode cX8_byteAt 1 = .ok (.iload_n 1, 1) := by decide +kernel
theorem dX8_byteAt_2 : decode cX8_byteAt 2 = .ok (.invokevirtual 129, 3) := by decide +kernel
theorem dX8_byteAt_5 : decode cX8_byteAt 5 = .ok (.astore_n 3, 1) := by decide +kernel
theorem dX8_byteAt_6 : decode cX8_byteAt 6 = .ok (.iload_n 2, 1) := by decide +kernel
theorem dX8_byteAt_7 : decode cX8_byteAt 7 = .ok (.iconst (-1), 1) := by decide +kernel
theorem dX8_byteAt_8 : decode cX8_byteAt 8 = .ok (.if_icmp .ne 8, 3) := by decide +kernel
theorem dX8_byteAt_11 : decode cX8_byteAt 11 = .ok (.aload_n 3, 1) := by decide +kernel
theorem dX8_byteAt_12 : decode cX8_byteAt 12 = .ok (.invokevirtual 58, 3) := by decide +kernel
theorem dX8_byteAt_15 : decode cX8_byteAt 15 = .ok (.ireturn, 1) := by decide +kernel
theorem dX8_byteAt_16 : decode cX8_byteAt 16 = .ok (.iload_n 2, 1) := by decide +kernel
theorem dX8_byteAt_17 : decode cX8_byteAt 17 = .ok (.ifCond .lt 11, 3) := by decide +kernel
theorem dX8_byteAt_20 : decode cX8_byteAt 20 = .ok (.iload_n 2, 1) := by decide +kernel
theorem dX8_byteAt_21 : decode cX8_byteAt 21 = .ok (.aload_n 3, 1) := by decide +kernel
theorem dX8_byteAt_22 : decode cX8_byteAt 22 = .ok (.invokevirtual 58, 3) := by decide +kernel
theorem dX8_byteAt_25 : decode cX8_byteAt 25 = .ok (.if_icmp .lt 13, 3) := by decide +kernel
theorem dX8_byteAt_28 : decode cX8_byteAt 28 = .ok (.new 124, 3) := by decide +kernel
theorem dX8_byteAt_31 : decode cX8_byteAt 31 = .ok (.dup, 1) := by decide +kernel
theorem dX8_byteAt_32 : decode cX8_byteAt 32 = .ok (.ldc 137, 2) := by decide +kernel
theorem dX8_byteAt_34 : decode cX8_byteAt 34 = .ok (.invokespecial 128, 3) := by decide +kernel
theorem dX8_byteAt_37 : decode cX8_byteAt 37 = .ok (.athrow, 1) := by decide +kernel
theorem dX8_byteAt_38 : decode cX8_byteAt 38 = .ok (.aload_n 3, 1) := by decide +kernel
theorem dX8_byteAt_39 : decode cX8_byteAt 39 = .ok (.iload_n 2, 1) := by decide +kernel
theorem dX8_byteAt_40 : decode cX8_byteAt 40 = .ok (.invokevirtual 139, 3) := by decide +kernel
theorem dX8_byteAt_43 : decode cX8_byteAt 43 = .ok (.ireturn, 1) := by decide +kernel
theorem dX8_uses_0 : decode cX8_uses 0 = .ok (.aload_n 0, 1) := by decide +kernel
theorem dX8_uses_1 : decode cX8_uses 1 = .ok (.getfield 41, 3) := by decide +kernel
theorem dX8_uses_4 : decode cX8_uses 4 = .ok (.aload_n 0, 1) := by decide +kernel
theorem dX8_uses_5 : decode cX8_uses 5 = .ok (.iload_n 1, 1) := by decide +kernel
theorem dX8_uses_6 : decode cX8_uses 6 = .ok (.invokevirtual 129, 3) := by decide +kernel
theorem dX8_uses_9 : decode cX8_uses 9 = .ok (.invokevirtual 143, 3) := by decide +kernel
theorem dX8_uses_12 : decode cX8_uses 12 = .ok (.aload_n 0, 1) := by decide +kernel
theorem dX8_uses_13 : decode cX8_uses 13 = .ok (.getfield 41, 3) := by decide +kernel
theorem dX8_uses_16 : decode cX8_uses 16 = .ok (.invokevirtual 147, 3) := by decide +kernel
theorem dX8_uses_19 : decode cX8_uses 19 = .ok (.ireturn, 1) := by decide +kernel
theorem dX8_use_0 : decode cX8_use 0 = .ok (.aload_n 0, 1) := by decide +kernel
theorem dX8_use_1 : decode cX8_use 1 = .ok (.getfield 41, 3) := by decide +kernel
theorem dX8_use_4 : decode cX8_use 4 = .ok (.aload_n 0, 1) := by decide +kernel
theorem dX8_use_5 : decode cX8_use 5 = .ok (.iload_n 1, 1) := by decide +kernel
theorem dX8_use_6 : decode cX8_use 6 = .ok (.invokevirtual 129, 3) := by decide +kernel
theorem dX8_use_9 : decode cX8_use 9 = .ok (.invokevirtual 143, 3) := by decide +kernel
theorem dX8_use_12 : decode cX8_use 12 = .ok (.iload_n 2, 1) := by decide +kernel
theorem dX8_use_13 : decode cX8_use 13 = .ok (.ifCond .lt 14, 3) := by decide +kernel
theorem dX8_use_16 : decode cX8_use 16 = .ok (.iload_n 2, 1) := by decide +kernel
theorem dX8_use_17 : decode cX8_use 17 = .ok (.aload_n 0, 1) := by decide +kernel
theorem dX8_use_18 : decode cX8_use 18 = .ok (.getfield 41, 3) := by decide +kernel
theorem dX8_use_21 : decode cX8_use 21 = .ok (.invokevirtual 147, 3) := by decide +kernel
theorem dX8_use_24 : decode cX8_use 24 = .ok (.if_icmp .lt 13, 3) := by decide +kernel
theorem dX8_use_27 : decode cX8_use 27 = .ok (.new 124, 3) := by decide +kernel
theorem dX8_use_30 : decode cX8_use 30 = .ok (.dup, 1) := by decide +kernel
theorem dX8_use_31 : decode cX8_use 31 = .ok (.ldc 148, 2) := by decide +kernel
theorem dX8_use_33 : decode cX8_use 33 = .ok (.invokespecial 128, 3) := by decide +kernel
theorem dX8_use_36 : decode cX8_use 36 = .ok (.athrow, 1) := by decide +kernel
theorem dX8_use_37 : decode cX8_use 37 = .ok (.iload_n 3, 1) := by decide +kernel
theorem dX8_use_38 : decode cX8_use 38 = .ok (.tableswitch 79 0 4 #[34, 43, 52, 61, 70], 34) := by decide +kernel
theorem dX8_use_72 : decode cX8_use 72 = .ok (.aload_n 0, 1) := by decide +kernel
theorem dX8_use_73 : decode cX8_use 73 = .ok (.getfield 41, 3) := by decide +kernel
theorem dX8_use_76 : decode cX8_use 76 = .ok (.iload_n 2, 1) := by decide +kernel
theorem dX8_use_77 : decode cX8_use 77 = .ok (.invokevirtual 150, 3) := by decide +kernel
theorem dX8_use_80 : decode cX8_use 80 = .ok (.ireturn, 1) := by decide +kernel
theorem dX8_use_81 : decode cX8_use 81 = .ok (.aload_n 0, 1) := by decide +kernel
theorem dX8_use_82 : decode cX8_use 82 = .ok (.getfield 41, 3) := by decide +kernel
theorem dX8_use_85 : decode cX8_use 85 = .ok (.iload_n 2, 1) := by decide +kernel
theorem dX8_use_86 : decode cX8_use 86 = .ok (.invokevirtual 153, 3) := by decide +kernel
theorem dX8_use_89 : decode cX8_use 89 = .ok (.ireturn, 1) := by decide +kernel
theorem dX8_use_90 : decode cX8_use 90 = .ok (.aload_n 0, 1) := by decide +kernel
theorem dX8_use_91 : decode cX8_use 91 = .ok (.getfield 41, 3) := by decide +kernel
theorem dX8_use_94 : decode cX8_use 94 = .ok (.iload_n 2, 1) := by decide +kernel
theorem dX8_use_95 : decode cX8_use 95 = .ok (.invokevirtual 156, 3) := by decide +kernel
theorem dX8_use_98 : decode cX8_use 98 = .ok (.ireturn, 1) := by decide +kernel
theorem dX8_use_99 : decode cX8_use 99 = .ok (.aload_n 0, 1) := by decide +kernel
theorem dX8_use_100 : decode cX8_use 100 = .ok (.getfield 41, 3) := by decide +kernel
theorem dX8_use_103 : decode cX8_use 103 = .ok (.iload_n 2, 1) := by decide +kernel
theorem dX8_use_104 : decode cX8_use 104 = .ok (.invokevirtual 159, 3) := by decide +kernel
theorem dX8_use_107 : decode cX8_use 107 = .ok (.ireturn, 1) := by decide +kernel
theorem dX8_use_108 : decode cX8_use 108 = .ok (.aload_n 0, 1) := by decide +kernel
theorem dX8_use_109 : decode cX8_use 109 = .ok (.getfield 41, 3) := by decide +kernel
theorem dX8_use_112 : decode cX8_use 112 = .ok (.iload_n 2, 1) := by decide +kernel
theorem dX8_use_113 : decode cX8_use 113 = .ok (.invokevirtual 162, 3) := by decide +kernel
theorem dX8_use_116 : decode cX8_use 116 = .ok (.ireturn, 1) := by decide +kernel
theorem dX8_use_117 : decode cX8_use 117 = .ok (.new 124, 3) := by decide +kernel
theorem dX8_use_120 : decode cX8_use 120 = .ok (.dup, 1) := by decide +kernel
theorem dX8_use_121 : decode cX8_use 121 = .ok (.ldc 165, 2) := by decide +kernel
theorem dX8_use_123 : decode cX8_use 123 = .ok (.invokespecial 128, 3) := by decide +kernel
theorem dX8_use_126 : decode cX8_use 126 = .ok (.athrow, 1) := by decide +kernel
theorem dX8_mend_0 : decode cX8_mend 0 = .ok (.aload_n 0, 1) := by decide +kernel
theorem dX8_mend_1 : decode cX8_mend 1 = .ok (.iload_n 1, 1) := by decide +kernel
theorem dX8_mend_2 : decode cX8_mend 2 = .ok (.invokevirtual 129, 3) := by decide +kernel
theorem dX8_mend_5 : decode cX8_mend 5 = .ok (.astore_n 3, 1) := by decide +kernel
theorem dX8_mend_6 : decode cX8_mend 6 = .ok (.aload_n 0, 1) := by decide +kernel
theorem dX8_mend_7 : decode cX8_mend 7 = .ok (.getfield 41, 3) := by decide +kernel
theorem dX8_mend_10 : decode cX8_mend 10 = .ok (.aload_n 3, 1) := by decide +kernel
theorem dX8_mend_11 : decode cX8_mend 11 = .ok (.invokevirtual 143, 3) := by decide +kernel
theorem dX8_mend_14 : decode cX8_mend 14 = .ok (.aload_n 0, 1) := by decide +kernel
theorem dX8_mend_15 : decode cX8_mend 15 = .ok (.getfield 50, 3) := by decide +kernel
theorem dX8_mend_18 : decode cX8_mend 18 = .ok (.aload_n 3, 1) := by decide +kernel
theorem dX8_mend_19 : decode cX8_mend 19 = .ok (.aload_n 0, 1) := by decide +kernel
theorem dX8_mend_20 : decode cX8_mend 20 = .ok (.getfield 41, 3) := by decide +kernel
theorem dX8_mend_23 : decode cX8_mend 23 = .ok (.iload_n 2, 1) := by decide +kernel
theorem dX8_mend_24 : decode cX8_mend 24 = .ok (.invokevirtual 167, 3) := by decide +kernel
theorem dX8_mend_27 : decode cX8_mend 27 = .ok (.ireturn, 1) := by decide +kernel
theorem dX8_mendAll_0 : decode cX8_mendAll 0 = .ok (.aload_n 0, 1) := by decide +kernel
theorem dX8_mendAll_1 : decode cX8_mendAll 1 = .ok (.iload_n 1, 1) := by decide +kernel
theorem dX8_mendAll_2 : decode cX8_mendAll 2 = .ok (.invokevirtual 129, 3) := by decide +kernel
theorem dX8_mendAll_5 : decode cX8_mendAll 5 = .ok (.astore_n 2, 1) := by decide +kernel
theorem dX8_mendAll_6 : decode cX8_mendAll 6 = .ok (.iconst 0, 1) := by decide +kernel
theorem dX8_mendAll_7 : decode cX8_mendAll 7 = .ok (.istore_n 3, 1) := by decide +kernel
theorem dX8_mendAll_8 : decode cX8_mendAll 8 = .ok (.iload_n 3, 1) := by decide +kernel
theorem dX8_mendAll_9 : decode cX8_mendAll 9 = .ok (.bipush 100, 2) := by decide +kernel
theorem dX8_mendAll_11 : decode cX8_mendAll 11 = .ok (.if_icmp .ge 34, 3) := by decide +kernel
theorem dX8_mendAll_14 : decode cX8_mendAll 14 = .ok (.aload_n 0, 1) := by decide +kernel
theorem dX8_mendAll_15 : decode cX8_mendAll 15 = .ok (.getfield 41, 3) := by decide +kernel
theorem dX8_mendAll_18 : decode cX8_mendAll 18 = .ok (.aload_n 2, 1) := by decide +kernel
theorem dX8_mendAll_19 : decode cX8_mendAll 19 = .ok (.invokevirtual 143, 3) := by decide +kernel
theorem dX8_mendAll_22 : decode cX8_mendAll 22 = .ok (.aload_n 0, 1) := by decide +kernel
theorem dX8_mendAll_23 : decode cX8_mendAll 23 = .ok (.getfield 50, 3) := by decide +kernel
theorem dX8_mendAll_26 : decode cX8_mendAll 26 = .ok (.aload_n 2, 1) := by decide +kernel
theorem dX8_mendAll_27 : decode cX8_mendAll 27 = .ok (.aload_n 0, 1) := by decide +kernel
theorem dX8_mendAll_28 : decode cX8_mendAll 28 = .ok (.getfield 41, 3) := by decide +kernel
theorem dX8_mendAll_31 : decode cX8_mendAll 31 = .ok (.invokevirtual 171, 3) := by decide +kernel
theorem dX8_mendAll_34 : decode cX8_mendAll 34 = .ok (.ifCond .ne 5, 3) := by decide +kernel
theorem dX8_mendAll_37 : decode cX8_mendAll 37 = .ok (.iload_n 3, 1) := by decide +kernel
theorem dX8_mendAll_38 : decode cX8_mendAll 38 = .ok (.ireturn, 1) := by decide +kernel
theorem dX8_mendAll_39 : decode cX8_mendAll 39 = .ok (.iinc 3 1, 3) := by decide +kernel
theorem dX8_mendAll_42 : decode cX8_mendAll 42 = .ok (.goto (-34), 3) := by decide +kernel
theorem dX8_mendAll_45 : decode cX8_mendAll 45 = .ok (.bipush 100, 2) := by decide +kernel
theorem dX8_mendAll_47 : decode cX8_mendAll 47 = .ok (.ireturn, 1) := by decide +kernel
theorem dX8_count_0 : decode cX8_count 0 = .ok (.aload_n 0, 1) := by decide +kernel
theorem dX8_count_1 : decode cX8_count 1 = .ok (.iload_n 1, 1) := by decide +kernel
theorem dX8_count_2 : decode cX8_count 2 = .ok (.invokevirtual 102, 3) := by decide +kernel
theorem dX8_count_5 : decode cX8_count 5 = .ok (.pop, 1) := by decide +kernel
theorem dX8_count_6 : decode cX8_count 6 = .ok (.iconst 0, 1) := by decide +kernel
theorem dX8_count_7 : decode cX8_count 7 = .ok (.istore_n 2, 1) := by decide +kernel
theorem dX8_count_8 : decode cX8_count 8 = .ok (.aload_n 0, 1) := by decide +kernel
theorem dX8_count_9 : decode cX8_count 9 = .ok (.getfield 18, 3) := by decide +kernel
theorem dX8_count_12 : decode cX8_count 12 = .ok (.astore_n 3, 1) := by decide +kernel
theorem dX8_count_13 : decode cX8_count 13 = .ok (.aload_n 3, 1) := by decide +kernel
theorem dX8_count_14 : decode cX8_count 14 = .ok (.arraylength, 1) := by decide +kernel
theorem dX8_count_15 : decode cX8_count 15 = .ok (.istore 4, 2) := by decide +kernel
theorem dX8_count_17 : decode cX8_count 17 = .ok (.iconst 0, 1) := by decide +kernel
theorem dX8_count_18 : decode cX8_count 18 = .ok (.istore 5, 2) := by decide +kernel
theorem dX8_count_20 : decode cX8_count 20 = .ok (.iload 5, 2) := by decide +kernel
theorem dX8_count_22 : decode cX8_count 22 = .ok (.iload 4, 2) := by decide +kernel
theorem dX8_count_24 : decode cX8_count 24 = .ok (.if_icmp .ge 35, 3) := by decide +kernel
theorem dX8_count_27 : decode cX8_count 27 = .ok (.aload_n 3, 1) := by decide +kernel
theorem dX8_count_28 : decode cX8_count 28 = .ok (.iload 5, 2) := by decide +kernel
theorem dX8_count_30 : decode cX8_count 30 = .ok (.aaload, 1) := by decide +kernel
theorem dX8_count_31 : decode cX8_count 31 = .ok (.astore 6, 2) := by decide +kernel
theorem dX8_count_33 : decode cX8_count 33 = .ok (.aload_n 0, 1) := by decide +kernel
theorem dX8_count_34 : decode cX8_count 34 = .ok (.getfield 41, 3) := by decide +kernel
theorem dX8_count_37 : decode cX8_count 37 = .ok (.aload 6, 2) := by decide +kernel
theorem dX8_count_39 : decode cX8_count 39 = .ok (.invokevirtual 143, 3) := by decide +kernel
theorem dX8_count_42 : decode cX8_count 42 = .ok (.iload_n 2, 1) := by decide +kernel
theorem dX8_count_43 : decode cX8_count 43 = .ok (.aload_n 0, 1) := by decide +kernel
theorem dX8_count_44 : decode cX8_count 44 = .ok (.getfield 41, 3) := by decide +kernel
theorem dX8_count_47 : decode cX8_count 47 = .ok (.iload_n 1, 1) := by decide +kernel
theorem dX8_count_48 : decode cX8_count 48 = .ok (.invokevirtual 175, 3) := by decide +kernel
theorem dX8_count_51 : decode cX8_count 51 = .ok (.iadd, 1) := by decide +kernel
theorem dX8_count_52 : decode cX8_count 52 = .ok (.istore_n 2, 1) := by decide +kernel
theorem dX8_count_53 : decode cX8_count 53 = .ok (.iinc 5 1, 3) := by decide +kernel
theorem dX8_count_56 : decode cX8_count 56 = .ok (.goto (-36), 3) := by decide +kernel
theorem dX8_count_59 : decode cX8_count 59 = .ok (.iload_n 2, 1) := by decide +kernel
theorem dX8_count_60 : decode cX8_count 60 = .ok (.ireturn, 1) := by decide +kernel
theorem dX8_ring_0 : decode cX8_ring 0 = .ok (.aload_n 0, 1) := by decide +kernel
theorem dX8_ring_1 : decode cX8_ring 1 = .ok (.getfield 32, 3) := by decide +kernel
theorem dX8_ring_4 : decode cX8_ring 4 = .ok (.invokevirtual 178, 3) := by decide +kernel
theorem dX8_ring_7 : decode cX8_ring 7 = .ok (.iload_n 1, 1) := by decide +kernel
theorem dX8_ring_8 : decode cX8_ring 8 = .ok (.iconst (-1), 1) := by decide +kernel
theorem dX8_ring_9 : decode cX8_ring 9 = .ok (.if_icmp .ne 11, 3) := by decide +kernel
theorem dX8_ring_12 : decode cX8_ring 12 = .ok (.aload_n 0, 1) := by decide +kernel
theorem dX8_ring_13 : decode cX8_ring 13 = .ok (.getfield 32, 3) := by decide +kernel
theorem dX8_ring_16 : decode cX8_ring 16 = .ok (.invokevirtual 181, 3) := by decide +kernel
theorem dX8_ring_19 : decode cX8_ring 19 = .ok (.ireturn, 1) := by decide +kernel
theorem dX8_ring_20 : decode cX8_ring 20 = .ok (.iload_n 1, 1) := by decide +kernel
theorem dX8_ring_21 : decode cX8_ring 21 = .ok (.ifCond .lt 14, 3) := by decide +kernel
theorem dX8_ring_24 : decode cX8_ring 24 = .ok (.iload_n 1, 1) := by decide +kernel
theorem dX8_ring_25 : decode cX8_ring 25 = .ok (.aload_n 0, 1) := by decide +kernel
theorem dX8_ring_26 : decode cX8_ring 26 = .ok (.getfield 32, 3) := by decide +kernel
theorem dX8_ring_29 : decode cX8_ring 29 = .ok (.invokevirtual 181, 3) := by decide +kernel
theorem dX8_ring_32 : decode cX8_ring 32 = .ok (.if_icmp .lt 13, 3) := by decide +kernel
theorem dX8_ring_35 : decode cX8_ring 35 = .ok (.new 124, 3) := by decide +kernel
theorem dX8_ring_38 : decode cX8_ring 38 = .ok (.dup, 1) := by decide +kernel
theorem dX8_ring_39 : decode cX8_ring 39 = .ok (.ldc 184, 2) := by decide +kernel
theorem dX8_ring_41 : decode cX8_ring 41 = .ok (.invokespecial 128, 3) := by decide +kernel
theorem dX8_ring_44 : decode cX8_ring 44 = .ok (.athrow, 1) := by decide +kernel
theorem dX8_ring_45 : decode cX8_ring 45 = .ok (.aload_n 0, 1) := by decide +kernel
theorem dX8_ring_46 : decode cX8_ring 46 = .ok (.getfield 32, 3) := by decide +kernel
theorem dX8_ring_49 : decode cX8_ring 49 = .ok (.iload_n 1, 1) := by decide +kernel
theorem dX8_ring_50 : decode cX8_ring 50 = .ok (.invokevirtual 186, 3) := by decide +kernel
theorem dX8_ring_53 : decode cX8_ring 53 = .ok (.ireturn, 1) := by decide +kernel
theorem dX8_fewest_0 : decode cX8_fewest 0 = .ok (.aload_n 0, 1) := by decide +kernel
theorem dX8_fewest_1 : decode cX8_fewest 1 = .ok (.getfield 32, 3) := by decide +kernel
theorem dX8_fewest_4 : decode cX8_fewest 4 = .ok (.invokevirtual 189, 3) := by decide +kernel
theorem dX8_fewest_7 : decode cX8_fewest 7 = .ok (.lreturn, 1) := by decide +kernel
theorem dX8_crossing_0 : decode cX8_crossing 0 = .ok (.aload_n 0, 1) := by decide +kernel
theorem dX8_crossing_1 : decode cX8_crossing 1 = .ok (.iload_n 1, 1) := by decide +kernel
theorem dX8_crossing_2 : decode cX8_crossing 2 = .ok (.invokevirtual 129, 3) := by decide +kernel
theorem dX8_crossing_5 : decode cX8_crossing 5 = .ok (.astore_n 3, 1) := by decide +kernel
theorem dX8_crossing_6 : decode cX8_crossing 6 = .ok (.aload_n 0, 1) := by decide +kernel
theorem dX8_crossing_7 : decode cX8_crossing 7 = .ok (.iload_n 2, 1) := by decide +kernel
theorem dX8_crossing_8 : decode cX8_crossing 8 = .ok (.invokevirtual 129, 3) := by decide +kernel
theorem dX8_crossing_11 : decode cX8_crossing 11 = .ok (.astore 4, 2) := by decide +kernel
theorem dX8_crossing_13 : decode cX8_crossing 13 = .ok (.aload_n 0, 1) := by decide +kernel
theorem dX8_crossing_14 : decode cX8_crossing 14 = .ok (.getfield 41, 3) := by decide +kernel
theorem dX8_crossing_17 : decode cX8_crossing 17 = .ok (.aload_n 3, 1) := by decide +kernel
theorem dX8_crossing_18 : decode cX8_crossing 18 = .ok (.invokevirtual 143, 3) := by decide +kernel
theorem dX8_crossing_21 : decode cX8_crossing 21 = .ok (.aload_n 0, 1) := by decide +kernel
theorem dX8_crossing_22 : decode cX8_crossing 22 = .ok (.getfield 41, 3) := by decide +kernel
theorem dX8_crossing_25 : decode cX8_crossing 25 = .ok (.invokevirtual 193, 3) := by decide +kernel
theorem dX8_crossing_28 : decode cX8_crossing 28 = .ok (.lstore 5, 2) := by decide +kernel
theorem dX8_crossing_30 : decode cX8_crossing 30 = .ok (.aload_n 0, 1) := by decide +kernel
theorem dX8_crossing_31 : decode cX8_crossing 31 = .ok (.getfield 41, 3) := by decide +kernel
theorem dX8_crossing_34 : decode cX8_crossing 34 = .ok (.invokevirtual 196, 3) := by decide +kernel
theorem dX8_crossing_37 : decode cX8_crossing 37 = .ok (.lstore 7, 2) := by decide +kernel
theorem dX8_crossing_39 : decode cX8_crossing 39 = .ok (.aload_n 0, 1) := by decide +kernel
theorem dX8_crossing_40 : decode cX8_crossing 40 = .ok (.getfield 41, 3) := by decide +kernel
theorem dX8_crossing_43 : decode cX8_crossing 43 = .ok (.aload 4, 2) := by decide +kernel
theorem dX8_crossing_45 : decode cX8_crossing 45 = .ok (.invokevirtual 143, 3) := by decide +kernel
theorem dX8_crossing_48 : decode cX8_crossing 48 = .ok (.lload 5, 2) := by decide +kernel
theorem dX8_crossing_50 : decode cX8_crossing 50 = .ok (.aload_n 0, 1) := by decide +kernel
theorem dX8_crossing_51 : decode cX8_crossing 51 = .ok (.getfield 41, 3) := by decide +kernel
theorem dX8_crossing_54 : decode cX8_crossing 54 = .ok (.invokevirtual 193, 3) := by decide +kernel
theorem dX8_crossing_57 : decode cX8_crossing 57 = .ok (.land, 1) := by decide +kernel
theorem dX8_crossing_58 : decode cX8_crossing 58 = .ok (.aload_n 0, 1) := by decide +kernel
theorem dX8_crossing_59 : decode cX8_crossing 59 = .ok (.getfield 25, 3) := by decide +kernel
theorem dX8_crossing_62 : decode cX8_crossing 62 = .ok (.lload 7, 2) := by decide +kernel
theorem dX8_crossing_64 : decode cX8_crossing 64 = .ok (.aload_n 0, 1) := by decide +kernel
theorem dX8_crossing_65 : decode cX8_crossing 65 = .ok (.getfield 41, 3) := by decide +kernel
theorem dX8_crossing_68 : decode cX8_crossing 68 = .ok (.invokevirtual 196, 3) := by decide +kernel
theorem dX8_crossing_71 : decode cX8_crossing 71 = .ok (.land, 1) := by decide +kernel
theorem dX8_crossing_72 : decode cX8_crossing 72 = .ok (.invokevirtual 199, 3) := by decide +kernel
theorem dX8_crossing_75 : decode cX8_crossing 75 = .ok (.ldc2_w 203, 3) := by decide +kernel
theorem dX8_crossing_78 : decode cX8_crossing 78 = .ok (.lxor, 1) := by decide +kernel
theorem dX8_crossing_79 : decode cX8_crossing 79 = .ok (.land, 1) := by decide +kernel
theorem dX8_crossing_80 : decode cX8_crossing 80 = .ok (.lreturn, 1) := by decide +kernel
theorem dX8_total_0 : decode cX8_total 0 = .ok (.iload_n 1, 1) := by decide +kernel
theorem dX8_total_1 : decode cX8_total 1 = .ok (.tableswitch 81 0 4 #[35, 43, 51, 59, 73], 35) := by decide +kernel
theorem dX8_total_36 : decode cX8_total 36 = .ok (.aload_n 0, 1) := by decide +kernel
theorem dX8_total_37 : decode cX8_total 37 = .ok (.getfield 25, 3) := by decide +kernel
theorem dX8_total_40 : decode cX8_total 40 = .ok (.invokevirtual 205, 3) := by decide +kernel
theorem dX8_total_43 : decode cX8_total 43 = .ok (.ireturn, 1) := by decide +kernel
theorem dX8_total_44 : decode cX8_total 44 = .ok (.aload_n 0, 1) := by decide +kernel
theorem dX8_total_45 : decode cX8_total 45 = .ok (.getfield 25, 3) := by decide +kernel
theorem dX8_total_48 : decode cX8_total 48 = .ok (.invokevirtual 208, 3) := by decide +kernel
theorem dX8_total_51 : decode cX8_total 51 = .ok (.ireturn, 1) := by decide +kernel
theorem dX8_total_52 : decode cX8_total 52 = .ok (.aload_n 0, 1) := by decide +kernel
theorem dX8_total_53 : decode cX8_total 53 = .ok (.getfield 14, 3) := by decide +kernel
theorem dX8_total_56 : decode cX8_total 56 = .ok (.invokevirtual 58, 3) := by decide +kernel
theorem dX8_total_59 : decode cX8_total 59 = .ok (.ireturn, 1) := by decide +kernel
theorem dX8_total_60 : decode cX8_total 60 = .ok (.aload_n 0, 1) := by decide +kernel
theorem dX8_total_61 : decode cX8_total 61 = .ok (.getfield 25, 3) := by decide +kernel
theorem dX8_total_64 : decode cX8_total 64 = .ok (.ldc2_w 203, 3) := by decide +kernel
theorem dX8_total_67 : decode cX8_total 67 = .ok (.invokevirtual 199, 3) := by decide +kernel
theorem dX8_total_70 : decode cX8_total 70 = .ok (.invokestatic 211, 3) := by decide +kernel
theorem dX8_total_73 : decode cX8_total 73 = .ok (.ireturn, 1) := by decide +kernel
theorem dX8_total_74 : decode cX8_total 74 = .ok (.aload_n 0, 1) := by decide +kernel
theorem dX8_total_75 : decode cX8_total 75 = .ok (.getfield 50, 3) := by decide +kernel
theorem dX8_total_78 : decode cX8_total 78 = .ok (.invokevirtual 217, 3) := by decide +kernel
theorem dX8_total_81 : decode cX8_total 81 = .ok (.ireturn, 1) := by decide +kernel
theorem dX8_total_82 : decode cX8_total 82 = .ok (.new 124, 3) := by decide +kernel
theorem dX8_total_85 : decode cX8_total 85 = .ok (.dup, 1) := by decide +kernel
theorem dX8_total_86 : decode cX8_total 86 = .ok (.ldc 220, 2) := by decide +kernel
theorem dX8_total_88 : decode cX8_total 88 = .ok (.invokespecial 128, 3) := by decide +kernel
theorem dX8_total_91 : decode cX8_total 91 = .ok (.athrow, 1) := by decide +kernel
theorem dX8_needThing_0 : decode cX8_needThing 0 = .ok (.iload_n 0, 1) := by decide +kernel
theorem dX8_needThing_1 : decode cX8_needThing 1 = .ok (.ifCond .lt 9, 3) := by decide +kernel
theorem dX8_needThing_4 : decode cX8_needThing 4 = .ok (.iload_n 0, 1) := by decide +kernel
theorem dX8_needThing_5 : decode cX8_needThing 5 = .ok (.bipush 40, 2) := by decide +kernel
theorem dX8_needThing_7 : decode cX8_needThing 7 = .ok (.if_icmp .lt 13, 3) := by decide +kernel
theorem dX8_needThing_10 : decode cX8_needThing 10 = .ok (.new 75, 3) := by decide +kernel
theorem dX8_needThing_13 : decode cX8_needThing 13 = .ok (.dup, 1) := by decide +kernel
theorem dX8_needThing_14 : decode cX8_needThing 14 = .ok (.ldc 222, 2) := by decide +kernel
theorem dX8_needThing_16 : decode cX8_needThing 16 = .ok (.invokespecial 79, 3) := by decide +kernel
theorem dX8_needThing_19 : decode cX8_needThing 19 = .ok (.athrow, 1) := by decide +kernel
theorem dX8_needThing_20 : decode cX8_needThing 20 = .ok (.return_, 1) := by decide +kernel
theorem dX8_needKind_0 : decode cX8_needKind 0 = .ok (.iload_n 0, 1) := by decide +kernel
theorem dX8_needKind_1 : decode cX8_needKind 1 = .ok (.ifCond .lt 8, 3) := by decide +kernel
theorem dX8_needKind_4 : decode cX8_needKind 4 = .ok (.iload_n 0, 1) := by decide +kernel
theorem dX8_needKind_5 : decode cX8_needKind 5 = .ok (.iconst 3, 1) := by decide +kernel
theorem dX8_needKind_6 : decode cX8_needKind 6 = .ok (.if_icmp .le 13, 3) := by decide +kernel
theorem dX8_needKind_9 : decode cX8_needKind 9 = .ok (.new 75, 3) := by decide +kernel
theorem dX8_needKind_12 : decode cX8_needKind 12 = .ok (.dup, 1) := by decide +kernel
theorem dX8_needKind_13 : decode cX8_needKind 13 = .ok (.ldc 224, 2) := by decide +kernel
theorem dX8_needKind_15 : decode cX8_needKind 15 = .ok (.invokespecial 79, 3) := by decide +kernel
theorem dX8_needKind_18 : decode cX8_needKind 18 = .ok (.athrow, 1) := by decide +kernel
theorem dX8_needKind_19 : decode cX8_needKind 19 = .ok (.return_, 1) := by decide +kernel
theorem dX8_needTerm_0 : decode cX8_needTerm 0 = .ok (.aload_n 0, 1) := by decide +kernel
theorem dX8_needTerm_1 : decode cX8_needTerm 1 = .ok (.getfield 25, 3) := by decide +kernel
theorem dX8_needTerm_4 : decode cX8_needTerm 4 = .ok (.iload_n 1, 1) := by decide +kernel
theorem dX8_needTerm_5 : decode cX8_needTerm 5 = .ok (.invokevirtual 226, 3) := by decide +kernel
theorem dX8_needTerm_8 : decode cX8_needTerm 8 = .ok (.ifCond .ne 13, 3) := by decide +kernel
theorem dX8_needTerm_11 : decode cX8_needTerm 11 = .ok (.new 124, 3) := by decide +kernel
theorem dX8_needTerm_14 : decode cX8_needTerm 14 = .ok (.dup, 1) := by decide +kernel
theorem dX8_needTerm_15 : decode cX8_needTerm 15 = .ok (.ldc 229, 2) := by decide +kernel
theorem dX8_needTerm_17 : decode cX8_needTerm 17 = .ok (.invokespecial 128, 3) := by decide +kernel
theorem dX8_needTerm_20 : decode cX8_needTerm 20 = .ok (.athrow, 1) := by decide +kernel
theorem dX8_needTerm_21 : decode cX8_needTerm 21 = .ok (.aload_n 0, 1) := by decide +kernel
theorem dX8_needTerm_22 : decode cX8_needTerm 22 = .ok (.getfield 25, 3) := by decide +kernel
theorem dX8_needTerm_25 : decode cX8_needTerm 25 = .ok (.iload_n 1, 1) := by decide +kernel
theorem dX8_needTerm_26 : decode cX8_needTerm 26 = .ok (.invokevirtual 231, 3) := by decide +kernel
theorem dX8_needTerm_29 : decode cX8_needTerm 29 = .ok (.areturn, 1) := by decide +kernel
theorem dX8_needText_0 : decode cX8_needText 0 = .ok (.iload_n 1, 1) := by decide +kernel
theorem dX8_needText_1 : decode cX8_needText 1 = .ok (.ifCond .lt 12, 3) := by decide +kernel
theorem dX8_needText_4 : decode cX8_needText 4 = .ok (.iload_n 1, 1) := by decide +kernel
theorem dX8_needText_5 : decode cX8_needText 5 = .ok (.aload_n 0, 1) := by decide +kernel
theorem dX8_needText_6 : decode cX8_needText 6 = .ok (.getfield 18, 3) := by decide +kernel
theorem dX8_needText_9 : decode cX8_needText 9 = .ok (.arraylength, 1) := by decide +kernel
theorem dX8_needText_10 : decode cX8_needText 10 = .ok (.if_icmp .lt 13, 3) := by decide +kernel
theorem dX8_needText_13 : decode cX8_needText 13 = .ok (.new 75, 3) := by decide +kernel
theorem dX8_needText_16 : decode cX8_needText 16 = .ok (.dup, 1) := by decide +kernel
theorem dX8_needText_17 : decode cX8_needText 17 = .ok (.ldc 234, 2) := by decide +kernel
theorem dX8_needText_19 : decode cX8_needText 19 = .ok (.invokespecial 79, 3) := by decide +kernel
theorem dX8_needText_22 : decode cX8_needText 22 = .ok (.athrow, 1) := by decide +kernel
theorem dX8_needText_23 : decode cX8_needText 23 = .ok (.aload_n 0, 1) := by decide +kernel
theorem dX8_needText_24 : decode cX8_needText 24 = .ok (.getfield 18, 3) := by decide +kernel
theorem dX8_needText_27 : decode cX8_needText 27 = .ok (.iload_n 1, 1) := by decide +kernel
theorem dX8_needText_28 : decode cX8_needText 28 = .ok (.aaload, 1) := by decide +kernel
theorem dX8_needText_29 : decode cX8_needText 29 = .ok (.areturn, 1) := by decide +kernel
theorem dX8_pushNumber_0 : decode cX8_pushNumber 0 = .ok (.bipush 24, 2) := by decide +kernel
theorem dX8_pushNumber_2 : decode cX8_pushNumber 2 = .ok (.istore_n 2, 1) := by decide +kernel
theorem dX8_pushNumber_3 : decode cX8_pushNumber 3 = .ok (.iload_n 2, 1) := by decide +kernel
theorem dX8_pushNumber_4 : decode cX8_pushNumber 4 = .ok (.ifCond .lt 17, 3) := by decide +kernel
theorem dX8_pushNumber_7 : decode cX8_pushNumber 7 = .ok (.aload_n 0, 1) := by decide +kernel
theorem dX8_pushNumber_8 : decode cX8_pushNumber 8 = .ok (.iload_n 1, 1) := by decide +kernel
theorem dX8_pushNumber_9 : decode cX8_pushNumber 9 = .ok (.iload_n 2, 1) := by decide +kernel
theorem dX8_pushNumber_10 : decode cX8_pushNumber 10 = .ok (.iushr, 1) := by decide +kernel
theorem dX8_pushNumber_11 : decode cX8_pushNumber 11 = .ok (.invokevirtual 54, 3) := by decide +kernel
theorem dX8_pushNumber_14 : decode cX8_pushNumber 14 = .ok (.pop, 1) := by decide +kernel
theorem dX8_pushNumber_15 : decode cX8_pushNumber 15 = .ok (.iinc 2 (-8), 3) := by decide +kernel
theorem dX8_pushNumber_18 : decode cX8_pushNumber 18 = .ok (.goto (-15), 3) := by decide +kernel
theorem dX8_pushNumber_21 : decode cX8_pushNumber 21 = .ok (.return_, 1) := by decide +kernel
theorem dX8_isLetter_0 : decode cX8_isLetter 0 = .ok (.iload_n 0, 1) := by decide +kernel
theorem dX8_isLetter_1 : decode cX8_isLetter 1 = .ok (.bipush 97, 2) := by decide +kernel
theorem dX8_isLetter_3 : decode cX8_isLetter 3 = .ok (.if_icmp .lt 9, 3) := by decide +kernel
theorem dX8_isLetter_6 : decode cX8_isLetter 6 = .ok (.iload_n 0, 1) := by decide +kernel
theorem dX8_isLetter_7 : decode cX8_isLetter 7 = .ok (.bipush 122, 2) := by decide +kernel
theorem dX8_isLetter_9 : decode cX8_isLetter 9 = .ok (.if_icmp .le 10, 3) := by decide +kernel
theorem dX8_isLetter_12 : decode cX8_isLetter 12 = .ok (.iload_n 0, 1) := by decide +kernel
theorem dX8_isLetter_13 : decode cX8_isLetter 13 = .ok (.invokestatic 236, 3) := by decide +kernel
theorem dX8_isLetter_16 : decode cX8_isLetter 16 = .ok (.ifCond .eq 7, 3) := by decide +kernel
theorem dX8_isLetter_19 : decode cX8_isLetter 19 = .ok (.iconst 1, 1) := by decide +kernel
theorem dX8_isLetter_20 : decode cX8_isLetter 20 = .ok (.goto 4, 3) := by decide +kernel
theorem dX8_isLetter_23 : decode cX8_isLetter 23 = .ok (.iconst 0, 1) := by decide +kernel
theorem dX8_isLetter_24 : decode cX8_isLetter 24 = .ok (.ireturn, 1) := by decide +kernel
theorem dX8_isGreat_0 : decode cX8_isGreat 0 = .ok (.iload_n 0, 1) := by decide +kernel
theorem dX8_isGreat_1 : decode cX8_isGreat 1 = .ok (.bipush 65, 2) := by decide +kernel
theorem dX8_isGreat_3 : decode cX8_isGreat 3 = .ok (.if_icmp .lt 13, 3) := by decide +kernel
theorem dX8_isGreat_6 : decode cX8_isGreat 6 = .ok (.iload_n 0, 1) := by decide +kernel
theorem dX8_isGreat_7 : decode cX8_isGreat 7 = .ok (.bipush 90, 2) := by decide +kernel
theorem dX8_isGreat_9 : decode cX8_isGreat 9 = .ok (.if_icmp .gt 7, 3) := by decide +kernel
theorem dX8_isGreat_12 : decode cX8_isGreat 12 = .ok (.iconst 1, 1) := by decide +kernel
theorem dX8_isGreat_13 : decode cX8_isGreat 13 = .ok (.goto 4, 3) := by decide +kernel
theorem dX8_isGreat_16 : decode cX8_isGreat 16 = .ok (.iconst 0, 1) := by decide +kernel
theorem dX8_isGreat_17 : decode cX8_isGreat 17 = .ok (.ireturn, 1) := by decide +kernel
theorem dX8_endsSentence_0 : decode cX8_endsSentence 0 = .ok (.iload_n 0, 1) := by decide +kernel
theorem dX8_endsSentence_1 : decode cX8_endsSentence 1 = .ok (.bipush 46, 2) := by decide +kernel
theorem dX8_endsSentence_3 : decode cX8_endsSentence 3 = .ok (.if_icmp .eq 21, 3) := by decide +kernel
theorem dX8_endsSentence_6 : decode cX8_endsSentence 6 = .ok (.iload_n 0, 1) := by decide +kernel
theorem dX8_endsSentence_7 : decode cX8_endsSentence 7 = .ok (.bipush 33, 2) := by decide +kernel
theorem dX8_endsSentence_9 : decode cX8_endsSentence 9 = .ok (.if_icmp .eq 15, 3) := by decide +kernel
theorem dX8_endsSentence_12 : decode cX8_endsSentence 12 = .ok (.iload_n 0, 1) := by decide +kernel
theorem dX8_endsSentence_13 : decode cX8_endsSentence 13 = .ok (.bipush 63, 2) := by decide +kernel
theorem dX8_endsSentence_15 : decode cX8_endsSentence 15 = .ok (.if_icmp .eq 9, 3) := by decide +kernel
theorem dX8_endsSentence_18 : decode cX8_endsSentence 18 = .ok (.iload_n 0, 1) := by decide +kernel
theorem dX8_endsSentence_19 : decode cX8_endsSentence 19 = .ok (.bipush 59, 2) := by decide +kernel
theorem dX8_endsSentence_21 : decode cX8_endsSentence 21 = .ok (.if_icmp .ne 7, 3) := by decide +kernel
theorem dX8_endsSentence_24 : decode cX8_endsSentence 24 = .ok (.iconst 1, 1) := by decide +kernel
theorem dX8_endsSentence_25 : decode cX8_endsSentence 25 = .ok (.goto 4, 3) := by decide +kernel
theorem dX8_endsSentence_28 : decode cX8_endsSentence 28 = .ok (.iconst 0, 1) := by decide +kernel
theorem dX8_endsSentence_29 : decode cX8_endsSentence 29 = .ok (.ireturn, 1) := by decide +kernel
theorem dJ6_bitCount_0f7a4_0 : decode cJ6_bitCount_0f7a4 0 = .ok (.iload_n 0, 1) := by decide +kernel
theorem dJ6_bitCount_0f7a4_1 : decode cJ6_bitCount_0f7a4 1 = .ok (.iload_n 0, 1) := by decide +kernel
theorem dJ6_bitCount_0f7a4_2 : decode cJ6_bitCount_0f7a4 2 = .ok (.iconst 1, 1) := by decide +kernel
theorem dJ6_bitCount_0f7a4_3 : decode cJ6_bitCount_0f7a4 3 = .ok (.iushr, 1) := by decide +kernel
theorem dJ6_bitCount_0f7a4_4 : decode cJ6_bitCount_0f7a4 4 = .ok (.ldc_w 265, 3) := by decide +kernel
theorem dJ6_bitCount_0f7a4_7 : decode cJ6_bitCount_0f7a4 7 = .ok (.iand, 1) := by decide +kernel
theorem dJ6_bitCount_0f7a4_8 : decode cJ6_bitCount_0f7a4 8 = .ok (.isub, 1) := by decide +kernel
theorem dJ6_bitCount_0f7a4_9 : decode cJ6_bitCount_0f7a4 9 = .ok (.istore_n 0, 1) := by decide +kernel
theorem dJ6_bitCount_0f7a4_10 : decode cJ6_bitCount_0f7a4 10 = .ok (.iload_n 0, 1) := by decide +kernel
theorem dJ6_bitCount_0f7a4_11 : decode cJ6_bitCount_0f7a4 11 = .ok (.ldc_w 266, 3) := by decide +kernel
theorem dJ6_bitCount_0f7a4_14 : decode cJ6_bitCount_0f7a4 14 = .ok (.iand, 1) := by decide +kernel
theorem dJ6_bitCount_0f7a4_15 : decode cJ6_bitCount_0f7a4 15 = .ok (.iload_n 0, 1) := by decide +kernel
theorem dJ6_bitCount_0f7a4_16 : decode cJ6_bitCount_0f7a4 16 = .ok (.iconst 2, 1) := by decide +kernel
theorem dJ6_bitCount_0f7a4_17 : decode cJ6_bitCount_0f7a4 17 = .ok (.iushr, 1) := by decide +kernel
theorem dJ6_bitCount_0f7a4_18 : decode cJ6_bitCount_0f7a4 18 = .ok (.ldc_w 266, 3) := by decide +kernel
theorem dJ6_bitCount_0f7a4_21 : decode cJ6_bitCount_0f7a4 21 = .ok (.iand, 1) := by decide +kernel
theorem dJ6_bitCount_0f7a4_22 : decode cJ6_bitCount_0f7a4 22 = .ok (.iadd, 1) := by decide +kernel
theorem dJ6_bitCount_0f7a4_23 : decode cJ6_bitCount_0f7a4 23 = .ok (.istore_n 0, 1) := by decide +kernel
theorem dJ6_bitCount_0f7a4_24 : decode cJ6_bitCount_0f7a4 24 = .ok (.iload_n 0, 1) := by decide +kernel
theorem dJ6_bitCount_0f7a4_25 : decode cJ6_bitCount_0f7a4 25 = .ok (.iload_n 0, 1) := by decide +kernel
theorem dJ6_bitCount_0f7a4_26 : decode cJ6_bitCount_0f7a4 26 = .ok (.iconst 4, 1) := by decide +kernel
theorem dJ6_bitCount_0f7a4_27 : decode cJ6_bitCount_0f7a4 27 = .ok (.iushr, 1) := by decide +kernel
theorem dJ6_bitCount_0f7a4_28 : decode cJ6_bitCount_0f7a4 28 = .ok (.iadd, 1) := by decide +kernel
theorem dJ6_bitCount_0f7a4_29 : decode cJ6_bitCount_0f7a4 29 = .ok (.ldc_w 267, 3) := by decide +kernel
theorem dJ6_bitCount_0f7a4_32 : decode cJ6_bitCount_0f7a4 32 = .ok (.iand, 1) := by decide +kernel
theorem dJ6_bitCount_0f7a4_33 : decode cJ6_bitCount_0f7a4 33 = .ok (.istore_n 0, 1) := by decide +kernel
theorem dJ6_bitCount_0f7a4_34 : decode cJ6_bitCount_0f7a4 34 = .ok (.iload_n 0, 1) := by decide +kernel
theorem dJ6_bitCount_0f7a4_35 : decode cJ6_bitCount_0f7a4 35 = .ok (.iload_n 0, 1) := by decide +kernel
theorem dJ6_bitCount_0f7a4_36 : decode cJ6_bitCount_0f7a4 36 = .ok (.bipush 8, 2) := by decide +kernel
theorem dJ6_bitCount_0f7a4_38 : decode cJ6_bitCount_0f7a4 38 = .ok (.iushr, 1) := by decide +kernel
theorem dJ6_bitCount_0f7a4_39 : decode cJ6_bitCount_0f7a4 39 = .ok (.iadd, 1) := by decide +kernel
theorem dJ6_bitCount_0f7a4_40 : decode cJ6_bitCount_0f7a4 40 = .ok (.istore_n 0, 1) := by decide +kernel
theorem dJ6_bitCount_0f7a4_41 : decode cJ6_bitCount_0f7a4 41 = .ok (.iload_n 0, 1) := by decide +kernel
theorem dJ6_bitCount_0f7a4_42 : decode cJ6_bitCount_0f7a4 42 = .ok (.iload_n 0, 1) := by decide +kernel
theorem dJ6_bitCount_0f7a4_43 : decode cJ6_bitCount_0f7a4 43 = .ok (.bipush 16, 2) := by decide +kernel
theorem dJ6_bitCount_0f7a4_45 : decode cJ6_bitCount_0f7a4 45 = .ok (.iushr, 1) := by decide +kernel
theorem dJ6_bitCount_0f7a4_46 : decode cJ6_bitCount_0f7a4 46 = .ok (.iadd, 1) := by decide +kernel
theorem dJ6_bitCount_0f7a4_47 : decode cJ6_bitCount_0f7a4 47 = .ok (.istore_n 0, 1) := by decide +kernel
theorem dJ6_bitCount_0f7a4_48 : decode cJ6_bitCount_0f7a4 48 = .ok (.iload_n 0, 1) := by decide +kernel
theorem dJ6_bitCount_0f7a4_49 : decode cJ6_bitCount_0f7a4 49 = .ok (.bipush 63, 2) := by decide +kernel
theorem dJ6_bitCount_0f7a4_51 : decode cJ6_bitCount_0f7a4 51 = .ok (.iand, 1) := by decide +kernel
theorem dJ6_bitCount_0f7a4_52 : decode cJ6_bitCount_0f7a4 52 = .ok (.ireturn, 1) := by decide +kernel
theorem dJ13_bitCount_95d88_0 : decode cJ13_bitCount_95d88 0 = .ok (.lload_n 0, 1) := by decide +kernel
theorem dJ13_bitCount_95d88_1 : decode cJ13_bitCount_95d88 1 = .ok (.lload_n 0, 1) := by decide +kernel
theorem dJ13_bitCount_95d88_2 : decode cJ13_bitCount_95d88 2 = .ok (.iconst 1, 1) := by decide +kernel
theorem dJ13_bitCount_95d88_3 : decode cJ13_bitCount_95d88 3 = .ok (.lushr, 1) := by decide +kernel
theorem dJ13_bitCount_95d88_4 : decode cJ13_bitCount_95d88 4 = .ok (.ldc2_w 314, 3) := by decide +kernel
theorem dJ13_bitCount_95d88_7 : decode cJ13_bitCount_95d88 7 = .ok (.land, 1) := by decide +kernel
theorem dJ13_bitCount_95d88_8 : decode cJ13_bitCount_95d88 8 = .ok (.lsub, 1) := by decide +kernel
theorem dJ13_bitCount_95d88_9 : decode cJ13_bitCount_95d88 9 = .ok (.lstore_n 0, 1) := by decide +kernel
theorem dJ13_bitCount_95d88_10 : decode cJ13_bitCount_95d88 10 = .ok (.lload_n 0, 1) := by decide +kernel
theorem dJ13_bitCount_95d88_11 : decode cJ13_bitCount_95d88 11 = .ok (.ldc2_w 316, 3) := by decide +kernel
theorem dJ13_bitCount_95d88_14 : decode cJ13_bitCount_95d88 14 = .ok (.land, 1) := by decide +kernel
theorem dJ13_bitCount_95d88_15 : decode cJ13_bitCount_95d88 15 = .ok (.lload_n 0, 1) := by decide +kernel
theorem dJ13_bitCount_95d88_16 : decode cJ13_bitCount_95d88 16 = .ok (.iconst 2, 1) := by decide +kernel
theorem dJ13_bitCount_95d88_17 : decode cJ13_bitCount_95d88 17 = .ok (.lushr, 1) := by decide +kernel
theorem dJ13_bitCount_95d88_18 : decode cJ13_bitCount_95d88 18 = .ok (.ldc2_w 316, 3) := by decide +kernel
theorem dJ13_bitCount_95d88_21 : decode cJ13_bitCount_95d88 21 = .ok (.land, 1) := by decide +kernel
theorem dJ13_bitCount_95d88_22 : decode cJ13_bitCount_95d88 22 = .ok (.ladd, 1) := by decide +kernel
theorem dJ13_bitCount_95d88_23 : decode cJ13_bitCount_95d88 23 = .ok (.lstore_n 0, 1) := by decide +kernel
theorem dJ13_bitCount_95d88_24 : decode cJ13_bitCount_95d88 24 = .ok (.lload_n 0, 1) := by decide +kernel
theorem dJ13_bitCount_95d88_25 : decode cJ13_bitCount_95d88 25 = .ok (.lload_n 0, 1) := by decide +kernel
theorem dJ13_bitCount_95d88_26 : decode cJ13_bitCount_95d88 26 = .ok (.iconst 4, 1) := by decide +kernel
theorem dJ13_bitCount_95d88_27 : decode cJ13_bitCount_95d88 27 = .ok (.lushr, 1) := by decide +kernel
theorem dJ13_bitCount_95d88_28 : decode cJ13_bitCount_95d88 28 = .ok (.ladd, 1) := by decide +kernel
theorem dJ13_bitCount_95d88_29 : decode cJ13_bitCount_95d88 29 = .ok (.ldc2_w 318, 3) := by decide +kernel
theorem dJ13_bitCount_95d88_32 : decode cJ13_bitCount_95d88 32 = .ok (.land, 1) := by decide +kernel
theorem dJ13_bitCount_95d88_33 : decode cJ13_bitCount_95d88 33 = .ok (.lstore_n 0, 1) := by decide +kernel
theorem dJ13_bitCount_95d88_34 : decode cJ13_bitCount_95d88 34 = .ok (.lload_n 0, 1) := by decide +kernel
theorem dJ13_bitCount_95d88_35 : decode cJ13_bitCount_95d88 35 = .ok (.lload_n 0, 1) := by decide +kernel
theorem dJ13_bitCount_95d88_36 : decode cJ13_bitCount_95d88 36 = .ok (.bipush 8, 2) := by decide +kernel
theorem dJ13_bitCount_95d88_38 : decode cJ13_bitCount_95d88 38 = .ok (.lushr, 1) := by decide +kernel
theorem dJ13_bitCount_95d88_39 : decode cJ13_bitCount_95d88 39 = .ok (.ladd, 1) := by decide +kernel
theorem dJ13_bitCount_95d88_40 : decode cJ13_bitCount_95d88 40 = .ok (.lstore_n 0, 1) := by decide +kernel
theorem dJ13_bitCount_95d88_41 : decode cJ13_bitCount_95d88 41 = .ok (.lload_n 0, 1) := by decide +kernel
theorem dJ13_bitCount_95d88_42 : decode cJ13_bitCount_95d88 42 = .ok (.lload_n 0, 1) := by decide +kernel
theorem dJ13_bitCount_95d88_43 : decode cJ13_bitCount_95d88 43 = .ok (.bipush 16, 2) := by decide +kernel
theorem dJ13_bitCount_95d88_45 : decode cJ13_bitCount_95d88 45 = .ok (.lushr, 1) := by decide +kernel
theorem dJ13_bitCount_95d88_46 : decode cJ13_bitCount_95d88 46 = .ok (.ladd, 1) := by decide +kernel
theorem dJ13_bitCount_95d88_47 : decode cJ13_bitCount_95d88 47 = .ok (.lstore_n 0, 1) := by decide +kernel
theorem dJ13_bitCount_95d88_48 : decode cJ13_bitCount_95d88 48 = .ok (.lload_n 0, 1) := by decide +kernel
theorem dJ13_bitCount_95d88_49 : decode cJ13_bitCount_95d88 49 = .ok (.lload_n 0, 1) := by decide +kernel
theorem dJ13_bitCount_95d88_50 : decode cJ13_bitCount_95d88 50 = .ok (.bipush 32, 2) := by decide +kernel
theorem dJ13_bitCount_95d88_52 : decode cJ13_bitCount_95d88 52 = .ok (.lushr, 1) := by decide +kernel
theorem dJ13_bitCount_95d88_53 : decode cJ13_bitCount_95d88 53 = .ok (.ladd, 1) := by decide +kernel
theorem dJ13_bitCount_95d88_54 : decode cJ13_bitCount_95d88 54 = .ok (.lstore_n 0, 1) := by decide +kernel
theorem dJ13_bitCount_95d88_55 : decode cJ13_bitCount_95d88 55 = .ok (.lload_n 0, 1) := by decide +kernel
theorem dJ13_bitCount_95d88_56 : decode cJ13_bitCount_95d88 56 = .ok (.l2i, 1) := by decide +kernel
theorem dJ13_bitCount_95d88_57 : decode cJ13_bitCount_95d88 57 = .ok (.bipush 127, 2) := by decide +kernel
theorem dJ13_bitCount_95d88_59 : decode cJ13_bitCount_95d88 59 = .ok (.iand, 1) := by decide +kernel
theorem dJ13_bitCount_95d88_60 : decode cJ13_bitCount_95d88 60 = .ok (.ireturn, 1) := by decide +kernel
theorem dJ9_max_7cf53_0 : decode cJ9_max_7cf53 0 = .ok (.iload_n 0, 1) := by decide +kernel
theorem dJ9_max_7cf53_1 : decode cJ9_max_7cf53 1 = .ok (.iload_n 1, 1) := by decide +kernel
theorem dJ9_max_7cf53_2 : decode cJ9_max_7cf53 2 = .ok (.if_icmp .lt 7, 3) := by decide +kernel
theorem dJ9_max_7cf53_5 : decode cJ9_max_7cf53 5 = .ok (.iload_n 0, 1) := by decide +kernel
theorem dJ9_max_7cf53_6 : decode cJ9_max_7cf53 6 = .ok (.goto 4, 3) := by decide +kernel
theorem dJ9_max_7cf53_9 : decode cJ9_max_7cf53 9 = .ok (.iload_n 1, 1) := by decide +kernel
theorem dJ9_max_7cf53_10 : decode cJ9_max_7cf53 10 = .ok (.ireturn, 1) := by decide +kernel
theorem dJ9_min_7cf53_0 : decode cJ9_min_7cf53 0 = .ok (.iload_n 0, 1) := by decide +kernel
theorem dJ9_min_7cf53_1 : decode cJ9_min_7cf53 1 = .ok (.iload_n 1, 1) := by decide +kernel
theorem dJ9_min_7cf53_2 : decode cJ9_min_7cf53 2 = .ok (.if_icmp .gt 7, 3) := by decide +kernel
theorem dJ9_min_7cf53_5 : decode cJ9_min_7cf53 5 = .ok (.iload_n 0, 1) := by decide +kernel
theorem dJ9_min_7cf53_6 : decode cJ9_min_7cf53 6 = .ok (.goto 4, 3) := by decide +kernel
theorem dJ9_min_7cf53_9 : decode cJ9_min_7cf53 9 = .ok (.iload_n 1, 1) := by decide +kernel
theorem dJ9_min_7cf53_10 : decode cJ9_min_7cf53 10 = .ok (.ireturn, 1) := by decide +kernel
theorem dJxa1e45_init_da8c8_0 : decode cJxa1e45_init_da8c8 0 = .ok (.aload_n 0, 1) := by decide +kernel
theorem dJxa1e45_init_da8c8_1 : decode cJxa1e45_init_da8c8 1 = .ok (.invokespecial 1, 3) := by decide +kernel
theorem dJxa1e45_init_da8c8_4 : decode cJxa1e45_init_da8c8 4 = .ok (.return_, 1) := by decide +kernel
theorem dJxc12de_init_da8c8_0 : decode cJxc12de_init_da8c8 0 = .ok (.aload_n 0, 1) := by decide +kernel
theorem dJxc12de_init_da8c8_1 : decode cJxc12de_init_da8c8 1 = .ok (.invokespecial 1, 3) := by decide +kernel
theorem dJxc12de_init_da8c8_4 : decode cJxc12de_init_da8c8 4 = .ok (.aload_n 0, 1) := by decide +kernel
theorem dJxc12de_init_da8c8_5 : decode cJxc12de_init_da8c8 5 = .ok (.iconst 0, 1) := by decide +kernel
theorem dJxc12de_init_da8c8_6 : decode cJxc12de_init_da8c8 6 = .ok (.putfield 7, 3) := by decide +kernel
theorem dJxc12de_init_da8c8_9 : decode cJxc12de_init_da8c8 9 = .ok (.return_, 1) := by decide +kernel
theorem dJx4a65c_init_da8c8_0 : decode cJx4a65c_init_da8c8 0 = .ok (.aload_n 0, 1) := by decide +kernel
theorem dJx4a65c_init_da8c8_1 : decode cJx4a65c_init_da8c8 1 = .ok (.invokespecial 1, 3) := by decide +kernel
theorem dJx4a65c_init_da8c8_4 : decode cJx4a65c_init_da8c8 4 = .ok (.aload_n 0, 1) := by decide +kernel
theorem dJx4a65c_init_da8c8_5 : decode cJx4a65c_init_da8c8 5 = .ok (.getstatic 39, 3) := by decide +kernel
theorem dJx4a65c_init_da8c8_8 : decode cJx4a65c_init_da8c8 8 = .ok (.putfield 9, 3) := by decide +kernel
theorem dJx4a65c_init_da8c8_11 : decode cJx4a65c_init_da8c8 11 = .ok (.return_, 1) := by decide +kernel
theorem dJx4a65c_grow_92f84_0 : decode cJx4a65c_grow_92f84 0 = .ok (.aload_n 0, 1) := by decide +kernel
theorem dJx4a65c_grow_92f84_1 : decode cJx4a65c_grow_92f84 1 = .ok (.getfield 9, 3) := by decide +kernel
theorem dJx4a65c_grow_92f84_4 : decode cJx4a65c_grow_92f84 4 = .ok (.arraylength, 1) := by decide +kernel
theorem dJx4a65c_grow_92f84_5 : decode cJx4a65c_grow_92f84 5 = .ok (.istore_n 2, 1) := by decide +kernel
theorem dJx4a65c_grow_92f84_6 : decode cJx4a65c_grow_92f84 6 = .ok (.iload_n 2, 1) := by decide +kernel
theorem dJx4a65c_grow_92f84_7 : decode cJx4a65c_grow_92f84 7 = .ok (.ifCond .gt 13, 3) := by decide +kernel
theorem dJx4a65c_grow_92f84_10 : decode cJx4a65c_grow_92f84 10 = .ok (.aload_n 0, 1) := by decide +kernel
theorem dJx4a65c_grow_92f84_11 : decode cJx4a65c_grow_92f84 11 = .ok (.getfield 9, 3) := by decide +kernel
theorem dJx4a65c_grow_92f84_14 : decode cJx4a65c_grow_92f84 14 = .ok (.getstatic 39, 3) := by decide +kernel
theorem dJx4a65c_grow_92f84_17 : decode cJx4a65c_grow_92f84 17 = .ok (.if_acmp .eq 28, 3) := by decide +kernel
theorem dJx4a65c_grow_92f84_20 : decode cJx4a65c_grow_92f84 20 = .ok (.iload_n 2, 1) := by decide +kernel
theorem dJx4a65c_grow_92f84_21 : decode cJx4a65c_grow_92f84 21 = .ok (.iload_n 1, 1) := by decide +kernel
theorem dJx4a65c_grow_92f84_22 : decode cJx4a65c_grow_92f84 22 = .ok (.iload_n 2, 1) := by decide +kernel
theorem dJx4a65c_grow_92f84_23 : decode cJx4a65c_grow_92f84 23 = .ok (.isub, 1) := by decide +kernel
theorem dJx4a65c_grow_92f84_24 : decode cJx4a65c_grow_92f84 24 = .ok (.iload_n 2, 1) := by decide +kernel
theorem dJx4a65c_grow_92f84_25 : decode cJx4a65c_grow_92f84 25 = .ok (.iconst 1, 1) := by decide +kernel
theorem dJx4a65c_grow_92f84_26 : decode cJx4a65c_grow_92f84 26 = .ok (.ishr, 1) := by decide +kernel
theorem dJx4a65c_grow_92f84_27 : decode cJx4a65c_grow_92f84 27 = .ok (.invokestatic 73, 3) := by decide +kernel
theorem dJx4a65c_grow_92f84_30 : decode cJx4a65c_grow_92f84 30 = .ok (.istore_n 3, 1) := by decide +kernel
theorem dJx4a65c_grow_92f84_31 : decode cJx4a65c_grow_92f84 31 = .ok (.aload_n 0, 1) := by decide +kernel
theorem dJx4a65c_grow_92f84_32 : decode cJx4a65c_grow_92f84 32 = .ok (.aload_n 0, 1) := by decide +kernel
theorem dJx4a65c_grow_92f84_33 : decode cJx4a65c_grow_92f84 33 = .ok (.getfield 9, 3) := by decide +kernel
theorem dJx4a65c_grow_92f84_36 : decode cJx4a65c_grow_92f84 36 = .ok (.iload_n 3, 1) := by decide +kernel
theorem dJx4a65c_grow_92f84_37 : decode cJx4a65c_grow_92f84 37 = .ok (.invokestatic 66, 3) := by decide +kernel
theorem dJx4a65c_grow_92f84_40 : decode cJx4a65c_grow_92f84 40 = .ok (.dup_x1, 1) := by decide +kernel
theorem dJx4a65c_grow_92f84_41 : decode cJx4a65c_grow_92f84 41 = .ok (.putfield 9, 3) := by decide +kernel
theorem dJx4a65c_grow_92f84_44 : decode cJx4a65c_grow_92f84 44 = .ok (.areturn, 1) := by decide +kernel
theorem dJx4a65c_grow_92f84_45 : decode cJx4a65c_grow_92f84 45 = .ok (.aload_n 0, 1) := by decide +kernel
theorem dJx4a65c_grow_92f84_46 : decode cJx4a65c_grow_92f84 46 = .ok (.bipush 10, 2) := by decide +kernel
theorem dJx4a65c_grow_92f84_48 : decode cJx4a65c_grow_92f84 48 = .ok (.iload_n 1, 1) := by decide +kernel
theorem dJx4a65c_grow_92f84_49 : decode cJx4a65c_grow_92f84 49 = .ok (.invokestatic 79, 3) := by decide +kernel
theorem dJx4a65c_grow_92f84_52 : decode cJx4a65c_grow_92f84 52 = .ok (.anewarray 7, 3) := by decide +kernel
theorem dJx4a65c_grow_92f84_55 : decode cJx4a65c_grow_92f84 55 = .ok (.dup_x1, 1) := by decide +kernel
theorem dJx4a65c_grow_92f84_56 : decode cJx4a65c_grow_92f84 56 = .ok (.putfield 9, 3) := by decide +kernel
theorem dJx4a65c_grow_92f84_59 : decode cJx4a65c_grow_92f84 59 = .ok (.areturn, 1) := by decide +kernel
theorem dJx4a65c_grow_d5877_0 : decode cJx4a65c_grow_d5877 0 = .ok (.aload_n 0, 1) := by decide +kernel
theorem dJx4a65c_grow_d5877_1 : decode cJx4a65c_grow_d5877 1 = .ok (.aload_n 0, 1) := by decide +kernel
theorem dJx4a65c_grow_d5877_2 : decode cJx4a65c_grow_d5877 2 = .ok (.getfield 48, 3) := by decide +kernel
theorem dJx4a65c_grow_d5877_5 : decode cJx4a65c_grow_d5877 5 = .ok (.iconst 1, 1) := by decide +kernel
theorem dJx4a65c_grow_d5877_6 : decode cJx4a65c_grow_d5877 6 = .ok (.iadd, 1) := by decide +kernel
theorem dJx4a65c_grow_d5877_7 : decode cJx4a65c_grow_d5877 7 = .ok (.invokevirtual 69, 3) := by decide +kernel
theorem dJx4a65c_grow_d5877_10 : decode cJx4a65c_grow_d5877 10 = .ok (.areturn, 1) := by decide +kernel
theorem dJx4a65c_size_8abf5_0 : decode cJx4a65c_size_8abf5 0 = .ok (.aload_n 0, 1) := by decide +kernel
theorem dJx4a65c_size_8abf5_1 : decode cJx4a65c_size_8abf5 1 = .ok (.getfield 48, 3) := by decide +kernel
theorem dJx4a65c_size_8abf5_4 : decode cJx4a65c_size_8abf5 4 = .ok (.ireturn, 1) := by decide +kernel
theorem dJx4a65c_elementData_915e3_0 : decode cJx4a65c_elementData_915e3 0 = .ok (.aload_n 0, 1) := by decide +kernel
theorem dJx4a65c_elementData_915e3_1 : decode cJx4a65c_elementData_915e3 1 = .ok (.getfield 9, 3) := by decide +kernel
theorem dJx4a65c_elementData_915e3_4 : decode cJx4a65c_elementData_915e3 4 = .ok (.iload_n 1, 1) := by decide +kernel
theorem dJx4a65c_elementData_915e3_5 : decode cJx4a65c_elementData_915e3 5 = .ok (.aaload, 1) := by decide +kernel
theorem dJx4a65c_elementData_915e3_6 : decode cJx4a65c_elementData_915e3 6 = .ok (.areturn, 1) := by decide +kernel
theorem dJx4a65c_get_915e3_0 : decode cJx4a65c_get_915e3 0 = .ok (.iload_n 1, 1) := by decide +kernel
theorem dJx4a65c_get_915e3_1 : decode cJx4a65c_get_915e3 1 = .ok (.aload_n 0, 1) := by decide +kernel
theorem dJx4a65c_get_915e3_2 : decode cJx4a65c_get_915e3 2 = .ok (.getfield 48, 3) := by decide +kernel
theorem dJx4a65c_get_915e3_5 : decode cJx4a65c_get_915e3 5 = .ok (.invokestatic 118, 3) := by decide +kernel
theorem dJx4a65c_get_915e3_8 : decode cJx4a65c_get_915e3 8 = .ok (.pop, 1) := by decide +kernel
theorem dJx4a65c_get_915e3_9 : decode cJx4a65c_get_915e3 9 = .ok (.aload_n 0, 1) := by decide +kernel
theorem dJx4a65c_get_915e3_10 : decode cJx4a65c_get_915e3 10 = .ok (.iload_n 1, 1) := by decide +kernel
theorem dJx4a65c_get_915e3_11 : decode cJx4a65c_get_915e3 11 = .ok (.invokevirtual 123, 3) := by decide +kernel
theorem dJx4a65c_get_915e3_14 : decode cJx4a65c_get_915e3 14 = .ok (.areturn, 1) := by decide +kernel
theorem dJx4a65c_add_72be8_0 : decode cJx4a65c_add_72be8 0 = .ok (.iload_n 3, 1) := by decide +kernel
theorem dJx4a65c_add_72be8_1 : decode cJx4a65c_add_72be8 1 = .ok (.aload_n 2, 1) := by decide +kernel
theorem dJx4a65c_add_72be8_2 : decode cJx4a65c_add_72be8 2 = .ok (.arraylength, 1) := by decide +kernel
theorem dJx4a65c_add_72be8_3 : decode cJx4a65c_add_72be8 3 = .ok (.if_icmp .ne 8, 3) := by decide +kernel
theorem dJx4a65c_add_72be8_6 : decode cJx4a65c_add_72be8 6 = .ok (.aload_n 0, 1) := by decide +kernel
theorem dJx4a65c_add_72be8_7 : decode cJx4a65c_add_72be8 7 = .ok (.invokevirtual 129, 3) := by decide +kernel
theorem dJx4a65c_add_72be8_10 : decode cJx4a65c_add_72be8 10 = .ok (.astore_n 2, 1) := by decide +kernel
theorem dJx4a65c_add_72be8_11 : decode cJx4a65c_add_72be8 11 = .ok (.aload_n 2, 1) := by decide +kernel
theorem dJx4a65c_add_72be8_12 : decode cJx4a65c_add_72be8 12 = .ok (.iload_n 3, 1) := by decide +kernel
theorem dJx4a65c_add_72be8_13 : decode cJx4a65c_add_72be8 13 = .ok (.aload_n 1, 1) := by decide +kernel
theorem dJx4a65c_add_72be8_14 : decode cJx4a65c_add_72be8 14 = .ok (.aastore, 1) := by decide +kernel
theorem dJx4a65c_add_72be8_15 : decode cJx4a65c_add_72be8 15 = .ok (.aload_n 0, 1) := by decide +kernel
theorem dJx4a65c_add_72be8_16 : decode cJx4a65c_add_72be8 16 = .ok (.iload_n 3, 1) := by decide +kernel
theorem dJx4a65c_add_72be8_17 : decode cJx4a65c_add_72be8 17 = .ok (.iconst 1, 1) := by decide +kernel
theorem dJx4a65c_add_72be8_18 : decode cJx4a65c_add_72be8 18 = .ok (.iadd, 1) := by decide +kernel
theorem dJx4a65c_add_72be8_19 : decode cJx4a65c_add_72be8 19 = .ok (.putfield 48, 3) := by decide +kernel
theorem dJx4a65c_add_72be8_22 : decode cJx4a65c_add_72be8 22 = .ok (.return_, 1) := by decide +kernel
theorem dJx4a65c_add_9ea2d_0 : decode cJx4a65c_add_9ea2d 0 = .ok (.aload_n 0, 1) := by decide +kernel
theorem dJx4a65c_add_9ea2d_1 : decode cJx4a65c_add_9ea2d 1 = .ok (.dup, 1) := by decide +kernel
theorem dJx4a65c_add_9ea2d_2 : decode cJx4a65c_add_9ea2d 2 = .ok (.getfield 63, 3) := by decide +kernel
theorem dJx4a65c_add_9ea2d_5 : decode cJx4a65c_add_9ea2d 5 = .ok (.iconst 1, 1) := by decide +kernel
theorem dJx4a65c_add_9ea2d_6 : decode cJx4a65c_add_9ea2d 6 = .ok (.iadd, 1) := by decide +kernel
theorem dJx4a65c_add_9ea2d_7 : decode cJx4a65c_add_9ea2d 7 = .ok (.putfield 63, 3) := by decide +kernel
theorem dJx4a65c_add_9ea2d_10 : decode cJx4a65c_add_9ea2d 10 = .ok (.aload_n 0, 1) := by decide +kernel
theorem dJx4a65c_add_9ea2d_11 : decode cJx4a65c_add_9ea2d 11 = .ok (.aload_n 1, 1) := by decide +kernel
theorem dJx4a65c_add_9ea2d_12 : decode cJx4a65c_add_9ea2d 12 = .ok (.aload_n 0, 1) := by decide +kernel
theorem dJx4a65c_add_9ea2d_13 : decode cJx4a65c_add_9ea2d 13 = .ok (.getfield 9, 3) := by decide +kernel
theorem dJx4a65c_add_9ea2d_16 : decode cJx4a65c_add_9ea2d 16 = .ok (.aload_n 0, 1) := by decide +kernel
theorem dJx4a65c_add_9ea2d_17 : decode cJx4a65c_add_9ea2d 17 = .ok (.getfield 48, 3) := by decide +kernel
theorem dJx4a65c_add_9ea2d_20 : decode cJx4a65c_add_9ea2d 20 = .ok (.invokevirtual 131, 3) := by decide +kernel
theorem dJx4a65c_add_9ea2d_23 : decode cJx4a65c_add_9ea2d 23 = .ok (.iconst 1, 1) := by decide +kernel
theorem dJx4a65c_add_9ea2d_24 : decode cJx4a65c_add_9ea2d 24 = .ok (.ireturn, 1) := by decide +kernel
theorem dJ7_copyOf_1904c_0 : decode cJ7_copyOf_1904c 0 = .ok (.aload_n 0, 1) := by decide +kernel
theorem dJ7_copyOf_1904c_1 : decode cJ7_copyOf_1904c 1 = .ok (.iload_n 1, 1) := by decide +kernel
theorem dJ7_copyOf_1904c_2 : decode cJ7_copyOf_1904c 2 = .ok (.aload_n 0, 1) := by decide +kernel
theorem dJ7_copyOf_1904c_3 : decode cJ7_copyOf_1904c 3 = .ok (.invokevirtual 86, 3) := by decide +kernel
theorem dJ7_copyOf_1904c_6 : decode cJ7_copyOf_1904c 6 = .ok (.invokestatic 300, 3) := by decide +kernel
theorem dJ7_copyOf_1904c_9 : decode cJ7_copyOf_1904c 9 = .ok (.areturn, 1) := by decide +kernel
theorem dJ7_copyOf_6403c_0 : decode cJ7_copyOf_6403c 0 = .ok (.aload_n 2, 1) := by decide +kernel
theorem dJ7_copyOf_6403c_1 : decode cJ7_copyOf_6403c 1 = .ok (.ldc 110, 2) := by decide +kernel
theorem dJ7_copyOf_6403c_3 : decode cJ7_copyOf_6403c 3 = .ok (.if_acmp .ne 10, 3) := by decide +kernel
theorem dJ7_copyOf_6403c_6 : decode cJ7_copyOf_6403c 6 = .ok (.iload_n 1, 1) := by decide +kernel
theorem dJ7_copyOf_6403c_7 : decode cJ7_copyOf_6403c 7 = .ok (.anewarray 2, 3) := by decide +kernel
theorem dJ7_copyOf_6403c_10 : decode cJ7_copyOf_6403c 10 = .ok (.goto 14, 3) := by decide +kernel
theorem dJ7_copyOf_6403c_13 : decode cJ7_copyOf_6403c 13 = .ok (.aload_n 2, 1) := by decide +kernel
theorem dJ7_copyOf_6403c_14 : decode cJ7_copyOf_6403c 14 = .ok (.invokevirtual 90, 3) := by decide +kernel
theorem dJ7_copyOf_6403c_17 : decode cJ7_copyOf_6403c 17 = .ok (.iload_n 1, 1) := by decide +kernel
theorem dJ7_copyOf_6403c_18 : decode cJ7_copyOf_6403c 18 = .ok (.invokestatic 95, 3) := by decide +kernel
theorem dJ7_copyOf_6403c_21 : decode cJ7_copyOf_6403c 21 = .ok (.checkcast 110, 3) := by decide +kernel
theorem dJ7_copyOf_6403c_24 : decode cJ7_copyOf_6403c 24 = .ok (.astore_n 3, 1) := by decide +kernel
theorem dJ7_copyOf_6403c_25 : decode cJ7_copyOf_6403c 25 = .ok (.aload_n 0, 1) := by decide +kernel
theorem dJ7_copyOf_6403c_26 : decode cJ7_copyOf_6403c 26 = .ok (.iconst 0, 1) := by decide +kernel
theorem dJ7_copyOf_6403c_27 : decode cJ7_copyOf_6403c 27 = .ok (.aload_n 3, 1) := by decide +kernel
theorem dJ7_copyOf_6403c_28 : decode cJ7_copyOf_6403c 28 = .ok (.iconst 0, 1) := by decide +kernel
theorem dJ7_copyOf_6403c_29 : decode cJ7_copyOf_6403c 29 = .ok (.aload_n 0, 1) := by decide +kernel
theorem dJ7_copyOf_6403c_30 : decode cJ7_copyOf_6403c 30 = .ok (.arraylength, 1) := by decide +kernel
theorem dJ7_copyOf_6403c_31 : decode cJ7_copyOf_6403c 31 = .ok (.iload_n 1, 1) := by decide +kernel
theorem dJ7_copyOf_6403c_32 : decode cJ7_copyOf_6403c 32 = .ok (.invokestatic 304, 3) := by decide +kernel
theorem dJ7_copyOf_6403c_35 : decode cJ7_copyOf_6403c 35 = .ok (.invokestatic 150, 3) := by decide +kernel
theorem dJ7_copyOf_6403c_38 : decode cJ7_copyOf_6403c 38 = .ok (.aload_n 3, 1) := by decide +kernel
theorem dJ7_copyOf_6403c_39 : decode cJ7_copyOf_6403c 39 = .ok (.areturn, 1) := by decide +kernel
theorem dJ15_checkIndex_7cf53_0 : decode cJ15_checkIndex_7cf53 0 = .ok (.iload_n 0, 1) := by decide +kernel
theorem dJ15_checkIndex_7cf53_1 : decode cJ15_checkIndex_7cf53 1 = .ok (.iload_n 1, 1) := by decide +kernel
theorem dJ15_checkIndex_7cf53_2 : decode cJ15_checkIndex_7cf53 2 = .ok (.aconst_null, 1) := by decide +kernel
theorem dJ15_checkIndex_7cf53_3 : decode cJ15_checkIndex_7cf53 3 = .ok (.invokestatic 105, 3) := by decide +kernel
theorem dJ15_checkIndex_7cf53_6 : decode cJ15_checkIndex_7cf53 6 = .ok (.ireturn, 1) := by decide +kernel
theorem dJ8_newLength_cabcc_0 : decode cJ8_newLength_cabcc 0 = .ok (.iload_n 0, 1) := by decide +kernel
theorem dJ8_newLength_cabcc_1 : decode cJ8_newLength_cabcc 1 = .ok (.iload_n 1, 1) := by decide +kernel
theorem dJ8_newLength_cabcc_2 : decode cJ8_newLength_cabcc 2 = .ok (.iload_n 2, 1) := by decide +kernel
theorem dJ8_newLength_cabcc_3 : decode cJ8_newLength_cabcc 3 = .ok (.invokestatic 194, 3) := by decide +kernel
theorem dJ8_newLength_cabcc_6 : decode cJ8_newLength_cabcc 6 = .ok (.iadd, 1) := by decide +kernel
theorem dJ8_newLength_cabcc_7 : decode cJ8_newLength_cabcc 7 = .ok (.istore_n 3, 1) := by decide +kernel
theorem dJ8_newLength_cabcc_8 : decode cJ8_newLength_cabcc 8 = .ok (.iconst 0, 1) := by decide +kernel
theorem dJ8_newLength_cabcc_9 : decode cJ8_newLength_cabcc 9 = .ok (.iload_n 3, 1) := by decide +kernel
theorem dJ8_newLength_cabcc_10 : decode cJ8_newLength_cabcc 10 = .ok (.if_icmp .ge 11, 3) := by decide +kernel
theorem dJ8_newLength_cabcc_13 : decode cJ8_newLength_cabcc 13 = .ok (.iload_n 3, 1) := by decide +kernel
theorem dJ8_newLength_cabcc_14 : decode cJ8_newLength_cabcc 14 = .ok (.ldc 200, 2) := by decide +kernel
theorem dJ8_newLength_cabcc_16 : decode cJ8_newLength_cabcc 16 = .ok (.if_icmp .gt 5, 3) := by decide +kernel
theorem dJ8_newLength_cabcc_19 : decode cJ8_newLength_cabcc 19 = .ok (.iload_n 3, 1) := by decide +kernel
theorem dJ8_newLength_cabcc_20 : decode cJ8_newLength_cabcc 20 = .ok (.ireturn, 1) := by decide +kernel
theorem dJ8_newLength_cabcc_21 : decode cJ8_newLength_cabcc 21 = .ok (.iload_n 0, 1) := by decide +kernel
theorem dJ8_newLength_cabcc_22 : decode cJ8_newLength_cabcc 22 = .ok (.iload_n 1, 1) := by decide +kernel
theorem dJ8_newLength_cabcc_23 : decode cJ8_newLength_cabcc 23 = .ok (.invokestatic 201, 3) := by decide +kernel
theorem dJ8_newLength_cabcc_26 : decode cJ8_newLength_cabcc 26 = .ok (.ireturn, 1) := by decide +kernel
theorem dJ8_hugeLength_7cf53_0 : decode cJ8_hugeLength_7cf53 0 = .ok (.iload_n 0, 1) := by decide +kernel
theorem dJ8_hugeLength_7cf53_1 : decode cJ8_hugeLength_7cf53 1 = .ok (.iload_n 1, 1) := by decide +kernel
theorem dJ8_hugeLength_7cf53_2 : decode cJ8_hugeLength_7cf53 2 = .ok (.iadd, 1) := by decide +kernel
theorem dJ8_hugeLength_7cf53_3 : decode cJ8_hugeLength_7cf53 3 = .ok (.istore_n 2, 1) := by decide +kernel
theorem dJ8_hugeLength_7cf53_4 : decode cJ8_hugeLength_7cf53 4 = .ok (.iload_n 2, 1) := by decide +kernel
theorem dJ8_hugeLength_7cf53_5 : decode cJ8_hugeLength_7cf53 5 = .ok (.ifCond .ge 44, 3) := by decide +kernel
theorem dJ8_hugeLength_7cf53_8 : decode cJ8_hugeLength_7cf53 8 = .ok (.new 204, 3) := by decide +kernel
theorem dJ8_hugeLength_7cf53_11 : decode cJ8_hugeLength_7cf53 11 = .ok (.dup, 1) := by decide +kernel
theorem dJ8_hugeLength_7cf53_12 : decode cJ8_hugeLength_7cf53 12 = .ok (.new 89, 3) := by decide +kernel
theorem dJ8_hugeLength_7cf53_15 : decode cJ8_hugeLength_7cf53 15 = .ok (.dup, 1) := by decide +kernel
theorem dJ8_hugeLength_7cf53_16 : decode cJ8_hugeLength_7cf53 16 = .ok (.invokespecial 91, 3) := by decide +kernel
theorem dJ8_hugeLength_7cf53_19 : decode cJ8_hugeLength_7cf53 19 = .ok (.ldc 206, 2) := by decide +kernel
theorem dJ8_hugeLength_7cf53_21 : decode cJ8_hugeLength_7cf53 21 = .ok (.invokevirtual 94, 3) := by decide +kernel
theorem dJ8_hugeLength_7cf53_24 : decode cJ8_hugeLength_7cf53 24 = .ok (.iload_n 0, 1) := by decide +kernel
theorem dJ8_hugeLength_7cf53_25 : decode cJ8_hugeLength_7cf53 25 = .ok (.invokevirtual 98, 3) := by decide +kernel
theorem dJ8_hugeLength_7cf53_28 : decode cJ8_hugeLength_7cf53 28 = .ok (.ldc 208, 2) := by decide +kernel
theorem dJ8_hugeLength_7cf53_30 : decode cJ8_hugeLength_7cf53 30 = .ok (.invokevirtual 94, 3) := by decide +kernel
theorem dJ8_hugeLength_7cf53_33 : decode cJ8_hugeLength_7cf53 33 = .ok (.iload_n 1, 1) := by decide +kernel
theorem dJ8_hugeLength_7cf53_34 : decode cJ8_hugeLength_7cf53 34 = .ok (.invokevirtual 98, 3) := by decide +kernel
theorem dJ8_hugeLength_7cf53_37 : decode cJ8_hugeLength_7cf53 37 = .ok (.ldc 210, 2) := by decide +kernel
theorem dJ8_hugeLength_7cf53_39 : decode cJ8_hugeLength_7cf53 39 = .ok (.invokevirtual 94, 3) := by decide +kernel
theorem dJ8_hugeLength_7cf53_42 : decode cJ8_hugeLength_7cf53 42 = .ok (.invokevirtual 101, 3) := by decide +kernel
theorem dJ8_hugeLength_7cf53_45 : decode cJ8_hugeLength_7cf53 45 = .ok (.invokespecial 212, 3) := by decide +kernel
theorem dJ8_hugeLength_7cf53_48 : decode cJ8_hugeLength_7cf53 48 = .ok (.athrow, 1) := by decide +kernel
theorem dJ8_hugeLength_7cf53_49 : decode cJ8_hugeLength_7cf53 49 = .ok (.iload_n 2, 1) := by decide +kernel
theorem dJ8_hugeLength_7cf53_50 : decode cJ8_hugeLength_7cf53 50 = .ok (.ldc 200, 2) := by decide +kernel
theorem dJ8_hugeLength_7cf53_52 : decode cJ8_hugeLength_7cf53 52 = .ok (.if_icmp .gt 6, 3) := by decide +kernel
theorem dJ8_hugeLength_7cf53_55 : decode cJ8_hugeLength_7cf53 55 = .ok (.ldc 200, 2) := by decide +kernel
theorem dJ8_hugeLength_7cf53_57 : decode cJ8_hugeLength_7cf53 57 = .ok (.ireturn, 1) := by decide +kernel
theorem dJ8_hugeLength_7cf53_58 : decode cJ8_hugeLength_7cf53 58 = .ok (.iload_n 2, 1) := by decide +kernel
theorem dJ8_hugeLength_7cf53_59 : decode cJ8_hugeLength_7cf53 59 = .ok (.ireturn, 1) := by decide +kernel
theorem dJ3_checkIndex_8e157_0 : decode cJ3_checkIndex_8e157 0 = .ok (.iload_n 0, 1) := by decide +kernel
theorem dJ3_checkIndex_8e157_1 : decode cJ3_checkIndex_8e157 1 = .ok (.ifCond .lt 8, 3) := by decide +kernel
theorem dJ3_checkIndex_8e157_4 : decode cJ3_checkIndex_8e157 4 = .ok (.iload_n 0, 1) := by decide +kernel
theorem dJ3_checkIndex_8e157_5 : decode cJ3_checkIndex_8e157 5 = .ok (.iload_n 1, 1) := by decide +kernel
theorem dJ3_checkIndex_8e157_6 : decode cJ3_checkIndex_8e157 6 = .ok (.if_icmp .lt 10, 3) := by decide +kernel
theorem dJ3_checkIndex_8e157_9 : decode cJ3_checkIndex_8e157 9 = .ok (.aload_n 2, 1) := by decide +kernel
theorem dJ3_checkIndex_8e157_10 : decode cJ3_checkIndex_8e157 10 = .ok (.iload_n 0, 1) := by decide +kernel
theorem dJ3_checkIndex_8e157_11 : decode cJ3_checkIndex_8e157 11 = .ok (.iload_n 1, 1) := by decide +kernel
theorem dJ3_checkIndex_8e157_12 : decode cJ3_checkIndex_8e157 12 = .ok (.invokestatic 95, 3) := by decide +kernel
theorem dJ3_checkIndex_8e157_15 : decode cJ3_checkIndex_8e157 15 = .ok (.athrow, 1) := by decide +kernel
theorem dJ3_checkIndex_8e157_16 : decode cJ3_checkIndex_8e157 16 = .ok (.iload_n 0, 1) := by decide +kernel
theorem dJ3_checkIndex_8e157_17 : decode cJ3_checkIndex_8e157 17 = .ok (.ireturn, 1) := by decide +kernel
