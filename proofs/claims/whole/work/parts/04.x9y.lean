theorem dX9_reads_10 : decode cX9_reads 10 = .ok (.iconst 0, 1) := by decide +kernel
theorem dX9_reads_11 : decode cX9_reads 11 = .ok (.istore_n 2, 1) := by decide +kernel
theorem dX9_reads_12 : decode cX9_reads 12 = .ok (.iload_n 2, 1) := by decide +kernel
theorem dX9_reads_13 : decode cX9_reads 13 = .ok (.aload_n 0, 1) := by decide +kernel
theorem dX9_reads_14 : decode cX9_reads 14 = .ok (.getfield 143, 3) := by decide +kernel
theorem dX9_reads_17 : decode cX9_reads 17 = .ok (.if_icmp .ge 151, 3) := by decide +kernel
theorem dX9_reads_20 : decode cX9_reads 20 = .ok (.iconst 0, 1) := by decide +kernel
theorem dX9_reads_21 : decode cX9_reads 21 = .ok (.istore_n 3, 1) := by decide +kernel
theorem dX9_reads_22 : decode cX9_reads 22 = .ok (.iconst 0, 1) := by decide +kernel
theorem dX9_reads_23 : decode cX9_reads 23 = .ok (.istore 4, 2) := by decide +kernel
theorem dX9_reads_25 : decode cX9_reads 25 = .ok (.iload 4, 2) := by decide +kernel
theorem dX9_reads_27 : decode cX9_reads 27 = .ok (.aload_n 0, 1) := by decide +kernel
theorem dX9_reads_28 : decode cX9_reads 28 = .ok (.getfield 127, 3) := by decide +kernel
theorem dX9_reads_31 : decode cX9_reads 31 = .ok (.if_icmp .ge 39, 3) := by decide +kernel
theorem dX9_reads_34 : decode cX9_reads 34 = .ok (.aload_n 0, 1) := by decide +kernel
theorem dX9_reads_35 : decode cX9_reads 35 = .ok (.getfield 25, 3) := by decide +kernel
theorem dX9_reads_38 : decode cX9_reads 38 = .ok (.iload 4, 2) := by decide +kernel
theorem dX9_reads_40 : decode cX9_reads 40 = .ok (.iaload, 1) := by decide +kernel
theorem dX9_reads_41 : decode cX9_reads 41 = .ok (.iload_n 3, 1) := by decide +kernel
theorem dX9_reads_42 : decode cX9_reads 42 = .ok (.if_icmp .le 22, 3) := by decide +kernel
theorem dX9_reads_45 : decode cX9_reads 45 = .ok (.aload_n 0, 1) := by decide +kernel
theorem dX9_reads_46 : decode cX9_reads 46 = .ok (.iload_n 1, 1) := by decide +kernel
theorem dX9_reads_47 : decode cX9_reads 47 = .ok (.iload_n 2, 1) := by decide +kernel
theorem dX9_reads_48 : decode cX9_reads 48 = .ok (.iload 4, 2) := by decide +kernel
theorem dX9_reads_50 : decode cX9_reads 50 = .ok (.invokevirtual 171, 3) := by decide +kernel
theorem dX9_reads_53 : decode cX9_reads 53 = .ok (.ifCond .lt 11, 3) := by decide +kernel
theorem dX9_reads_56 : decode cX9_reads 56 = .ok (.aload_n 0, 1) := by decide +kernel
theorem dX9_reads_57 : decode cX9_reads 57 = .ok (.getfield 25, 3) := by decide +kernel
theorem dX9_reads_60 : decode cX9_reads 60 = .ok (.iload 4, 2) := by decide +kernel
theorem dX9_reads_62 : decode cX9_reads 62 = .ok (.iaload, 1) := by decide +kernel
theorem dX9_reads_63 : decode cX9_reads 63 = .ok (.istore_n 3, 1) := by decide +kernel
theorem dX9_reads_64 : decode cX9_reads 64 = .ok (.iinc 4 1, 3) := by decide +kernel
theorem dX9_reads_67 : decode cX9_reads 67 = .ok (.goto (-42), 3) := by decide +kernel
theorem dX9_reads_70 : decode cX9_reads 70 = .ok (.iload_n 3, 1) := by decide +kernel
theorem dX9_reads_71 : decode cX9_reads 71 = .ok (.ifCond .ne 9, 3) := by decide +kernel
theorem dX9_reads_74 : decode cX9_reads 74 = .ok (.iinc 2 1, 3) := by decide +kernel
theorem dX9_reads_77 : decode cX9_reads 77 = .ok (.goto (-65), 3) := by decide +kernel
theorem dX9_reads_80 : decode cX9_reads 80 = .ok (.aload_n 0, 1) := by decide +kernel
theorem dX9_reads_81 : decode cX9_reads 81 = .ok (.getfield 69, 3) := by decide +kernel
theorem dX9_reads_84 : decode cX9_reads 84 = .ok (.aload_n 0, 1) := by decide +kernel
theorem dX9_reads_85 : decode cX9_reads 85 = .ok (.getfield 168, 3) := by decide +kernel
theorem dX9_reads_88 : decode cX9_reads 88 = .ok (.iload_n 2, 1) := by decide +kernel
theorem dX9_reads_89 : decode cX9_reads 89 = .ok (.iastore, 1) := by decide +kernel
theorem dX9_reads_90 : decode cX9_reads 90 = .ok (.aload_n 0, 1) := by decide +kernel
theorem dX9_reads_91 : decode cX9_reads 91 = .ok (.getfield 72, 3) := by decide +kernel
theorem dX9_reads_94 : decode cX9_reads 94 = .ok (.aload_n 0, 1) := by decide +kernel
theorem dX9_reads_95 : decode cX9_reads 95 = .ok (.getfield 168, 3) := by decide +kernel
theorem dX9_reads_98 : decode cX9_reads 98 = .ok (.iload_n 2, 1) := by decide +kernel
theorem dX9_reads_99 : decode cX9_reads 99 = .ok (.iload_n 3, 1) := by decide +kernel
theorem dX9_reads_100 : decode cX9_reads 100 = .ok (.iadd, 1) := by decide +kernel
theorem dX9_reads_101 : decode cX9_reads 101 = .ok (.iastore, 1) := by decide +kernel
theorem dX9_reads_102 : decode cX9_reads 102 = .ok (.aload_n 0, 1) := by decide +kernel
theorem dX9_reads_103 : decode cX9_reads 103 = .ok (.iload_n 1, 1) := by decide +kernel
theorem dX9_reads_104 : decode cX9_reads 104 = .ok (.iload_n 2, 1) := by decide +kernel
theorem dX9_reads_105 : decode cX9_reads 105 = .ok (.iload_n 3, 1) := by decide +kernel
theorem dX9_reads_106 : decode cX9_reads 106 = .ok (.invokevirtual 175, 3) := by decide +kernel
theorem dX9_reads_109 : decode cX9_reads 109 = .ok (.istore 4, 2) := by decide +kernel
theorem dX9_reads_111 : decode cX9_reads 111 = .ok (.aload_n 0, 1) := by decide +kernel
theorem dX9_reads_112 : decode cX9_reads 112 = .ok (.getfield 75, 3) := by decide +kernel
theorem dX9_reads_115 : decode cX9_reads 115 = .ok (.aload_n 0, 1) := by decide +kernel
theorem dX9_reads_116 : decode cX9_reads 116 = .ok (.getfield 168, 3) := by decide +kernel
theorem dX9_reads_119 : decode cX9_reads 119 = .ok (.iload 4, 2) := by decide +kernel
theorem dX9_reads_121 : decode cX9_reads 121 = .ok (.iastore, 1) := by decide +kernel
theorem dX9_reads_122 : decode cX9_reads 122 = .ok (.aload_n 0, 1) := by decide +kernel
theorem dX9_reads_123 : decode cX9_reads 123 = .ok (.getfield 78, 3) := by decide +kernel
theorem dX9_reads_126 : decode cX9_reads 126 = .ok (.aload_n 0, 1) := by decide +kernel
theorem dX9_reads_127 : decode cX9_reads 127 = .ok (.getfield 168, 3) := by decide +kernel
theorem dX9_reads_130 : decode cX9_reads 130 = .ok (.iload 4, 2) := by decide +kernel
theorem dX9_reads_132 : decode cX9_reads 132 = .ok (.iconst (-1), 1) := by decide +kernel
theorem dX9_reads_133 : decode cX9_reads 133 = .ok (.if_icmp .ne 7, 3) := by decide +kernel
theorem dX9_reads_136 : decode cX9_reads 136 = .ok (.iconst (-1), 1) := by decide +kernel
theorem dX9_reads_137 : decode cX9_reads 137 = .ok (.goto 13, 3) := by decide +kernel
theorem dX9_reads_140 : decode cX9_reads 140 = .ok (.aload_n 0, 1) := by decide +kernel
theorem dX9_reads_141 : decode cX9_reads 141 = .ok (.iload_n 1, 1) := by decide +kernel
theorem dX9_reads_142 : decode cX9_reads 142 = .ok (.iload_n 2, 1) := by decide +kernel
theorem dX9_reads_143 : decode cX9_reads 143 = .ok (.iload 4, 2) := by decide +kernel
theorem dX9_reads_145 : decode cX9_reads 145 = .ok (.invokevirtual 171, 3) := by decide +kernel
theorem dX9_reads_148 : decode cX9_reads 148 = .ok (.iconst 1, 1) := by decide +kernel
theorem dX9_reads_149 : decode cX9_reads 149 = .ok (.isub, 1) := by decide +kernel
theorem dX9_reads_150 : decode cX9_reads 150 = .ok (.iastore, 1) := by decide +kernel
theorem dX9_reads_151 : decode cX9_reads 151 = .ok (.aload_n 0, 1) := by decide +kernel
theorem dX9_reads_152 : decode cX9_reads 152 = .ok (.dup, 1) := by decide +kernel
theorem dX9_reads_153 : decode cX9_reads 153 = .ok (.getfield 168, 3) := by decide +kernel
theorem dX9_reads_156 : decode cX9_reads 156 = .ok (.iconst 1, 1) := by decide +kernel
theorem dX9_reads_157 : decode cX9_reads 157 = .ok (.iadd, 1) := by decide +kernel
theorem dX9_reads_158 : decode cX9_reads 158 = .ok (.putfield 168, 3) := by decide +kernel
theorem dX9_reads_161 : decode cX9_reads 161 = .ok (.iload_n 2, 1) := by decide +kernel
theorem dX9_reads_162 : decode cX9_reads 162 = .ok (.iload_n 3, 1) := by decide +kernel
theorem dX9_reads_163 : decode cX9_reads 163 = .ok (.iadd, 1) := by decide +kernel
theorem dX9_reads_164 : decode cX9_reads 164 = .ok (.istore_n 2, 1) := by decide +kernel
theorem dX9_reads_165 : decode cX9_reads 165 = .ok (.goto (-153), 3) := by decide +kernel
theorem dX9_reads_168 : decode cX9_reads 168 = .ok (.iconst 0, 1) := by decide +kernel
theorem dX9_reads_169 : decode cX9_reads 169 = .ok (.istore_n 3, 1) := by decide +kernel
theorem dX9_reads_170 : decode cX9_reads 170 = .ok (.iload_n 3, 1) := by decide +kernel
theorem dX9_reads_171 : decode cX9_reads 171 = .ok (.aload_n 0, 1) := by decide +kernel
theorem dX9_reads_172 : decode cX9_reads 172 = .ok (.getfield 168, 3) := by decide +kernel
theorem dX9_reads_175 : decode cX9_reads 175 = .ok (.if_icmp .ge 20, 3) := by decide +kernel
theorem dX9_reads_178 : decode cX9_reads 178 = .ok (.aload_n 0, 1) := by decide +kernel
theorem dX9_reads_179 : decode cX9_reads 179 = .ok (.getfield 81, 3) := by decide +kernel
theorem dX9_reads_182 : decode cX9_reads 182 = .ok (.iload_n 3, 1) := by decide +kernel
theorem dX9_reads_183 : decode cX9_reads 183 = .ok (.aload_n 0, 1) := by decide +kernel
theorem dX9_reads_184 : decode cX9_reads 184 = .ok (.iload_n 3, 1) := by decide +kernel
theorem dX9_reads_185 : decode cX9_reads 185 = .ok (.invokevirtual 178, 3) := by decide +kernel
theorem dX9_reads_188 : decode cX9_reads 188 = .ok (.iastore, 1) := by decide +kernel
theorem dX9_reads_189 : decode cX9_reads 189 = .ok (.iinc 3 1, 3) := by decide +kernel
theorem dX9_reads_192 : decode cX9_reads 192 = .ok (.goto (-22), 3) := by decide +kernel
theorem dX9_reads_195 : decode cX9_reads 195 = .ok (.return_, 1) := by decide +kernel
theorem dX9_chosen_0 : decode cX9_chosen 0 = .ok (.lconst 0, 1) := by decide +kernel
theorem dX9_chosen_1 : decode cX9_chosen 1 = .ok (.lstore 4, 2) := by decide +kernel
theorem dX9_chosen_3 : decode cX9_chosen 3 = .ok (.iconst 0, 1) := by decide +kernel
theorem dX9_chosen_4 : decode cX9_chosen 4 = .ok (.istore 6, 2) := by decide +kernel
theorem dX9_chosen_6 : decode cX9_chosen 6 = .ok (.iload 6, 2) := by decide +kernel
theorem dX9_chosen_8 : decode cX9_chosen 8 = .ok (.aload_n 0, 1) := by decide +kernel
theorem dX9_chosen_9 : decode cX9_chosen 9 = .ok (.getfield 127, 3) := by decide +kernel
theorem dX9_chosen_12 : decode cX9_chosen 12 = .ok (.if_icmp .ge 45, 3) := by decide +kernel
theorem dX9_chosen_15 : decode cX9_chosen 15 = .ok (.aload_n 0, 1) := by decide +kernel
theorem dX9_chosen_16 : decode cX9_chosen 16 = .ok (.getfield 25, 3) := by decide +kernel
theorem dX9_chosen_19 : decode cX9_chosen 19 = .ok (.iload 6, 2) := by decide +kernel
theorem dX9_chosen_21 : decode cX9_chosen 21 = .ok (.iaload, 1) := by decide +kernel
theorem dX9_chosen_22 : decode cX9_chosen 22 = .ok (.iload_n 3, 1) := by decide +kernel
theorem dX9_chosen_23 : decode cX9_chosen 23 = .ok (.if_icmp .ne 28, 3) := by decide +kernel
theorem dX9_chosen_26 : decode cX9_chosen 26 = .ok (.aload_n 0, 1) := by decide +kernel
theorem dX9_chosen_27 : decode cX9_chosen 27 = .ok (.iload_n 1, 1) := by decide +kernel
theorem dX9_chosen_28 : decode cX9_chosen 28 = .ok (.iload_n 2, 1) := by decide +kernel
theorem dX9_chosen_29 : decode cX9_chosen 29 = .ok (.iload 6, 2) := by decide +kernel
theorem dX9_chosen_31 : decode cX9_chosen 31 = .ok (.invokevirtual 171, 3) := by decide +kernel
theorem dX9_chosen_34 : decode cX9_chosen 34 = .ok (.ifCond .lt 17, 3) := by decide +kernel
theorem dX9_chosen_37 : decode cX9_chosen 37 = .ok (.lload 4, 2) := by decide +kernel
theorem dX9_chosen_39 : decode cX9_chosen 39 = .ok (.lconst 1, 1) := by decide +kernel
theorem dX9_chosen_40 : decode cX9_chosen 40 = .ok (.aload_n 0, 1) := by decide +kernel
theorem dX9_chosen_41 : decode cX9_chosen 41 = .ok (.getfield 28, 3) := by decide +kernel
theorem dX9_chosen_44 : decode cX9_chosen 44 = .ok (.iload 6, 2) := by decide +kernel
theorem dX9_chosen_46 : decode cX9_chosen 46 = .ok (.iaload, 1) := by decide +kernel
theorem dX9_chosen_47 : decode cX9_chosen 47 = .ok (.lshl, 1) := by decide +kernel
theorem dX9_chosen_48 : decode cX9_chosen 48 = .ok (.lor, 1) := by decide +kernel
theorem dX9_chosen_49 : decode cX9_chosen 49 = .ok (.lstore 4, 2) := by decide +kernel
theorem dX9_chosen_51 : decode cX9_chosen 51 = .ok (.iinc 6 1, 3) := by decide +kernel
theorem dX9_chosen_54 : decode cX9_chosen 54 = .ok (.goto (-48), 3) := by decide +kernel
theorem dX9_chosen_57 : decode cX9_chosen 57 = .ok (.iconst (-1), 1) := by decide +kernel
theorem dX9_chosen_58 : decode cX9_chosen 58 = .ok (.istore 6, 2) := by decide +kernel
theorem dX9_chosen_60 : decode cX9_chosen 60 = .ok (.iconst (-1), 1) := by decide +kernel
theorem dX9_chosen_61 : decode cX9_chosen 61 = .ok (.istore 7, 2) := by decide +kernel
theorem dX9_chosen_63 : decode cX9_chosen 63 = .ok (.iconst 0, 1) := by decide +kernel
theorem dX9_chosen_64 : decode cX9_chosen 64 = .ok (.istore 8, 2) := by decide +kernel
theorem dX9_chosen_66 : decode cX9_chosen 66 = .ok (.iconst 0, 1) := by decide +kernel
theorem dX9_chosen_67 : decode cX9_chosen 67 = .ok (.istore 9, 2) := by decide +kernel
theorem dX9_chosen_69 : decode cX9_chosen 69 = .ok (.iload 9, 2) := by decide +kernel
theorem dX9_chosen_71 : decode cX9_chosen 71 = .ok (.bipush 40, 2) := by decide +kernel
theorem dX9_chosen_73 : decode cX9_chosen 73 = .ok (.if_icmp .ge 95, 3) := by decide +kernel
theorem dX9_chosen_76 : decode cX9_chosen 76 = .ok (.lload 4, 2) := by decide +kernel
theorem dX9_chosen_78 : decode cX9_chosen 78 = .ok (.iload 9, 2) := by decide +kernel
theorem dX9_chosen_80 : decode cX9_chosen 80 = .ok (.lshr, 1) := by decide +kernel
theorem dX9_chosen_81 : decode cX9_chosen 81 = .ok (.lconst 1, 1) := by decide +kernel
theorem dX9_chosen_82 : decode cX9_chosen 82 = .ok (.land, 1) := by decide +kernel
theorem dX9_chosen_83 : decode cX9_chosen 83 = .ok (.lconst 0, 1) := by decide +kernel
theorem dX9_chosen_84 : decode cX9_chosen 84 = .ok (.lcmp, 1) := by decide +kernel
theorem dX9_chosen_85 : decode cX9_chosen 85 = .ok (.ifCond .ne 6, 3) := by decide +kernel
theorem dX9_chosen_88 : decode cX9_chosen 88 = .ok (.goto 74, 3) := by decide +kernel
theorem dX9_chosen_91 : decode cX9_chosen 91 = .ok (.lload 4, 2) := by decide +kernel
theorem dX9_chosen_93 : decode cX9_chosen 93 = .ok (.lconst 1, 1) := by decide +kernel
theorem dX9_chosen_94 : decode cX9_chosen 94 = .ok (.iload 9, 2) := by decide +kernel
theorem dX9_chosen_96 : decode cX9_chosen 96 = .ok (.lshl, 1) := by decide +kernel
theorem dX9_chosen_97 : decode cX9_chosen 97 = .ok (.lcmp, 1) := by decide +kernel
theorem dX9_chosen_98 : decode cX9_chosen 98 = .ok (.ifCond .ne 7, 3) := by decide +kernel
theorem dX9_chosen_101 : decode cX9_chosen 101 = .ok (.iconst 0, 1) := by decide +kernel
theorem dX9_chosen_102 : decode cX9_chosen 102 = .ok (.goto 14, 3) := by decide +kernel
theorem dX9_chosen_105 : decode cX9_chosen 105 = .ok (.aload_n 0, 1) := by decide +kernel
theorem dX9_chosen_106 : decode cX9_chosen 106 = .ok (.iload_n 1, 1) := by decide +kernel
theorem dX9_chosen_107 : decode cX9_chosen 107 = .ok (.iload_n 2, 1) := by decide +kernel
theorem dX9_chosen_108 : decode cX9_chosen 108 = .ok (.iload_n 2, 1) := by decide +kernel
theorem dX9_chosen_109 : decode cX9_chosen 109 = .ok (.iload_n 3, 1) := by decide +kernel
theorem dX9_chosen_110 : decode cX9_chosen 110 = .ok (.iadd, 1) := by decide +kernel
theorem dX9_chosen_111 : decode cX9_chosen 111 = .ok (.iload 9, 2) := by decide +kernel
theorem dX9_chosen_113 : decode cX9_chosen 113 = .ok (.invokevirtual 181, 3) := by decide +kernel
theorem dX9_chosen_116 : decode cX9_chosen 116 = .ok (.istore 10, 2) := by decide +kernel
theorem dX9_chosen_118 : decode cX9_chosen 118 = .ok (.iload 10, 2) := by decide +kernel
theorem dX9_chosen_120 : decode cX9_chosen 120 = .ok (.iload 7, 2) := by decide +kernel
theorem dX9_chosen_122 : decode cX9_chosen 122 = .ok (.if_icmp .eq 15, 3) := by decide +kernel
theorem dX9_chosen_125 : decode cX9_chosen 125 = .ok (.iload 8, 2) := by decide +kernel
theorem dX9_chosen_127 : decode cX9_chosen 127 = .ok (.ifCond .eq 14, 3) := by decide +kernel
theorem dX9_chosen_130 : decode cX9_chosen 130 = .ok (.iload 10, 2) := by decide +kernel
theorem dX9_chosen_132 : decode cX9_chosen 132 = .ok (.iload 7, 2) := by decide +kernel
theorem dX9_chosen_134 : decode cX9_chosen 134 = .ok (.if_icmp .ge 7, 3) := by decide +kernel
theorem dX9_chosen_137 : decode cX9_chosen 137 = .ok (.iconst 1, 1) := by decide +kernel
theorem dX9_chosen_138 : decode cX9_chosen 138 = .ok (.goto 4, 3) := by decide +kernel
theorem dX9_chosen_141 : decode cX9_chosen 141 = .ok (.iconst 0, 1) := by decide +kernel
theorem dX9_chosen_142 : decode cX9_chosen 142 = .ok (.istore 8, 2) := by decide +kernel
theorem dX9_chosen_144 : decode cX9_chosen 144 = .ok (.iload 10, 2) := by decide +kernel
theorem dX9_chosen_146 : decode cX9_chosen 146 = .ok (.iload 7, 2) := by decide +kernel
theorem dX9_chosen_148 : decode cX9_chosen 148 = .ok (.if_icmp .gt 6, 3) := by decide +kernel
theorem dX9_chosen_151 : decode cX9_chosen 151 = .ok (.goto 11, 3) := by decide +kernel
theorem dX9_chosen_154 : decode cX9_chosen 154 = .ok (.iload 9, 2) := by decide +kernel
theorem dX9_chosen_156 : decode cX9_chosen 156 = .ok (.istore 6, 2) := by decide +kernel
theorem dX9_chosen_158 : decode cX9_chosen 158 = .ok (.iload 10, 2) := by decide +kernel
theorem dX9_chosen_160 : decode cX9_chosen 160 = .ok (.istore 7, 2) := by decide +kernel
theorem dX9_chosen_162 : decode cX9_chosen 162 = .ok (.iinc 9 1, 3) := by decide +kernel
theorem dX9_chosen_165 : decode cX9_chosen 165 = .ok (.goto (-96), 3) := by decide +kernel
theorem dX9_chosen_168 : decode cX9_chosen 168 = .ok (.iload 8, 2) := by decide +kernel
theorem dX9_chosen_170 : decode cX9_chosen 170 = .ok (.ifCond .eq 5, 3) := by decide +kernel
theorem dX9_chosen_173 : decode cX9_chosen 173 = .ok (.iconst (-1), 1) := by decide +kernel
theorem dX9_chosen_174 : decode cX9_chosen 174 = .ok (.ireturn, 1) := by decide +kernel
theorem dX9_chosen_175 : decode cX9_chosen 175 = .ok (.iconst 0, 1) := by decide +kernel
theorem dX9_chosen_176 : decode cX9_chosen 176 = .ok (.istore 9, 2) := by decide +kernel
theorem dX9_chosen_178 : decode cX9_chosen 178 = .ok (.aload_n 0, 1) := by decide +kernel
theorem dX9_chosen_179 : decode cX9_chosen 179 = .ok (.getfield 25, 3) := by decide +kernel
theorem dX9_chosen_182 : decode cX9_chosen 182 = .ok (.iload 9, 2) := by decide +kernel
theorem dX9_chosen_184 : decode cX9_chosen 184 = .ok (.iaload, 1) := by decide +kernel
theorem dX9_chosen_185 : decode cX9_chosen 185 = .ok (.iload_n 3, 1) := by decide +kernel
theorem dX9_chosen_186 : decode cX9_chosen 186 = .ok (.if_icmp .ne 26, 3) := by decide +kernel
theorem dX9_chosen_189 : decode cX9_chosen 189 = .ok (.aload_n 0, 1) := by decide +kernel
theorem dX9_chosen_190 : decode cX9_chosen 190 = .ok (.getfield 28, 3) := by decide +kernel
theorem dX9_chosen_193 : decode cX9_chosen 193 = .ok (.iload 9, 2) := by decide +kernel
theorem dX9_chosen_195 : decode cX9_chosen 195 = .ok (.iaload, 1) := by decide +kernel
theorem dX9_chosen_196 : decode cX9_chosen 196 = .ok (.iload 6, 2) := by decide +kernel
theorem dX9_chosen_198 : decode cX9_chosen 198 = .ok (.if_icmp .ne 14, 3) := by decide +kernel
theorem dX9_chosen_201 : decode cX9_chosen 201 = .ok (.aload_n 0, 1) := by decide +kernel
theorem dX9_chosen_202 : decode cX9_chosen 202 = .ok (.iload_n 1, 1) := by decide +kernel
theorem dX9_chosen_203 : decode cX9_chosen 203 = .ok (.iload_n 2, 1) := by decide +kernel
theorem dX9_chosen_204 : decode cX9_chosen 204 = .ok (.iload 9, 2) := by decide +kernel
theorem dX9_chosen_206 : decode cX9_chosen 206 = .ok (.invokevirtual 171, 3) := by decide +kernel
theorem dX9_chosen_209 : decode cX9_chosen 209 = .ok (.ifCond .ge 9, 3) := by decide +kernel
theorem dX9_chosen_212 : decode cX9_chosen 212 = .ok (.iinc 9 1, 3) := by decide +kernel
theorem dX9_chosen_215 : decode cX9_chosen 215 = .ok (.goto (-37), 3) := by decide +kernel
theorem dX9_chosen_218 : decode cX9_chosen 218 = .ok (.iload 9, 2) := by decide +kernel
theorem dX9_chosen_220 : decode cX9_chosen 220 = .ok (.ireturn, 1) := by decide +kernel
theorem dX9_isAhead_0 : decode cX9_isAhead 0 = .ok (.iconst 0, 1) := by decide +kernel
theorem dX9_isAhead_1 : decode cX9_isAhead 1 = .ok (.istore 4, 2) := by decide +kernel
theorem dX9_isAhead_3 : decode cX9_isAhead 3 = .ok (.iconst 0, 1) := by decide +kernel
theorem dX9_isAhead_4 : decode cX9_isAhead 4 = .ok (.istore 5, 2) := by decide +kernel
theorem dX9_isAhead_6 : decode cX9_isAhead 6 = .ok (.iload 5, 2) := by decide +kernel
theorem dX9_isAhead_8 : decode cX9_isAhead 8 = .ok (.iload_n 1, 1) := by decide +kernel
theorem dX9_isAhead_9 : decode cX9_isAhead 9 = .ok (.if_icmp .ge 67, 3) := by decide +kernel
theorem dX9_isAhead_12 : decode cX9_isAhead 12 = .ok (.iload 4, 2) := by decide +kernel
theorem dX9_isAhead_14 : decode cX9_isAhead 14 = .ok (.ifCond .ne 49, 3) := by decide +kernel
theorem dX9_isAhead_17 : decode cX9_isAhead 17 = .ok (.aload_n 0, 1) := by decide +kernel
theorem dX9_isAhead_18 : decode cX9_isAhead 18 = .ok (.getfield 75, 3) := by decide +kernel
theorem dX9_isAhead_21 : decode cX9_isAhead 21 = .ok (.iload 5, 2) := by decide +kernel
theorem dX9_isAhead_23 : decode cX9_isAhead 23 = .ok (.iaload, 1) := by decide +kernel
theorem dX9_isAhead_24 : decode cX9_isAhead 24 = .ok (.iconst (-1), 1) := by decide +kernel
theorem dX9_isAhead_25 : decode cX9_isAhead 25 = .ok (.if_icmp .eq 42, 3) := by decide +kernel
theorem dX9_isAhead_28 : decode cX9_isAhead 28 = .ok (.aload_n 0, 1) := by decide +kernel
theorem dX9_isAhead_29 : decode cX9_isAhead 29 = .ok (.getfield 28, 3) := by decide +kernel
theorem dX9_isAhead_32 : decode cX9_isAhead 32 = .ok (.aload_n 0, 1) := by decide +kernel
theorem dX9_isAhead_33 : decode cX9_isAhead 33 = .ok (.getfield 75, 3) := by decide +kernel
theorem dX9_isAhead_36 : decode cX9_isAhead 36 = .ok (.iload 5, 2) := by decide +kernel
theorem dX9_isAhead_38 : decode cX9_isAhead 38 = .ok (.iaload, 1) := by decide +kernel
theorem dX9_isAhead_39 : decode cX9_isAhead 39 = .ok (.iaload, 1) := by decide +kernel
theorem dX9_isAhead_40 : decode cX9_isAhead 40 = .ok (.iload_n 2, 1) := by decide +kernel
theorem dX9_isAhead_41 : decode cX9_isAhead 41 = .ok (.if_icmp .ne 26, 3) := by decide +kernel
theorem dX9_isAhead_44 : decode cX9_isAhead 44 = .ok (.iload_n 3, 1) := by decide +kernel
theorem dX9_isAhead_45 : decode cX9_isAhead 45 = .ok (.ifCond .eq 18, 3) := by decide +kernel
theorem dX9_isAhead_48 : decode cX9_isAhead 48 = .ok (.aload_n 0, 1) := by decide +kernel
theorem dX9_isAhead_49 : decode cX9_isAhead 49 = .ok (.getfield 31, 3) := by decide +kernel
theorem dX9_isAhead_52 : decode cX9_isAhead 52 = .ok (.aload_n 0, 1) := by decide +kernel
theorem dX9_isAhead_53 : decode cX9_isAhead 53 = .ok (.getfield 75, 3) := by decide +kernel
theorem dX9_isAhead_56 : decode cX9_isAhead 56 = .ok (.iload 5, 2) := by decide +kernel
theorem dX9_isAhead_58 : decode cX9_isAhead 58 = .ok (.iaload, 1) := by decide +kernel
theorem dX9_isAhead_59 : decode cX9_isAhead 59 = .ok (.iaload, 1) := by decide +kernel
theorem dX9_isAhead_60 : decode cX9_isAhead 60 = .ok (.ifCond .ne 7, 3) := by decide +kernel
theorem dX9_isAhead_63 : decode cX9_isAhead 63 = .ok (.iconst 1, 1) := by decide +kernel
theorem dX9_isAhead_64 : decode cX9_isAhead 64 = .ok (.goto 4, 3) := by decide +kernel
theorem dX9_isAhead_67 : decode cX9_isAhead 67 = .ok (.iconst 0, 1) := by decide +kernel
theorem dX9_isAhead_68 : decode cX9_isAhead 68 = .ok (.istore 4, 2) := by decide +kernel
theorem dX9_isAhead_70 : decode cX9_isAhead 70 = .ok (.iinc 5 1, 3) := by decide +kernel
theorem dX9_isAhead_73 : decode cX9_isAhead 73 = .ok (.goto (-67), 3) := by decide +kernel
theorem dX9_isAhead_76 : decode cX9_isAhead 76 = .ok (.iload 4, 2) := by decide +kernel
theorem dX9_isAhead_78 : decode cX9_isAhead 78 = .ok (.ireturn, 1) := by decide +kernel
theorem dX9_finding_0 : decode cX9_finding 0 = .ok (.aload_n 0, 1) := by decide +kernel
theorem dX9_finding_1 : decode cX9_finding 1 = .ok (.getfield 75, 3) := by decide +kernel
theorem dX9_finding_4 : decode cX9_finding 4 = .ok (.iload_n 1, 1) := by decide +kernel
theorem dX9_finding_5 : decode cX9_finding 5 = .ok (.iaload, 1) := by decide +kernel
theorem dX9_finding_6 : decode cX9_finding 6 = .ok (.istore_n 2, 1) := by decide +kernel
theorem dX9_finding_7 : decode cX9_finding 7 = .ok (.iload_n 2, 1) := by decide +kernel
theorem dX9_finding_8 : decode cX9_finding 8 = .ok (.iconst (-1), 1) := by decide +kernel
theorem dX9_finding_9 : decode cX9_finding 9 = .ok (.if_icmp .ne 5, 3) := by decide +kernel
theorem dX9_finding_12 : decode cX9_finding 12 = .ok (.iconst 1, 1) := by decide +kernel
theorem dX9_finding_13 : decode cX9_finding 13 = .ok (.ireturn, 1) := by decide +kernel
theorem dX9_finding_14 : decode cX9_finding 14 = .ok (.aload_n 0, 1) := by decide +kernel
theorem dX9_finding_15 : decode cX9_finding 15 = .ok (.getfield 31, 3) := by decide +kernel
theorem dX9_finding_18 : decode cX9_finding 18 = .ok (.iload_n 2, 1) := by decide +kernel
theorem dX9_finding_19 : decode cX9_finding 19 = .ok (.iaload, 1) := by decide +kernel
theorem dX9_finding_20 : decode cX9_finding 20 = .ok (.iconst 1, 1) := by decide +kernel
theorem dX9_finding_21 : decode cX9_finding 21 = .ok (.if_icmp .ne 5, 3) := by decide +kernel
theorem dX9_finding_24 : decode cX9_finding 24 = .ok (.iconst 2, 1) := by decide +kernel
theorem dX9_finding_25 : decode cX9_finding 25 = .ok (.ireturn, 1) := by decide +kernel
theorem dX9_finding_26 : decode cX9_finding 26 = .ok (.aload_n 0, 1) := by decide +kernel
theorem dX9_finding_27 : decode cX9_finding 27 = .ok (.getfield 31, 3) := by decide +kernel
theorem dX9_finding_30 : decode cX9_finding 30 = .ok (.iload_n 2, 1) := by decide +kernel
theorem dX9_finding_31 : decode cX9_finding 31 = .ok (.iaload, 1) := by decide +kernel
theorem dX9_finding_32 : decode cX9_finding 32 = .ok (.iconst 2, 1) := by decide +kernel
theorem dX9_finding_33 : decode cX9_finding 33 = .ok (.if_icmp .ne 20, 3) := by decide +kernel
theorem dX9_finding_36 : decode cX9_finding 36 = .ok (.aload_n 0, 1) := by decide +kernel
theorem dX9_finding_37 : decode cX9_finding 37 = .ok (.iload_n 1, 1) := by decide +kernel
theorem dX9_finding_38 : decode cX9_finding 38 = .ok (.aload_n 0, 1) := by decide +kernel
theorem dX9_finding_39 : decode cX9_finding 39 = .ok (.getfield 28, 3) := by decide +kernel
theorem dX9_finding_42 : decode cX9_finding 42 = .ok (.iload_n 2, 1) := by decide +kernel
theorem dX9_finding_43 : decode cX9_finding 43 = .ok (.iaload, 1) := by decide +kernel
theorem dX9_finding_44 : decode cX9_finding 44 = .ok (.iconst 1, 1) := by decide +kernel
theorem dX9_finding_45 : decode cX9_finding 45 = .ok (.invokevirtual 185, 3) := by decide +kernel
theorem dX9_finding_48 : decode cX9_finding 48 = .ok (.ifCond .ne 5, 3) := by decide +kernel
theorem dX9_finding_51 : decode cX9_finding 51 = .ok (.iconst 3, 1) := by decide +kernel
theorem dX9_finding_52 : decode cX9_finding 52 = .ok (.ireturn, 1) := by decide +kernel
theorem dX9_finding_53 : decode cX9_finding 53 = .ok (.iconst 0, 1) := by decide +kernel
theorem dX9_finding_54 : decode cX9_finding 54 = .ok (.istore_n 3, 1) := by decide +kernel
theorem dX9_finding_55 : decode cX9_finding 55 = .ok (.iload_n 3, 1) := by decide +kernel
theorem dX9_finding_56 : decode cX9_finding 56 = .ok (.bipush 40, 2) := by decide +kernel
theorem dX9_finding_58 : decode cX9_finding 58 = .ok (.if_icmp .ge 50, 3) := by decide +kernel
theorem dX9_finding_61 : decode cX9_finding 61 = .ok (.aload_n 0, 1) := by decide +kernel
theorem dX9_finding_62 : decode cX9_finding 62 = .ok (.getfield 46, 3) := by decide +kernel
theorem dX9_finding_65 : decode cX9_finding 65 = .ok (.aload_n 0, 1) := by decide +kernel
theorem dX9_finding_66 : decode cX9_finding 66 = .ok (.getfield 28, 3) := by decide +kernel
theorem dX9_finding_69 : decode cX9_finding 69 = .ok (.iload_n 2, 1) := by decide +kernel
theorem dX9_finding_70 : decode cX9_finding 70 = .ok (.iaload, 1) := by decide +kernel
theorem dX9_finding_71 : decode cX9_finding 71 = .ok (.laload, 1) := by decide +kernel
theorem dX9_finding_72 : decode cX9_finding 72 = .ok (.iload_n 3, 1) := by decide +kernel
theorem dX9_finding_73 : decode cX9_finding 73 = .ok (.lshr, 1) := by decide +kernel
theorem dX9_finding_74 : decode cX9_finding 74 = .ok (.lconst 1, 1) := by decide +kernel
theorem dX9_finding_75 : decode cX9_finding 75 = .ok (.land, 1) := by decide +kernel
theorem dX9_finding_76 : decode cX9_finding 76 = .ok (.lconst 1, 1) := by decide +kernel
theorem dX9_finding_77 : decode cX9_finding 77 = .ok (.lcmp, 1) := by decide +kernel
theorem dX9_finding_78 : decode cX9_finding 78 = .ok (.ifCond .ne 24, 3) := by decide +kernel
theorem dX9_finding_81 : decode cX9_finding 81 = .ok (.aload_n 0, 1) := by decide +kernel
theorem dX9_finding_82 : decode cX9_finding 82 = .ok (.getfield 50, 3) := by decide +kernel
theorem dX9_finding_85 : decode cX9_finding 85 = .ok (.iload_n 3, 1) := by decide +kernel
theorem dX9_finding_86 : decode cX9_finding 86 = .ok (.baload, 1) := by decide +kernel
theorem dX9_finding_87 : decode cX9_finding 87 = .ok (.ifCond .ne 15, 3) := by decide +kernel
theorem dX9_finding_90 : decode cX9_finding 90 = .ok (.aload_n 0, 1) := by decide +kernel
theorem dX9_finding_91 : decode cX9_finding 91 = .ok (.iload_n 1, 1) := by decide +kernel
theorem dX9_finding_92 : decode cX9_finding 92 = .ok (.iload_n 3, 1) := by decide +kernel
theorem dX9_finding_93 : decode cX9_finding 93 = .ok (.iconst 0, 1) := by decide +kernel
theorem dX9_finding_94 : decode cX9_finding 94 = .ok (.invokevirtual 185, 3) := by decide +kernel
theorem dX9_finding_97 : decode cX9_finding 97 = .ok (.ifCond .ne 5, 3) := by decide +kernel
theorem dX9_finding_100 : decode cX9_finding 100 = .ok (.iconst 4, 1) := by decide +kernel
theorem dX9_finding_101 : decode cX9_finding 101 = .ok (.ireturn, 1) := by decide +kernel
theorem dX9_finding_102 : decode cX9_finding 102 = .ok (.iinc 3 1, 3) := by decide +kernel
theorem dX9_finding_105 : decode cX9_finding 105 = .ok (.goto (-50), 3) := by decide +kernel
theorem dX9_finding_108 : decode cX9_finding 108 = .ok (.iconst 0, 1) := by decide +kernel
theorem dX9_finding_109 : decode cX9_finding 109 = .ok (.ireturn, 1) := by decide +kernel
theorem dX9_uses_0 : decode cX9_uses 0 = .ok (.aload_n 0, 1) := by decide +kernel
theorem dX9_uses_1 : decode cX9_uses 1 = .ok (.iload_n 1, 1) := by decide +kernel
theorem dX9_uses_2 : decode cX9_uses 2 = .ok (.invokevirtual 133, 3) := by decide +kernel
theorem dX9_uses_5 : decode cX9_uses 5 = .ok (.ifCond .ne 5, 3) := by decide +kernel
theorem dX9_uses_8 : decode cX9_uses 8 = .ok (.iconst 0, 1) := by decide +kernel
theorem dX9_uses_9 : decode cX9_uses 9 = .ok (.ireturn, 1) := by decide +kernel
theorem dX9_uses_10 : decode cX9_uses 10 = .ok (.aload_n 0, 1) := by decide +kernel
theorem dX9_uses_11 : decode cX9_uses 11 = .ok (.iload_n 1, 1) := by decide +kernel
theorem dX9_uses_12 : decode cX9_uses 12 = .ok (.invokevirtual 189, 3) := by decide +kernel
theorem dX9_uses_15 : decode cX9_uses 15 = .ok (.aload_n 0, 1) := by decide +kernel
theorem dX9_uses_16 : decode cX9_uses 16 = .ok (.getfield 168, 3) := by decide +kernel
theorem dX9_uses_19 : decode cX9_uses 19 = .ok (.ireturn, 1) := by decide +kernel
theorem dX9_use_0 : decode cX9_use 0 = .ok (.aload_n 0, 1) := by decide +kernel
theorem dX9_use_1 : decode cX9_use 1 = .ok (.iload_n 1, 1) := by decide +kernel
theorem dX9_use_2 : decode cX9_use 2 = .ok (.invokevirtual 133, 3) := by decide +kernel
theorem dX9_use_5 : decode cX9_use 5 = .ok (.ifCond .ne 5, 3) := by decide +kernel
theorem dX9_use_8 : decode cX9_use 8 = .ok (.iconst 0, 1) := by decide +kernel
theorem dX9_use_9 : decode cX9_use 9 = .ok (.ireturn, 1) := by decide +kernel
theorem dX9_use_10 : decode cX9_use 10 = .ok (.aload_n 0, 1) := by decide +kernel
theorem dX9_use_11 : decode cX9_use 11 = .ok (.iload_n 1, 1) := by decide +kernel
theorem dX9_use_12 : decode cX9_use 12 = .ok (.invokevirtual 189, 3) := by decide +kernel
theorem dX9_use_15 : decode cX9_use 15 = .ok (.aload_n 0, 1) := by decide +kernel
theorem dX9_use_16 : decode cX9_use 16 = .ok (.iload_n 2, 1) := by decide +kernel
theorem dX9_use_17 : decode cX9_use 17 = .ok (.ifCond .lt 24, 3) := by decide +kernel
theorem dX9_use_20 : decode cX9_use 20 = .ok (.iload_n 2, 1) := by decide +kernel
theorem dX9_use_21 : decode cX9_use 21 = .ok (.aload_n 0, 1) := by decide +kernel
theorem dX9_use_22 : decode cX9_use 22 = .ok (.getfield 168, 3) := by decide +kernel
theorem dX9_use_25 : decode cX9_use 25 = .ok (.if_icmp .ge 16, 3) := by decide +kernel
theorem dX9_use_28 : decode cX9_use 28 = .ok (.iload_n 3, 1) := by decide +kernel
theorem dX9_use_29 : decode cX9_use 29 = .ok (.ifCond .lt 12, 3) := by decide +kernel
theorem dX9_use_32 : decode cX9_use 32 = .ok (.iload_n 3, 1) := by decide +kernel
theorem dX9_use_33 : decode cX9_use 33 = .ok (.iconst 4, 1) := by decide +kernel
theorem dX9_use_34 : decode cX9_use 34 = .ok (.if_icmp .gt 7, 3) := by decide +kernel
theorem dX9_use_37 : decode cX9_use 37 = .ok (.iconst 1, 1) := by decide +kernel
theorem dX9_use_38 : decode cX9_use 38 = .ok (.goto 4, 3) := by decide +kernel
theorem dX9_use_41 : decode cX9_use 41 = .ok (.iconst 0, 1) := by decide +kernel
theorem dX9_use_42 : decode cX9_use 42 = .ok (.iconst 2, 1) := by decide +kernel
theorem dX9_use_43 : decode cX9_use 43 = .ok (.invokevirtual 123, 3) := by decide +kernel
theorem dX9_use_46 : decode cX9_use 46 = .ok (.ifCond .ne 5, 3) := by decide +kernel
theorem dX9_use_49 : decode cX9_use 49 = .ok (.iconst 0, 1) := by decide +kernel
theorem dX9_use_50 : decode cX9_use 50 = .ok (.ireturn, 1) := by decide +kernel
theorem dX9_use_51 : decode cX9_use 51 = .ok (.iload_n 3, 1) := by decide +kernel
theorem dX9_use_52 : decode cX9_use 52 = .ok (.tableswitch 72 0 3 #[32, 44, 58, 65], 32) := by decide +kernel
theorem dX9_use_84 : decode cX9_use 84 = .ok (.aload_n 0, 1) := by decide +kernel
theorem dX9_use_85 : decode cX9_use 85 = .ok (.getfield 60, 3) := by decide +kernel
theorem dX9_use_88 : decode cX9_use 88 = .ok (.aload_n 0, 1) := by decide +kernel
theorem dX9_use_89 : decode cX9_use 89 = .ok (.getfield 69, 3) := by decide +kernel
theorem dX9_use_92 : decode cX9_use 92 = .ok (.iload_n 2, 1) := by decide +kernel
theorem dX9_use_93 : decode cX9_use 93 = .ok (.iaload, 1) := by decide +kernel
theorem dX9_use_94 : decode cX9_use 94 = .ok (.iaload, 1) := by decide +kernel
theorem dX9_use_95 : decode cX9_use 95 = .ok (.ireturn, 1) := by decide +kernel
theorem dX9_use_96 : decode cX9_use 96 = .ok (.aload_n 0, 1) := by decide +kernel
theorem dX9_use_97 : decode cX9_use 97 = .ok (.getfield 63, 3) := by decide +kernel
theorem dX9_use_100 : decode cX9_use 100 = .ok (.aload_n 0, 1) := by decide +kernel
theorem dX9_use_101 : decode cX9_use 101 = .ok (.getfield 72, 3) := by decide +kernel
theorem dX9_use_104 : decode cX9_use 104 = .ok (.iload_n 2, 1) := by decide +kernel
theorem dX9_use_105 : decode cX9_use 105 = .ok (.iaload, 1) := by decide +kernel
theorem dX9_use_106 : decode cX9_use 106 = .ok (.iconst 1, 1) := by decide +kernel
theorem dX9_use_107 : decode cX9_use 107 = .ok (.isub, 1) := by decide +kernel
theorem dX9_use_108 : decode cX9_use 108 = .ok (.iaload, 1) := by decide +kernel
theorem dX9_use_109 : decode cX9_use 109 = .ok (.ireturn, 1) := by decide +kernel
theorem dX9_use_110 : decode cX9_use 110 = .ok (.aload_n 0, 1) := by decide +kernel
theorem dX9_use_111 : decode cX9_use 111 = .ok (.getfield 75, 3) := by decide +kernel
theorem dX9_use_114 : decode cX9_use 114 = .ok (.iload_n 2, 1) := by decide +kernel
theorem dX9_use_115 : decode cX9_use 115 = .ok (.iaload, 1) := by decide +kernel
theorem dX9_use_116 : decode cX9_use 116 = .ok (.ireturn, 1) := by decide +kernel
theorem dX9_use_117 : decode cX9_use 117 = .ok (.aload_n 0, 1) := by decide +kernel
theorem dX9_use_118 : decode cX9_use 118 = .ok (.getfield 78, 3) := by decide +kernel
theorem dX9_use_121 : decode cX9_use 121 = .ok (.iload_n 2, 1) := by decide +kernel
theorem dX9_use_122 : decode cX9_use 122 = .ok (.iaload, 1) := by decide +kernel
theorem dX9_use_123 : decode cX9_use 123 = .ok (.ireturn, 1) := by decide +kernel
theorem dX9_use_124 : decode cX9_use 124 = .ok (.aload_n 0, 1) := by decide +kernel
theorem dX9_use_125 : decode cX9_use 125 = .ok (.getfield 81, 3) := by decide +kernel
theorem dX9_use_128 : decode cX9_use 128 = .ok (.iload_n 2, 1) := by decide +kernel
theorem dX9_use_129 : decode cX9_use 129 = .ok (.iaload, 1) := by decide +kernel
theorem dX9_use_130 : decode cX9_use 130 = .ok (.ireturn, 1) := by decide +kernel
theorem dX9_goodFor_0 : decode cX9_goodFor 0 = .ok (.aload_n 0, 1) := by decide +kernel
theorem dX9_goodFor_1 : decode cX9_goodFor 1 = .ok (.getfield 75, 3) := by decide +kernel
theorem dX9_goodFor_4 : decode cX9_goodFor 4 = .ok (.iload_n 1, 1) := by decide +kernel
theorem dX9_goodFor_5 : decode cX9_goodFor 5 = .ok (.iaload, 1) := by decide +kernel
theorem dX9_goodFor_6 : decode cX9_goodFor 6 = .ok (.istore_n 2, 1) := by decide +kernel
theorem dX9_goodFor_7 : decode cX9_goodFor 7 = .ok (.iload_n 2, 1) := by decide +kernel
theorem dX9_goodFor_8 : decode cX9_goodFor 8 = .ok (.iconst (-1), 1) := by decide +kernel
theorem dX9_goodFor_9 : decode cX9_goodFor 9 = .ok (.if_icmp .eq 23, 3) := by decide +kernel
theorem dX9_goodFor_12 : decode cX9_goodFor 12 = .ok (.aload_n 0, 1) := by decide +kernel
theorem dX9_goodFor_13 : decode cX9_goodFor 13 = .ok (.getfield 31, 3) := by decide +kernel
theorem dX9_goodFor_16 : decode cX9_goodFor 16 = .ok (.iload_n 2, 1) := by decide +kernel
theorem dX9_goodFor_17 : decode cX9_goodFor 17 = .ok (.iaload, 1) := by decide +kernel
theorem dX9_goodFor_18 : decode cX9_goodFor 18 = .ok (.iconst 1, 1) := by decide +kernel
theorem dX9_goodFor_19 : decode cX9_goodFor 19 = .ok (.if_icmp .eq 15, 3) := by decide +kernel
theorem dX9_goodFor_22 : decode cX9_goodFor 22 = .ok (.aload_n 0, 1) := by decide +kernel
theorem dX9_goodFor_23 : decode cX9_goodFor 23 = .ok (.getfield 31, 3) := by decide +kernel
theorem dX9_goodFor_26 : decode cX9_goodFor 26 = .ok (.iload_n 2, 1) := by decide +kernel
theorem dX9_goodFor_27 : decode cX9_goodFor 27 = .ok (.iaload, 1) := by decide +kernel
theorem dX9_goodFor_28 : decode cX9_goodFor 28 = .ok (.iconst 3, 1) := by decide +kernel
theorem dX9_goodFor_29 : decode cX9_goodFor 29 = .ok (.if_icmp .eq 5, 3) := by decide +kernel
theorem dX9_goodFor_32 : decode cX9_goodFor 32 = .ok (.iconst (-1), 1) := by decide +kernel
theorem dX9_goodFor_33 : decode cX9_goodFor 33 = .ok (.ireturn, 1) := by decide +kernel
theorem dX9_goodFor_34 : decode cX9_goodFor 34 = .ok (.iconst 0, 1) := by decide +kernel
theorem dX9_goodFor_35 : decode cX9_goodFor 35 = .ok (.istore_n 3, 1) := by decide +kernel
theorem dX9_goodFor_36 : decode cX9_goodFor 36 = .ok (.iload_n 3, 1) := by decide +kernel
theorem dX9_goodFor_37 : decode cX9_goodFor 37 = .ok (.aload_n 0, 1) := by decide +kernel
theorem dX9_goodFor_38 : decode cX9_goodFor 38 = .ok (.getfield 127, 3) := by decide +kernel
theorem dX9_goodFor_41 : decode cX9_goodFor 41 = .ok (.if_icmp .ge 33, 3) := by decide +kernel
theorem dX9_goodFor_44 : decode cX9_goodFor 44 = .ok (.aload_n 0, 1) := by decide +kernel
theorem dX9_goodFor_45 : decode cX9_goodFor 45 = .ok (.getfield 31, 3) := by decide +kernel
theorem dX9_goodFor_48 : decode cX9_goodFor 48 = .ok (.iload_n 3, 1) := by decide +kernel
theorem dX9_goodFor_49 : decode cX9_goodFor 49 = .ok (.iaload, 1) := by decide +kernel
theorem dX9_goodFor_50 : decode cX9_goodFor 50 = .ok (.ifCond .ne 18, 3) := by decide +kernel
theorem dX9_goodFor_53 : decode cX9_goodFor 53 = .ok (.aload_n 0, 1) := by decide +kernel
theorem dX9_goodFor_54 : decode cX9_goodFor 54 = .ok (.getfield 28, 3) := by decide +kernel
theorem dX9_goodFor_57 : decode cX9_goodFor 57 = .ok (.iload_n 3, 1) := by decide +kernel
theorem dX9_goodFor_58 : decode cX9_goodFor 58 = .ok (.iaload, 1) := by decide +kernel
theorem dX9_goodFor_59 : decode cX9_goodFor 59 = .ok (.aload_n 0, 1) := by decide +kernel
theorem dX9_goodFor_60 : decode cX9_goodFor 60 = .ok (.getfield 28, 3) := by decide +kernel
theorem dX9_goodFor_63 : decode cX9_goodFor 63 = .ok (.iload_n 2, 1) := by decide +kernel
theorem dX9_goodFor_64 : decode cX9_goodFor 64 = .ok (.iaload, 1) := by decide +kernel
theorem dX9_goodFor_65 : decode cX9_goodFor 65 = .ok (.if_icmp .eq 9, 3) := by decide +kernel
theorem dX9_goodFor_68 : decode cX9_goodFor 68 = .ok (.iinc 3 1, 3) := by decide +kernel
theorem dX9_goodFor_71 : decode cX9_goodFor 71 = .ok (.goto (-35), 3) := by decide +kernel
theorem dX9_goodFor_74 : decode cX9_goodFor 74 = .ok (.iload_n 3, 1) := by decide +kernel
theorem dX9_goodFor_75 : decode cX9_goodFor 75 = .ok (.aload_n 0, 1) := by decide +kernel
theorem dX9_goodFor_76 : decode cX9_goodFor 76 = .ok (.getfield 127, 3) := by decide +kernel
theorem dX9_goodFor_79 : decode cX9_goodFor 79 = .ok (.if_icmp .ge 21, 3) := by decide +kernel
theorem dX9_goodFor_82 : decode cX9_goodFor 82 = .ok (.aload_n 0, 1) := by decide +kernel
theorem dX9_goodFor_83 : decode cX9_goodFor 83 = .ok (.iload_n 3, 1) := by decide +kernel
theorem dX9_goodFor_84 : decode cX9_goodFor 84 = .ok (.aload_n 0, 1) := by decide +kernel
theorem dX9_goodFor_85 : decode cX9_goodFor 85 = .ok (.getfield 78, 3) := by decide +kernel
theorem dX9_goodFor_88 : decode cX9_goodFor 88 = .ok (.iload_n 1, 1) := by decide +kernel
theorem dX9_goodFor_89 : decode cX9_goodFor 89 = .ok (.iaload, 1) := by decide +kernel
theorem dX9_goodFor_90 : decode cX9_goodFor 90 = .ok (.invokevirtual 157, 3) := by decide +kernel
theorem dX9_goodFor_93 : decode cX9_goodFor 93 = .ok (.ifCond .eq 7, 3) := by decide +kernel
theorem dX9_goodFor_96 : decode cX9_goodFor 96 = .ok (.iload_n 3, 1) := by decide +kernel
theorem dX9_goodFor_97 : decode cX9_goodFor 97 = .ok (.goto 4, 3) := by decide +kernel
theorem dX9_goodFor_100 : decode cX9_goodFor 100 = .ok (.iconst (-1), 1) := by decide +kernel
theorem dX9_goodFor_101 : decode cX9_goodFor 101 = .ok (.ireturn, 1) := by decide +kernel
theorem dX9_mends_0 : decode cX9_mends 0 = .ok (.aload_n 0, 1) := by decide +kernel
theorem dX9_mends_1 : decode cX9_mends 1 = .ok (.iload_n 2, 1) := by decide +kernel
theorem dX9_mends_2 : decode cX9_mends 2 = .ok (.invokevirtual 192, 3) := by decide +kernel
theorem dX9_mends_5 : decode cX9_mends 5 = .ok (.istore_n 3, 1) := by decide +kernel
theorem dX9_mends_6 : decode cX9_mends 6 = .ok (.iload_n 3, 1) := by decide +kernel
theorem dX9_mends_7 : decode cX9_mends 7 = .ok (.iconst (-1), 1) := by decide +kernel
theorem dX9_mends_8 : decode cX9_mends 8 = .ok (.if_icmp .ne 5, 3) := by decide +kernel
theorem dX9_mends_11 : decode cX9_mends 11 = .ok (.iconst 0, 1) := by decide +kernel
theorem dX9_mends_12 : decode cX9_mends 12 = .ok (.ireturn, 1) := by decide +kernel
theorem dX9_mends_13 : decode cX9_mends 13 = .ok (.aload_n 0, 1) := by decide +kernel
theorem dX9_mends_14 : decode cX9_mends 14 = .ok (.getfield 60, 3) := by decide +kernel
theorem dX9_mends_17 : decode cX9_mends 17 = .ok (.aload_n 0, 1) := by decide +kernel
theorem dX9_mends_18 : decode cX9_mends 18 = .ok (.getfield 69, 3) := by decide +kernel
theorem dX9_mends_21 : decode cX9_mends 21 = .ok (.iload_n 2, 1) := by decide +kernel
theorem dX9_mends_22 : decode cX9_mends 22 = .ok (.iaload, 1) := by decide +kernel
theorem dX9_mends_23 : decode cX9_mends 23 = .ok (.iaload, 1) := by decide +kernel
theorem dX9_mends_24 : decode cX9_mends 24 = .ok (.istore 4, 2) := by decide +kernel
theorem dX9_mends_26 : decode cX9_mends 26 = .ok (.aload_n 0, 1) := by decide +kernel
theorem dX9_mends_27 : decode cX9_mends 27 = .ok (.getfield 63, 3) := by decide +kernel
theorem dX9_mends_30 : decode cX9_mends 30 = .ok (.aload_n 0, 1) := by decide +kernel
theorem dX9_mends_31 : decode cX9_mends 31 = .ok (.getfield 72, 3) := by decide +kernel
theorem dX9_mends_34 : decode cX9_mends 34 = .ok (.iload_n 2, 1) := by decide +kernel
theorem dX9_mends_35 : decode cX9_mends 35 = .ok (.iaload, 1) := by decide +kernel
theorem dX9_mends_36 : decode cX9_mends 36 = .ok (.iconst 1, 1) := by decide +kernel
theorem dX9_mends_37 : decode cX9_mends 37 = .ok (.isub, 1) := by decide +kernel
theorem dX9_mends_38 : decode cX9_mends 38 = .ok (.iaload, 1) := by decide +kernel
theorem dX9_mends_39 : decode cX9_mends 39 = .ok (.istore 5, 2) := by decide +kernel
theorem dX9_mends_41 : decode cX9_mends 41 = .ok (.iconst 0, 1) := by decide +kernel
theorem dX9_mends_42 : decode cX9_mends 42 = .ok (.istore 6, 2) := by decide +kernel
theorem dX9_mends_44 : decode cX9_mends 44 = .ok (.iconst 0, 1) := by decide +kernel
theorem dX9_mends_45 : decode cX9_mends 45 = .ok (.istore 7, 2) := by decide +kernel
theorem dX9_mends_47 : decode cX9_mends 47 = .ok (.iload 4, 2) := by decide +kernel
theorem dX9_mends_49 : decode cX9_mends 49 = .ok (.istore 8, 2) := by decide +kernel
theorem dX9_mends_51 : decode cX9_mends 51 = .ok (.iload 8, 2) := by decide +kernel
theorem dX9_mends_53 : decode cX9_mends 53 = .ok (.iload 5, 2) := by decide +kernel
theorem dX9_mends_55 : decode cX9_mends 55 = .ok (.if_icmp .ge 41, 3) := by decide +kernel
theorem dX9_mends_58 : decode cX9_mends 58 = .ok (.aload_n 0, 1) := by decide +kernel
theorem dX9_mends_59 : decode cX9_mends 59 = .ok (.iload_n 1, 1) := by decide +kernel
theorem dX9_mends_60 : decode cX9_mends 60 = .ok (.iload 8, 2) := by decide +kernel
theorem dX9_mends_62 : decode cX9_mends 62 = .ok (.invokevirtual 146, 3) := by decide +kernel
theorem dX9_mends_65 : decode cX9_mends 65 = .ok (.invokestatic 150, 3) := by decide +kernel
theorem dX9_mends_68 : decode cX9_mends 68 = .ok (.ifCond .le 6, 3) := by decide +kernel
theorem dX9_mends_71 : decode cX9_mends 71 = .ok (.iinc 6 1, 3) := by decide +kernel
theorem dX9_mends_74 : decode cX9_mends 74 = .ok (.aload_n 0, 1) := by decide +kernel
theorem dX9_mends_75 : decode cX9_mends 75 = .ok (.iload_n 1, 1) := by decide +kernel
theorem dX9_mends_76 : decode cX9_mends 76 = .ok (.iload 8, 2) := by decide +kernel
theorem dX9_mends_78 : decode cX9_mends 78 = .ok (.invokevirtual 146, 3) := by decide +kernel
theorem dX9_mends_81 : decode cX9_mends 81 = .ok (.invokestatic 140, 3) := by decide +kernel
theorem dX9_mends_84 : decode cX9_mends 84 = .ok (.ifCond .eq 6, 3) := by decide +kernel
theorem dX9_mends_87 : decode cX9_mends 87 = .ok (.iinc 7 1, 3) := by decide +kernel
theorem dX9_mends_90 : decode cX9_mends 90 = .ok (.iinc 8 1, 3) := by decide +kernel
theorem dX9_mends_93 : decode cX9_mends 93 = .ok (.goto (-42), 3) := by decide +kernel
theorem dX9_mends_96 : decode cX9_mends 96 = .ok (.iload 7, 2) := by decide +kernel
theorem dX9_mends_98 : decode cX9_mends 98 = .ok (.iload 6, 2) := by decide +kernel
theorem dX9_mends_100 : decode cX9_mends 100 = .ok (.if_icmp .ne 13, 3) := by decide +kernel
theorem dX9_mends_103 : decode cX9_mends 103 = .ok (.iload 6, 2) := by decide +kernel
theorem dX9_mends_105 : decode cX9_mends 105 = .ok (.iconst 1, 1) := by decide +kernel
theorem dX9_mends_106 : decode cX9_mends 106 = .ok (.if_icmp .le 7, 3) := by decide +kernel
theorem dX9_mends_109 : decode cX9_mends 109 = .ok (.iconst 1, 1) := by decide +kernel
theorem dX9_mends_110 : decode cX9_mends 110 = .ok (.goto 4, 3) := by decide +kernel
theorem dX9_mends_113 : decode cX9_mends 113 = .ok (.iconst 0, 1) := by decide +kernel
theorem dX9_mends_114 : decode cX9_mends 114 = .ok (.istore 8, 2) := by decide +kernel
theorem dX9_mends_116 : decode cX9_mends 116 = .ok (.iconst 0, 1) := by decide +kernel
theorem dX9_mends_117 : decode cX9_mends 117 = .ok (.istore 9, 2) := by decide +kernel
theorem dX9_mends_119 : decode cX9_mends 119 = .ok (.iconst 0, 1) := by decide +kernel
theorem dX9_mends_120 : decode cX9_mends 120 = .ok (.istore 10, 2) := by decide +kernel
theorem dX9_mends_122 : decode cX9_mends 122 = .ok (.iload 10, 2) := by decide +kernel
theorem dX9_mends_124 : decode cX9_mends 124 = .ok (.aload_n 0, 1) := by decide +kernel
theorem dX9_mends_125 : decode cX9_mends 125 = .ok (.getfield 25, 3) := by decide +kernel
theorem dX9_mends_128 : decode cX9_mends 128 = .ok (.iload_n 3, 1) := by decide +kernel
theorem dX9_mends_129 : decode cX9_mends 129 = .ok (.iaload, 1) := by decide +kernel
theorem dX9_mends_130 : decode cX9_mends 130 = .ok (.if_icmp .ge 200, 3) := by decide +kernel
theorem dX9_mends_133 : decode cX9_mends 133 = .ok (.aload_n 0, 1) := by decide +kernel
theorem dX9_mends_134 : decode cX9_mends 134 = .ok (.getfield 22, 3) := by decide +kernel
theorem dX9_mends_137 : decode cX9_mends 137 = .ok (.iconst 3, 1) := by decide +kernel
theorem dX9_mends_138 : decode cX9_mends 138 = .ok (.iload_n 3, 1) := by decide +kernel
theorem dX9_mends_139 : decode cX9_mends 139 = .ok (.imul, 1) := by decide +kernel
theorem dX9_mends_140 : decode cX9_mends 140 = .ok (.iload 10, 2) := by decide +kernel
theorem dX9_mends_142 : decode cX9_mends 142 = .ok (.iadd, 1) := by decide +kernel
theorem dX9_mends_143 : decode cX9_mends 143 = .ok (.iaload, 1) := by decide +kernel
theorem dX9_mends_144 : decode cX9_mends 144 = .ok (.istore 11, 2) := by decide +kernel
theorem dX9_mends_146 : decode cX9_mends 146 = .ok (.iload 10, 2) := by decide +kernel
theorem dX9_mends_148 : decode cX9_mends 148 = .ok (.aload_n 0, 1) := by decide +kernel
theorem dX9_mends_149 : decode cX9_mends 149 = .ok (.getfield 25, 3) := by decide +kernel
theorem dX9_mends_152 : decode cX9_mends 152 = .ok (.iload_n 3, 1) := by decide +kernel
theorem dX9_mends_153 : decode cX9_mends 153 = .ok (.iaload, 1) := by decide +kernel
theorem dX9_mends_154 : decode cX9_mends 154 = .ok (.iconst 1, 1) := by decide +kernel
theorem dX9_mends_155 : decode cX9_mends 155 = .ok (.isub, 1) := by decide +kernel
theorem dX9_mends_156 : decode cX9_mends 156 = .ok (.if_icmp .ne 27, 3) := by decide +kernel
theorem dX9_mends_159 : decode cX9_mends 159 = .ok (.aload_n 0, 1) := by decide +kernel
theorem dX9_mends_160 : decode cX9_mends 160 = .ok (.getfield 78, 3) := by decide +kernel
theorem dX9_mends_163 : decode cX9_mends 163 = .ok (.iload_n 2, 1) := by decide +kernel
theorem dX9_mends_164 : decode cX9_mends 164 = .ok (.iaload, 1) := by decide +kernel
theorem dX9_mends_165 : decode cX9_mends 165 = .ok (.iconst (-1), 1) := by decide +kernel
theorem dX9_mends_166 : decode cX9_mends 166 = .ok (.if_icmp .eq 17, 3) := by decide +kernel
theorem dX9_mends_169 : decode cX9_mends 169 = .ok (.aload_n 0, 1) := by decide +kernel
theorem dX9_mends_170 : decode cX9_mends 170 = .ok (.getfield 16, 3) := by decide +kernel
theorem dX9_mends_173 : decode cX9_mends 173 = .ok (.aload_n 0, 1) := by decide +kernel
theorem dX9_mends_174 : decode cX9_mends 174 = .ok (.getfield 78, 3) := by decide +kernel
theorem dX9_mends_177 : decode cX9_mends 177 = .ok (.iload_n 2, 1) := by decide +kernel
theorem dX9_mends_178 : decode cX9_mends 178 = .ok (.iaload, 1) := by decide +kernel
theorem dX9_mends_179 : decode cX9_mends 179 = .ok (.iaload, 1) := by decide +kernel
theorem dX9_mends_180 : decode cX9_mends 180 = .ok (.goto 4, 3) := by decide +kernel
theorem dX9_mends_183 : decode cX9_mends 183 = .ok (.iconst 0, 1) := by decide +kernel
theorem dX9_mends_184 : decode cX9_mends 184 = .ok (.istore 12, 2) := by decide +kernel
theorem dX9_mends_186 : decode cX9_mends 186 = .ok (.iconst 0, 1) := by decide +kernel
theorem dX9_mends_187 : decode cX9_mends 187 = .ok (.istore 13, 2) := by decide +kernel
theorem dX9_mends_189 : decode cX9_mends 189 = .ok (.iload 13, 2) := by decide +kernel
theorem dX9_mends_191 : decode cX9_mends 191 = .ok (.iload 11, 2) := by decide +kernel
theorem dX9_mends_193 : decode cX9_mends 193 = .ok (.iload 12, 2) := by decide +kernel
theorem dX9_mends_195 : decode cX9_mends 195 = .ok (.iadd, 1) := by decide +kernel
theorem dX9_mends_196 : decode cX9_mends 196 = .ok (.if_icmp .ge 103, 3) := by decide +kernel
theorem dX9_mends_199 : decode cX9_mends 199 = .ok (.iload 13, 2) := by decide +kernel
theorem dX9_mends_201 : decode cX9_mends 201 = .ok (.iload 11, 2) := by decide +kernel
theorem dX9_mends_203 : decode cX9_mends 203 = .ok (.if_icmp .ge 24, 3) := by decide +kernel
theorem dX9_mends_206 : decode cX9_mends 206 = .ok (.aload_n 0, 1) := by decide +kernel
theorem dX9_mends_207 : decode cX9_mends 207 = .ok (.getfield 19, 3) := by decide +kernel
theorem dX9_mends_210 : decode cX9_mends 210 = .ok (.bipush 36, 2) := by decide +kernel
theorem dX9_mends_212 : decode cX9_mends 212 = .ok (.iload_n 3, 1) := by decide +kernel
theorem dX9_mends_213 : decode cX9_mends 213 = .ok (.imul, 1) := by decide +kernel
theorem dX9_mends_214 : decode cX9_mends 214 = .ok (.bipush 12, 2) := by decide +kernel
theorem dX9_mends_216 : decode cX9_mends 216 = .ok (.iload 10, 2) := by decide +kernel
theorem dX9_mends_218 : decode cX9_mends 218 = .ok (.imul, 1) := by decide +kernel
theorem dX9_mends_219 : decode cX9_mends 219 = .ok (.iadd, 1) := by decide +kernel
theorem dX9_mends_220 : decode cX9_mends 220 = .ok (.iload 13, 2) := by decide +kernel
theorem dX9_mends_222 : decode cX9_mends 222 = .ok (.iadd, 1) := by decide +kernel
theorem dX9_mends_223 : decode cX9_mends 223 = .ok (.iaload, 1) := by decide +kernel
theorem dX9_mends_224 : decode cX9_mends 224 = .ok (.goto 22, 3) := by decide +kernel
theorem dX9_mends_227 : decode cX9_mends 227 = .ok (.aload_n 0, 1) := by decide +kernel
theorem dX9_mends_228 : decode cX9_mends 228 = .ok (.getfield 13, 3) := by decide +kernel
theorem dX9_mends_231 : decode cX9_mends 231 = .ok (.iconst 4, 1) := by decide +kernel
theorem dX9_mends_232 : decode cX9_mends 232 = .ok (.aload_n 0, 1) := by decide +kernel
theorem dX9_mends_233 : decode cX9_mends 233 = .ok (.getfield 78, 3) := by decide +kernel
theorem dX9_mends_236 : decode cX9_mends 236 = .ok (.iload_n 2, 1) := by decide +kernel
theorem dX9_mends_237 : decode cX9_mends 237 = .ok (.iaload, 1) := by decide +kernel
theorem dX9_mends_238 : decode cX9_mends 238 = .ok (.imul, 1) := by decide +kernel
theorem dX9_mends_239 : decode cX9_mends 239 = .ok (.iload 13, 2) := by decide +kernel
theorem dX9_mends_241 : decode cX9_mends 241 = .ok (.iadd, 1) := by decide +kernel
theorem dX9_mends_242 : decode cX9_mends 242 = .ok (.iload 11, 2) := by decide +kernel
theorem dX9_mends_244 : decode cX9_mends 244 = .ok (.isub, 1) := by decide +kernel
theorem dX9_mends_245 : decode cX9_mends 245 = .ok (.iaload, 1) := by decide +kernel
theorem dX9_mends_246 : decode cX9_mends 246 = .ok (.istore 14, 2) := by decide +kernel
theorem dX9_mends_248 : decode cX9_mends 248 = .ok (.aload_n 0, 1) := by decide +kernel
theorem dX9_mends_249 : decode cX9_mends 249 = .ok (.getfield 84, 3) := by decide +kernel
theorem dX9_mends_252 : decode cX9_mends 252 = .ok (.iload 9, 2) := by decide +kernel
theorem dX9_mends_254 : decode cX9_mends 254 = .ok (.iload 14, 2) := by decide +kernel
theorem dX9_mends_256 : decode cX9_mends 256 = .ok (.iconst 1, 1) := by decide +kernel
theorem dX9_mends_257 : decode cX9_mends 257 = .ok (.isub, 1) := by decide +kernel
theorem dX9_mends_258 : decode cX9_mends 258 = .ok (.iload 8, 2) := by decide +kernel
theorem dX9_mends_260 : decode cX9_mends 260 = .ok (.ifCond .ne 21, 3) := by decide +kernel
theorem dX9_mends_263 : decode cX9_mends 263 = .ok (.iload 9, 2) := by decide +kernel
theorem dX9_mends_265 : decode cX9_mends 265 = .ok (.ifCond .ne 21, 3) := by decide +kernel
theorem dX9_mends_268 : decode cX9_mends 268 = .ok (.aload_n 0, 1) := by decide +kernel
theorem dX9_mends_269 : decode cX9_mends 269 = .ok (.iload_n 1, 1) := by decide +kernel
theorem dX9_mends_270 : decode cX9_mends 270 = .ok (.iload 4, 2) := by decide +kernel
theorem dX9_mends_272 : decode cX9_mends 272 = .ok (.invokevirtual 146, 3) := by decide +kernel
theorem dX9_mends_275 : decode cX9_mends 275 = .ok (.invokestatic 140, 3) := by decide +kernel
theorem dX9_mends_278 : decode cX9_mends 278 = .ok (.ifCond .eq 8, 3) := by decide +kernel
theorem dX9_mends_281 : decode cX9_mends 281 = .ok (.bipush 65, 2) := by decide +kernel
theorem dX9_mends_283 : decode cX9_mends 283 = .ok (.goto 5, 3) := by decide +kernel
theorem dX9_mends_286 : decode cX9_mends 286 = .ok (.bipush 97, 2) := by decide +kernel
theorem dX9_mends_288 : decode cX9_mends 288 = .ok (.iadd, 1) := by decide +kernel
theorem dX9_mends_289 : decode cX9_mends 289 = .ok (.iastore, 1) := by decide +kernel
theorem dX9_mends_290 : decode cX9_mends 290 = .ok (.iinc 9 1, 3) := by decide +kernel
theorem dX9_mends_293 : decode cX9_mends 293 = .ok (.iinc 13 1, 3) := by decide +kernel
theorem dX9_mends_296 : decode cX9_mends 296 = .ok (.goto (-107), 3) := by decide +kernel
theorem dX9_mends_299 : decode cX9_mends 299 = .ok (.iload 10, 2) := by decide +kernel
theorem dX9_mends_301 : decode cX9_mends 301 = .ok (.iconst 1, 1) := by decide +kernel
theorem dX9_mends_302 : decode cX9_mends 302 = .ok (.iadd, 1) := by decide +kernel
theorem dX9_mends_303 : decode cX9_mends 303 = .ok (.aload_n 0, 1) := by decide +kernel
theorem dX9_mends_304 : decode cX9_mends 304 = .ok (.getfield 25, 3) := by decide +kernel
theorem dX9_mends_307 : decode cX9_mends 307 = .ok (.iload_n 3, 1) := by decide +kernel
theorem dX9_mends_308 : decode cX9_mends 308 = .ok (.iaload, 1) := by decide +kernel
theorem dX9_mends_309 : decode cX9_mends 309 = .ok (.if_icmp .ge 15, 3) := by decide +kernel
theorem dX9_mends_312 : decode cX9_mends 312 = .ok (.aload_n 0, 1) := by decide +kernel
theorem dX9_mends_313 : decode cX9_mends 313 = .ok (.getfield 84, 3) := by decide +kernel
theorem dX9_mends_316 : decode cX9_mends 316 = .ok (.iload 9, 2) := by decide +kernel
theorem dX9_mends_318 : decode cX9_mends 318 = .ok (.bipush 32, 2) := by decide +kernel
theorem dX9_mends_320 : decode cX9_mends 320 = .ok (.iastore, 1) := by decide +kernel
theorem dX9_mends_321 : decode cX9_mends 321 = .ok (.iinc 9 1, 3) := by decide +kernel
theorem dX9_mends_324 : decode cX9_mends 324 = .ok (.iinc 10 1, 3) := by decide +kernel
theorem dX9_mends_327 : decode cX9_mends 327 = .ok (.goto (-205), 3) := by decide +kernel
theorem dX9_mends_330 : decode cX9_mends 330 = .ok (.aload_n 0, 1) := by decide +kernel
theorem dX9_mends_331 : decode cX9_mends 331 = .ok (.getfield 57, 3) := by decide +kernel
theorem dX9_mends_334 : decode cX9_mends 334 = .ok (.iload_n 1, 1) := by decide +kernel
theorem dX9_mends_335 : decode cX9_mends 335 = .ok (.iaload, 1) := by decide +kernel
theorem dX9_mends_336 : decode cX9_mends 336 = .ok (.iload 5, 2) := by decide +kernel
theorem dX9_mends_338 : decode cX9_mends 338 = .ok (.isub, 1) := by decide +kernel
theorem dX9_mends_339 : decode cX9_mends 339 = .ok (.istore 10, 2) := by decide +kernel
theorem dX9_mends_341 : decode cX9_mends 341 = .ok (.iload 4, 2) := by decide +kernel
theorem dX9_mends_343 : decode cX9_mends 343 = .ok (.iload 9, 2) := by decide +kernel
theorem dX9_mends_345 : decode cX9_mends 345 = .ok (.iadd, 1) := by decide +kernel
theorem dX9_mends_346 : decode cX9_mends 346 = .ok (.iload 10, 2) := by decide +kernel
theorem dX9_mends_348 : decode cX9_mends 348 = .ok (.iadd, 1) := by decide +kernel
theorem dX9_mends_349 : decode cX9_mends 349 = .ok (.sipush 600, 3) := by decide +kernel
theorem dX9_mends_352 : decode cX9_mends 352 = .ok (.if_icmp .le 5, 3) := by decide +kernel
theorem dX9_mends_355 : decode cX9_mends 355 = .ok (.iconst 0, 1) := by decide +kernel
theorem dX9_mends_356 : decode cX9_mends 356 = .ok (.ireturn, 1) := by decide +kernel
theorem dX9_mends_357 : decode cX9_mends 357 = .ok (.iconst 0, 1) := by decide +kernel
theorem dX9_mends_358 : decode cX9_mends 358 = .ok (.istore 11, 2) := by decide +kernel
theorem dX9_mends_360 : decode cX9_mends 360 = .ok (.iload 11, 2) := by decide +kernel
theorem dX9_mends_362 : decode cX9_mends 362 = .ok (.iload 10, 2) := by decide +kernel
theorem dX9_mends_364 : decode cX9_mends 364 = .ok (.if_icmp .ge 26, 3) := by decide +kernel
theorem dX9_mends_367 : decode cX9_mends 367 = .ok (.aload_n 0, 1) := by decide +kernel
theorem dX9_mends_368 : decode cX9_mends 368 = .ok (.getfield 87, 3) := by decide +kernel
theorem dX9_mends_371 : decode cX9_mends 371 = .ok (.iload 11, 2) := by decide +kernel
theorem dX9_mends_373 : decode cX9_mends 373 = .ok (.aload_n 0, 1) := by decide +kernel
theorem dX9_mends_374 : decode cX9_mends 374 = .ok (.iload_n 1, 1) := by decide +kernel
theorem dX9_mends_375 : decode cX9_mends 375 = .ok (.iload 5, 2) := by decide +kernel
theorem dX9_mends_377 : decode cX9_mends 377 = .ok (.iload 11, 2) := by decide +kernel
theorem dX9_mends_379 : decode cX9_mends 379 = .ok (.iadd, 1) := by decide +kernel
theorem dX9_mends_380 : decode cX9_mends 380 = .ok (.invokevirtual 146, 3) := by decide +kernel
theorem dX9_mends_383 : decode cX9_mends 383 = .ok (.iastore, 1) := by decide +kernel
theorem dX9_mends_384 : decode cX9_mends 384 = .ok (.iinc 11 1, 3) := by decide +kernel
theorem dX9_mends_387 : decode cX9_mends 387 = .ok (.goto (-27), 3) := by decide +kernel
theorem dX9_mends_390 : decode cX9_mends 390 = .ok (.iconst 0, 1) := by decide +kernel
theorem dX9_mends_391 : decode cX9_mends 391 = .ok (.istore 11, 2) := by decide +kernel
theorem dX9_mends_393 : decode cX9_mends 393 = .ok (.iload 11, 2) := by decide +kernel
theorem dX9_mends_395 : decode cX9_mends 395 = .ok (.iload 9, 2) := by decide +kernel
theorem dX9_mends_397 : decode cX9_mends 397 = .ok (.if_icmp .ge 32, 3) := by decide +kernel
theorem dX9_mends_400 : decode cX9_mends 400 = .ok (.aload_n 0, 1) := by decide +kernel
theorem dX9_mends_401 : decode cX9_mends 401 = .ok (.getfield 54, 3) := by decide +kernel
theorem dX9_mends_404 : decode cX9_mends 404 = .ok (.sipush 600, 3) := by decide +kernel
theorem dX9_mends_407 : decode cX9_mends 407 = .ok (.iload_n 1, 1) := by decide +kernel
theorem dX9_mends_408 : decode cX9_mends 408 = .ok (.imul, 1) := by decide +kernel
theorem dX9_mends_409 : decode cX9_mends 409 = .ok (.iload 4, 2) := by decide +kernel
theorem dX9_mends_411 : decode cX9_mends 411 = .ok (.iadd, 1) := by decide +kernel
theorem dX9_mends_412 : decode cX9_mends 412 = .ok (.iload 11, 2) := by decide +kernel
theorem dX9_mends_414 : decode cX9_mends 414 = .ok (.iadd, 1) := by decide +kernel
theorem dX9_mends_415 : decode cX9_mends 415 = .ok (.aload_n 0, 1) := by decide +kernel
theorem dX9_mends_416 : decode cX9_mends 416 = .ok (.getfield 84, 3) := by decide +kernel
theorem dX9_mends_419 : decode cX9_mends 419 = .ok (.iload 11, 2) := by decide +kernel
theorem dX9_mends_421 : decode cX9_mends 421 = .ok (.iaload, 1) := by decide +kernel
theorem dX9_mends_422 : decode cX9_mends 422 = .ok (.iastore, 1) := by decide +kernel
theorem dX9_mends_423 : decode cX9_mends 423 = .ok (.iinc 11 1, 3) := by decide +kernel
theorem dX9_mends_426 : decode cX9_mends 426 = .ok (.goto (-33), 3) := by decide +kernel
theorem dX9_mends_429 : decode cX9_mends 429 = .ok (.iconst 0, 1) := by decide +kernel
theorem dX9_mends_430 : decode cX9_mends 430 = .ok (.istore 11, 2) := by decide +kernel
theorem dX9_mends_432 : decode cX9_mends 432 = .ok (.iload 11, 2) := by decide +kernel
theorem dX9_mends_434 : decode cX9_mends 434 = .ok (.iload 10, 2) := by decide +kernel
theorem dX9_mends_436 : decode cX9_mends 436 = .ok (.if_icmp .ge 35, 3) := by decide +kernel
theorem dX9_mends_439 : decode cX9_mends 439 = .ok (.aload_n 0, 1) := by decide +kernel
theorem dX9_mends_440 : decode cX9_mends 440 = .ok (.getfield 54, 3) := by decide +kernel
theorem dX9_mends_443 : decode cX9_mends 443 = .ok (.sipush 600, 3) := by decide +kernel
theorem dX9_mends_446 : decode cX9_mends 446 = .ok (.iload_n 1, 1) := by decide +kernel
theorem dX9_mends_447 : decode cX9_mends 447 = .ok (.imul, 1) := by decide +kernel
theorem dX9_mends_448 : decode cX9_mends 448 = .ok (.iload 4, 2) := by decide +kernel
theorem dX9_mends_450 : decode cX9_mends 450 = .ok (.iadd, 1) := by decide +kernel
theorem dX9_mends_451 : decode cX9_mends 451 = .ok (.iload 9, 2) := by decide +kernel
theorem dX9_mends_453 : decode cX9_mends 453 = .ok (.iadd, 1) := by decide +kernel
theorem dX9_mends_454 : decode cX9_mends 454 = .ok (.iload 11, 2) := by decide +kernel
theorem dX9_mends_456 : decode cX9_mends 456 = .ok (.iadd, 1) := by decide +kernel
theorem dX9_mends_457 : decode cX9_mends 457 = .ok (.aload_n 0, 1) := by decide +kernel
theorem dX9_mends_458 : decode cX9_mends 458 = .ok (.getfield 87, 3) := by decide +kernel
theorem dX9_mends_461 : decode cX9_mends 461 = .ok (.iload 11, 2) := by decide +kernel
theorem dX9_mends_463 : decode cX9_mends 463 = .ok (.iaload, 1) := by decide +kernel
theorem dX9_mends_464 : decode cX9_mends 464 = .ok (.iastore, 1) := by decide +kernel
theorem dX9_mends_465 : decode cX9_mends 465 = .ok (.iinc 11 1, 3) := by decide +kernel
theorem dX9_mends_468 : decode cX9_mends 468 = .ok (.goto (-36), 3) := by decide +kernel
theorem dX9_mends_471 : decode cX9_mends 471 = .ok (.aload_n 0, 1) := by decide +kernel
theorem dX9_mends_472 : decode cX9_mends 472 = .ok (.getfield 57, 3) := by decide +kernel
theorem dX9_mends_475 : decode cX9_mends 475 = .ok (.iload_n 1, 1) := by decide +kernel
theorem dX9_mends_476 : decode cX9_mends 476 = .ok (.iload 4, 2) := by decide +kernel
theorem dX9_mends_478 : decode cX9_mends 478 = .ok (.iload 9, 2) := by decide +kernel
theorem dX9_mends_480 : decode cX9_mends 480 = .ok (.iadd, 1) := by decide +kernel
theorem dX9_mends_481 : decode cX9_mends 481 = .ok (.iload 10, 2) := by decide +kernel
theorem dX9_mends_483 : decode cX9_mends 483 = .ok (.iadd, 1) := by decide +kernel
theorem dX9_mends_484 : decode cX9_mends 484 = .ok (.iastore, 1) := by decide +kernel
theorem dX9_mends_485 : decode cX9_mends 485 = .ok (.aload_n 0, 1) := by decide +kernel
theorem dX9_mends_486 : decode cX9_mends 486 = .ok (.dup, 1) := by decide +kernel
theorem dX9_mends_487 : decode cX9_mends 487 = .ok (.getfield 195, 3) := by decide +kernel
theorem dX9_mends_490 : decode cX9_mends 490 = .ok (.iconst 1, 1) := by decide +kernel
theorem dX9_mends_491 : decode cX9_mends 491 = .ok (.iadd, 1) := by decide +kernel
theorem dX9_mends_492 : decode cX9_mends 492 = .ok (.putfield 195, 3) := by decide +kernel
theorem dX9_mends_495 : decode cX9_mends 495 = .ok (.iconst 1, 1) := by decide +kernel
theorem dX9_mends_496 : decode cX9_mends 496 = .ok (.ireturn, 1) := by decide +kernel
theorem dX9_mend_0 : decode cX9_mend 0 = .ok (.aload_n 0, 1) := by decide +kernel
theorem dX9_mend_1 : decode cX9_mend 1 = .ok (.iload_n 1, 1) := by decide +kernel
theorem dX9_mend_2 : decode cX9_mend 2 = .ok (.invokevirtual 133, 3) := by decide +kernel
theorem dX9_mend_5 : decode cX9_mend 5 = .ok (.ifCond .ne 5, 3) := by decide +kernel
theorem dX9_mend_8 : decode cX9_mend 8 = .ok (.iconst 0, 1) := by decide +kernel
theorem dX9_mend_9 : decode cX9_mend 9 = .ok (.ireturn, 1) := by decide +kernel
theorem dX9_mend_10 : decode cX9_mend 10 = .ok (.aload_n 0, 1) := by decide +kernel
theorem dX9_mend_11 : decode cX9_mend 11 = .ok (.iload_n 1, 1) := by decide +kernel
theorem dX9_mend_12 : decode cX9_mend 12 = .ok (.invokevirtual 189, 3) := by decide +kernel
theorem dX9_mend_15 : decode cX9_mend 15 = .ok (.iload_n 2, 1) := by decide +kernel
theorem dX9_mend_16 : decode cX9_mend 16 = .ok (.ifCond .lt 24, 3) := by decide +kernel
theorem dX9_mend_19 : decode cX9_mend 19 = .ok (.iload_n 2, 1) := by decide +kernel
theorem dX9_mend_20 : decode cX9_mend 20 = .ok (.aload_n 0, 1) := by decide +kernel
theorem dX9_mend_21 : decode cX9_mend 21 = .ok (.getfield 168, 3) := by decide +kernel
theorem dX9_mend_24 : decode cX9_mend 24 = .ok (.if_icmp .ge 16, 3) := by decide +kernel
theorem dX9_mend_27 : decode cX9_mend 27 = .ok (.aload_n 0, 1) := by decide +kernel
theorem dX9_mend_28 : decode cX9_mend 28 = .ok (.iload_n 1, 1) := by decide +kernel
theorem dX9_mend_29 : decode cX9_mend 29 = .ok (.iload_n 2, 1) := by decide +kernel
theorem dX9_mend_30 : decode cX9_mend 30 = .ok (.invokevirtual 198, 3) := by decide +kernel
theorem dX9_mend_33 : decode cX9_mend 33 = .ok (.ifCond .eq 7, 3) := by decide +kernel
theorem dX9_mend_36 : decode cX9_mend 36 = .ok (.iconst 1, 1) := by decide +kernel
theorem dX9_mend_37 : decode cX9_mend 37 = .ok (.goto 4, 3) := by decide +kernel
theorem dX9_mend_40 : decode cX9_mend 40 = .ok (.iconst 0, 1) := by decide +kernel
theorem dX9_mend_41 : decode cX9_mend 41 = .ok (.ireturn, 1) := by decide +kernel
theorem dX9_mendsOne_0 : decode cX9_mendsOne 0 = .ok (.aload_n 0, 1) := by decide +kernel
theorem dX9_mendsOne_1 : decode cX9_mendsOne 1 = .ok (.iload_n 1, 1) := by decide +kernel
theorem dX9_mendsOne_2 : decode cX9_mendsOne 2 = .ok (.invokevirtual 189, 3) := by decide +kernel
theorem dX9_mendsOne_5 : decode cX9_mendsOne 5 = .ok (.iconst 0, 1) := by decide +kernel
theorem dX9_mendsOne_6 : decode cX9_mendsOne 6 = .ok (.istore_n 2, 1) := by decide +kernel
theorem dX9_mendsOne_7 : decode cX9_mendsOne 7 = .ok (.iload_n 2, 1) := by decide +kernel
theorem dX9_mendsOne_8 : decode cX9_mendsOne 8 = .ok (.aload_n 0, 1) := by decide +kernel
theorem dX9_mendsOne_9 : decode cX9_mendsOne 9 = .ok (.getfield 168, 3) := by decide +kernel
theorem dX9_mendsOne_12 : decode cX9_mendsOne 12 = .ok (.if_icmp .ge 20, 3) := by decide +kernel
theorem dX9_mendsOne_15 : decode cX9_mendsOne 15 = .ok (.aload_n 0, 1) := by decide +kernel
theorem dX9_mendsOne_16 : decode cX9_mendsOne 16 = .ok (.iload_n 1, 1) := by decide +kernel
theorem dX9_mendsOne_17 : decode cX9_mendsOne 17 = .ok (.iload_n 2, 1) := by decide +kernel
theorem dX9_mendsOne_18 : decode cX9_mendsOne 18 = .ok (.invokevirtual 198, 3) := by decide +kernel
theorem dX9_mendsOne_21 : decode cX9_mendsOne 21 = .ok (.ifCond .eq 5, 3) := by decide +kernel
theorem dX9_mendsOne_24 : decode cX9_mendsOne 24 = .ok (.iconst 1, 1) := by decide +kernel
theorem dX9_mendsOne_25 : decode cX9_mendsOne 25 = .ok (.ireturn, 1) := by decide +kernel
theorem dX9_mendsOne_26 : decode cX9_mendsOne 26 = .ok (.iinc 2 1, 3) := by decide +kernel
theorem dX9_mendsOne_29 : decode cX9_mendsOne 29 = .ok (.goto (-22), 3) := by decide +kernel
theorem dX9_mendsOne_32 : decode cX9_mendsOne 32 = .ok (.iconst 0, 1) := by decide +kernel
theorem dX9_mendsOne_33 : decode cX9_mendsOne 33 = .ok (.ireturn, 1) := by decide +kernel
theorem dX9_mendAll_0 : decode cX9_mendAll 0 = .ok (.aload_n 0, 1) := by decide +kernel
theorem dX9_mendAll_1 : decode cX9_mendAll 1 = .ok (.iload_n 1, 1) := by decide +kernel
theorem dX9_mendAll_2 : decode cX9_mendAll 2 = .ok (.invokevirtual 133, 3) := by decide +kernel
theorem dX9_mendAll_5 : decode cX9_mendAll 5 = .ok (.ifCond .ne 5, 3) := by decide +kernel
theorem dX9_mendAll_8 : decode cX9_mendAll 8 = .ok (.iconst 0, 1) := by decide +kernel
theorem dX9_mendAll_9 : decode cX9_mendAll 9 = .ok (.ireturn, 1) := by decide +kernel
theorem dX9_mendAll_10 : decode cX9_mendAll 10 = .ok (.iconst 0, 1) := by decide +kernel
theorem dX9_mendAll_11 : decode cX9_mendAll 11 = .ok (.istore_n 2, 1) := by decide +kernel
theorem dX9_mendAll_12 : decode cX9_mendAll 12 = .ok (.iload_n 2, 1) := by decide +kernel
theorem dX9_mendAll_13 : decode cX9_mendAll 13 = .ok (.bipush 100, 2) := by decide +kernel
theorem dX9_mendAll_15 : decode cX9_mendAll 15 = .ok (.if_icmp .ge 17, 3) := by decide +kernel
theorem dX9_mendAll_18 : decode cX9_mendAll 18 = .ok (.aload_n 0, 1) := by decide +kernel
theorem dX9_mendAll_19 : decode cX9_mendAll 19 = .ok (.iload_n 1, 1) := by decide +kernel
theorem dX9_mendAll_20 : decode cX9_mendAll 20 = .ok (.invokevirtual 200, 3) := by decide +kernel
theorem dX9_mendAll_23 : decode cX9_mendAll 23 = .ok (.ifCond .eq 9, 3) := by decide +kernel
theorem dX9_mendAll_26 : decode cX9_mendAll 26 = .ok (.iinc 2 1, 3) := by decide +kernel
theorem dX9_mendAll_29 : decode cX9_mendAll 29 = .ok (.goto (-17), 3) := by decide +kernel
theorem dX9_mendAll_32 : decode cX9_mendAll 32 = .ok (.iload_n 2, 1) := by decide +kernel
theorem dX9_mendAll_33 : decode cX9_mendAll 33 = .ok (.ireturn, 1) := by decide +kernel
theorem dX9_count_0 : decode cX9_count 0 = .ok (.aload_n 0, 1) := by decide +kernel
theorem dX9_count_1 : decode cX9_count 1 = .ok (.iload_n 1, 1) := by decide +kernel
theorem dX9_count_2 : decode cX9_count 2 = .ok (.invokevirtual 130, 3) := by decide +kernel
theorem dX9_count_5 : decode cX9_count 5 = .ok (.ifCond .ne 5, 3) := by decide +kernel
theorem dX9_count_8 : decode cX9_count 8 = .ok (.iconst 0, 1) := by decide +kernel
theorem dX9_count_9 : decode cX9_count 9 = .ok (.ireturn, 1) := by decide +kernel
theorem dX9_count_10 : decode cX9_count 10 = .ok (.iconst 0, 1) := by decide +kernel
theorem dX9_count_11 : decode cX9_count 11 = .ok (.istore_n 2, 1) := by decide +kernel
theorem dX9_count_12 : decode cX9_count 12 = .ok (.iconst 0, 1) := by decide +kernel
theorem dX9_count_13 : decode cX9_count 13 = .ok (.istore_n 3, 1) := by decide +kernel
theorem dX9_count_14 : decode cX9_count 14 = .ok (.iload_n 3, 1) := by decide +kernel
theorem dX9_count_15 : decode cX9_count 15 = .ok (.bipush 8, 2) := by decide +kernel
theorem dX9_count_17 : decode cX9_count 17 = .ok (.if_icmp .ge 46, 3) := by decide +kernel
theorem dX9_count_20 : decode cX9_count 20 = .ok (.aload_n 0, 1) := by decide +kernel
theorem dX9_count_21 : decode cX9_count 21 = .ok (.iload_n 3, 1) := by decide +kernel
theorem dX9_count_22 : decode cX9_count 22 = .ok (.invokevirtual 189, 3) := by decide +kernel
theorem dX9_count_25 : decode cX9_count 25 = .ok (.iconst 0, 1) := by decide +kernel
theorem dX9_count_26 : decode cX9_count 26 = .ok (.istore 4, 2) := by decide +kernel
theorem dX9_count_28 : decode cX9_count 28 = .ok (.iload 4, 2) := by decide +kernel
theorem dX9_count_30 : decode cX9_count 30 = .ok (.aload_n 0, 1) := by decide +kernel
theorem dX9_count_31 : decode cX9_count 31 = .ok (.getfield 168, 3) := by decide +kernel
theorem dX9_count_34 : decode cX9_count 34 = .ok (.if_icmp .ge 23, 3) := by decide +kernel
theorem dX9_count_37 : decode cX9_count 37 = .ok (.aload_n 0, 1) := by decide +kernel
theorem dX9_count_38 : decode cX9_count 38 = .ok (.getfield 75, 3) := by decide +kernel
theorem dX9_count_41 : decode cX9_count 41 = .ok (.iload 4, 2) := by decide +kernel
theorem dX9_count_43 : decode cX9_count 43 = .ok (.iaload, 1) := by decide +kernel
theorem dX9_count_44 : decode cX9_count 44 = .ok (.iload_n 1, 1) := by decide +kernel
theorem dX9_count_45 : decode cX9_count 45 = .ok (.if_icmp .ne 6, 3) := by decide +kernel
theorem dX9_count_48 : decode cX9_count 48 = .ok (.iinc 2 1, 3) := by decide +kernel
theorem dX9_count_51 : decode cX9_count 51 = .ok (.iinc 4 1, 3) := by decide +kernel
theorem dX9_count_54 : decode cX9_count 54 = .ok (.goto (-26), 3) := by decide +kernel
theorem dX9_count_57 : decode cX9_count 57 = .ok (.iinc 3 1, 3) := by decide +kernel
theorem dX9_count_60 : decode cX9_count 60 = .ok (.goto (-46), 3) := by decide +kernel
theorem dX9_count_63 : decode cX9_count 63 = .ok (.iload_n 2, 1) := by decide +kernel
theorem dX9_count_64 : decode cX9_count 64 = .ok (.ireturn, 1) := by decide +kernel
theorem dX9_round_0 : decode cX9_round 0 = .ok (.aload_n 0, 1) := by decide +kernel
theorem dX9_round_1 : decode cX9_round 1 = .ok (.getfield 90, 3) := by decide +kernel
theorem dX9_round_4 : decode cX9_round 4 = .ok (.iconst 0, 1) := by decide +kernel
theorem dX9_round_5 : decode cX9_round 5 = .ok (.lconst 1, 1) := by decide +kernel
theorem dX9_round_6 : decode cX9_round 6 = .ok (.iload_n 1, 1) := by decide +kernel
theorem dX9_round_7 : decode cX9_round 7 = .ok (.lshl, 1) := by decide +kernel
theorem dX9_round_8 : decode cX9_round 8 = .ok (.lastore, 1) := by decide +kernel
theorem dX9_round_9 : decode cX9_round 9 = .ok (.bipush 41, 2) := by decide +kernel
theorem dX9_round_11 : decode cX9_round 11 = .ok (.istore_n 2, 1) := by decide +kernel
theorem dX9_round_12 : decode cX9_round 12 = .ok (.iconst 1, 1) := by decide +kernel
theorem dX9_round_13 : decode cX9_round 13 = .ok (.istore_n 3, 1) := by decide +kernel
theorem dX9_round_14 : decode cX9_round 14 = .ok (.iload_n 3, 1) := by decide +kernel
theorem dX9_round_15 : decode cX9_round 15 = .ok (.bipush 40, 2) := by decide +kernel
theorem dX9_round_17 : decode cX9_round 17 = .ok (.if_icmp .gt 89, 3) := by decide +kernel
theorem dX9_round_20 : decode cX9_round 20 = .ok (.aload_n 0, 1) := by decide +kernel
theorem dX9_round_21 : decode cX9_round 21 = .ok (.getfield 90, 3) := by decide +kernel
theorem dX9_round_24 : decode cX9_round 24 = .ok (.iload_n 3, 1) := by decide +kernel
theorem dX9_round_25 : decode cX9_round 25 = .ok (.lconst 0, 1) := by decide +kernel
theorem dX9_round_26 : decode cX9_round 26 = .ok (.lastore, 1) := by decide +kernel
theorem dX9_round_27 : decode cX9_round 27 = .ok (.iconst 0, 1) := by decide +kernel
theorem dX9_round_28 : decode cX9_round 28 = .ok (.istore 4, 2) := by decide +kernel
theorem dX9_round_30 : decode cX9_round 30 = .ok (.iload 4, 2) := by decide +kernel
theorem dX9_round_32 : decode cX9_round 32 = .ok (.bipush 40, 2) := by decide +kernel
theorem dX9_round_34 : decode cX9_round 34 = .ok (.if_icmp .ge 43, 3) := by decide +kernel
theorem dX9_round_37 : decode cX9_round 37 = .ok (.aload_n 0, 1) := by decide +kernel
theorem dX9_round_38 : decode cX9_round 38 = .ok (.getfield 46, 3) := by decide +kernel
theorem dX9_round_41 : decode cX9_round 41 = .ok (.iload 4, 2) := by decide +kernel
theorem dX9_round_43 : decode cX9_round 43 = .ok (.laload, 1) := by decide +kernel
theorem dX9_round_44 : decode cX9_round 44 = .ok (.aload_n 0, 1) := by decide +kernel
theorem dX9_round_45 : decode cX9_round 45 = .ok (.getfield 90, 3) := by decide +kernel
theorem dX9_round_48 : decode cX9_round 48 = .ok (.iload_n 3, 1) := by decide +kernel
theorem dX9_round_49 : decode cX9_round 49 = .ok (.iconst 1, 1) := by decide +kernel
theorem dX9_round_50 : decode cX9_round 50 = .ok (.isub, 1) := by decide +kernel
theorem dX9_round_51 : decode cX9_round 51 = .ok (.laload, 1) := by decide +kernel
theorem dX9_round_52 : decode cX9_round 52 = .ok (.land, 1) := by decide +kernel
theorem dX9_round_53 : decode cX9_round 53 = .ok (.lconst 0, 1) := by decide +kernel
theorem dX9_round_54 : decode cX9_round 54 = .ok (.lcmp, 1) := by decide +kernel
theorem dX9_round_55 : decode cX9_round 55 = .ok (.ifCond .eq 16, 3) := by decide +kernel
theorem dX9_round_58 : decode cX9_round 58 = .ok (.aload_n 0, 1) := by decide +kernel
theorem dX9_round_59 : decode cX9_round 59 = .ok (.getfield 90, 3) := by decide +kernel
theorem dX9_round_62 : decode cX9_round 62 = .ok (.iload_n 3, 1) := by decide +kernel
theorem dX9_round_63 : decode cX9_round 63 = .ok (.dup2, 1) := by decide +kernel
theorem dX9_round_64 : decode cX9_round 64 = .ok (.laload, 1) := by decide +kernel
theorem dX9_round_65 : decode cX9_round 65 = .ok (.lconst 1, 1) := by decide +kernel
theorem dX9_round_66 : decode cX9_round 66 = .ok (.iload 4, 2) := by decide +kernel
theorem dX9_round_68 : decode cX9_round 68 = .ok (.lshl, 1) := by decide +kernel
theorem dX9_round_69 : decode cX9_round 69 = .ok (.lor, 1) := by decide +kernel
theorem dX9_round_70 : decode cX9_round 70 = .ok (.lastore, 1) := by decide +kernel
theorem dX9_round_71 : decode cX9_round 71 = .ok (.iinc 4 1, 3) := by decide +kernel
theorem dX9_round_74 : decode cX9_round 74 = .ok (.goto (-44), 3) := by decide +kernel
theorem dX9_round_77 : decode cX9_round 77 = .ok (.iload_n 2, 1) := by decide +kernel
theorem dX9_round_78 : decode cX9_round 78 = .ok (.bipush 41, 2) := by decide +kernel
theorem dX9_round_80 : decode cX9_round 80 = .ok (.if_icmp .ne 20, 3) := by decide +kernel
theorem dX9_round_83 : decode cX9_round 83 = .ok (.aload_n 0, 1) := by decide +kernel
theorem dX9_round_84 : decode cX9_round 84 = .ok (.getfield 90, 3) := by decide +kernel
theorem dX9_round_87 : decode cX9_round 87 = .ok (.iload_n 3, 1) := by decide +kernel
theorem dX9_round_88 : decode cX9_round 88 = .ok (.laload, 1) := by decide +kernel
theorem dX9_round_89 : decode cX9_round 89 = .ok (.iload_n 1, 1) := by decide +kernel
theorem dX9_round_90 : decode cX9_round 90 = .ok (.lshr, 1) := by decide +kernel
theorem dX9_round_91 : decode cX9_round 91 = .ok (.lconst 1, 1) := by decide +kernel
theorem dX9_round_92 : decode cX9_round 92 = .ok (.land, 1) := by decide +kernel
theorem dX9_round_93 : decode cX9_round 93 = .ok (.lconst 1, 1) := by decide +kernel
theorem dX9_round_94 : decode cX9_round 94 = .ok (.lcmp, 1) := by decide +kernel
theorem dX9_round_95 : decode cX9_round 95 = .ok (.ifCond .ne 5, 3) := by decide +kernel
theorem dX9_round_98 : decode cX9_round 98 = .ok (.iload_n 3, 1) := by decide +kernel
theorem dX9_round_99 : decode cX9_round 99 = .ok (.istore_n 2, 1) := by decide +kernel
theorem dX9_round_100 : decode cX9_round 100 = .ok (.iinc 3 1, 3) := by decide +kernel
theorem dX9_round_103 : decode cX9_round 103 = .ok (.goto (-89), 3) := by decide +kernel
theorem dX9_round_106 : decode cX9_round 106 = .ok (.iload_n 2, 1) := by decide +kernel
theorem dX9_round_107 : decode cX9_round 107 = .ok (.ireturn, 1) := by decide +kernel
theorem dX9_rings_0 : decode cX9_rings 0 = .ok (.bipush 41, 2) := by decide +kernel
theorem dX9_rings_2 : decode cX9_rings 2 = .ok (.istore_n 1, 1) := by decide +kernel
theorem dX9_rings_3 : decode cX9_rings 3 = .ok (.iconst (-1), 1) := by decide +kernel
theorem dX9_rings_4 : decode cX9_rings 4 = .ok (.istore_n 2, 1) := by decide +kernel
theorem dX9_rings_5 : decode cX9_rings 5 = .ok (.iconst 0, 1) := by decide +kernel
theorem dX9_rings_6 : decode cX9_rings 6 = .ok (.istore_n 3, 1) := by decide +kernel
theorem dX9_rings_7 : decode cX9_rings 7 = .ok (.iload_n 3, 1) := by decide +kernel
theorem dX9_rings_8 : decode cX9_rings 8 = .ok (.bipush 40, 2) := by decide +kernel
theorem dX9_rings_10 : decode cX9_rings 10 = .ok (.if_icmp .ge 30, 3) := by decide +kernel
theorem dX9_rings_13 : decode cX9_rings 13 = .ok (.aload_n 0, 1) := by decide +kernel
theorem dX9_rings_14 : decode cX9_rings 14 = .ok (.iload_n 3, 1) := by decide +kernel
theorem dX9_rings_15 : decode cX9_rings 15 = .ok (.invokevirtual 203, 3) := by decide +kernel
theorem dX9_rings_18 : decode cX9_rings 18 = .ok (.istore 4, 2) := by decide +kernel
theorem dX9_rings_20 : decode cX9_rings 20 = .ok (.iload 4, 2) := by decide +kernel
theorem dX9_rings_22 : decode cX9_rings 22 = .ok (.iload_n 1, 1) := by decide +kernel
theorem dX9_rings_23 : decode cX9_rings 23 = .ok (.if_icmp .lt 6, 3) := by decide +kernel
theorem dX9_rings_26 : decode cX9_rings 26 = .ok (.goto 8, 3) := by decide +kernel
theorem dX9_rings_29 : decode cX9_rings 29 = .ok (.iload 4, 2) := by decide +kernel
theorem dX9_rings_31 : decode cX9_rings 31 = .ok (.istore_n 1, 1) := by decide +kernel
theorem dX9_rings_32 : decode cX9_rings 32 = .ok (.iload_n 3, 1) := by decide +kernel
theorem dX9_rings_33 : decode cX9_rings 33 = .ok (.istore_n 2, 1) := by decide +kernel
theorem dX9_rings_34 : decode cX9_rings 34 = .ok (.iinc 3 1, 3) := by decide +kernel
theorem dX9_rings_37 : decode cX9_rings 37 = .ok (.goto (-30), 3) := by decide +kernel
theorem dX9_rings_40 : decode cX9_rings 40 = .ok (.iload_n 2, 1) := by decide +kernel
theorem dX9_rings_41 : decode cX9_rings 41 = .ok (.iconst (-1), 1) := by decide +kernel
theorem dX9_rings_42 : decode cX9_rings 42 = .ok (.if_icmp .ne 5, 3) := by decide +kernel
theorem dX9_rings_45 : decode cX9_rings 45 = .ok (.iconst 0, 1) := by decide +kernel
theorem dX9_rings_46 : decode cX9_rings 46 = .ok (.ireturn, 1) := by decide +kernel
theorem dX9_rings_47 : decode cX9_rings 47 = .ok (.aload_n 0, 1) := by decide +kernel
theorem dX9_rings_48 : decode cX9_rings 48 = .ok (.iload_n 2, 1) := by decide +kernel
theorem dX9_rings_49 : decode cX9_rings 49 = .ok (.invokevirtual 203, 3) := by decide +kernel
theorem dX9_rings_52 : decode cX9_rings 52 = .ok (.pop, 1) := by decide +kernel
theorem dX9_rings_53 : decode cX9_rings 53 = .ok (.aload_n 0, 1) := by decide +kernel
theorem dX9_rings_54 : decode cX9_rings 54 = .ok (.getfield 93, 3) := by decide +kernel
theorem dX9_rings_57 : decode cX9_rings 57 = .ok (.iconst 0, 1) := by decide +kernel
theorem dX9_rings_58 : decode cX9_rings 58 = .ok (.iload_n 2, 1) := by decide +kernel
theorem dX9_rings_59 : decode cX9_rings 59 = .ok (.iastore, 1) := by decide +kernel
theorem dX9_rings_60 : decode cX9_rings 60 = .ok (.iconst 1, 1) := by decide +kernel
theorem dX9_rings_61 : decode cX9_rings 61 = .ok (.istore_n 3, 1) := by decide +kernel
theorem dX9_rings_62 : decode cX9_rings 62 = .ok (.iload_n 3, 1) := by decide +kernel
theorem dX9_rings_63 : decode cX9_rings 63 = .ok (.iload_n 1, 1) := by decide +kernel
theorem dX9_rings_64 : decode cX9_rings 64 = .ok (.if_icmp .ge 58, 3) := by decide +kernel
theorem dX9_rings_67 : decode cX9_rings 67 = .ok (.iconst 0, 1) := by decide +kernel
theorem dX9_rings_68 : decode cX9_rings 68 = .ok (.istore 4, 2) := by decide +kernel
theorem dX9_rings_70 : decode cX9_rings 70 = .ok (.aload_n 0, 1) := by decide +kernel
theorem dX9_rings_71 : decode cX9_rings 71 = .ok (.getfield 46, 3) := by decide +kernel
theorem dX9_rings_74 : decode cX9_rings 74 = .ok (.aload_n 0, 1) := by decide +kernel
theorem dX9_rings_75 : decode cX9_rings 75 = .ok (.getfield 93, 3) := by decide +kernel
theorem dX9_rings_78 : decode cX9_rings 78 = .ok (.iload_n 3, 1) := by decide +kernel
theorem dX9_rings_79 : decode cX9_rings 79 = .ok (.iconst 1, 1) := by decide +kernel
theorem dX9_rings_80 : decode cX9_rings 80 = .ok (.isub, 1) := by decide +kernel
theorem dX9_rings_81 : decode cX9_rings 81 = .ok (.iaload, 1) := by decide +kernel
theorem dX9_rings_82 : decode cX9_rings 82 = .ok (.laload, 1) := by decide +kernel
theorem dX9_rings_83 : decode cX9_rings 83 = .ok (.aload_n 0, 1) := by decide +kernel
theorem dX9_rings_84 : decode cX9_rings 84 = .ok (.getfield 90, 3) := by decide +kernel
theorem dX9_rings_87 : decode cX9_rings 87 = .ok (.iload_n 1, 1) := by decide +kernel
theorem dX9_rings_88 : decode cX9_rings 88 = .ok (.iload_n 3, 1) := by decide +kernel
theorem dX9_rings_89 : decode cX9_rings 89 = .ok (.isub, 1) := by decide +kernel
theorem dX9_rings_90 : decode cX9_rings 90 = .ok (.laload, 1) := by decide +kernel
theorem dX9_rings_91 : decode cX9_rings 91 = .ok (.land, 1) := by decide +kernel
theorem dX9_rings_92 : decode cX9_rings 92 = .ok (.lconst 1, 1) := by decide +kernel
theorem dX9_rings_93 : decode cX9_rings 93 = .ok (.iload 4, 2) := by decide +kernel
theorem dX9_rings_95 : decode cX9_rings 95 = .ok (.lshl, 1) := by decide +kernel
theorem dX9_rings_96 : decode cX9_rings 96 = .ok (.land, 1) := by decide +kernel
theorem dX9_rings_97 : decode cX9_rings 97 = .ok (.lconst 0, 1) := by decide +kernel
theorem dX9_rings_98 : decode cX9_rings 98 = .ok (.lcmp, 1) := by decide +kernel
theorem dX9_rings_99 : decode cX9_rings 99 = .ok (.ifCond .ne 9, 3) := by decide +kernel
theorem dX9_rings_102 : decode cX9_rings 102 = .ok (.iinc 4 1, 3) := by decide +kernel
theorem dX9_rings_105 : decode cX9_rings 105 = .ok (.goto (-35), 3) := by decide +kernel
theorem dX9_rings_108 : decode cX9_rings 108 = .ok (.aload_n 0, 1) := by decide +kernel
theorem dX9_rings_109 : decode cX9_rings 109 = .ok (.getfield 93, 3) := by decide +kernel
theorem dX9_rings_112 : decode cX9_rings 112 = .ok (.iload_n 3, 1) := by decide +kernel
theorem dX9_rings_113 : decode cX9_rings 113 = .ok (.iload 4, 2) := by decide +kernel
theorem dX9_rings_115 : decode cX9_rings 115 = .ok (.iastore, 1) := by decide +kernel
theorem dX9_rings_116 : decode cX9_rings 116 = .ok (.iinc 3 1, 3) := by decide +kernel
theorem dX9_rings_119 : decode cX9_rings 119 = .ok (.goto (-57), 3) := by decide +kernel
theorem dX9_rings_122 : decode cX9_rings 122 = .ok (.iload_n 1, 1) := by decide +kernel
theorem dX9_rings_123 : decode cX9_rings 123 = .ok (.ireturn, 1) := by decide +kernel
theorem dX9_ring_0 : decode cX9_ring 0 = .ok (.aload_n 0, 1) := by decide +kernel
theorem dX9_ring_1 : decode cX9_ring 1 = .ok (.iconst 0, 1) := by decide +kernel
theorem dX9_ring_2 : decode cX9_ring 2 = .ok (.putfield 105, 3) := by decide +kernel
theorem dX9_ring_5 : decode cX9_ring 5 = .ok (.aload_n 0, 1) := by decide +kernel
theorem dX9_ring_6 : decode cX9_ring 6 = .ok (.invokevirtual 206, 3) := by decide +kernel
theorem dX9_ring_9 : decode cX9_ring 9 = .ok (.istore_n 2, 1) := by decide +kernel
theorem dX9_ring_10 : decode cX9_ring 10 = .ok (.aload_n 0, 1) := by decide +kernel
theorem dX9_ring_11 : decode cX9_ring 11 = .ok (.iload_n 1, 1) := by decide +kernel
theorem dX9_ring_12 : decode cX9_ring 12 = .ok (.iconst (-1), 1) := by decide +kernel
theorem dX9_ring_13 : decode cX9_ring 13 = .ok (.if_icmp .lt 12, 3) := by decide +kernel
theorem dX9_ring_16 : decode cX9_ring 16 = .ok (.iload_n 1, 1) := by decide +kernel
theorem dX9_ring_17 : decode cX9_ring 17 = .ok (.iload_n 2, 1) := by decide +kernel
theorem dX9_ring_18 : decode cX9_ring 18 = .ok (.if_icmp .ge 7, 3) := by decide +kernel
theorem dX9_ring_21 : decode cX9_ring 21 = .ok (.iconst 1, 1) := by decide +kernel
theorem dX9_ring_22 : decode cX9_ring 22 = .ok (.goto 4, 3) := by decide +kernel
theorem dX9_ring_25 : decode cX9_ring 25 = .ok (.iconst 0, 1) := by decide +kernel
theorem dX9_ring_26 : decode cX9_ring 26 = .ok (.iconst 1, 1) := by decide +kernel
theorem dX9_ring_27 : decode cX9_ring 27 = .ok (.invokevirtual 123, 3) := by decide +kernel
theorem dX9_ring_30 : decode cX9_ring 30 = .ok (.ifCond .ne 5, 3) := by decide +kernel
theorem dX9_ring_33 : decode cX9_ring 33 = .ok (.iconst 0, 1) := by decide +kernel
theorem dX9_ring_34 : decode cX9_ring 34 = .ok (.ireturn, 1) := by decide +kernel
theorem dX9_ring_35 : decode cX9_ring 35 = .ok (.iload_n 1, 1) := by decide +kernel
theorem dX9_ring_36 : decode cX9_ring 36 = .ok (.iconst (-1), 1) := by decide +kernel
theorem dX9_ring_37 : decode cX9_ring 37 = .ok (.if_icmp .ne 7, 3) := by decide +kernel
theorem dX9_ring_40 : decode cX9_ring 40 = .ok (.iload_n 2, 1) := by decide +kernel
theorem dX9_ring_41 : decode cX9_ring 41 = .ok (.goto 9, 3) := by decide +kernel
theorem dX9_ring_44 : decode cX9_ring 44 = .ok (.aload_n 0, 1) := by decide +kernel
theorem dX9_ring_45 : decode cX9_ring 45 = .ok (.getfield 93, 3) := by decide +kernel
theorem dX9_ring_48 : decode cX9_ring 48 = .ok (.iload_n 1, 1) := by decide +kernel
theorem dX9_ring_49 : decode cX9_ring 49 = .ok (.iaload, 1) := by decide +kernel
theorem dX9_ring_50 : decode cX9_ring 50 = .ok (.ireturn, 1) := by decide +kernel
theorem dX9_explains_0 : decode cX9_explains 0 = .ok (.lload_n 1, 1) := by decide +kernel
theorem dX9_explains_1 : decode cX9_explains 1 = .ok (.lstore 5, 2) := by decide +kernel
theorem dX9_explains_3 : decode cX9_explains 3 = .ok (.iconst 1, 1) := by decide +kernel
theorem dX9_explains_4 : decode cX9_explains 4 = .ok (.istore 7, 2) := by decide +kernel
theorem dX9_explains_6 : decode cX9_explains 6 = .ok (.iload 7, 2) := by decide +kernel
theorem dX9_explains_8 : decode cX9_explains 8 = .ok (.ifCond .eq 94, 3) := by decide +kernel
theorem dX9_explains_11 : decode cX9_explains 11 = .ok (.iconst 0, 1) := by decide +kernel
theorem dX9_explains_12 : decode cX9_explains 12 = .ok (.istore 7, 2) := by decide +kernel
theorem dX9_explains_14 : decode cX9_explains 14 = .ok (.iconst 0, 1) := by decide +kernel
theorem dX9_explains_15 : decode cX9_explains 15 = .ok (.istore 8, 2) := by decide +kernel
theorem dX9_explains_17 : decode cX9_explains 17 = .ok (.iload 8, 2) := by decide +kernel
theorem dX9_explains_19 : decode cX9_explains 19 = .ok (.bipush 40, 2) := by decide +kernel
theorem dX9_explains_21 : decode cX9_explains 21 = .ok (.if_icmp .ge 78, 3) := by decide +kernel
theorem dX9_explains_24 : decode cX9_explains 24 = .ok (.lload_n 3, 1) := by decide +kernel
theorem dX9_explains_25 : decode cX9_explains 25 = .ok (.iload 8, 2) := by decide +kernel
theorem dX9_explains_27 : decode cX9_explains 27 = .ok (.lshr, 1) := by decide +kernel
theorem dX9_explains_28 : decode cX9_explains 28 = .ok (.lconst 1, 1) := by decide +kernel
theorem dX9_explains_29 : decode cX9_explains 29 = .ok (.land, 1) := by decide +kernel
theorem dX9_explains_30 : decode cX9_explains 30 = .ok (.lconst 0, 1) := by decide +kernel
theorem dX9_explains_31 : decode cX9_explains 31 = .ok (.lcmp, 1) := by decide +kernel
theorem dX9_explains_32 : decode cX9_explains 32 = .ok (.ifCond .eq 61, 3) := by decide +kernel
theorem dX9_explains_35 : decode cX9_explains 35 = .ok (.lload 5, 2) := by decide +kernel
theorem dX9_explains_37 : decode cX9_explains 37 = .ok (.iload 8, 2) := by decide +kernel
theorem dX9_explains_39 : decode cX9_explains 39 = .ok (.lshr, 1) := by decide +kernel
theorem dX9_explains_40 : decode cX9_explains 40 = .ok (.lconst 1, 1) := by decide +kernel
theorem dX9_explains_41 : decode cX9_explains 41 = .ok (.land, 1) := by decide +kernel
theorem dX9_explains_42 : decode cX9_explains 42 = .ok (.lconst 1, 1) := by decide +kernel
theorem dX9_explains_43 : decode cX9_explains 43 = .ok (.lcmp, 1) := by decide +kernel
theorem dX9_explains_44 : decode cX9_explains 44 = .ok (.ifCond .eq 49, 3) := by decide +kernel
theorem dX9_explains_47 : decode cX9_explains 47 = .ok (.aload_n 0, 1) := by decide +kernel
theorem dX9_explains_48 : decode cX9_explains 48 = .ok (.getfield 46, 3) := by decide +kernel
theorem dX9_explains_51 : decode cX9_explains 51 = .ok (.iload 8, 2) := by decide +kernel
theorem dX9_explains_53 : decode cX9_explains 53 = .ok (.laload, 1) := by decide +kernel
theorem dX9_explains_54 : decode cX9_explains 54 = .ok (.lconst 0, 1) := by decide +kernel
theorem dX9_explains_55 : decode cX9_explains 55 = .ok (.lcmp, 1) := by decide +kernel
theorem dX9_explains_56 : decode cX9_explains 56 = .ok (.ifCond .eq 37, 3) := by decide +kernel
theorem dX9_explains_59 : decode cX9_explains 59 = .ok (.aload_n 0, 1) := by decide +kernel
theorem dX9_explains_60 : decode cX9_explains 60 = .ok (.getfield 46, 3) := by decide +kernel
theorem dX9_explains_63 : decode cX9_explains 63 = .ok (.iload 8, 2) := by decide +kernel
theorem dX9_explains_65 : decode cX9_explains 65 = .ok (.laload, 1) := by decide +kernel
theorem dX9_explains_66 : decode cX9_explains 66 = .ok (.lload 5, 2) := by decide +kernel
theorem dX9_explains_68 : decode cX9_explains 68 = .ok (.ldc2_w 210, 3) := by decide +kernel
theorem dX9_explains_71 : decode cX9_explains 71 = .ok (.lxor, 1) := by decide +kernel
theorem dX9_explains_72 : decode cX9_explains 72 = .ok (.land, 1) := by decide +kernel
theorem dX9_explains_73 : decode cX9_explains 73 = .ok (.lconst 0, 1) := by decide +kernel
theorem dX9_explains_74 : decode cX9_explains 74 = .ok (.lcmp, 1) := by decide +kernel
theorem dX9_explains_75 : decode cX9_explains 75 = .ok (.ifCond .eq 6, 3) := by decide +kernel
theorem dX9_explains_78 : decode cX9_explains 78 = .ok (.goto 15, 3) := by decide +kernel
theorem dX9_explains_81 : decode cX9_explains 81 = .ok (.lload 5, 2) := by decide +kernel
theorem dX9_explains_83 : decode cX9_explains 83 = .ok (.lconst 1, 1) := by decide +kernel
theorem dX9_explains_84 : decode cX9_explains 84 = .ok (.iload 8, 2) := by decide +kernel
theorem dX9_explains_86 : decode cX9_explains 86 = .ok (.lshl, 1) := by decide +kernel
theorem dX9_explains_87 : decode cX9_explains 87 = .ok (.lor, 1) := by decide +kernel
theorem dX9_explains_88 : decode cX9_explains 88 = .ok (.lstore 5, 2) := by decide +kernel
theorem dX9_explains_90 : decode cX9_explains 90 = .ok (.iconst 1, 1) := by decide +kernel
theorem dX9_explains_91 : decode cX9_explains 91 = .ok (.istore 7, 2) := by decide +kernel
theorem dX9_explains_93 : decode cX9_explains 93 = .ok (.iinc 8 1, 3) := by decide +kernel
theorem dX9_explains_96 : decode cX9_explains 96 = .ok (.goto (-79), 3) := by decide +kernel
theorem dX9_explains_99 : decode cX9_explains 99 = .ok (.goto (-93), 3) := by decide +kernel
theorem dX9_explains_102 : decode cX9_explains 102 = .ok (.lload 5, 2) := by decide +kernel
theorem dX9_explains_104 : decode cX9_explains 104 = .ok (.lload_n 3, 1) := by decide +kernel
theorem dX9_explains_105 : decode cX9_explains 105 = .ok (.lcmp, 1) := by decide +kernel
theorem dX9_explains_106 : decode cX9_explains 106 = .ok (.ifCond .ne 7, 3) := by decide +kernel
theorem dX9_explains_109 : decode cX9_explains 109 = .ok (.iconst 1, 1) := by decide +kernel
theorem dX9_explains_110 : decode cX9_explains 110 = .ok (.goto 4, 3) := by decide +kernel
theorem dX9_explains_113 : decode cX9_explains 113 = .ok (.iconst 0, 1) := by decide +kernel
theorem dX9_explains_114 : decode cX9_explains 114 = .ok (.ireturn, 1) := by decide +kernel
theorem dX9_fewest_0 : decode cX9_fewest 0 = .ok (.aload_n 0, 1) := by decide +kernel
theorem dX9_fewest_1 : decode cX9_fewest 1 = .ok (.iconst 0, 1) := by decide +kernel
theorem dX9_fewest_2 : decode cX9_fewest 2 = .ok (.putfield 105, 3) := by decide +kernel
theorem dX9_fewest_5 : decode cX9_fewest 5 = .ok (.lconst 0, 1) := by decide +kernel
theorem dX9_fewest_6 : decode cX9_fewest 6 = .ok (.lstore_n 1, 1) := by decide +kernel
theorem dX9_fewest_7 : decode cX9_fewest 7 = .ok (.iconst 0, 1) := by decide +kernel
theorem dX9_fewest_8 : decode cX9_fewest 8 = .ok (.istore_n 3, 1) := by decide +kernel
theorem dX9_fewest_9 : decode cX9_fewest 9 = .ok (.iload_n 3, 1) := by decide +kernel
theorem dX9_fewest_10 : decode cX9_fewest 10 = .ok (.bipush 40, 2) := by decide +kernel
theorem dX9_fewest_12 : decode cX9_fewest 12 = .ok (.if_icmp .ge 33, 3) := by decide +kernel
theorem dX9_fewest_15 : decode cX9_fewest 15 = .ok (.aload_n 0, 1) := by decide +kernel
theorem dX9_fewest_16 : decode cX9_fewest 16 = .ok (.getfield 46, 3) := by decide +kernel
theorem dX9_fewest_19 : decode cX9_fewest 19 = .ok (.iload_n 3, 1) := by decide +kernel
theorem dX9_fewest_20 : decode cX9_fewest 20 = .ok (.laload, 1) := by decide +kernel
theorem dX9_fewest_21 : decode cX9_fewest 21 = .ok (.lconst 0, 1) := by decide +kernel
theorem dX9_fewest_22 : decode cX9_fewest 22 = .ok (.lcmp, 1) := by decide +kernel
theorem dX9_fewest_23 : decode cX9_fewest 23 = .ok (.ifCond .eq 16, 3) := by decide +kernel
theorem dX9_fewest_26 : decode cX9_fewest 26 = .ok (.lload_n 1, 1) := by decide +kernel
theorem dX9_fewest_27 : decode cX9_fewest 27 = .ok (.aload_n 0, 1) := by decide +kernel
theorem dX9_fewest_28 : decode cX9_fewest 28 = .ok (.getfield 46, 3) := by decide +kernel
theorem dX9_fewest_31 : decode cX9_fewest 31 = .ok (.iload_n 3, 1) := by decide +kernel
theorem dX9_fewest_32 : decode cX9_fewest 32 = .ok (.laload, 1) := by decide +kernel
theorem dX9_fewest_33 : decode cX9_fewest 33 = .ok (.lconst 1, 1) := by decide +kernel
theorem dX9_fewest_34 : decode cX9_fewest 34 = .ok (.iload_n 3, 1) := by decide +kernel
theorem dX9_fewest_35 : decode cX9_fewest 35 = .ok (.lshl, 1) := by decide +kernel
theorem dX9_fewest_36 : decode cX9_fewest 36 = .ok (.lor, 1) := by decide +kernel
theorem dX9_fewest_37 : decode cX9_fewest 37 = .ok (.lor, 1) := by decide +kernel
theorem dX9_fewest_38 : decode cX9_fewest 38 = .ok (.lstore_n 1, 1) := by decide +kernel
theorem dX9_fewest_39 : decode cX9_fewest 39 = .ok (.iinc 3 1, 3) := by decide +kernel
theorem dX9_fewest_42 : decode cX9_fewest 42 = .ok (.goto (-33), 3) := by decide +kernel
theorem dX9_fewest_45 : decode cX9_fewest 45 = .ok (.iconst 0, 1) := by decide +kernel
theorem dX9_fewest_46 : decode cX9_fewest 46 = .ok (.istore_n 3, 1) := by decide +kernel
theorem dX9_fewest_47 : decode cX9_fewest 47 = .ok (.iconst 0, 1) := by decide +kernel
theorem dX9_fewest_48 : decode cX9_fewest 48 = .ok (.istore 4, 2) := by decide +kernel
theorem dX9_fewest_50 : decode cX9_fewest 50 = .ok (.iload 4, 2) := by decide +kernel
theorem dX9_fewest_52 : decode cX9_fewest 52 = .ok (.bipush 40, 2) := by decide +kernel
theorem dX9_fewest_54 : decode cX9_fewest 54 = .ok (.if_icmp .ge 44, 3) := by decide +kernel
theorem dX9_fewest_57 : decode cX9_fewest 57 = .ok (.lload_n 1, 1) := by decide +kernel
theorem dX9_fewest_58 : decode cX9_fewest 58 = .ok (.iload 4, 2) := by decide +kernel
theorem dX9_fewest_60 : decode cX9_fewest 60 = .ok (.lshr, 1) := by decide +kernel
theorem dX9_fewest_61 : decode cX9_fewest 61 = .ok (.lconst 1, 1) := by decide +kernel
theorem dX9_fewest_62 : decode cX9_fewest 62 = .ok (.land, 1) := by decide +kernel
theorem dX9_fewest_63 : decode cX9_fewest 63 = .ok (.lconst 0, 1) := by decide +kernel
theorem dX9_fewest_64 : decode cX9_fewest 64 = .ok (.lcmp, 1) := by decide +kernel
theorem dX9_fewest_65 : decode cX9_fewest 65 = .ok (.ifCond .ne 6, 3) := by decide +kernel
theorem dX9_fewest_68 : decode cX9_fewest 68 = .ok (.goto 24, 3) := by decide +kernel
theorem dX9_fewest_71 : decode cX9_fewest 71 = .ok (.iload_n 3, 1) := by decide +kernel
theorem dX9_fewest_72 : decode cX9_fewest 72 = .ok (.bipush 14, 2) := by decide +kernel
theorem dX9_fewest_74 : decode cX9_fewest 74 = .ok (.if_icmp .ne 7, 3) := by decide +kernel
theorem dX9_fewest_77 : decode cX9_fewest 77 = .ok (.ldc2_w 210, 3) := by decide +kernel
theorem dX9_fewest_80 : decode cX9_fewest 80 = .ok (.lreturn, 1) := by decide +kernel
theorem dX9_fewest_81 : decode cX9_fewest 81 = .ok (.aload_n 0, 1) := by decide +kernel
theorem dX9_fewest_82 : decode cX9_fewest 82 = .ok (.getfield 96, 3) := by decide +kernel
theorem dX9_fewest_85 : decode cX9_fewest 85 = .ok (.iload_n 3, 1) := by decide +kernel
theorem dX9_fewest_86 : decode cX9_fewest 86 = .ok (.iload 4, 2) := by decide +kernel
theorem dX9_fewest_88 : decode cX9_fewest 88 = .ok (.iastore, 1) := by decide +kernel
theorem dX9_fewest_89 : decode cX9_fewest 89 = .ok (.iinc 3 1, 3) := by decide +kernel
theorem dX9_fewest_92 : decode cX9_fewest 92 = .ok (.iinc 4 1, 3) := by decide +kernel
theorem dX9_fewest_95 : decode cX9_fewest 95 = .ok (.goto (-45), 3) := by decide +kernel
theorem dX9_fewest_98 : decode cX9_fewest 98 = .ok (.lload_n 1, 1) := by decide +kernel
theorem dX9_fewest_99 : decode cX9_fewest 99 = .ok (.lstore 4, 2) := by decide +kernel
theorem dX9_fewest_101 : decode cX9_fewest 101 = .ok (.iload_n 3, 1) := by decide +kernel
theorem dX9_fewest_102 : decode cX9_fewest 102 = .ok (.istore 6, 2) := by decide +kernel
theorem dX9_fewest_104 : decode cX9_fewest 104 = .ok (.iconst 0, 1) := by decide +kernel
theorem dX9_fewest_105 : decode cX9_fewest 105 = .ok (.istore 7, 2) := by decide +kernel
theorem dX9_fewest_107 : decode cX9_fewest 107 = .ok (.iload 7, 2) := by decide +kernel
theorem dX9_fewest_109 : decode cX9_fewest 109 = .ok (.iconst 1, 1) := by decide +kernel
theorem dX9_fewest_110 : decode cX9_fewest 110 = .ok (.iload_n 3, 1) := by decide +kernel
theorem dX9_fewest_111 : decode cX9_fewest 111 = .ok (.ishl, 1) := by decide +kernel
theorem dX9_fewest_112 : decode cX9_fewest 112 = .ok (.if_icmp .ge 88, 3) := by decide +kernel
theorem dX9_fewest_115 : decode cX9_fewest 115 = .ok (.lconst 0, 1) := by decide +kernel
theorem dX9_fewest_116 : decode cX9_fewest 116 = .ok (.lstore 8, 2) := by decide +kernel
theorem dX9_fewest_118 : decode cX9_fewest 118 = .ok (.iconst 0, 1) := by decide +kernel
theorem dX9_fewest_119 : decode cX9_fewest 119 = .ok (.istore 10, 2) := by decide +kernel
theorem dX9_fewest_121 : decode cX9_fewest 121 = .ok (.iconst 0, 1) := by decide +kernel
theorem dX9_fewest_122 : decode cX9_fewest 122 = .ok (.istore 11, 2) := by decide +kernel
theorem dX9_fewest_124 : decode cX9_fewest 124 = .ok (.iload 11, 2) := by decide +kernel
theorem dX9_fewest_126 : decode cX9_fewest 126 = .ok (.iload_n 3, 1) := by decide +kernel
theorem dX9_fewest_127 : decode cX9_fewest 127 = .ok (.if_icmp .ge 39, 3) := by decide +kernel
theorem dX9_fewest_130 : decode cX9_fewest 130 = .ok (.iload 7, 2) := by decide +kernel
theorem dX9_fewest_132 : decode cX9_fewest 132 = .ok (.iload 11, 2) := by decide +kernel
theorem dX9_fewest_134 : decode cX9_fewest 134 = .ok (.ishr, 1) := by decide +kernel
theorem dX9_fewest_135 : decode cX9_fewest 135 = .ok (.iconst 1, 1) := by decide +kernel
theorem dX9_fewest_136 : decode cX9_fewest 136 = .ok (.iand, 1) := by decide +kernel
theorem dX9_fewest_137 : decode cX9_fewest 137 = .ok (.ifCond .ne 6, 3) := by decide +kernel
theorem dX9_fewest_140 : decode cX9_fewest 140 = .ok (.goto 20, 3) := by decide +kernel
theorem dX9_fewest_143 : decode cX9_fewest 143 = .ok (.lload 8, 2) := by decide +kernel
theorem dX9_fewest_145 : decode cX9_fewest 145 = .ok (.lconst 1, 1) := by decide +kernel
theorem dX9_fewest_146 : decode cX9_fewest 146 = .ok (.aload_n 0, 1) := by decide +kernel
theorem dX9_fewest_147 : decode cX9_fewest 147 = .ok (.getfield 96, 3) := by decide +kernel
theorem dX9_fewest_150 : decode cX9_fewest 150 = .ok (.iload 11, 2) := by decide +kernel
theorem dX9_fewest_152 : decode cX9_fewest 152 = .ok (.iaload, 1) := by decide +kernel
theorem dX9_fewest_153 : decode cX9_fewest 153 = .ok (.lshl, 1) := by decide +kernel
theorem dX9_fewest_154 : decode cX9_fewest 154 = .ok (.lor, 1) := by decide +kernel
theorem dX9_fewest_155 : decode cX9_fewest 155 = .ok (.lstore 8, 2) := by decide +kernel
theorem dX9_fewest_157 : decode cX9_fewest 157 = .ok (.iinc 10 1, 3) := by decide +kernel
theorem dX9_fewest_160 : decode cX9_fewest 160 = .ok (.iinc 11 1, 3) := by decide +kernel
theorem dX9_fewest_163 : decode cX9_fewest 163 = .ok (.goto (-39), 3) := by decide +kernel
theorem dX9_fewest_166 : decode cX9_fewest 166 = .ok (.iload 10, 2) := by decide +kernel
theorem dX9_fewest_168 : decode cX9_fewest 168 = .ok (.iload 6, 2) := by decide +kernel
theorem dX9_fewest_170 : decode cX9_fewest 170 = .ok (.if_icmp .ge 24, 3) := by decide +kernel
theorem dX9_fewest_173 : decode cX9_fewest 173 = .ok (.aload_n 0, 1) := by decide +kernel
theorem dX9_fewest_174 : decode cX9_fewest 174 = .ok (.lload 8, 2) := by decide +kernel
theorem dX9_fewest_176 : decode cX9_fewest 176 = .ok (.lload_n 1, 1) := by decide +kernel
theorem dX9_fewest_177 : decode cX9_fewest 177 = .ok (.invokevirtual 212, 3) := by decide +kernel
theorem dX9_fewest_180 : decode cX9_fewest 180 = .ok (.ifCond .ne 6, 3) := by decide +kernel
theorem dX9_fewest_183 : decode cX9_fewest 183 = .ok (.goto 11, 3) := by decide +kernel
theorem dX9_fewest_186 : decode cX9_fewest 186 = .ok (.lload 8, 2) := by decide +kernel
theorem dX9_fewest_188 : decode cX9_fewest 188 = .ok (.lstore 4, 2) := by decide +kernel
theorem dX9_fewest_190 : decode cX9_fewest 190 = .ok (.iload 10, 2) := by decide +kernel
theorem dX9_fewest_192 : decode cX9_fewest 192 = .ok (.istore 6, 2) := by decide +kernel
theorem dX9_fewest_194 : decode cX9_fewest 194 = .ok (.iinc 7 1, 3) := by decide +kernel
theorem dX9_fewest_197 : decode cX9_fewest 197 = .ok (.goto (-90), 3) := by decide +kernel
theorem dX9_fewest_200 : decode cX9_fewest 200 = .ok (.lload 4, 2) := by decide +kernel
theorem dX9_fewest_202 : decode cX9_fewest 202 = .ok (.lreturn, 1) := by decide +kernel
theorem dX9_marks_0 : decode cX9_marks 0 = .ok (.iconst 0, 1) := by decide +kernel
theorem dX9_marks_1 : decode cX9_marks 1 = .ok (.istore_n 3, 1) := by decide +kernel
theorem dX9_marks_2 : decode cX9_marks 2 = .ok (.iload_n 3, 1) := by decide +kernel
theorem dX9_marks_3 : decode cX9_marks 3 = .ok (.bipush 40, 2) := by decide +kernel
theorem dX9_marks_5 : decode cX9_marks 5 = .ok (.if_icmp .ge 13, 3) := by decide +kernel
theorem dX9_marks_8 : decode cX9_marks 8 = .ok (.aload_n 2, 1) := by decide +kernel
theorem dX9_marks_9 : decode cX9_marks 9 = .ok (.iload_n 3, 1) := by decide +kernel
theorem dX9_marks_10 : decode cX9_marks 10 = .ok (.lconst 0, 1) := by decide +kernel
theorem dX9_marks_11 : decode cX9_marks 11 = .ok (.lastore, 1) := by decide +kernel
theorem dX9_marks_12 : decode cX9_marks 12 = .ok (.iinc 3 1, 3) := by decide +kernel
theorem dX9_marks_15 : decode cX9_marks 15 = .ok (.goto (-13), 3) := by decide +kernel
theorem dX9_marks_18 : decode cX9_marks 18 = .ok (.aload_n 0, 1) := by decide +kernel
theorem dX9_marks_19 : decode cX9_marks 19 = .ok (.iload_n 1, 1) := by decide +kernel
theorem dX9_marks_20 : decode cX9_marks 20 = .ok (.invokevirtual 189, 3) := by decide +kernel
theorem dX9_marks_23 : decode cX9_marks 23 = .ok (.iconst 0, 1) := by decide +kernel
theorem dX9_marks_24 : decode cX9_marks 24 = .ok (.istore_n 3, 1) := by decide +kernel
theorem dX9_marks_25 : decode cX9_marks 25 = .ok (.iload_n 3, 1) := by decide +kernel
theorem dX9_marks_26 : decode cX9_marks 26 = .ok (.aload_n 0, 1) := by decide +kernel
theorem dX9_marks_27 : decode cX9_marks 27 = .ok (.getfield 168, 3) := by decide +kernel
theorem dX9_marks_30 : decode cX9_marks 30 = .ok (.if_icmp .ge 43, 3) := by decide +kernel
theorem dX9_marks_33 : decode cX9_marks 33 = .ok (.aload_n 0, 1) := by decide +kernel
theorem dX9_marks_34 : decode cX9_marks 34 = .ok (.getfield 75, 3) := by decide +kernel
theorem dX9_marks_37 : decode cX9_marks 37 = .ok (.iload_n 3, 1) := by decide +kernel
theorem dX9_marks_38 : decode cX9_marks 38 = .ok (.iaload, 1) := by decide +kernel
theorem dX9_marks_39 : decode cX9_marks 39 = .ok (.iconst (-1), 1) := by decide +kernel
theorem dX9_marks_40 : decode cX9_marks 40 = .ok (.if_icmp .eq 27, 3) := by decide +kernel
theorem dX9_marks_43 : decode cX9_marks 43 = .ok (.aload_n 2, 1) := by decide +kernel
theorem dX9_marks_44 : decode cX9_marks 44 = .ok (.aload_n 0, 1) := by decide +kernel
theorem dX9_marks_45 : decode cX9_marks 45 = .ok (.getfield 28, 3) := by decide +kernel
theorem dX9_marks_48 : decode cX9_marks 48 = .ok (.aload_n 0, 1) := by decide +kernel
theorem dX9_marks_49 : decode cX9_marks 49 = .ok (.getfield 75, 3) := by decide +kernel
theorem dX9_marks_52 : decode cX9_marks 52 = .ok (.iload_n 3, 1) := by decide +kernel
theorem dX9_marks_53 : decode cX9_marks 53 = .ok (.iaload, 1) := by decide +kernel
theorem dX9_marks_54 : decode cX9_marks 54 = .ok (.iaload, 1) := by decide +kernel
theorem dX9_marks_55 : decode cX9_marks 55 = .ok (.dup2, 1) := by decide +kernel
theorem dX9_marks_56 : decode cX9_marks 56 = .ok (.laload, 1) := by decide +kernel
theorem dX9_marks_57 : decode cX9_marks 57 = .ok (.lconst 1, 1) := by decide +kernel
theorem dX9_marks_58 : decode cX9_marks 58 = .ok (.aload_n 0, 1) := by decide +kernel
theorem dX9_marks_59 : decode cX9_marks 59 = .ok (.getfield 75, 3) := by decide +kernel
theorem dX9_marks_62 : decode cX9_marks 62 = .ok (.iload_n 3, 1) := by decide +kernel
theorem dX9_marks_63 : decode cX9_marks 63 = .ok (.iaload, 1) := by decide +kernel
theorem dX9_marks_64 : decode cX9_marks 64 = .ok (.lshl, 1) := by decide +kernel
theorem dX9_marks_65 : decode cX9_marks 65 = .ok (.lor, 1) := by decide +kernel
theorem dX9_marks_66 : decode cX9_marks 66 = .ok (.lastore, 1) := by decide +kernel
theorem dX9_marks_67 : decode cX9_marks 67 = .ok (.iinc 3 1, 3) := by decide +kernel
theorem dX9_marks_70 : decode cX9_marks 70 = .ok (.goto (-45), 3) := by decide +kernel
theorem dX9_marks_73 : decode cX9_marks 73 = .ok (.return_, 1) := by decide +kernel
theorem dX9_crossing_0 : decode cX9_crossing 0 = .ok (.aload_n 0, 1) := by decide +kernel
theorem dX9_crossing_1 : decode cX9_crossing 1 = .ok (.iload_n 1, 1) := by decide +kernel
theorem dX9_crossing_2 : decode cX9_crossing 2 = .ok (.invokevirtual 133, 3) := by decide +kernel
theorem dX9_crossing_5 : decode cX9_crossing 5 = .ok (.ifCond .eq 11, 3) := by decide +kernel
theorem dX9_crossing_8 : decode cX9_crossing 8 = .ok (.aload_n 0, 1) := by decide +kernel
theorem dX9_crossing_9 : decode cX9_crossing 9 = .ok (.iload_n 2, 1) := by decide +kernel
theorem dX9_crossing_10 : decode cX9_crossing 10 = .ok (.invokevirtual 133, 3) := by decide +kernel
theorem dX9_crossing_13 : decode cX9_crossing 13 = .ok (.ifCond .ne 5, 3) := by decide +kernel
theorem dX9_crossing_16 : decode cX9_crossing 16 = .ok (.lconst 0, 1) := by decide +kernel
theorem dX9_crossing_17 : decode cX9_crossing 17 = .ok (.lreturn, 1) := by decide +kernel
theorem dX9_crossing_18 : decode cX9_crossing 18 = .ok (.aload_n 0, 1) := by decide +kernel
theorem dX9_crossing_19 : decode cX9_crossing 19 = .ok (.iload_n 1, 1) := by decide +kernel
theorem dX9_crossing_20 : decode cX9_crossing 20 = .ok (.aload_n 0, 1) := by decide +kernel
theorem dX9_crossing_21 : decode cX9_crossing 21 = .ok (.getfield 99, 3) := by decide +kernel
theorem dX9_crossing_24 : decode cX9_crossing 24 = .ok (.invokevirtual 216, 3) := by decide +kernel
theorem dX9_crossing_27 : decode cX9_crossing 27 = .ok (.aload_n 0, 1) := by decide +kernel
theorem dX9_crossing_28 : decode cX9_crossing 28 = .ok (.iload_n 2, 1) := by decide +kernel
theorem dX9_crossing_29 : decode cX9_crossing 29 = .ok (.aload_n 0, 1) := by decide +kernel
theorem dX9_crossing_30 : decode cX9_crossing 30 = .ok (.getfield 102, 3) := by decide +kernel
theorem dX9_crossing_33 : decode cX9_crossing 33 = .ok (.invokevirtual 216, 3) := by decide +kernel
theorem dX9_crossing_36 : decode cX9_crossing 36 = .ok (.lconst 0, 1) := by decide +kernel
theorem dX9_crossing_37 : decode cX9_crossing 37 = .ok (.lstore_n 3, 1) := by decide +kernel
theorem dX9_crossing_38 : decode cX9_crossing 38 = .ok (.iconst 0, 1) := by decide +kernel
theorem dX9_crossing_39 : decode cX9_crossing 39 = .ok (.istore 5, 2) := by decide +kernel
theorem dX9_crossing_41 : decode cX9_crossing 41 = .ok (.iload 5, 2) := by decide +kernel
theorem dX9_crossing_43 : decode cX9_crossing 43 = .ok (.bipush 40, 2) := by decide +kernel
theorem dX9_crossing_45 : decode cX9_crossing 45 = .ok (.if_icmp .ge 60, 3) := by decide +kernel
theorem dX9_crossing_48 : decode cX9_crossing 48 = .ok (.aload_n 0, 1) := by decide +kernel
theorem dX9_crossing_49 : decode cX9_crossing 49 = .ok (.getfield 99, 3) := by decide +kernel
theorem dX9_crossing_52 : decode cX9_crossing 52 = .ok (.iload 5, 2) := by decide +kernel
theorem dX9_crossing_54 : decode cX9_crossing 54 = .ok (.laload, 1) := by decide +kernel
theorem dX9_crossing_55 : decode cX9_crossing 55 = .ok (.lconst 0, 1) := by decide +kernel
theorem dX9_crossing_56 : decode cX9_crossing 56 = .ok (.lcmp, 1) := by decide +kernel
theorem dX9_crossing_57 : decode cX9_crossing 57 = .ok (.ifCond .eq 42, 3) := by decide +kernel
theorem dX9_crossing_60 : decode cX9_crossing 60 = .ok (.aload_n 0, 1) := by decide +kernel
theorem dX9_crossing_61 : decode cX9_crossing 61 = .ok (.getfield 102, 3) := by decide +kernel
theorem dX9_crossing_64 : decode cX9_crossing 64 = .ok (.iload 5, 2) := by decide +kernel
theorem dX9_crossing_66 : decode cX9_crossing 66 = .ok (.laload, 1) := by decide +kernel
theorem dX9_crossing_67 : decode cX9_crossing 67 = .ok (.lconst 0, 1) := by decide +kernel
theorem dX9_crossing_68 : decode cX9_crossing 68 = .ok (.lcmp, 1) := by decide +kernel
theorem dX9_crossing_69 : decode cX9_crossing 69 = .ok (.ifCond .eq 30, 3) := by decide +kernel
theorem dX9_crossing_72 : decode cX9_crossing 72 = .ok (.aload_n 0, 1) := by decide +kernel
theorem dX9_crossing_73 : decode cX9_crossing 73 = .ok (.getfield 99, 3) := by decide +kernel
theorem dX9_crossing_76 : decode cX9_crossing 76 = .ok (.iload 5, 2) := by decide +kernel
theorem dX9_crossing_78 : decode cX9_crossing 78 = .ok (.laload, 1) := by decide +kernel
theorem dX9_crossing_79 : decode cX9_crossing 79 = .ok (.aload_n 0, 1) := by decide +kernel
theorem dX9_crossing_80 : decode cX9_crossing 80 = .ok (.getfield 102, 3) := by decide +kernel
theorem dX9_crossing_83 : decode cX9_crossing 83 = .ok (.iload 5, 2) := by decide +kernel
theorem dX9_crossing_85 : decode cX9_crossing 85 = .ok (.laload, 1) := by decide +kernel
theorem dX9_crossing_86 : decode cX9_crossing 86 = .ok (.land, 1) := by decide +kernel
theorem dX9_crossing_87 : decode cX9_crossing 87 = .ok (.lconst 0, 1) := by decide +kernel
theorem dX9_crossing_88 : decode cX9_crossing 88 = .ok (.lcmp, 1) := by decide +kernel
theorem dX9_crossing_89 : decode cX9_crossing 89 = .ok (.ifCond .ne 10, 3) := by decide +kernel
theorem dX9_crossing_92 : decode cX9_crossing 92 = .ok (.lload_n 3, 1) := by decide +kernel
theorem dX9_crossing_93 : decode cX9_crossing 93 = .ok (.lconst 1, 1) := by decide +kernel
theorem dX9_crossing_94 : decode cX9_crossing 94 = .ok (.iload 5, 2) := by decide +kernel
theorem dX9_crossing_96 : decode cX9_crossing 96 = .ok (.lshl, 1) := by decide +kernel
theorem dX9_crossing_97 : decode cX9_crossing 97 = .ok (.lor, 1) := by decide +kernel
theorem dX9_crossing_98 : decode cX9_crossing 98 = .ok (.lstore_n 3, 1) := by decide +kernel
theorem dX9_crossing_99 : decode cX9_crossing 99 = .ok (.iinc 5 1, 3) := by decide +kernel
theorem dX9_crossing_102 : decode cX9_crossing 102 = .ok (.goto (-61), 3) := by decide +kernel
theorem dX9_crossing_105 : decode cX9_crossing 105 = .ok (.lload_n 3, 1) := by decide +kernel
theorem dX9_crossing_106 : decode cX9_crossing 106 = .ok (.lreturn, 1) := by decide +kernel
theorem dX9_total_0 : decode cX9_total 0 = .ok (.aload_n 0, 1) := by decide +kernel
theorem dX9_total_1 : decode cX9_total 1 = .ok (.iconst 0, 1) := by decide +kernel
theorem dX9_total_2 : decode cX9_total 2 = .ok (.putfield 105, 3) := by decide +kernel
theorem dX9_total_5 : decode cX9_total 5 = .ok (.aload_n 0, 1) := by decide +kernel
theorem dX9_total_6 : decode cX9_total 6 = .ok (.iload_n 1, 1) := by decide +kernel
theorem dX9_total_7 : decode cX9_total 7 = .ok (.ifCond .lt 12, 3) := by decide +kernel
theorem dX9_total_10 : decode cX9_total 10 = .ok (.iload_n 1, 1) := by decide +kernel
theorem dX9_total_11 : decode cX9_total 11 = .ok (.iconst 4, 1) := by decide +kernel
theorem dX9_total_12 : decode cX9_total 12 = .ok (.if_icmp .gt 7, 3) := by decide +kernel
theorem dX9_total_15 : decode cX9_total 15 = .ok (.iconst 1, 1) := by decide +kernel
theorem dX9_total_16 : decode cX9_total 16 = .ok (.goto 4, 3) := by decide +kernel
theorem dX9_total_19 : decode cX9_total 19 = .ok (.iconst 0, 1) := by decide +kernel
theorem dX9_total_20 : decode cX9_total 20 = .ok (.iconst 1, 1) := by decide +kernel
theorem dX9_total_21 : decode cX9_total 21 = .ok (.invokevirtual 123, 3) := by decide +kernel
theorem dX9_total_24 : decode cX9_total 24 = .ok (.ifCond .ne 5, 3) := by decide +kernel
theorem dX9_total_27 : decode cX9_total 27 = .ok (.iconst 0, 1) := by decide +kernel
theorem dX9_total_28 : decode cX9_total 28 = .ok (.ireturn, 1) := by decide +kernel
theorem dX9_total_29 : decode cX9_total 29 = .ok (.iload_n 1, 1) := by decide +kernel
theorem dX9_total_30 : decode cX9_total 30 = .ok (.tableswitch 113 0 3 #[30, 35, 40, 45], 30) := by decide +kernel
theorem dX9_total_60 : decode cX9_total 60 = .ok (.aload_n 0, 1) := by decide +kernel
theorem dX9_total_61 : decode cX9_total 61 = .ok (.getfield 116, 3) := by decide +kernel
theorem dX9_total_64 : decode cX9_total 64 = .ok (.ireturn, 1) := by decide +kernel
theorem dX9_total_65 : decode cX9_total 65 = .ok (.aload_n 0, 1) := by decide +kernel
theorem dX9_total_66 : decode cX9_total 66 = .ok (.getfield 127, 3) := by decide +kernel
theorem dX9_total_69 : decode cX9_total 69 = .ok (.ireturn, 1) := by decide +kernel
theorem dX9_total_70 : decode cX9_total 70 = .ok (.aload_n 0, 1) := by decide +kernel
theorem dX9_total_71 : decode cX9_total 71 = .ok (.getfield 109, 3) := by decide +kernel
theorem dX9_total_74 : decode cX9_total 74 = .ok (.ireturn, 1) := by decide +kernel
theorem dX9_total_75 : decode cX9_total 75 = .ok (.lconst 0, 1) := by decide +kernel
theorem dX9_total_76 : decode cX9_total 76 = .ok (.lstore_n 2, 1) := by decide +kernel
theorem dX9_total_77 : decode cX9_total 77 = .ok (.iconst 0, 1) := by decide +kernel
theorem dX9_total_78 : decode cX9_total 78 = .ok (.istore 4, 2) := by decide +kernel
theorem dX9_total_80 : decode cX9_total 80 = .ok (.iload 4, 2) := by decide +kernel
theorem dX9_total_82 : decode cX9_total 82 = .ok (.aload_n 0, 1) := by decide +kernel
theorem dX9_total_83 : decode cX9_total 83 = .ok (.getfield 127, 3) := by decide +kernel
theorem dX9_total_86 : decode cX9_total 86 = .ok (.if_icmp .ge 21, 3) := by decide +kernel
theorem dX9_total_89 : decode cX9_total 89 = .ok (.lload_n 2, 1) := by decide +kernel
theorem dX9_total_90 : decode cX9_total 90 = .ok (.lconst 1, 1) := by decide +kernel
theorem dX9_total_91 : decode cX9_total 91 = .ok (.aload_n 0, 1) := by decide +kernel
theorem dX9_total_92 : decode cX9_total 92 = .ok (.getfield 28, 3) := by decide +kernel
theorem dX9_total_95 : decode cX9_total 95 = .ok (.iload 4, 2) := by decide +kernel
theorem dX9_total_97 : decode cX9_total 97 = .ok (.iaload, 1) := by decide +kernel
theorem dX9_total_98 : decode cX9_total 98 = .ok (.lshl, 1) := by decide +kernel
theorem dX9_total_99 : decode cX9_total 99 = .ok (.lor, 1) := by decide +kernel
theorem dX9_total_100 : decode cX9_total 100 = .ok (.lstore_n 2, 1) := by decide +kernel
theorem dX9_total_101 : decode cX9_total 101 = .ok (.iinc 4 1, 3) := by decide +kernel
theorem dX9_total_104 : decode cX9_total 104 = .ok (.goto (-24), 3) := by decide +kernel
theorem dX9_total_107 : decode cX9_total 107 = .ok (.iconst 0, 1) := by decide +kernel
theorem dX9_total_108 : decode cX9_total 108 = .ok (.istore 4, 2) := by decide +kernel
theorem dX9_total_110 : decode cX9_total 110 = .ok (.iconst 0, 1) := by decide +kernel
theorem dX9_total_111 : decode cX9_total 111 = .ok (.istore 5, 2) := by decide +kernel
theorem dX9_total_113 : decode cX9_total 113 = .ok (.iload 5, 2) := by decide +kernel
theorem dX9_total_115 : decode cX9_total 115 = .ok (.bipush 40, 2) := by decide +kernel
theorem dX9_total_117 : decode cX9_total 117 = .ok (.if_icmp .ge 23, 3) := by decide +kernel
theorem dX9_total_120 : decode cX9_total 120 = .ok (.lload_n 2, 1) := by decide +kernel
theorem dX9_total_121 : decode cX9_total 121 = .ok (.iload 5, 2) := by decide +kernel
theorem dX9_total_123 : decode cX9_total 123 = .ok (.lshr, 1) := by decide +kernel
theorem dX9_total_124 : decode cX9_total 124 = .ok (.lconst 1, 1) := by decide +kernel
theorem dX9_total_125 : decode cX9_total 125 = .ok (.land, 1) := by decide +kernel
theorem dX9_total_126 : decode cX9_total 126 = .ok (.lconst 1, 1) := by decide +kernel
theorem dX9_total_127 : decode cX9_total 127 = .ok (.lcmp, 1) := by decide +kernel
theorem dX9_total_128 : decode cX9_total 128 = .ok (.ifCond .ne 6, 3) := by decide +kernel
theorem dX9_total_131 : decode cX9_total 131 = .ok (.iinc 4 1, 3) := by decide +kernel
theorem dX9_total_134 : decode cX9_total 134 = .ok (.iinc 5 1, 3) := by decide +kernel
theorem dX9_total_137 : decode cX9_total 137 = .ok (.goto (-24), 3) := by decide +kernel
theorem dX9_total_140 : decode cX9_total 140 = .ok (.iload 4, 2) := by decide +kernel
theorem dX9_total_142 : decode cX9_total 142 = .ok (.ireturn, 1) := by decide +kernel
theorem dX9_total_143 : decode cX9_total 143 = .ok (.aload_n 0, 1) := by decide +kernel
theorem dX9_total_144 : decode cX9_total 144 = .ok (.getfield 195, 3) := by decide +kernel
theorem dX9_total_147 : decode cX9_total 147 = .ok (.ireturn, 1) := by decide +kernel
