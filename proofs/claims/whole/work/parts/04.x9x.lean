theorem dX9_init_0 : decode cX9_init 0 = .ok (.aload_n 0, 1) := by decide +kernel
theorem dX9_init_1 : decode cX9_init 1 = .ok (.invokespecial 1, 3) := by decide +kernel
theorem dX9_init_4 : decode cX9_init 4 = .ok (.aload_n 0, 1) := by decide +kernel
theorem dX9_init_5 : decode cX9_init 5 = .ok (.bipush 40, 2) := by decide +kernel
theorem dX9_init_7 : decode cX9_init 7 = .ok (.newarray .int, 2) := by decide +kernel
theorem dX9_init_9 : decode cX9_init 9 = .ok (.putfield 7, 3) := by decide +kernel
theorem dX9_init_12 : decode cX9_init 12 = .ok (.aload_n 0, 1) := by decide +kernel
theorem dX9_init_13 : decode cX9_init 13 = .ok (.bipush 24, 2) := by decide +kernel
theorem dX9_init_15 : decode cX9_init 15 = .ok (.newarray .int, 2) := by decide +kernel
theorem dX9_init_17 : decode cX9_init 17 = .ok (.putfield 13, 3) := by decide +kernel
theorem dX9_init_20 : decode cX9_init 20 = .ok (.aload_n 0, 1) := by decide +kernel
theorem dX9_init_21 : decode cX9_init 21 = .ok (.bipush 6, 2) := by decide +kernel
theorem dX9_init_23 : decode cX9_init 23 = .ok (.newarray .int, 2) := by decide +kernel
theorem dX9_init_25 : decode cX9_init 25 = .ok (.putfield 16, 3) := by decide +kernel
theorem dX9_init_28 : decode cX9_init 28 = .ok (.aload_n 0, 1) := by decide +kernel
theorem dX9_init_29 : decode cX9_init 29 = .ok (.sipush 2160, 3) := by decide +kernel
theorem dX9_init_32 : decode cX9_init 32 = .ok (.newarray .int, 2) := by decide +kernel
theorem dX9_init_34 : decode cX9_init 34 = .ok (.putfield 19, 3) := by decide +kernel
theorem dX9_init_37 : decode cX9_init 37 = .ok (.aload_n 0, 1) := by decide +kernel
theorem dX9_init_38 : decode cX9_init 38 = .ok (.sipush 180, 3) := by decide +kernel
theorem dX9_init_41 : decode cX9_init 41 = .ok (.newarray .int, 2) := by decide +kernel
theorem dX9_init_43 : decode cX9_init 43 = .ok (.putfield 22, 3) := by decide +kernel
theorem dX9_init_46 : decode cX9_init 46 = .ok (.aload_n 0, 1) := by decide +kernel
theorem dX9_init_47 : decode cX9_init 47 = .ok (.bipush 60, 2) := by decide +kernel
theorem dX9_init_49 : decode cX9_init 49 = .ok (.newarray .int, 2) := by decide +kernel
theorem dX9_init_51 : decode cX9_init 51 = .ok (.putfield 25, 3) := by decide +kernel
theorem dX9_init_54 : decode cX9_init 54 = .ok (.aload_n 0, 1) := by decide +kernel
theorem dX9_init_55 : decode cX9_init 55 = .ok (.bipush 60, 2) := by decide +kernel
theorem dX9_init_57 : decode cX9_init 57 = .ok (.newarray .int, 2) := by decide +kernel
theorem dX9_init_59 : decode cX9_init 59 = .ok (.putfield 28, 3) := by decide +kernel
theorem dX9_init_62 : decode cX9_init 62 = .ok (.aload_n 0, 1) := by decide +kernel
theorem dX9_init_63 : decode cX9_init 63 = .ok (.bipush 60, 2) := by decide +kernel
theorem dX9_init_65 : decode cX9_init 65 = .ok (.newarray .int, 2) := by decide +kernel
theorem dX9_init_67 : decode cX9_init 67 = .ok (.putfield 31, 3) := by decide +kernel
theorem dX9_init_70 : decode cX9_init 70 = .ok (.aload_n 0, 1) := by decide +kernel
theorem dX9_init_71 : decode cX9_init 71 = .ok (.bipush 60, 2) := by decide +kernel
theorem dX9_init_73 : decode cX9_init 73 = .ok (.newarray .int, 2) := by decide +kernel
theorem dX9_init_75 : decode cX9_init 75 = .ok (.putfield 34, 3) := by decide +kernel
theorem dX9_init_78 : decode cX9_init 78 = .ok (.aload_n 0, 1) := by decide +kernel
theorem dX9_init_79 : decode cX9_init 79 = .ok (.sipush 3840, 3) := by decide +kernel
theorem dX9_init_82 : decode cX9_init 82 = .ok (.newarray .int, 2) := by decide +kernel
theorem dX9_init_84 : decode cX9_init 84 = .ok (.putfield 37, 3) := by decide +kernel
theorem dX9_init_87 : decode cX9_init 87 = .ok (.aload_n 0, 1) := by decide +kernel
theorem dX9_init_88 : decode cX9_init 88 = .ok (.sipush 320, 3) := by decide +kernel
theorem dX9_init_91 : decode cX9_init 91 = .ok (.newarray .int, 2) := by decide +kernel
theorem dX9_init_93 : decode cX9_init 93 = .ok (.putfield 40, 3) := by decide +kernel
theorem dX9_init_96 : decode cX9_init 96 = .ok (.aload_n 0, 1) := by decide +kernel
theorem dX9_init_97 : decode cX9_init 97 = .ok (.bipush 40, 2) := by decide +kernel
theorem dX9_init_99 : decode cX9_init 99 = .ok (.newarray .int, 2) := by decide +kernel
theorem dX9_init_101 : decode cX9_init 101 = .ok (.putfield 43, 3) := by decide +kernel
theorem dX9_init_104 : decode cX9_init 104 = .ok (.aload_n 0, 1) := by decide +kernel
theorem dX9_init_105 : decode cX9_init 105 = .ok (.bipush 40, 2) := by decide +kernel
theorem dX9_init_107 : decode cX9_init 107 = .ok (.newarray .long, 2) := by decide +kernel
theorem dX9_init_109 : decode cX9_init 109 = .ok (.putfield 46, 3) := by decide +kernel
theorem dX9_init_112 : decode cX9_init 112 = .ok (.aload_n 0, 1) := by decide +kernel
theorem dX9_init_113 : decode cX9_init 113 = .ok (.bipush 40, 2) := by decide +kernel
theorem dX9_init_115 : decode cX9_init 115 = .ok (.newarray .boolean, 2) := by decide +kernel
theorem dX9_init_117 : decode cX9_init 117 = .ok (.putfield 50, 3) := by decide +kernel
theorem dX9_init_120 : decode cX9_init 120 = .ok (.aload_n 0, 1) := by decide +kernel
theorem dX9_init_121 : decode cX9_init 121 = .ok (.sipush 4800, 3) := by decide +kernel
theorem dX9_init_124 : decode cX9_init 124 = .ok (.newarray .int, 2) := by decide +kernel
theorem dX9_init_126 : decode cX9_init 126 = .ok (.putfield 54, 3) := by decide +kernel
theorem dX9_init_129 : decode cX9_init 129 = .ok (.aload_n 0, 1) := by decide +kernel
theorem dX9_init_130 : decode cX9_init 130 = .ok (.bipush 8, 2) := by decide +kernel
theorem dX9_init_132 : decode cX9_init 132 = .ok (.newarray .int, 2) := by decide +kernel
theorem dX9_init_134 : decode cX9_init 134 = .ok (.putfield 57, 3) := by decide +kernel
theorem dX9_init_137 : decode cX9_init 137 = .ok (.aload_n 0, 1) := by decide +kernel
theorem dX9_init_138 : decode cX9_init 138 = .ok (.sipush 301, 3) := by decide +kernel
theorem dX9_init_141 : decode cX9_init 141 = .ok (.newarray .int, 2) := by decide +kernel
theorem dX9_init_143 : decode cX9_init 143 = .ok (.putfield 60, 3) := by decide +kernel
theorem dX9_init_146 : decode cX9_init 146 = .ok (.aload_n 0, 1) := by decide +kernel
theorem dX9_init_147 : decode cX9_init 147 = .ok (.sipush 301, 3) := by decide +kernel
theorem dX9_init_150 : decode cX9_init 150 = .ok (.newarray .int, 2) := by decide +kernel
theorem dX9_init_152 : decode cX9_init 152 = .ok (.putfield 63, 3) := by decide +kernel
theorem dX9_init_155 : decode cX9_init 155 = .ok (.aload_n 0, 1) := by decide +kernel
theorem dX9_init_156 : decode cX9_init 156 = .ok (.sipush 301, 3) := by decide +kernel
theorem dX9_init_159 : decode cX9_init 159 = .ok (.newarray .int, 2) := by decide +kernel
theorem dX9_init_161 : decode cX9_init 161 = .ok (.putfield 66, 3) := by decide +kernel
theorem dX9_init_164 : decode cX9_init 164 = .ok (.aload_n 0, 1) := by decide +kernel
theorem dX9_init_165 : decode cX9_init 165 = .ok (.sipush 301, 3) := by decide +kernel
theorem dX9_init_168 : decode cX9_init 168 = .ok (.newarray .int, 2) := by decide +kernel
theorem dX9_init_170 : decode cX9_init 170 = .ok (.putfield 69, 3) := by decide +kernel
theorem dX9_init_173 : decode cX9_init 173 = .ok (.aload_n 0, 1) := by decide +kernel
theorem dX9_init_174 : decode cX9_init 174 = .ok (.sipush 301, 3) := by decide +kernel
theorem dX9_init_177 : decode cX9_init 177 = .ok (.newarray .int, 2) := by decide +kernel
theorem dX9_init_179 : decode cX9_init 179 = .ok (.putfield 72, 3) := by decide +kernel
theorem dX9_init_182 : decode cX9_init 182 = .ok (.aload_n 0, 1) := by decide +kernel
theorem dX9_init_183 : decode cX9_init 183 = .ok (.sipush 301, 3) := by decide +kernel
theorem dX9_init_186 : decode cX9_init 186 = .ok (.newarray .int, 2) := by decide +kernel
theorem dX9_init_188 : decode cX9_init 188 = .ok (.putfield 75, 3) := by decide +kernel
theorem dX9_init_191 : decode cX9_init 191 = .ok (.aload_n 0, 1) := by decide +kernel
theorem dX9_init_192 : decode cX9_init 192 = .ok (.sipush 301, 3) := by decide +kernel
theorem dX9_init_195 : decode cX9_init 195 = .ok (.newarray .int, 2) := by decide +kernel
theorem dX9_init_197 : decode cX9_init 197 = .ok (.putfield 78, 3) := by decide +kernel
theorem dX9_init_200 : decode cX9_init 200 = .ok (.aload_n 0, 1) := by decide +kernel
theorem dX9_init_201 : decode cX9_init 201 = .ok (.sipush 301, 3) := by decide +kernel
theorem dX9_init_204 : decode cX9_init 204 = .ok (.newarray .int, 2) := by decide +kernel
theorem dX9_init_206 : decode cX9_init 206 = .ok (.putfield 81, 3) := by decide +kernel
theorem dX9_init_209 : decode cX9_init 209 = .ok (.aload_n 0, 1) := by decide +kernel
theorem dX9_init_210 : decode cX9_init 210 = .ok (.bipush 64, 2) := by decide +kernel
theorem dX9_init_212 : decode cX9_init 212 = .ok (.newarray .int, 2) := by decide +kernel
theorem dX9_init_214 : decode cX9_init 214 = .ok (.putfield 84, 3) := by decide +kernel
theorem dX9_init_217 : decode cX9_init 217 = .ok (.aload_n 0, 1) := by decide +kernel
theorem dX9_init_218 : decode cX9_init 218 = .ok (.sipush 600, 3) := by decide +kernel
theorem dX9_init_221 : decode cX9_init 221 = .ok (.newarray .int, 2) := by decide +kernel
theorem dX9_init_223 : decode cX9_init 223 = .ok (.putfield 87, 3) := by decide +kernel
theorem dX9_init_226 : decode cX9_init 226 = .ok (.aload_n 0, 1) := by decide +kernel
theorem dX9_init_227 : decode cX9_init 227 = .ok (.bipush 41, 2) := by decide +kernel
theorem dX9_init_229 : decode cX9_init 229 = .ok (.newarray .long, 2) := by decide +kernel
theorem dX9_init_231 : decode cX9_init 231 = .ok (.putfield 90, 3) := by decide +kernel
theorem dX9_init_234 : decode cX9_init 234 = .ok (.aload_n 0, 1) := by decide +kernel
theorem dX9_init_235 : decode cX9_init 235 = .ok (.bipush 40, 2) := by decide +kernel
theorem dX9_init_237 : decode cX9_init 237 = .ok (.newarray .int, 2) := by decide +kernel
theorem dX9_init_239 : decode cX9_init 239 = .ok (.putfield 93, 3) := by decide +kernel
theorem dX9_init_242 : decode cX9_init 242 = .ok (.aload_n 0, 1) := by decide +kernel
theorem dX9_init_243 : decode cX9_init 243 = .ok (.bipush 14, 2) := by decide +kernel
theorem dX9_init_245 : decode cX9_init 245 = .ok (.newarray .int, 2) := by decide +kernel
theorem dX9_init_247 : decode cX9_init 247 = .ok (.putfield 96, 3) := by decide +kernel
theorem dX9_init_250 : decode cX9_init 250 = .ok (.aload_n 0, 1) := by decide +kernel
theorem dX9_init_251 : decode cX9_init 251 = .ok (.bipush 40, 2) := by decide +kernel
theorem dX9_init_253 : decode cX9_init 253 = .ok (.newarray .long, 2) := by decide +kernel
theorem dX9_init_255 : decode cX9_init 255 = .ok (.putfield 99, 3) := by decide +kernel
theorem dX9_init_258 : decode cX9_init 258 = .ok (.aload_n 0, 1) := by decide +kernel
theorem dX9_init_259 : decode cX9_init 259 = .ok (.bipush 40, 2) := by decide +kernel
theorem dX9_init_261 : decode cX9_init 261 = .ok (.newarray .long, 2) := by decide +kernel
theorem dX9_init_263 : decode cX9_init 263 = .ok (.putfield 102, 3) := by decide +kernel
theorem dX9_init_266 : decode cX9_init 266 = .ok (.return_, 1) := by decide +kernel
theorem dX9_thrown_0 : decode cX9_thrown 0 = .ok (.aload_n 0, 1) := by decide +kernel
theorem dX9_thrown_1 : decode cX9_thrown 1 = .ok (.getfield 105, 3) := by decide +kernel
theorem dX9_thrown_4 : decode cX9_thrown 4 = .ok (.ireturn, 1) := by decide +kernel
theorem dX9_right_0 : decode cX9_right 0 = .ok (.aload_n 0, 1) := by decide +kernel
theorem dX9_right_1 : decode cX9_right 1 = .ok (.getfield 105, 3) := by decide +kernel
theorem dX9_right_4 : decode cX9_right 4 = .ok (.ifCond .ne 12, 3) := by decide +kernel
theorem dX9_right_7 : decode cX9_right 7 = .ok (.iload_n 1, 1) := by decide +kernel
theorem dX9_right_8 : decode cX9_right 8 = .ok (.ifCond .ne 8, 3) := by decide +kernel
theorem dX9_right_11 : decode cX9_right 11 = .ok (.aload_n 0, 1) := by decide +kernel
theorem dX9_right_12 : decode cX9_right 12 = .ok (.iload_n 2, 1) := by decide +kernel
theorem dX9_right_13 : decode cX9_right 13 = .ok (.putfield 105, 3) := by decide +kernel
theorem dX9_right_16 : decode cX9_right 16 = .ok (.aload_n 0, 1) := by decide +kernel
theorem dX9_right_17 : decode cX9_right 17 = .ok (.getfield 105, 3) := by decide +kernel
theorem dX9_right_20 : decode cX9_right 20 = .ok (.ifCond .ne 7, 3) := by decide +kernel
theorem dX9_right_23 : decode cX9_right 23 = .ok (.iconst 1, 1) := by decide +kernel
theorem dX9_right_24 : decode cX9_right 24 = .ok (.goto 4, 3) := by decide +kernel
theorem dX9_right_27 : decode cX9_right 27 = .ok (.iconst 0, 1) := by decide +kernel
theorem dX9_right_28 : decode cX9_right 28 = .ok (.ireturn, 1) := by decide +kernel
theorem dX9_letter_0 : decode cX9_letter 0 = .ok (.aload_n 0, 1) := by decide +kernel
theorem dX9_letter_1 : decode cX9_letter 1 = .ok (.iconst 0, 1) := by decide +kernel
theorem dX9_letter_2 : decode cX9_letter 2 = .ok (.putfield 105, 3) := by decide +kernel
theorem dX9_letter_5 : decode cX9_letter 5 = .ok (.aload_n 0, 1) := by decide +kernel
theorem dX9_letter_6 : decode cX9_letter 6 = .ok (.getfield 109, 3) := by decide +kernel
theorem dX9_letter_9 : decode cX9_letter 9 = .ok (.bipush 40, 2) := by decide +kernel
theorem dX9_letter_11 : decode cX9_letter 11 = .ok (.if_icmp .eq 13, 3) := by decide +kernel
theorem dX9_letter_14 : decode cX9_letter 14 = .ok (.iload_n 1, 1) := by decide +kernel
theorem dX9_letter_15 : decode cX9_letter 15 = .ok (.ifCond .lt 9, 3) := by decide +kernel
theorem dX9_letter_18 : decode cX9_letter 18 = .ok (.iload_n 1, 1) := by decide +kernel
theorem dX9_letter_19 : decode cX9_letter 19 = .ok (.bipush 26, 2) := by decide +kernel
theorem dX9_letter_21 : decode cX9_letter 21 = .ok (.if_icmp .le 5, 3) := by decide +kernel
theorem dX9_letter_24 : decode cX9_letter 24 = .ok (.iconst (-1), 1) := by decide +kernel
theorem dX9_letter_25 : decode cX9_letter 25 = .ok (.ireturn, 1) := by decide +kernel
theorem dX9_letter_26 : decode cX9_letter 26 = .ok (.aload_n 0, 1) := by decide +kernel
theorem dX9_letter_27 : decode cX9_letter 27 = .ok (.getfield 7, 3) := by decide +kernel
theorem dX9_letter_30 : decode cX9_letter 30 = .ok (.aload_n 0, 1) := by decide +kernel
theorem dX9_letter_31 : decode cX9_letter 31 = .ok (.getfield 109, 3) := by decide +kernel
theorem dX9_letter_34 : decode cX9_letter 34 = .ok (.iload_n 1, 1) := by decide +kernel
theorem dX9_letter_35 : decode cX9_letter 35 = .ok (.bipush 26, 2) := by decide +kernel
theorem dX9_letter_37 : decode cX9_letter 37 = .ok (.if_icmp .ne 7, 3) := by decide +kernel
theorem dX9_letter_40 : decode cX9_letter 40 = .ok (.iconst 0, 1) := by decide +kernel
theorem dX9_letter_41 : decode cX9_letter 41 = .ok (.goto 6, 3) := by decide +kernel
theorem dX9_letter_44 : decode cX9_letter 44 = .ok (.iload_n 1, 1) := by decide +kernel
theorem dX9_letter_45 : decode cX9_letter 45 = .ok (.iconst 1, 1) := by decide +kernel
theorem dX9_letter_46 : decode cX9_letter 46 = .ok (.iadd, 1) := by decide +kernel
theorem dX9_letter_47 : decode cX9_letter 47 = .ok (.iastore, 1) := by decide +kernel
theorem dX9_letter_48 : decode cX9_letter 48 = .ok (.aload_n 0, 1) := by decide +kernel
theorem dX9_letter_49 : decode cX9_letter 49 = .ok (.dup, 1) := by decide +kernel
theorem dX9_letter_50 : decode cX9_letter 50 = .ok (.getfield 109, 3) := by decide +kernel
theorem dX9_letter_53 : decode cX9_letter 53 = .ok (.iconst 1, 1) := by decide +kernel
theorem dX9_letter_54 : decode cX9_letter 54 = .ok (.iadd, 1) := by decide +kernel
theorem dX9_letter_55 : decode cX9_letter 55 = .ok (.putfield 109, 3) := by decide +kernel
theorem dX9_letter_58 : decode cX9_letter 58 = .ok (.aload_n 0, 1) := by decide +kernel
theorem dX9_letter_59 : decode cX9_letter 59 = .ok (.getfield 109, 3) := by decide +kernel
theorem dX9_letter_62 : decode cX9_letter 62 = .ok (.ireturn, 1) := by decide +kernel
theorem dX9_waitingWords_0 : decode cX9_waitingWords 0 = .ok (.iconst 1, 1) := by decide +kernel
theorem dX9_waitingWords_1 : decode cX9_waitingWords 1 = .ok (.istore_n 2, 1) := by decide +kernel
theorem dX9_waitingWords_2 : decode cX9_waitingWords 2 = .ok (.iconst 0, 1) := by decide +kernel
theorem dX9_waitingWords_3 : decode cX9_waitingWords 3 = .ok (.istore_n 3, 1) := by decide +kernel
theorem dX9_waitingWords_4 : decode cX9_waitingWords 4 = .ok (.iconst 0, 1) := by decide +kernel
theorem dX9_waitingWords_5 : decode cX9_waitingWords 5 = .ok (.istore 4, 2) := by decide +kernel
theorem dX9_waitingWords_7 : decode cX9_waitingWords 7 = .ok (.iload 4, 2) := by decide +kernel
theorem dX9_waitingWords_9 : decode cX9_waitingWords 9 = .ok (.aload_n 0, 1) := by decide +kernel
theorem dX9_waitingWords_10 : decode cX9_waitingWords 10 = .ok (.getfield 109, 3) := by decide +kernel
theorem dX9_waitingWords_13 : decode cX9_waitingWords 13 = .ok (.if_icmp .ge 40, 3) := by decide +kernel
theorem dX9_waitingWords_16 : decode cX9_waitingWords 16 = .ok (.aload_n 0, 1) := by decide +kernel
theorem dX9_waitingWords_17 : decode cX9_waitingWords 17 = .ok (.getfield 7, 3) := by decide +kernel
theorem dX9_waitingWords_20 : decode cX9_waitingWords 20 = .ok (.iload 4, 2) := by decide +kernel
theorem dX9_waitingWords_22 : decode cX9_waitingWords 22 = .ok (.iaload, 1) := by decide +kernel
theorem dX9_waitingWords_23 : decode cX9_waitingWords 23 = .ok (.ifCond .le 13, 3) := by decide +kernel
theorem dX9_waitingWords_26 : decode cX9_waitingWords 26 = .ok (.iinc 3 1, 3) := by decide +kernel
theorem dX9_waitingWords_29 : decode cX9_waitingWords 29 = .ok (.iload_n 3, 1) := by decide +kernel
theorem dX9_waitingWords_30 : decode cX9_waitingWords 30 = .ok (.iload_n 1, 1) := by decide +kernel
theorem dX9_waitingWords_31 : decode cX9_waitingWords 31 = .ok (.if_icmp .le 16, 3) := by decide +kernel
theorem dX9_waitingWords_34 : decode cX9_waitingWords 34 = .ok (.iconst 0, 1) := by decide +kernel
theorem dX9_waitingWords_35 : decode cX9_waitingWords 35 = .ok (.ireturn, 1) := by decide +kernel
theorem dX9_waitingWords_36 : decode cX9_waitingWords 36 = .ok (.iload_n 3, 1) := by decide +kernel
theorem dX9_waitingWords_37 : decode cX9_waitingWords 37 = .ok (.ifCond .ne 5, 3) := by decide +kernel
theorem dX9_waitingWords_40 : decode cX9_waitingWords 40 = .ok (.iconst 0, 1) := by decide +kernel
theorem dX9_waitingWords_41 : decode cX9_waitingWords 41 = .ok (.ireturn, 1) := by decide +kernel
theorem dX9_waitingWords_42 : decode cX9_waitingWords 42 = .ok (.iconst 0, 1) := by decide +kernel
theorem dX9_waitingWords_43 : decode cX9_waitingWords 43 = .ok (.istore_n 3, 1) := by decide +kernel
theorem dX9_waitingWords_44 : decode cX9_waitingWords 44 = .ok (.iinc 2 1, 3) := by decide +kernel
theorem dX9_waitingWords_47 : decode cX9_waitingWords 47 = .ok (.iinc 4 1, 3) := by decide +kernel
theorem dX9_waitingWords_50 : decode cX9_waitingWords 50 = .ok (.goto (-43), 3) := by decide +kernel
theorem dX9_waitingWords_53 : decode cX9_waitingWords 53 = .ok (.iload_n 3, 1) := by decide +kernel
theorem dX9_waitingWords_54 : decode cX9_waitingWords 54 = .ok (.ifCond .ne 7, 3) := by decide +kernel
theorem dX9_waitingWords_57 : decode cX9_waitingWords 57 = .ok (.iconst 0, 1) := by decide +kernel
theorem dX9_waitingWords_58 : decode cX9_waitingWords 58 = .ok (.goto 4, 3) := by decide +kernel
theorem dX9_waitingWords_61 : decode cX9_waitingWords 61 = .ok (.iload_n 2, 1) := by decide +kernel
theorem dX9_waitingWords_62 : decode cX9_waitingWords 62 = .ok (.ireturn, 1) := by decide +kernel
theorem dX9_ending_0 : decode cX9_ending 0 = .ok (.aload_n 0, 1) := by decide +kernel
theorem dX9_ending_1 : decode cX9_ending 1 = .ok (.iconst 0, 1) := by decide +kernel
theorem dX9_ending_2 : decode cX9_ending 2 = .ok (.putfield 105, 3) := by decide +kernel
theorem dX9_ending_5 : decode cX9_ending 5 = .ok (.aload_n 0, 1) := by decide +kernel
theorem dX9_ending_6 : decode cX9_ending 6 = .ok (.iconst 4, 1) := by decide +kernel
theorem dX9_ending_7 : decode cX9_ending 7 = .ok (.invokevirtual 112, 3) := by decide +kernel
theorem dX9_ending_10 : decode cX9_ending 10 = .ok (.iconst 1, 1) := by decide +kernel
theorem dX9_ending_11 : decode cX9_ending 11 = .ok (.if_icmp .ne 16, 3) := by decide +kernel
theorem dX9_ending_14 : decode cX9_ending 14 = .ok (.aload_n 0, 1) := by decide +kernel
theorem dX9_ending_15 : decode cX9_ending 15 = .ok (.getfield 116, 3) := by decide +kernel
theorem dX9_ending_18 : decode cX9_ending 18 = .ok (.bipush 6, 2) := by decide +kernel
theorem dX9_ending_20 : decode cX9_ending 20 = .ok (.if_icmp .ge 7, 3) := by decide +kernel
theorem dX9_ending_23 : decode cX9_ending 23 = .ok (.iconst 1, 1) := by decide +kernel
theorem dX9_ending_24 : decode cX9_ending 24 = .ok (.goto 4, 3) := by decide +kernel
theorem dX9_ending_27 : decode cX9_ending 27 = .ok (.iconst 0, 1) := by decide +kernel
theorem dX9_ending_28 : decode cX9_ending 28 = .ok (.istore_n 1, 1) := by decide +kernel
theorem dX9_ending_29 : decode cX9_ending 29 = .ok (.iload_n 1, 1) := by decide +kernel
theorem dX9_ending_30 : decode cX9_ending 30 = .ok (.ifCond .eq 61, 3) := by decide +kernel
theorem dX9_ending_33 : decode cX9_ending 33 = .ok (.iconst 0, 1) := by decide +kernel
theorem dX9_ending_34 : decode cX9_ending 34 = .ok (.istore_n 2, 1) := by decide +kernel
theorem dX9_ending_35 : decode cX9_ending 35 = .ok (.iload_n 2, 1) := by decide +kernel
theorem dX9_ending_36 : decode cX9_ending 36 = .ok (.aload_n 0, 1) := by decide +kernel
theorem dX9_ending_37 : decode cX9_ending 37 = .ok (.getfield 109, 3) := by decide +kernel
theorem dX9_ending_40 : decode cX9_ending 40 = .ok (.if_icmp .ge 28, 3) := by decide +kernel
theorem dX9_ending_43 : decode cX9_ending 43 = .ok (.aload_n 0, 1) := by decide +kernel
theorem dX9_ending_44 : decode cX9_ending 44 = .ok (.getfield 13, 3) := by decide +kernel
theorem dX9_ending_47 : decode cX9_ending 47 = .ok (.iconst 4, 1) := by decide +kernel
theorem dX9_ending_48 : decode cX9_ending 48 = .ok (.aload_n 0, 1) := by decide +kernel
theorem dX9_ending_49 : decode cX9_ending 49 = .ok (.getfield 116, 3) := by decide +kernel
theorem dX9_ending_52 : decode cX9_ending 52 = .ok (.imul, 1) := by decide +kernel
theorem dX9_ending_53 : decode cX9_ending 53 = .ok (.iload_n 2, 1) := by decide +kernel
theorem dX9_ending_54 : decode cX9_ending 54 = .ok (.iadd, 1) := by decide +kernel
theorem dX9_ending_55 : decode cX9_ending 55 = .ok (.aload_n 0, 1) := by decide +kernel
theorem dX9_ending_56 : decode cX9_ending 56 = .ok (.getfield 7, 3) := by decide +kernel
theorem dX9_ending_59 : decode cX9_ending 59 = .ok (.iload_n 2, 1) := by decide +kernel
theorem dX9_ending_60 : decode cX9_ending 60 = .ok (.iaload, 1) := by decide +kernel
theorem dX9_ending_61 : decode cX9_ending 61 = .ok (.iastore, 1) := by decide +kernel
theorem dX9_ending_62 : decode cX9_ending 62 = .ok (.iinc 2 1, 3) := by decide +kernel
theorem dX9_ending_65 : decode cX9_ending 65 = .ok (.goto (-30), 3) := by decide +kernel
theorem dX9_ending_68 : decode cX9_ending 68 = .ok (.aload_n 0, 1) := by decide +kernel
theorem dX9_ending_69 : decode cX9_ending 69 = .ok (.getfield 16, 3) := by decide +kernel
theorem dX9_ending_72 : decode cX9_ending 72 = .ok (.aload_n 0, 1) := by decide +kernel
theorem dX9_ending_73 : decode cX9_ending 73 = .ok (.getfield 116, 3) := by decide +kernel
theorem dX9_ending_76 : decode cX9_ending 76 = .ok (.aload_n 0, 1) := by decide +kernel
theorem dX9_ending_77 : decode cX9_ending 77 = .ok (.getfield 109, 3) := by decide +kernel
theorem dX9_ending_80 : decode cX9_ending 80 = .ok (.iastore, 1) := by decide +kernel
theorem dX9_ending_81 : decode cX9_ending 81 = .ok (.aload_n 0, 1) := by decide +kernel
theorem dX9_ending_82 : decode cX9_ending 82 = .ok (.dup, 1) := by decide +kernel
theorem dX9_ending_83 : decode cX9_ending 83 = .ok (.getfield 116, 3) := by decide +kernel
theorem dX9_ending_86 : decode cX9_ending 86 = .ok (.iconst 1, 1) := by decide +kernel
theorem dX9_ending_87 : decode cX9_ending 87 = .ok (.iadd, 1) := by decide +kernel
theorem dX9_ending_88 : decode cX9_ending 88 = .ok (.putfield 116, 3) := by decide +kernel
theorem dX9_ending_91 : decode cX9_ending 91 = .ok (.aload_n 0, 1) := by decide +kernel
theorem dX9_ending_92 : decode cX9_ending 92 = .ok (.iconst 0, 1) := by decide +kernel
theorem dX9_ending_93 : decode cX9_ending 93 = .ok (.putfield 109, 3) := by decide +kernel
theorem dX9_ending_96 : decode cX9_ending 96 = .ok (.iload_n 1, 1) := by decide +kernel
theorem dX9_ending_97 : decode cX9_ending 97 = .ok (.ifCond .eq 12, 3) := by decide +kernel
theorem dX9_ending_100 : decode cX9_ending 100 = .ok (.aload_n 0, 1) := by decide +kernel
theorem dX9_ending_101 : decode cX9_ending 101 = .ok (.getfield 116, 3) := by decide +kernel
theorem dX9_ending_104 : decode cX9_ending 104 = .ok (.iconst 1, 1) := by decide +kernel
theorem dX9_ending_105 : decode cX9_ending 105 = .ok (.isub, 1) := by decide +kernel
theorem dX9_ending_106 : decode cX9_ending 106 = .ok (.goto 4, 3) := by decide +kernel
theorem dX9_ending_109 : decode cX9_ending 109 = .ok (.iconst (-1), 1) := by decide +kernel
theorem dX9_ending_110 : decode cX9_ending 110 = .ok (.ireturn, 1) := by decide +kernel
theorem dX9_isThing_0 : decode cX9_isThing 0 = .ok (.iload_n 0, 1) := by decide +kernel
theorem dX9_isThing_1 : decode cX9_isThing 1 = .ok (.ifCond .lt 13, 3) := by decide +kernel
theorem dX9_isThing_4 : decode cX9_isThing 4 = .ok (.iload_n 0, 1) := by decide +kernel
theorem dX9_isThing_5 : decode cX9_isThing 5 = .ok (.bipush 40, 2) := by decide +kernel
theorem dX9_isThing_7 : decode cX9_isThing 7 = .ok (.if_icmp .ge 7, 3) := by decide +kernel
theorem dX9_isThing_10 : decode cX9_isThing 10 = .ok (.iconst 1, 1) := by decide +kernel
theorem dX9_isThing_11 : decode cX9_isThing 11 = .ok (.goto 4, 3) := by decide +kernel
theorem dX9_isThing_14 : decode cX9_isThing 14 = .ok (.iconst 0, 1) := by decide +kernel
theorem dX9_isThing_15 : decode cX9_isThing 15 = .ok (.ireturn, 1) := by decide +kernel
theorem dX9_term_0 : decode cX9_term 0 = .ok (.aload_n 0, 1) := by decide +kernel
theorem dX9_term_1 : decode cX9_term 1 = .ok (.iconst 0, 1) := by decide +kernel
theorem dX9_term_2 : decode cX9_term 2 = .ok (.putfield 105, 3) := by decide +kernel
theorem dX9_term_5 : decode cX9_term 5 = .ok (.aload_n 0, 1) := by decide +kernel
theorem dX9_term_6 : decode cX9_term 6 = .ok (.iload_n 1, 1) := by decide +kernel
theorem dX9_term_7 : decode cX9_term 7 = .ok (.invokestatic 119, 3) := by decide +kernel
theorem dX9_term_10 : decode cX9_term 10 = .ok (.ifCond .eq 26, 3) := by decide +kernel
theorem dX9_term_13 : decode cX9_term 13 = .ok (.iload_n 2, 1) := by decide +kernel
theorem dX9_term_14 : decode cX9_term 14 = .ok (.ifCond .lt 22, 3) := by decide +kernel
theorem dX9_term_17 : decode cX9_term 17 = .ok (.iload_n 2, 1) := by decide +kernel
theorem dX9_term_18 : decode cX9_term 18 = .ok (.iconst 3, 1) := by decide +kernel
theorem dX9_term_19 : decode cX9_term 19 = .ok (.if_icmp .gt 17, 3) := by decide +kernel
theorem dX9_term_22 : decode cX9_term 22 = .ok (.iload_n 3, 1) := by decide +kernel
theorem dX9_term_23 : decode cX9_term 23 = .ok (.ifCond .lt 13, 3) := by decide +kernel
theorem dX9_term_26 : decode cX9_term 26 = .ok (.iload_n 3, 1) := by decide +kernel
theorem dX9_term_27 : decode cX9_term 27 = .ok (.bipush 63, 2) := by decide +kernel
theorem dX9_term_29 : decode cX9_term 29 = .ok (.if_icmp .gt 7, 3) := by decide +kernel
theorem dX9_term_32 : decode cX9_term 32 = .ok (.iconst 1, 1) := by decide +kernel
theorem dX9_term_33 : decode cX9_term 33 = .ok (.goto 4, 3) := by decide +kernel
theorem dX9_term_36 : decode cX9_term 36 = .ok (.iconst 0, 1) := by decide +kernel
theorem dX9_term_37 : decode cX9_term 37 = .ok (.iconst 1, 1) := by decide +kernel
theorem dX9_term_38 : decode cX9_term 38 = .ok (.invokevirtual 123, 3) := by decide +kernel
theorem dX9_term_41 : decode cX9_term 41 = .ok (.ifCond .ne 5, 3) := by decide +kernel
theorem dX9_term_44 : decode cX9_term 44 = .ok (.iconst 0, 1) := by decide +kernel
theorem dX9_term_45 : decode cX9_term 45 = .ok (.ireturn, 1) := by decide +kernel
theorem dX9_term_46 : decode cX9_term 46 = .ok (.aload_n 0, 1) := by decide +kernel
theorem dX9_term_47 : decode cX9_term 47 = .ok (.bipush 12, 2) := by decide +kernel
theorem dX9_term_49 : decode cX9_term 49 = .ok (.invokevirtual 112, 3) := by decide +kernel
theorem dX9_term_52 : decode cX9_term 52 = .ok (.istore 4, 2) := by decide +kernel
theorem dX9_term_54 : decode cX9_term 54 = .ok (.iload 4, 2) := by decide +kernel
theorem dX9_term_56 : decode cX9_term 56 = .ok (.iconst 1, 1) := by decide +kernel
theorem dX9_term_57 : decode cX9_term 57 = .ok (.if_icmp .lt 22, 3) := by decide +kernel
theorem dX9_term_60 : decode cX9_term 60 = .ok (.iload 4, 2) := by decide +kernel
theorem dX9_term_62 : decode cX9_term 62 = .ok (.iconst 3, 1) := by decide +kernel
theorem dX9_term_63 : decode cX9_term 63 = .ok (.if_icmp .gt 16, 3) := by decide +kernel
theorem dX9_term_66 : decode cX9_term 66 = .ok (.aload_n 0, 1) := by decide +kernel
theorem dX9_term_67 : decode cX9_term 67 = .ok (.getfield 127, 3) := by decide +kernel
theorem dX9_term_70 : decode cX9_term 70 = .ok (.bipush 60, 2) := by decide +kernel
theorem dX9_term_72 : decode cX9_term 72 = .ok (.if_icmp .ge 7, 3) := by decide +kernel
theorem dX9_term_75 : decode cX9_term 75 = .ok (.iconst 1, 1) := by decide +kernel
theorem dX9_term_76 : decode cX9_term 76 = .ok (.goto 4, 3) := by decide +kernel
theorem dX9_term_79 : decode cX9_term 79 = .ok (.iconst 0, 1) := by decide +kernel
theorem dX9_term_80 : decode cX9_term 80 = .ok (.istore 5, 2) := by decide +kernel
theorem dX9_term_82 : decode cX9_term 82 = .ok (.iload 5, 2) := by decide +kernel
theorem dX9_term_84 : decode cX9_term 84 = .ok (.ifCond .eq 174, 3) := by decide +kernel
theorem dX9_term_87 : decode cX9_term 87 = .ok (.iconst 0, 1) := by decide +kernel
theorem dX9_term_88 : decode cX9_term 88 = .ok (.istore 6, 2) := by decide +kernel
theorem dX9_term_90 : decode cX9_term 90 = .ok (.iconst 0, 1) := by decide +kernel
theorem dX9_term_91 : decode cX9_term 91 = .ok (.istore 7, 2) := by decide +kernel
theorem dX9_term_93 : decode cX9_term 93 = .ok (.iconst 0, 1) := by decide +kernel
theorem dX9_term_94 : decode cX9_term 94 = .ok (.istore 8, 2) := by decide +kernel
theorem dX9_term_96 : decode cX9_term 96 = .ok (.iload 8, 2) := by decide +kernel
theorem dX9_term_98 : decode cX9_term 98 = .ok (.iconst 3, 1) := by decide +kernel
theorem dX9_term_99 : decode cX9_term 99 = .ok (.if_icmp .ge 24, 3) := by decide +kernel
theorem dX9_term_102 : decode cX9_term 102 = .ok (.aload_n 0, 1) := by decide +kernel
theorem dX9_term_103 : decode cX9_term 103 = .ok (.getfield 22, 3) := by decide +kernel
theorem dX9_term_106 : decode cX9_term 106 = .ok (.iconst 3, 1) := by decide +kernel
theorem dX9_term_107 : decode cX9_term 107 = .ok (.aload_n 0, 1) := by decide +kernel
theorem dX9_term_108 : decode cX9_term 108 = .ok (.getfield 127, 3) := by decide +kernel
theorem dX9_term_111 : decode cX9_term 111 = .ok (.imul, 1) := by decide +kernel
theorem dX9_term_112 : decode cX9_term 112 = .ok (.iload 8, 2) := by decide +kernel
theorem dX9_term_114 : decode cX9_term 114 = .ok (.iadd, 1) := by decide +kernel
theorem dX9_term_115 : decode cX9_term 115 = .ok (.iconst 0, 1) := by decide +kernel
theorem dX9_term_116 : decode cX9_term 116 = .ok (.iastore, 1) := by decide +kernel
theorem dX9_term_117 : decode cX9_term 117 = .ok (.iinc 8 1, 3) := by decide +kernel
theorem dX9_term_120 : decode cX9_term 120 = .ok (.goto (-24), 3) := by decide +kernel
theorem dX9_term_123 : decode cX9_term 123 = .ok (.iconst 0, 1) := by decide +kernel
theorem dX9_term_124 : decode cX9_term 124 = .ok (.istore 8, 2) := by decide +kernel
theorem dX9_term_126 : decode cX9_term 126 = .ok (.iload 8, 2) := by decide +kernel
theorem dX9_term_128 : decode cX9_term 128 = .ok (.aload_n 0, 1) := by decide +kernel
theorem dX9_term_129 : decode cX9_term 129 = .ok (.getfield 109, 3) := by decide +kernel
theorem dX9_term_132 : decode cX9_term 132 = .ok (.if_icmp .ge 75, 3) := by decide +kernel
theorem dX9_term_135 : decode cX9_term 135 = .ok (.aload_n 0, 1) := by decide +kernel
theorem dX9_term_136 : decode cX9_term 136 = .ok (.getfield 7, 3) := by decide +kernel
theorem dX9_term_139 : decode cX9_term 139 = .ok (.iload 8, 2) := by decide +kernel
theorem dX9_term_141 : decode cX9_term 141 = .ok (.iaload, 1) := by decide +kernel
theorem dX9_term_142 : decode cX9_term 142 = .ok (.ifCond .ne 12, 3) := by decide +kernel
theorem dX9_term_145 : decode cX9_term 145 = .ok (.iinc 6 1, 3) := by decide +kernel
theorem dX9_term_148 : decode cX9_term 148 = .ok (.iconst 0, 1) := by decide +kernel
theorem dX9_term_149 : decode cX9_term 149 = .ok (.istore 7, 2) := by decide +kernel
theorem dX9_term_151 : decode cX9_term 151 = .ok (.goto 50, 3) := by decide +kernel
theorem dX9_term_154 : decode cX9_term 154 = .ok (.aload_n 0, 1) := by decide +kernel
theorem dX9_term_155 : decode cX9_term 155 = .ok (.getfield 19, 3) := by decide +kernel
theorem dX9_term_158 : decode cX9_term 158 = .ok (.bipush 36, 2) := by decide +kernel
theorem dX9_term_160 : decode cX9_term 160 = .ok (.aload_n 0, 1) := by decide +kernel
theorem dX9_term_161 : decode cX9_term 161 = .ok (.getfield 127, 3) := by decide +kernel
theorem dX9_term_164 : decode cX9_term 164 = .ok (.imul, 1) := by decide +kernel
theorem dX9_term_165 : decode cX9_term 165 = .ok (.bipush 12, 2) := by decide +kernel
theorem dX9_term_167 : decode cX9_term 167 = .ok (.iload 6, 2) := by decide +kernel
theorem dX9_term_169 : decode cX9_term 169 = .ok (.imul, 1) := by decide +kernel
theorem dX9_term_170 : decode cX9_term 170 = .ok (.iadd, 1) := by decide +kernel
theorem dX9_term_171 : decode cX9_term 171 = .ok (.iload 7, 2) := by decide +kernel
theorem dX9_term_173 : decode cX9_term 173 = .ok (.iadd, 1) := by decide +kernel
theorem dX9_term_174 : decode cX9_term 174 = .ok (.aload_n 0, 1) := by decide +kernel
theorem dX9_term_175 : decode cX9_term 175 = .ok (.getfield 7, 3) := by decide +kernel
theorem dX9_term_178 : decode cX9_term 178 = .ok (.iload 8, 2) := by decide +kernel
theorem dX9_term_180 : decode cX9_term 180 = .ok (.iaload, 1) := by decide +kernel
theorem dX9_term_181 : decode cX9_term 181 = .ok (.iastore, 1) := by decide +kernel
theorem dX9_term_182 : decode cX9_term 182 = .ok (.iinc 7 1, 3) := by decide +kernel
theorem dX9_term_185 : decode cX9_term 185 = .ok (.aload_n 0, 1) := by decide +kernel
theorem dX9_term_186 : decode cX9_term 186 = .ok (.getfield 22, 3) := by decide +kernel
theorem dX9_term_189 : decode cX9_term 189 = .ok (.iconst 3, 1) := by decide +kernel
theorem dX9_term_190 : decode cX9_term 190 = .ok (.aload_n 0, 1) := by decide +kernel
theorem dX9_term_191 : decode cX9_term 191 = .ok (.getfield 127, 3) := by decide +kernel
theorem dX9_term_194 : decode cX9_term 194 = .ok (.imul, 1) := by decide +kernel
theorem dX9_term_195 : decode cX9_term 195 = .ok (.iload 6, 2) := by decide +kernel
theorem dX9_term_197 : decode cX9_term 197 = .ok (.iadd, 1) := by decide +kernel
theorem dX9_term_198 : decode cX9_term 198 = .ok (.iload 7, 2) := by decide +kernel
theorem dX9_term_200 : decode cX9_term 200 = .ok (.iastore, 1) := by decide +kernel
theorem dX9_term_201 : decode cX9_term 201 = .ok (.iinc 8 1, 3) := by decide +kernel
theorem dX9_term_204 : decode cX9_term 204 = .ok (.goto (-78), 3) := by decide +kernel
theorem dX9_term_207 : decode cX9_term 207 = .ok (.aload_n 0, 1) := by decide +kernel
theorem dX9_term_208 : decode cX9_term 208 = .ok (.getfield 25, 3) := by decide +kernel
theorem dX9_term_211 : decode cX9_term 211 = .ok (.aload_n 0, 1) := by decide +kernel
theorem dX9_term_212 : decode cX9_term 212 = .ok (.getfield 127, 3) := by decide +kernel
theorem dX9_term_215 : decode cX9_term 215 = .ok (.iload 4, 2) := by decide +kernel
theorem dX9_term_217 : decode cX9_term 217 = .ok (.iastore, 1) := by decide +kernel
theorem dX9_term_218 : decode cX9_term 218 = .ok (.aload_n 0, 1) := by decide +kernel
theorem dX9_term_219 : decode cX9_term 219 = .ok (.getfield 28, 3) := by decide +kernel
theorem dX9_term_222 : decode cX9_term 222 = .ok (.aload_n 0, 1) := by decide +kernel
theorem dX9_term_223 : decode cX9_term 223 = .ok (.getfield 127, 3) := by decide +kernel
theorem dX9_term_226 : decode cX9_term 226 = .ok (.iload_n 1, 1) := by decide +kernel
theorem dX9_term_227 : decode cX9_term 227 = .ok (.iastore, 1) := by decide +kernel
theorem dX9_term_228 : decode cX9_term 228 = .ok (.aload_n 0, 1) := by decide +kernel
theorem dX9_term_229 : decode cX9_term 229 = .ok (.getfield 31, 3) := by decide +kernel
theorem dX9_term_232 : decode cX9_term 232 = .ok (.aload_n 0, 1) := by decide +kernel
theorem dX9_term_233 : decode cX9_term 233 = .ok (.getfield 127, 3) := by decide +kernel
theorem dX9_term_236 : decode cX9_term 236 = .ok (.iload_n 2, 1) := by decide +kernel
theorem dX9_term_237 : decode cX9_term 237 = .ok (.iastore, 1) := by decide +kernel
theorem dX9_term_238 : decode cX9_term 238 = .ok (.aload_n 0, 1) := by decide +kernel
theorem dX9_term_239 : decode cX9_term 239 = .ok (.getfield 34, 3) := by decide +kernel
theorem dX9_term_242 : decode cX9_term 242 = .ok (.aload_n 0, 1) := by decide +kernel
theorem dX9_term_243 : decode cX9_term 243 = .ok (.getfield 127, 3) := by decide +kernel
theorem dX9_term_246 : decode cX9_term 246 = .ok (.iload_n 3, 1) := by decide +kernel
theorem dX9_term_247 : decode cX9_term 247 = .ok (.iastore, 1) := by decide +kernel
theorem dX9_term_248 : decode cX9_term 248 = .ok (.aload_n 0, 1) := by decide +kernel
theorem dX9_term_249 : decode cX9_term 249 = .ok (.dup, 1) := by decide +kernel
theorem dX9_term_250 : decode cX9_term 250 = .ok (.getfield 127, 3) := by decide +kernel
theorem dX9_term_253 : decode cX9_term 253 = .ok (.iconst 1, 1) := by decide +kernel
theorem dX9_term_254 : decode cX9_term 254 = .ok (.iadd, 1) := by decide +kernel
theorem dX9_term_255 : decode cX9_term 255 = .ok (.putfield 127, 3) := by decide +kernel
theorem dX9_term_258 : decode cX9_term 258 = .ok (.aload_n 0, 1) := by decide +kernel
theorem dX9_term_259 : decode cX9_term 259 = .ok (.iconst 0, 1) := by decide +kernel
theorem dX9_term_260 : decode cX9_term 260 = .ok (.putfield 109, 3) := by decide +kernel
theorem dX9_term_263 : decode cX9_term 263 = .ok (.iload 5, 2) := by decide +kernel
theorem dX9_term_265 : decode cX9_term 265 = .ok (.ifCond .eq 12, 3) := by decide +kernel
theorem dX9_term_268 : decode cX9_term 268 = .ok (.aload_n 0, 1) := by decide +kernel
theorem dX9_term_269 : decode cX9_term 269 = .ok (.getfield 127, 3) := by decide +kernel
theorem dX9_term_272 : decode cX9_term 272 = .ok (.iconst 1, 1) := by decide +kernel
theorem dX9_term_273 : decode cX9_term 273 = .ok (.isub, 1) := by decide +kernel
theorem dX9_term_274 : decode cX9_term 274 = .ok (.goto 4, 3) := by decide +kernel
theorem dX9_term_277 : decode cX9_term 277 = .ok (.iconst (-1), 1) := by decide +kernel
theorem dX9_term_278 : decode cX9_term 278 = .ok (.ireturn, 1) := by decide +kernel
theorem dX9_neighbour_0 : decode cX9_neighbour 0 = .ok (.aload_n 0, 1) := by decide +kernel
theorem dX9_neighbour_1 : decode cX9_neighbour 1 = .ok (.iconst 0, 1) := by decide +kernel
theorem dX9_neighbour_2 : decode cX9_neighbour 2 = .ok (.putfield 105, 3) := by decide +kernel
theorem dX9_neighbour_5 : decode cX9_neighbour 5 = .ok (.aload_n 0, 1) := by decide +kernel
theorem dX9_neighbour_6 : decode cX9_neighbour 6 = .ok (.iload_n 1, 1) := by decide +kernel
theorem dX9_neighbour_7 : decode cX9_neighbour 7 = .ok (.invokestatic 119, 3) := by decide +kernel
theorem dX9_neighbour_10 : decode cX9_neighbour 10 = .ok (.iconst 1, 1) := by decide +kernel
theorem dX9_neighbour_11 : decode cX9_neighbour 11 = .ok (.invokevirtual 123, 3) := by decide +kernel
theorem dX9_neighbour_14 : decode cX9_neighbour 14 = .ok (.ifCond .ne 5, 3) := by decide +kernel
theorem dX9_neighbour_17 : decode cX9_neighbour 17 = .ok (.iconst 0, 1) := by decide +kernel
theorem dX9_neighbour_18 : decode cX9_neighbour 18 = .ok (.ireturn, 1) := by decide +kernel
theorem dX9_neighbour_19 : decode cX9_neighbour 19 = .ok (.aload_n 0, 1) := by decide +kernel
theorem dX9_neighbour_20 : decode cX9_neighbour 20 = .ok (.bipush 12, 2) := by decide +kernel
theorem dX9_neighbour_22 : decode cX9_neighbour 22 = .ok (.invokevirtual 112, 3) := by decide +kernel
theorem dX9_neighbour_25 : decode cX9_neighbour 25 = .ok (.iconst 1, 1) := by decide +kernel
theorem dX9_neighbour_26 : decode cX9_neighbour 26 = .ok (.if_icmp .ne 18, 3) := by decide +kernel
theorem dX9_neighbour_29 : decode cX9_neighbour 29 = .ok (.aload_n 0, 1) := by decide +kernel
theorem dX9_neighbour_30 : decode cX9_neighbour 30 = .ok (.getfield 43, 3) := by decide +kernel
theorem dX9_neighbour_33 : decode cX9_neighbour 33 = .ok (.iload_n 1, 1) := by decide +kernel
theorem dX9_neighbour_34 : decode cX9_neighbour 34 = .ok (.iaload, 1) := by decide +kernel
theorem dX9_neighbour_35 : decode cX9_neighbour 35 = .ok (.bipush 8, 2) := by decide +kernel
theorem dX9_neighbour_37 : decode cX9_neighbour 37 = .ok (.if_icmp .ge 7, 3) := by decide +kernel
theorem dX9_neighbour_40 : decode cX9_neighbour 40 = .ok (.iconst 1, 1) := by decide +kernel
theorem dX9_neighbour_41 : decode cX9_neighbour 41 = .ok (.goto 4, 3) := by decide +kernel
theorem dX9_neighbour_44 : decode cX9_neighbour 44 = .ok (.iconst 0, 1) := by decide +kernel
theorem dX9_neighbour_45 : decode cX9_neighbour 45 = .ok (.istore_n 2, 1) := by decide +kernel
theorem dX9_neighbour_46 : decode cX9_neighbour 46 = .ok (.iconst 0, 1) := by decide +kernel
theorem dX9_neighbour_47 : decode cX9_neighbour 47 = .ok (.istore_n 3, 1) := by decide +kernel
theorem dX9_neighbour_48 : decode cX9_neighbour 48 = .ok (.iload_n 3, 1) := by decide +kernel
theorem dX9_neighbour_49 : decode cX9_neighbour 49 = .ok (.aload_n 0, 1) := by decide +kernel
theorem dX9_neighbour_50 : decode cX9_neighbour 50 = .ok (.getfield 43, 3) := by decide +kernel
theorem dX9_neighbour_53 : decode cX9_neighbour 53 = .ok (.iload_n 1, 1) := by decide +kernel
theorem dX9_neighbour_54 : decode cX9_neighbour 54 = .ok (.iaload, 1) := by decide +kernel
theorem dX9_neighbour_55 : decode cX9_neighbour 55 = .ok (.if_icmp .ge 106, 3) := by decide +kernel
theorem dX9_neighbour_58 : decode cX9_neighbour 58 = .ok (.iload_n 2, 1) := by decide +kernel
theorem dX9_neighbour_59 : decode cX9_neighbour 59 = .ok (.ifCond .eq 102, 3) := by decide +kernel
theorem dX9_neighbour_62 : decode cX9_neighbour 62 = .ok (.aload_n 0, 1) := by decide +kernel
theorem dX9_neighbour_63 : decode cX9_neighbour 63 = .ok (.getfield 40, 3) := by decide +kernel
theorem dX9_neighbour_66 : decode cX9_neighbour 66 = .ok (.bipush 8, 2) := by decide +kernel
theorem dX9_neighbour_68 : decode cX9_neighbour 68 = .ok (.iload_n 1, 1) := by decide +kernel
theorem dX9_neighbour_69 : decode cX9_neighbour 69 = .ok (.imul, 1) := by decide +kernel
theorem dX9_neighbour_70 : decode cX9_neighbour 70 = .ok (.iload_n 3, 1) := by decide +kernel
theorem dX9_neighbour_71 : decode cX9_neighbour 71 = .ok (.iadd, 1) := by decide +kernel
theorem dX9_neighbour_72 : decode cX9_neighbour 72 = .ok (.iaload, 1) := by decide +kernel
theorem dX9_neighbour_73 : decode cX9_neighbour 73 = .ok (.aload_n 0, 1) := by decide +kernel
theorem dX9_neighbour_74 : decode cX9_neighbour 74 = .ok (.getfield 109, 3) := by decide +kernel
theorem dX9_neighbour_77 : decode cX9_neighbour 77 = .ok (.if_icmp .ne 7, 3) := by decide +kernel
theorem dX9_neighbour_80 : decode cX9_neighbour 80 = .ok (.iconst 1, 1) := by decide +kernel
theorem dX9_neighbour_81 : decode cX9_neighbour 81 = .ok (.goto 4, 3) := by decide +kernel
theorem dX9_neighbour_84 : decode cX9_neighbour 84 = .ok (.iconst 0, 1) := by decide +kernel
theorem dX9_neighbour_85 : decode cX9_neighbour 85 = .ok (.istore 4, 2) := by decide +kernel
theorem dX9_neighbour_87 : decode cX9_neighbour 87 = .ok (.iconst 0, 1) := by decide +kernel
theorem dX9_neighbour_88 : decode cX9_neighbour 88 = .ok (.istore 5, 2) := by decide +kernel
theorem dX9_neighbour_90 : decode cX9_neighbour 90 = .ok (.iload 5, 2) := by decide +kernel
theorem dX9_neighbour_92 : decode cX9_neighbour 92 = .ok (.aload_n 0, 1) := by decide +kernel
theorem dX9_neighbour_93 : decode cX9_neighbour 93 = .ok (.getfield 109, 3) := by decide +kernel
theorem dX9_neighbour_96 : decode cX9_neighbour 96 = .ok (.if_icmp .ge 48, 3) := by decide +kernel
theorem dX9_neighbour_99 : decode cX9_neighbour 99 = .ok (.iload 4, 2) := by decide +kernel
theorem dX9_neighbour_101 : decode cX9_neighbour 101 = .ok (.ifCond .eq 43, 3) := by decide +kernel
theorem dX9_neighbour_104 : decode cX9_neighbour 104 = .ok (.aload_n 0, 1) := by decide +kernel
theorem dX9_neighbour_105 : decode cX9_neighbour 105 = .ok (.getfield 37, 3) := by decide +kernel
theorem dX9_neighbour_108 : decode cX9_neighbour 108 = .ok (.bipush 96, 2) := by decide +kernel
theorem dX9_neighbour_110 : decode cX9_neighbour 110 = .ok (.iload_n 1, 1) := by decide +kernel
theorem dX9_neighbour_111 : decode cX9_neighbour 111 = .ok (.imul, 1) := by decide +kernel
theorem dX9_neighbour_112 : decode cX9_neighbour 112 = .ok (.bipush 12, 2) := by decide +kernel
theorem dX9_neighbour_114 : decode cX9_neighbour 114 = .ok (.iload_n 3, 1) := by decide +kernel
theorem dX9_neighbour_115 : decode cX9_neighbour 115 = .ok (.imul, 1) := by decide +kernel
theorem dX9_neighbour_116 : decode cX9_neighbour 116 = .ok (.iadd, 1) := by decide +kernel
theorem dX9_neighbour_117 : decode cX9_neighbour 117 = .ok (.iload 5, 2) := by decide +kernel
theorem dX9_neighbour_119 : decode cX9_neighbour 119 = .ok (.iadd, 1) := by decide +kernel
theorem dX9_neighbour_120 : decode cX9_neighbour 120 = .ok (.iaload, 1) := by decide +kernel
theorem dX9_neighbour_121 : decode cX9_neighbour 121 = .ok (.aload_n 0, 1) := by decide +kernel
theorem dX9_neighbour_122 : decode cX9_neighbour 122 = .ok (.getfield 7, 3) := by decide +kernel
theorem dX9_neighbour_125 : decode cX9_neighbour 125 = .ok (.iload 5, 2) := by decide +kernel
theorem dX9_neighbour_127 : decode cX9_neighbour 127 = .ok (.iaload, 1) := by decide +kernel
theorem dX9_neighbour_128 : decode cX9_neighbour 128 = .ok (.if_icmp .ne 7, 3) := by decide +kernel
theorem dX9_neighbour_131 : decode cX9_neighbour 131 = .ok (.iconst 1, 1) := by decide +kernel
theorem dX9_neighbour_132 : decode cX9_neighbour 132 = .ok (.goto 4, 3) := by decide +kernel
theorem dX9_neighbour_135 : decode cX9_neighbour 135 = .ok (.iconst 0, 1) := by decide +kernel
theorem dX9_neighbour_136 : decode cX9_neighbour 136 = .ok (.istore 4, 2) := by decide +kernel
theorem dX9_neighbour_138 : decode cX9_neighbour 138 = .ok (.iinc 5 1, 3) := by decide +kernel
theorem dX9_neighbour_141 : decode cX9_neighbour 141 = .ok (.goto (-51), 3) := by decide +kernel
theorem dX9_neighbour_144 : decode cX9_neighbour 144 = .ok (.iload 4, 2) := by decide +kernel
theorem dX9_neighbour_146 : decode cX9_neighbour 146 = .ok (.ifCond .ne 7, 3) := by decide +kernel
theorem dX9_neighbour_149 : decode cX9_neighbour 149 = .ok (.iconst 1, 1) := by decide +kernel
theorem dX9_neighbour_150 : decode cX9_neighbour 150 = .ok (.goto 4, 3) := by decide +kernel
theorem dX9_neighbour_153 : decode cX9_neighbour 153 = .ok (.iconst 0, 1) := by decide +kernel
theorem dX9_neighbour_154 : decode cX9_neighbour 154 = .ok (.istore_n 2, 1) := by decide +kernel
theorem dX9_neighbour_155 : decode cX9_neighbour 155 = .ok (.iinc 3 1, 3) := by decide +kernel
theorem dX9_neighbour_158 : decode cX9_neighbour 158 = .ok (.goto (-110), 3) := by decide +kernel
theorem dX9_neighbour_161 : decode cX9_neighbour 161 = .ok (.iload_n 2, 1) := by decide +kernel
theorem dX9_neighbour_162 : decode cX9_neighbour 162 = .ok (.ifCond .eq 77, 3) := by decide +kernel
theorem dX9_neighbour_165 : decode cX9_neighbour 165 = .ok (.aload_n 0, 1) := by decide +kernel
theorem dX9_neighbour_166 : decode cX9_neighbour 166 = .ok (.getfield 43, 3) := by decide +kernel
theorem dX9_neighbour_169 : decode cX9_neighbour 169 = .ok (.iload_n 1, 1) := by decide +kernel
theorem dX9_neighbour_170 : decode cX9_neighbour 170 = .ok (.iaload, 1) := by decide +kernel
theorem dX9_neighbour_171 : decode cX9_neighbour 171 = .ok (.istore_n 3, 1) := by decide +kernel
theorem dX9_neighbour_172 : decode cX9_neighbour 172 = .ok (.iconst 0, 1) := by decide +kernel
theorem dX9_neighbour_173 : decode cX9_neighbour 173 = .ok (.istore 4, 2) := by decide +kernel
theorem dX9_neighbour_175 : decode cX9_neighbour 175 = .ok (.iload 4, 2) := by decide +kernel
theorem dX9_neighbour_177 : decode cX9_neighbour 177 = .ok (.aload_n 0, 1) := by decide +kernel
theorem dX9_neighbour_178 : decode cX9_neighbour 178 = .ok (.getfield 109, 3) := by decide +kernel
theorem dX9_neighbour_181 : decode cX9_neighbour 181 = .ok (.if_icmp .ge 33, 3) := by decide +kernel
theorem dX9_neighbour_184 : decode cX9_neighbour 184 = .ok (.aload_n 0, 1) := by decide +kernel
theorem dX9_neighbour_185 : decode cX9_neighbour 185 = .ok (.getfield 37, 3) := by decide +kernel
theorem dX9_neighbour_188 : decode cX9_neighbour 188 = .ok (.bipush 96, 2) := by decide +kernel
theorem dX9_neighbour_190 : decode cX9_neighbour 190 = .ok (.iload_n 1, 1) := by decide +kernel
theorem dX9_neighbour_191 : decode cX9_neighbour 191 = .ok (.imul, 1) := by decide +kernel
theorem dX9_neighbour_192 : decode cX9_neighbour 192 = .ok (.bipush 12, 2) := by decide +kernel
theorem dX9_neighbour_194 : decode cX9_neighbour 194 = .ok (.iload_n 3, 1) := by decide +kernel
theorem dX9_neighbour_195 : decode cX9_neighbour 195 = .ok (.imul, 1) := by decide +kernel
theorem dX9_neighbour_196 : decode cX9_neighbour 196 = .ok (.iadd, 1) := by decide +kernel
theorem dX9_neighbour_197 : decode cX9_neighbour 197 = .ok (.iload 4, 2) := by decide +kernel
theorem dX9_neighbour_199 : decode cX9_neighbour 199 = .ok (.iadd, 1) := by decide +kernel
theorem dX9_neighbour_200 : decode cX9_neighbour 200 = .ok (.aload_n 0, 1) := by decide +kernel
theorem dX9_neighbour_201 : decode cX9_neighbour 201 = .ok (.getfield 7, 3) := by decide +kernel
theorem dX9_neighbour_204 : decode cX9_neighbour 204 = .ok (.iload 4, 2) := by decide +kernel
theorem dX9_neighbour_206 : decode cX9_neighbour 206 = .ok (.iaload, 1) := by decide +kernel
theorem dX9_neighbour_207 : decode cX9_neighbour 207 = .ok (.iastore, 1) := by decide +kernel
theorem dX9_neighbour_208 : decode cX9_neighbour 208 = .ok (.iinc 4 1, 3) := by decide +kernel
theorem dX9_neighbour_211 : decode cX9_neighbour 211 = .ok (.goto (-36), 3) := by decide +kernel
theorem dX9_neighbour_214 : decode cX9_neighbour 214 = .ok (.aload_n 0, 1) := by decide +kernel
theorem dX9_neighbour_215 : decode cX9_neighbour 215 = .ok (.getfield 40, 3) := by decide +kernel
theorem dX9_neighbour_218 : decode cX9_neighbour 218 = .ok (.bipush 8, 2) := by decide +kernel
theorem dX9_neighbour_220 : decode cX9_neighbour 220 = .ok (.iload_n 1, 1) := by decide +kernel
theorem dX9_neighbour_221 : decode cX9_neighbour 221 = .ok (.imul, 1) := by decide +kernel
theorem dX9_neighbour_222 : decode cX9_neighbour 222 = .ok (.iload_n 3, 1) := by decide +kernel
theorem dX9_neighbour_223 : decode cX9_neighbour 223 = .ok (.iadd, 1) := by decide +kernel
theorem dX9_neighbour_224 : decode cX9_neighbour 224 = .ok (.aload_n 0, 1) := by decide +kernel
theorem dX9_neighbour_225 : decode cX9_neighbour 225 = .ok (.getfield 109, 3) := by decide +kernel
theorem dX9_neighbour_228 : decode cX9_neighbour 228 = .ok (.iastore, 1) := by decide +kernel
theorem dX9_neighbour_229 : decode cX9_neighbour 229 = .ok (.aload_n 0, 1) := by decide +kernel
theorem dX9_neighbour_230 : decode cX9_neighbour 230 = .ok (.getfield 43, 3) := by decide +kernel
theorem dX9_neighbour_233 : decode cX9_neighbour 233 = .ok (.iload_n 1, 1) := by decide +kernel
theorem dX9_neighbour_234 : decode cX9_neighbour 234 = .ok (.dup2, 1) := by decide +kernel
theorem dX9_neighbour_235 : decode cX9_neighbour 235 = .ok (.iaload, 1) := by decide +kernel
theorem dX9_neighbour_236 : decode cX9_neighbour 236 = .ok (.iconst 1, 1) := by decide +kernel
theorem dX9_neighbour_237 : decode cX9_neighbour 237 = .ok (.iadd, 1) := by decide +kernel
theorem dX9_neighbour_238 : decode cX9_neighbour 238 = .ok (.iastore, 1) := by decide +kernel
theorem dX9_neighbour_239 : decode cX9_neighbour 239 = .ok (.aload_n 0, 1) := by decide +kernel
theorem dX9_neighbour_240 : decode cX9_neighbour 240 = .ok (.iconst 0, 1) := by decide +kernel
theorem dX9_neighbour_241 : decode cX9_neighbour 241 = .ok (.putfield 109, 3) := by decide +kernel
theorem dX9_neighbour_244 : decode cX9_neighbour 244 = .ok (.iload_n 2, 1) := by decide +kernel
theorem dX9_neighbour_245 : decode cX9_neighbour 245 = .ok (.ifCond .eq 12, 3) := by decide +kernel
theorem dX9_neighbour_248 : decode cX9_neighbour 248 = .ok (.aload_n 0, 1) := by decide +kernel
theorem dX9_neighbour_249 : decode cX9_neighbour 249 = .ok (.getfield 43, 3) := by decide +kernel
theorem dX9_neighbour_252 : decode cX9_neighbour 252 = .ok (.iload_n 1, 1) := by decide +kernel
theorem dX9_neighbour_253 : decode cX9_neighbour 253 = .ok (.iaload, 1) := by decide +kernel
theorem dX9_neighbour_254 : decode cX9_neighbour 254 = .ok (.goto 4, 3) := by decide +kernel
theorem dX9_neighbour_257 : decode cX9_neighbour 257 = .ok (.iconst (-1), 1) := by decide +kernel
theorem dX9_neighbour_258 : decode cX9_neighbour 258 = .ok (.ireturn, 1) := by decide +kernel
theorem dX9_define_0 : decode cX9_define 0 = .ok (.aload_n 0, 1) := by decide +kernel
theorem dX9_define_1 : decode cX9_define 1 = .ok (.iconst 0, 1) := by decide +kernel
theorem dX9_define_2 : decode cX9_define 2 = .ok (.putfield 105, 3) := by decide +kernel
theorem dX9_define_5 : decode cX9_define 5 = .ok (.aload_n 0, 1) := by decide +kernel
theorem dX9_define_6 : decode cX9_define 6 = .ok (.iload_n 1, 1) := by decide +kernel
theorem dX9_define_7 : decode cX9_define 7 = .ok (.invokestatic 119, 3) := by decide +kernel
theorem dX9_define_10 : decode cX9_define 10 = .ok (.ifCond .eq 22, 3) := by decide +kernel
theorem dX9_define_13 : decode cX9_define 13 = .ok (.lload_n 2, 1) := by decide +kernel
theorem dX9_define_14 : decode cX9_define 14 = .ok (.lconst 0, 1) := by decide +kernel
theorem dX9_define_15 : decode cX9_define 15 = .ok (.lcmp, 1) := by decide +kernel
theorem dX9_define_16 : decode cX9_define 16 = .ok (.ifCond .lt 16, 3) := by decide +kernel
theorem dX9_define_19 : decode cX9_define 19 = .ok (.lload_n 2, 1) := by decide +kernel
theorem dX9_define_20 : decode cX9_define 20 = .ok (.bipush 40, 2) := by decide +kernel
theorem dX9_define_22 : decode cX9_define 22 = .ok (.lshr, 1) := by decide +kernel
theorem dX9_define_23 : decode cX9_define 23 = .ok (.lconst 0, 1) := by decide +kernel
theorem dX9_define_24 : decode cX9_define 24 = .ok (.lcmp, 1) := by decide +kernel
theorem dX9_define_25 : decode cX9_define 25 = .ok (.ifCond .ne 7, 3) := by decide +kernel
theorem dX9_define_28 : decode cX9_define 28 = .ok (.iconst 1, 1) := by decide +kernel
theorem dX9_define_29 : decode cX9_define 29 = .ok (.goto 4, 3) := by decide +kernel
theorem dX9_define_32 : decode cX9_define 32 = .ok (.iconst 0, 1) := by decide +kernel
theorem dX9_define_33 : decode cX9_define 33 = .ok (.iconst 1, 1) := by decide +kernel
theorem dX9_define_34 : decode cX9_define 34 = .ok (.invokevirtual 123, 3) := by decide +kernel
theorem dX9_define_37 : decode cX9_define 37 = .ok (.ifCond .ne 5, 3) := by decide +kernel
theorem dX9_define_40 : decode cX9_define 40 = .ok (.lconst 0, 1) := by decide +kernel
theorem dX9_define_41 : decode cX9_define 41 = .ok (.lreturn, 1) := by decide +kernel
theorem dX9_define_42 : decode cX9_define 42 = .ok (.aload_n 0, 1) := by decide +kernel
theorem dX9_define_43 : decode cX9_define 43 = .ok (.getfield 46, 3) := by decide +kernel
theorem dX9_define_46 : decode cX9_define 46 = .ok (.iload_n 1, 1) := by decide +kernel
theorem dX9_define_47 : decode cX9_define 47 = .ok (.laload, 1) := by decide +kernel
theorem dX9_define_48 : decode cX9_define 48 = .ok (.lstore 4, 2) := by decide +kernel
theorem dX9_define_50 : decode cX9_define 50 = .ok (.aload_n 0, 1) := by decide +kernel
theorem dX9_define_51 : decode cX9_define 51 = .ok (.getfield 46, 3) := by decide +kernel
theorem dX9_define_54 : decode cX9_define 54 = .ok (.iload_n 1, 1) := by decide +kernel
theorem dX9_define_55 : decode cX9_define 55 = .ok (.lload_n 2, 1) := by decide +kernel
theorem dX9_define_56 : decode cX9_define 56 = .ok (.lastore, 1) := by decide +kernel
theorem dX9_define_57 : decode cX9_define 57 = .ok (.lload 4, 2) := by decide +kernel
theorem dX9_define_59 : decode cX9_define 59 = .ok (.lreturn, 1) := by decide +kernel
theorem dX9_know_0 : decode cX9_know 0 = .ok (.aload_n 0, 1) := by decide +kernel
theorem dX9_know_1 : decode cX9_know 1 = .ok (.iconst 0, 1) := by decide +kernel
theorem dX9_know_2 : decode cX9_know 2 = .ok (.putfield 105, 3) := by decide +kernel
theorem dX9_know_5 : decode cX9_know 5 = .ok (.aload_n 0, 1) := by decide +kernel
theorem dX9_know_6 : decode cX9_know 6 = .ok (.iload_n 1, 1) := by decide +kernel
theorem dX9_know_7 : decode cX9_know 7 = .ok (.invokestatic 119, 3) := by decide +kernel
theorem dX9_know_10 : decode cX9_know 10 = .ok (.iconst 1, 1) := by decide +kernel
theorem dX9_know_11 : decode cX9_know 11 = .ok (.invokevirtual 123, 3) := by decide +kernel
theorem dX9_know_14 : decode cX9_know 14 = .ok (.ifCond .ne 5, 3) := by decide +kernel
theorem dX9_know_17 : decode cX9_know 17 = .ok (.iconst 0, 1) := by decide +kernel
theorem dX9_know_18 : decode cX9_know 18 = .ok (.ireturn, 1) := by decide +kernel
theorem dX9_know_19 : decode cX9_know 19 = .ok (.aload_n 0, 1) := by decide +kernel
theorem dX9_know_20 : decode cX9_know 20 = .ok (.getfield 50, 3) := by decide +kernel
theorem dX9_know_23 : decode cX9_know 23 = .ok (.iload_n 1, 1) := by decide +kernel
theorem dX9_know_24 : decode cX9_know 24 = .ok (.baload, 1) := by decide +kernel
theorem dX9_know_25 : decode cX9_know 25 = .ok (.istore_n 3, 1) := by decide +kernel
theorem dX9_know_26 : decode cX9_know 26 = .ok (.aload_n 0, 1) := by decide +kernel
theorem dX9_know_27 : decode cX9_know 27 = .ok (.getfield 50, 3) := by decide +kernel
theorem dX9_know_30 : decode cX9_know 30 = .ok (.iload_n 1, 1) := by decide +kernel
theorem dX9_know_31 : decode cX9_know 31 = .ok (.iload_n 2, 1) := by decide +kernel
theorem dX9_know_32 : decode cX9_know 32 = .ok (.bastore, 1) := by decide +kernel
theorem dX9_know_33 : decode cX9_know 33 = .ok (.iload_n 3, 1) := by decide +kernel
theorem dX9_know_34 : decode cX9_know 34 = .ok (.ireturn, 1) := by decide +kernel
theorem dX9_isTerm_0 : decode cX9_isTerm 0 = .ok (.aload_n 0, 1) := by decide +kernel
theorem dX9_isTerm_1 : decode cX9_isTerm 1 = .ok (.iconst 0, 1) := by decide +kernel
theorem dX9_isTerm_2 : decode cX9_isTerm 2 = .ok (.putfield 105, 3) := by decide +kernel
theorem dX9_isTerm_5 : decode cX9_isTerm 5 = .ok (.aload_n 0, 1) := by decide +kernel
theorem dX9_isTerm_6 : decode cX9_isTerm 6 = .ok (.iload_n 1, 1) := by decide +kernel
theorem dX9_isTerm_7 : decode cX9_isTerm 7 = .ok (.ifCond .lt 15, 3) := by decide +kernel
theorem dX9_isTerm_10 : decode cX9_isTerm 10 = .ok (.iload_n 1, 1) := by decide +kernel
theorem dX9_isTerm_11 : decode cX9_isTerm 11 = .ok (.aload_n 0, 1) := by decide +kernel
theorem dX9_isTerm_12 : decode cX9_isTerm 12 = .ok (.getfield 127, 3) := by decide +kernel
theorem dX9_isTerm_15 : decode cX9_isTerm 15 = .ok (.if_icmp .ge 7, 3) := by decide +kernel
theorem dX9_isTerm_18 : decode cX9_isTerm 18 = .ok (.iconst 1, 1) := by decide +kernel
theorem dX9_isTerm_19 : decode cX9_isTerm 19 = .ok (.goto 4, 3) := by decide +kernel
theorem dX9_isTerm_22 : decode cX9_isTerm 22 = .ok (.iconst 0, 1) := by decide +kernel
theorem dX9_isTerm_23 : decode cX9_isTerm 23 = .ok (.iconst 1, 1) := by decide +kernel
theorem dX9_isTerm_24 : decode cX9_isTerm 24 = .ok (.invokevirtual 123, 3) := by decide +kernel
theorem dX9_isTerm_27 : decode cX9_isTerm 27 = .ok (.ireturn, 1) := by decide +kernel
theorem dX9_kind_0 : decode cX9_kind 0 = .ok (.aload_n 0, 1) := by decide +kernel
theorem dX9_kind_1 : decode cX9_kind 1 = .ok (.iload_n 1, 1) := by decide +kernel
theorem dX9_kind_2 : decode cX9_kind 2 = .ok (.invokevirtual 130, 3) := by decide +kernel
theorem dX9_kind_5 : decode cX9_kind 5 = .ok (.ifCond .eq 25, 3) := by decide +kernel
theorem dX9_kind_8 : decode cX9_kind 8 = .ok (.aload_n 0, 1) := by decide +kernel
theorem dX9_kind_9 : decode cX9_kind 9 = .ok (.iload_n 2, 1) := by decide +kernel
theorem dX9_kind_10 : decode cX9_kind 10 = .ok (.ifCond .lt 12, 3) := by decide +kernel
theorem dX9_kind_13 : decode cX9_kind 13 = .ok (.iload_n 2, 1) := by decide +kernel
theorem dX9_kind_14 : decode cX9_kind 14 = .ok (.iconst 3, 1) := by decide +kernel
theorem dX9_kind_15 : decode cX9_kind 15 = .ok (.if_icmp .gt 7, 3) := by decide +kernel
theorem dX9_kind_18 : decode cX9_kind 18 = .ok (.iconst 1, 1) := by decide +kernel
theorem dX9_kind_19 : decode cX9_kind 19 = .ok (.goto 4, 3) := by decide +kernel
theorem dX9_kind_22 : decode cX9_kind 22 = .ok (.iconst 0, 1) := by decide +kernel
theorem dX9_kind_23 : decode cX9_kind 23 = .ok (.iconst 2, 1) := by decide +kernel
theorem dX9_kind_24 : decode cX9_kind 24 = .ok (.invokevirtual 123, 3) := by decide +kernel
theorem dX9_kind_27 : decode cX9_kind 27 = .ok (.ifCond .ne 5, 3) := by decide +kernel
theorem dX9_kind_30 : decode cX9_kind 30 = .ok (.iconst 0, 1) := by decide +kernel
theorem dX9_kind_31 : decode cX9_kind 31 = .ok (.ireturn, 1) := by decide +kernel
theorem dX9_kind_32 : decode cX9_kind 32 = .ok (.aload_n 0, 1) := by decide +kernel
theorem dX9_kind_33 : decode cX9_kind 33 = .ok (.getfield 31, 3) := by decide +kernel
theorem dX9_kind_36 : decode cX9_kind 36 = .ok (.iload_n 1, 1) := by decide +kernel
theorem dX9_kind_37 : decode cX9_kind 37 = .ok (.iaload, 1) := by decide +kernel
theorem dX9_kind_38 : decode cX9_kind 38 = .ok (.istore_n 3, 1) := by decide +kernel
theorem dX9_kind_39 : decode cX9_kind 39 = .ok (.aload_n 0, 1) := by decide +kernel
theorem dX9_kind_40 : decode cX9_kind 40 = .ok (.getfield 31, 3) := by decide +kernel
theorem dX9_kind_43 : decode cX9_kind 43 = .ok (.iload_n 1, 1) := by decide +kernel
theorem dX9_kind_44 : decode cX9_kind 44 = .ok (.iload_n 2, 1) := by decide +kernel
theorem dX9_kind_45 : decode cX9_kind 45 = .ok (.iastore, 1) := by decide +kernel
theorem dX9_kind_46 : decode cX9_kind 46 = .ok (.iload_n 3, 1) := by decide +kernel
theorem dX9_kind_47 : decode cX9_kind 47 = .ok (.ireturn, 1) := by decide +kernel
theorem dX9_about_0 : decode cX9_about 0 = .ok (.aload_n 0, 1) := by decide +kernel
theorem dX9_about_1 : decode cX9_about 1 = .ok (.iload_n 1, 1) := by decide +kernel
theorem dX9_about_2 : decode cX9_about 2 = .ok (.invokevirtual 130, 3) := by decide +kernel
theorem dX9_about_5 : decode cX9_about 5 = .ok (.ifCond .eq 25, 3) := by decide +kernel
theorem dX9_about_8 : decode cX9_about 8 = .ok (.aload_n 0, 1) := by decide +kernel
theorem dX9_about_9 : decode cX9_about 9 = .ok (.iload_n 2, 1) := by decide +kernel
theorem dX9_about_10 : decode cX9_about 10 = .ok (.ifCond .lt 12, 3) := by decide +kernel
theorem dX9_about_13 : decode cX9_about 13 = .ok (.iload_n 2, 1) := by decide +kernel
theorem dX9_about_14 : decode cX9_about 14 = .ok (.iconst 4, 1) := by decide +kernel
theorem dX9_about_15 : decode cX9_about 15 = .ok (.if_icmp .gt 7, 3) := by decide +kernel
theorem dX9_about_18 : decode cX9_about 18 = .ok (.iconst 1, 1) := by decide +kernel
theorem dX9_about_19 : decode cX9_about 19 = .ok (.goto 4, 3) := by decide +kernel
theorem dX9_about_22 : decode cX9_about 22 = .ok (.iconst 0, 1) := by decide +kernel
theorem dX9_about_23 : decode cX9_about 23 = .ok (.iconst 1, 1) := by decide +kernel
theorem dX9_about_24 : decode cX9_about 24 = .ok (.invokevirtual 123, 3) := by decide +kernel
theorem dX9_about_27 : decode cX9_about 27 = .ok (.ifCond .ne 5, 3) := by decide +kernel
theorem dX9_about_30 : decode cX9_about 30 = .ok (.iconst 0, 1) := by decide +kernel
theorem dX9_about_31 : decode cX9_about 31 = .ok (.ireturn, 1) := by decide +kernel
theorem dX9_about_32 : decode cX9_about 32 = .ok (.iload_n 2, 1) := by decide +kernel
theorem dX9_about_33 : decode cX9_about 33 = .ok (.tableswitch 59 0 3 #[31, 38, 45, 52], 31) := by decide +kernel
theorem dX9_about_64 : decode cX9_about 64 = .ok (.aload_n 0, 1) := by decide +kernel
theorem dX9_about_65 : decode cX9_about 65 = .ok (.getfield 28, 3) := by decide +kernel
theorem dX9_about_68 : decode cX9_about 68 = .ok (.iload_n 1, 1) := by decide +kernel
theorem dX9_about_69 : decode cX9_about 69 = .ok (.iaload, 1) := by decide +kernel
theorem dX9_about_70 : decode cX9_about 70 = .ok (.ireturn, 1) := by decide +kernel
theorem dX9_about_71 : decode cX9_about 71 = .ok (.aload_n 0, 1) := by decide +kernel
theorem dX9_about_72 : decode cX9_about 72 = .ok (.getfield 31, 3) := by decide +kernel
theorem dX9_about_75 : decode cX9_about 75 = .ok (.iload_n 1, 1) := by decide +kernel
theorem dX9_about_76 : decode cX9_about 76 = .ok (.iaload, 1) := by decide +kernel
theorem dX9_about_77 : decode cX9_about 77 = .ok (.ireturn, 1) := by decide +kernel
theorem dX9_about_78 : decode cX9_about 78 = .ok (.aload_n 0, 1) := by decide +kernel
theorem dX9_about_79 : decode cX9_about 79 = .ok (.getfield 34, 3) := by decide +kernel
theorem dX9_about_82 : decode cX9_about 82 = .ok (.iload_n 1, 1) := by decide +kernel
theorem dX9_about_83 : decode cX9_about 83 = .ok (.iaload, 1) := by decide +kernel
theorem dX9_about_84 : decode cX9_about 84 = .ok (.ireturn, 1) := by decide +kernel
theorem dX9_about_85 : decode cX9_about 85 = .ok (.aload_n 0, 1) := by decide +kernel
theorem dX9_about_86 : decode cX9_about 86 = .ok (.getfield 25, 3) := by decide +kernel
theorem dX9_about_89 : decode cX9_about 89 = .ok (.iload_n 1, 1) := by decide +kernel
theorem dX9_about_90 : decode cX9_about 90 = .ok (.iaload, 1) := by decide +kernel
theorem dX9_about_91 : decode cX9_about 91 = .ok (.ireturn, 1) := by decide +kernel
theorem dX9_about_92 : decode cX9_about 92 = .ok (.aload_n 0, 1) := by decide +kernel
theorem dX9_about_93 : decode cX9_about 93 = .ok (.getfield 22, 3) := by decide +kernel
theorem dX9_about_96 : decode cX9_about 96 = .ok (.iconst 3, 1) := by decide +kernel
theorem dX9_about_97 : decode cX9_about 97 = .ok (.iload_n 1, 1) := by decide +kernel
theorem dX9_about_98 : decode cX9_about 98 = .ok (.imul, 1) := by decide +kernel
theorem dX9_about_99 : decode cX9_about 99 = .ok (.iaload, 1) := by decide +kernel
theorem dX9_about_100 : decode cX9_about 100 = .ok (.aload_n 0, 1) := by decide +kernel
theorem dX9_about_101 : decode cX9_about 101 = .ok (.getfield 22, 3) := by decide +kernel
theorem dX9_about_104 : decode cX9_about 104 = .ok (.iconst 3, 1) := by decide +kernel
theorem dX9_about_105 : decode cX9_about 105 = .ok (.iload_n 1, 1) := by decide +kernel
theorem dX9_about_106 : decode cX9_about 106 = .ok (.imul, 1) := by decide +kernel
theorem dX9_about_107 : decode cX9_about 107 = .ok (.iconst 1, 1) := by decide +kernel
theorem dX9_about_108 : decode cX9_about 108 = .ok (.iadd, 1) := by decide +kernel
theorem dX9_about_109 : decode cX9_about 109 = .ok (.iaload, 1) := by decide +kernel
theorem dX9_about_110 : decode cX9_about 110 = .ok (.iadd, 1) := by decide +kernel
theorem dX9_about_111 : decode cX9_about 111 = .ok (.aload_n 0, 1) := by decide +kernel
theorem dX9_about_112 : decode cX9_about 112 = .ok (.getfield 22, 3) := by decide +kernel
theorem dX9_about_115 : decode cX9_about 115 = .ok (.iconst 3, 1) := by decide +kernel
theorem dX9_about_116 : decode cX9_about 116 = .ok (.iload_n 1, 1) := by decide +kernel
theorem dX9_about_117 : decode cX9_about 117 = .ok (.imul, 1) := by decide +kernel
theorem dX9_about_118 : decode cX9_about 118 = .ok (.iconst 2, 1) := by decide +kernel
theorem dX9_about_119 : decode cX9_about 119 = .ok (.iadd, 1) := by decide +kernel
theorem dX9_about_120 : decode cX9_about 120 = .ok (.iaload, 1) := by decide +kernel
theorem dX9_about_121 : decode cX9_about 121 = .ok (.iadd, 1) := by decide +kernel
theorem dX9_about_122 : decode cX9_about 122 = .ok (.ireturn, 1) := by decide +kernel
theorem dX9_isText_0 : decode cX9_isText 0 = .ok (.aload_n 0, 1) := by decide +kernel
theorem dX9_isText_1 : decode cX9_isText 1 = .ok (.iconst 0, 1) := by decide +kernel
theorem dX9_isText_2 : decode cX9_isText 2 = .ok (.putfield 105, 3) := by decide +kernel
theorem dX9_isText_5 : decode cX9_isText 5 = .ok (.aload_n 0, 1) := by decide +kernel
theorem dX9_isText_6 : decode cX9_isText 6 = .ok (.iload_n 1, 1) := by decide +kernel
theorem dX9_isText_7 : decode cX9_isText 7 = .ok (.ifCond .lt 13, 3) := by decide +kernel
theorem dX9_isText_10 : decode cX9_isText 10 = .ok (.iload_n 1, 1) := by decide +kernel
theorem dX9_isText_11 : decode cX9_isText 11 = .ok (.bipush 8, 2) := by decide +kernel
theorem dX9_isText_13 : decode cX9_isText 13 = .ok (.if_icmp .ge 7, 3) := by decide +kernel
theorem dX9_isText_16 : decode cX9_isText 16 = .ok (.iconst 1, 1) := by decide +kernel
theorem dX9_isText_17 : decode cX9_isText 17 = .ok (.goto 4, 3) := by decide +kernel
theorem dX9_isText_20 : decode cX9_isText 20 = .ok (.iconst 0, 1) := by decide +kernel
theorem dX9_isText_21 : decode cX9_isText 21 = .ok (.iconst 1, 1) := by decide +kernel
theorem dX9_isText_22 : decode cX9_isText 22 = .ok (.invokevirtual 123, 3) := by decide +kernel
theorem dX9_isText_25 : decode cX9_isText 25 = .ok (.ireturn, 1) := by decide +kernel
theorem dX9_write_0 : decode cX9_write 0 = .ok (.aload_n 0, 1) := by decide +kernel
theorem dX9_write_1 : decode cX9_write 1 = .ok (.iload_n 1, 1) := by decide +kernel
theorem dX9_write_2 : decode cX9_write 2 = .ok (.invokevirtual 133, 3) := by decide +kernel
theorem dX9_write_5 : decode cX9_write 5 = .ok (.ifCond .ne 5, 3) := by decide +kernel
theorem dX9_write_8 : decode cX9_write 8 = .ok (.iconst 0, 1) := by decide +kernel
theorem dX9_write_9 : decode cX9_write 9 = .ok (.ireturn, 1) := by decide +kernel
theorem dX9_write_10 : decode cX9_write 10 = .ok (.aload_n 0, 1) := by decide +kernel
theorem dX9_write_11 : decode cX9_write 11 = .ok (.getfield 57, 3) := by decide +kernel
theorem dX9_write_14 : decode cX9_write 14 = .ok (.iload_n 1, 1) := by decide +kernel
theorem dX9_write_15 : decode cX9_write 15 = .ok (.iaload, 1) := by decide +kernel
theorem dX9_write_16 : decode cX9_write 16 = .ok (.bipush 20, 2) := by decide +kernel
theorem dX9_write_18 : decode cX9_write 18 = .ok (.iadd, 1) := by decide +kernel
theorem dX9_write_19 : decode cX9_write 19 = .ok (.sipush 600, 3) := by decide +kernel
theorem dX9_write_22 : decode cX9_write 22 = .ok (.if_icmp .le 5, 3) := by decide +kernel
theorem dX9_write_25 : decode cX9_write 25 = .ok (.iconst (-1), 1) := by decide +kernel
theorem dX9_write_26 : decode cX9_write 26 = .ok (.ireturn, 1) := by decide +kernel
theorem dX9_write_27 : decode cX9_write 27 = .ok (.aload_n 0, 1) := by decide +kernel
theorem dX9_write_28 : decode cX9_write 28 = .ok (.iload_n 1, 1) := by decide +kernel
theorem dX9_write_29 : decode cX9_write 29 = .ok (.iload_n 2, 1) := by decide +kernel
theorem dX9_write_30 : decode cX9_write 30 = .ok (.invokevirtual 136, 3) := by decide +kernel
theorem dX9_write_33 : decode cX9_write 33 = .ok (.aload_n 0, 1) := by decide +kernel
theorem dX9_write_34 : decode cX9_write 34 = .ok (.iload_n 1, 1) := by decide +kernel
theorem dX9_write_35 : decode cX9_write 35 = .ok (.iload_n 3, 1) := by decide +kernel
theorem dX9_write_36 : decode cX9_write 36 = .ok (.invokevirtual 136, 3) := by decide +kernel
theorem dX9_write_39 : decode cX9_write 39 = .ok (.aload_n 0, 1) := by decide +kernel
theorem dX9_write_40 : decode cX9_write 40 = .ok (.iload_n 1, 1) := by decide +kernel
theorem dX9_write_41 : decode cX9_write 41 = .ok (.iload 4, 2) := by decide +kernel
theorem dX9_write_43 : decode cX9_write 43 = .ok (.invokevirtual 136, 3) := by decide +kernel
theorem dX9_write_46 : decode cX9_write 46 = .ok (.aload_n 0, 1) := by decide +kernel
theorem dX9_write_47 : decode cX9_write 47 = .ok (.iload_n 1, 1) := by decide +kernel
theorem dX9_write_48 : decode cX9_write 48 = .ok (.iload 5, 2) := by decide +kernel
theorem dX9_write_50 : decode cX9_write 50 = .ok (.invokevirtual 136, 3) := by decide +kernel
theorem dX9_write_53 : decode cX9_write 53 = .ok (.aload_n 0, 1) := by decide +kernel
theorem dX9_write_54 : decode cX9_write 54 = .ok (.iload_n 1, 1) := by decide +kernel
theorem dX9_write_55 : decode cX9_write 55 = .ok (.iload 6, 2) := by decide +kernel
theorem dX9_write_57 : decode cX9_write 57 = .ok (.invokevirtual 136, 3) := by decide +kernel
theorem dX9_write_60 : decode cX9_write 60 = .ok (.aload_n 0, 1) := by decide +kernel
theorem dX9_write_61 : decode cX9_write 61 = .ok (.getfield 57, 3) := by decide +kernel
theorem dX9_write_64 : decode cX9_write 64 = .ok (.iload_n 1, 1) := by decide +kernel
theorem dX9_write_65 : decode cX9_write 65 = .ok (.iaload, 1) := by decide +kernel
theorem dX9_write_66 : decode cX9_write 66 = .ok (.ireturn, 1) := by decide +kernel
theorem dX9_lays_0 : decode cX9_lays 0 = .ok (.bipush 24, 2) := by decide +kernel
theorem dX9_lays_2 : decode cX9_lays 2 = .ok (.istore_n 3, 1) := by decide +kernel
theorem dX9_lays_3 : decode cX9_lays 3 = .ok (.iload_n 3, 1) := by decide +kernel
theorem dX9_lays_4 : decode cX9_lays 4 = .ok (.ifCond .lt 43, 3) := by decide +kernel
theorem dX9_lays_7 : decode cX9_lays 7 = .ok (.aload_n 0, 1) := by decide +kernel
theorem dX9_lays_8 : decode cX9_lays 8 = .ok (.getfield 54, 3) := by decide +kernel
theorem dX9_lays_11 : decode cX9_lays 11 = .ok (.sipush 600, 3) := by decide +kernel
theorem dX9_lays_14 : decode cX9_lays 14 = .ok (.iload_n 1, 1) := by decide +kernel
theorem dX9_lays_15 : decode cX9_lays 15 = .ok (.imul, 1) := by decide +kernel
theorem dX9_lays_16 : decode cX9_lays 16 = .ok (.aload_n 0, 1) := by decide +kernel
theorem dX9_lays_17 : decode cX9_lays 17 = .ok (.getfield 57, 3) := by decide +kernel
theorem dX9_lays_20 : decode cX9_lays 20 = .ok (.iload_n 1, 1) := by decide +kernel
theorem dX9_lays_21 : decode cX9_lays 21 = .ok (.iaload, 1) := by decide +kernel
theorem dX9_lays_22 : decode cX9_lays 22 = .ok (.iadd, 1) := by decide +kernel
theorem dX9_lays_23 : decode cX9_lays 23 = .ok (.iload_n 2, 1) := by decide +kernel
theorem dX9_lays_24 : decode cX9_lays 24 = .ok (.iload_n 3, 1) := by decide +kernel
theorem dX9_lays_25 : decode cX9_lays 25 = .ok (.ishr, 1) := by decide +kernel
theorem dX9_lays_26 : decode cX9_lays 26 = .ok (.sipush 255, 3) := by decide +kernel
theorem dX9_lays_29 : decode cX9_lays 29 = .ok (.iand, 1) := by decide +kernel
theorem dX9_lays_30 : decode cX9_lays 30 = .ok (.iastore, 1) := by decide +kernel
theorem dX9_lays_31 : decode cX9_lays 31 = .ok (.aload_n 0, 1) := by decide +kernel
theorem dX9_lays_32 : decode cX9_lays 32 = .ok (.getfield 57, 3) := by decide +kernel
theorem dX9_lays_35 : decode cX9_lays 35 = .ok (.iload_n 1, 1) := by decide +kernel
theorem dX9_lays_36 : decode cX9_lays 36 = .ok (.dup2, 1) := by decide +kernel
theorem dX9_lays_37 : decode cX9_lays 37 = .ok (.iaload, 1) := by decide +kernel
theorem dX9_lays_38 : decode cX9_lays 38 = .ok (.iconst 1, 1) := by decide +kernel
theorem dX9_lays_39 : decode cX9_lays 39 = .ok (.iadd, 1) := by decide +kernel
theorem dX9_lays_40 : decode cX9_lays 40 = .ok (.iastore, 1) := by decide +kernel
theorem dX9_lays_41 : decode cX9_lays 41 = .ok (.iinc 3 (-8), 3) := by decide +kernel
theorem dX9_lays_44 : decode cX9_lays 44 = .ok (.goto (-41), 3) := by decide +kernel
theorem dX9_lays_47 : decode cX9_lays 47 = .ok (.return_, 1) := by decide +kernel
theorem dX9_cut_0 : decode cX9_cut 0 = .ok (.aload_n 0, 1) := by decide +kernel
theorem dX9_cut_1 : decode cX9_cut 1 = .ok (.iload_n 1, 1) := by decide +kernel
theorem dX9_cut_2 : decode cX9_cut 2 = .ok (.invokevirtual 133, 3) := by decide +kernel
theorem dX9_cut_5 : decode cX9_cut 5 = .ok (.ifCond .ne 5, 3) := by decide +kernel
theorem dX9_cut_8 : decode cX9_cut 8 = .ok (.iconst 0, 1) := by decide +kernel
theorem dX9_cut_9 : decode cX9_cut 9 = .ok (.ireturn, 1) := by decide +kernel
theorem dX9_cut_10 : decode cX9_cut 10 = .ok (.iload_n 2, 1) := by decide +kernel
theorem dX9_cut_11 : decode cX9_cut 11 = .ok (.ifCond .lt 13, 3) := by decide +kernel
theorem dX9_cut_14 : decode cX9_cut 14 = .ok (.iload_n 2, 1) := by decide +kernel
theorem dX9_cut_15 : decode cX9_cut 15 = .ok (.aload_n 0, 1) := by decide +kernel
theorem dX9_cut_16 : decode cX9_cut 16 = .ok (.getfield 57, 3) := by decide +kernel
theorem dX9_cut_19 : decode cX9_cut 19 = .ok (.iload_n 1, 1) := by decide +kernel
theorem dX9_cut_20 : decode cX9_cut 20 = .ok (.iaload, 1) := by decide +kernel
theorem dX9_cut_21 : decode cX9_cut 21 = .ok (.if_icmp .le 5, 3) := by decide +kernel
theorem dX9_cut_24 : decode cX9_cut 24 = .ok (.iconst (-1), 1) := by decide +kernel
theorem dX9_cut_25 : decode cX9_cut 25 = .ok (.ireturn, 1) := by decide +kernel
theorem dX9_cut_26 : decode cX9_cut 26 = .ok (.aload_n 0, 1) := by decide +kernel
theorem dX9_cut_27 : decode cX9_cut 27 = .ok (.getfield 57, 3) := by decide +kernel
theorem dX9_cut_30 : decode cX9_cut 30 = .ok (.iload_n 1, 1) := by decide +kernel
theorem dX9_cut_31 : decode cX9_cut 31 = .ok (.iaload, 1) := by decide +kernel
theorem dX9_cut_32 : decode cX9_cut 32 = .ok (.iload_n 2, 1) := by decide +kernel
theorem dX9_cut_33 : decode cX9_cut 33 = .ok (.isub, 1) := by decide +kernel
theorem dX9_cut_34 : decode cX9_cut 34 = .ok (.istore_n 3, 1) := by decide +kernel
theorem dX9_cut_35 : decode cX9_cut 35 = .ok (.aload_n 0, 1) := by decide +kernel
theorem dX9_cut_36 : decode cX9_cut 36 = .ok (.getfield 57, 3) := by decide +kernel
theorem dX9_cut_39 : decode cX9_cut 39 = .ok (.iload_n 1, 1) := by decide +kernel
theorem dX9_cut_40 : decode cX9_cut 40 = .ok (.iload_n 2, 1) := by decide +kernel
theorem dX9_cut_41 : decode cX9_cut 41 = .ok (.iastore, 1) := by decide +kernel
theorem dX9_cut_42 : decode cX9_cut 42 = .ok (.iload_n 3, 1) := by decide +kernel
theorem dX9_cut_43 : decode cX9_cut 43 = .ok (.ireturn, 1) := by decide +kernel
theorem dX9_byteAt_0 : decode cX9_byteAt 0 = .ok (.aload_n 0, 1) := by decide +kernel
theorem dX9_byteAt_1 : decode cX9_byteAt 1 = .ok (.iload_n 1, 1) := by decide +kernel
theorem dX9_byteAt_2 : decode cX9_byteAt 2 = .ok (.invokevirtual 133, 3) := by decide +kernel
theorem dX9_byteAt_5 : decode cX9_byteAt 5 = .ok (.ifCond .eq 31, 3) := by decide +kernel
theorem dX9_byteAt_8 : decode cX9_byteAt 8 = .ok (.aload_n 0, 1) := by decide +kernel
theorem dX9_byteAt_9 : decode cX9_byteAt 9 = .ok (.iload_n 2, 1) := by decide +kernel
theorem dX9_byteAt_10 : decode cX9_byteAt 10 = .ok (.iconst (-1), 1) := by decide +kernel
theorem dX9_byteAt_11 : decode cX9_byteAt 11 = .ok (.if_icmp .lt 17, 3) := by decide +kernel
theorem dX9_byteAt_14 : decode cX9_byteAt 14 = .ok (.iload_n 2, 1) := by decide +kernel
theorem dX9_byteAt_15 : decode cX9_byteAt 15 = .ok (.aload_n 0, 1) := by decide +kernel
theorem dX9_byteAt_16 : decode cX9_byteAt 16 = .ok (.getfield 57, 3) := by decide +kernel
theorem dX9_byteAt_19 : decode cX9_byteAt 19 = .ok (.iload_n 1, 1) := by decide +kernel
theorem dX9_byteAt_20 : decode cX9_byteAt 20 = .ok (.iaload, 1) := by decide +kernel
theorem dX9_byteAt_21 : decode cX9_byteAt 21 = .ok (.if_icmp .ge 7, 3) := by decide +kernel
theorem dX9_byteAt_24 : decode cX9_byteAt 24 = .ok (.iconst 1, 1) := by decide +kernel
theorem dX9_byteAt_25 : decode cX9_byteAt 25 = .ok (.goto 4, 3) := by decide +kernel
theorem dX9_byteAt_28 : decode cX9_byteAt 28 = .ok (.iconst 0, 1) := by decide +kernel
theorem dX9_byteAt_29 : decode cX9_byteAt 29 = .ok (.iconst 2, 1) := by decide +kernel
theorem dX9_byteAt_30 : decode cX9_byteAt 30 = .ok (.invokevirtual 123, 3) := by decide +kernel
theorem dX9_byteAt_33 : decode cX9_byteAt 33 = .ok (.ifCond .ne 5, 3) := by decide +kernel
theorem dX9_byteAt_36 : decode cX9_byteAt 36 = .ok (.iconst 0, 1) := by decide +kernel
theorem dX9_byteAt_37 : decode cX9_byteAt 37 = .ok (.ireturn, 1) := by decide +kernel
theorem dX9_byteAt_38 : decode cX9_byteAt 38 = .ok (.iload_n 2, 1) := by decide +kernel
theorem dX9_byteAt_39 : decode cX9_byteAt 39 = .ok (.iconst (-1), 1) := by decide +kernel
theorem dX9_byteAt_40 : decode cX9_byteAt 40 = .ok (.if_icmp .ne 12, 3) := by decide +kernel
theorem dX9_byteAt_43 : decode cX9_byteAt 43 = .ok (.aload_n 0, 1) := by decide +kernel
theorem dX9_byteAt_44 : decode cX9_byteAt 44 = .ok (.getfield 57, 3) := by decide +kernel
theorem dX9_byteAt_47 : decode cX9_byteAt 47 = .ok (.iload_n 1, 1) := by decide +kernel
theorem dX9_byteAt_48 : decode cX9_byteAt 48 = .ok (.iaload, 1) := by decide +kernel
theorem dX9_byteAt_49 : decode cX9_byteAt 49 = .ok (.goto 15, 3) := by decide +kernel
theorem dX9_byteAt_52 : decode cX9_byteAt 52 = .ok (.aload_n 0, 1) := by decide +kernel
theorem dX9_byteAt_53 : decode cX9_byteAt 53 = .ok (.getfield 54, 3) := by decide +kernel
theorem dX9_byteAt_56 : decode cX9_byteAt 56 = .ok (.sipush 600, 3) := by decide +kernel
theorem dX9_byteAt_59 : decode cX9_byteAt 59 = .ok (.iload_n 1, 1) := by decide +kernel
theorem dX9_byteAt_60 : decode cX9_byteAt 60 = .ok (.imul, 1) := by decide +kernel
theorem dX9_byteAt_61 : decode cX9_byteAt 61 = .ok (.iload_n 2, 1) := by decide +kernel
theorem dX9_byteAt_62 : decode cX9_byteAt 62 = .ok (.iadd, 1) := by decide +kernel
theorem dX9_byteAt_63 : decode cX9_byteAt 63 = .ok (.iaload, 1) := by decide +kernel
theorem dX9_byteAt_64 : decode cX9_byteAt 64 = .ok (.ireturn, 1) := by decide +kernel
theorem dX9_isGreat_0 : decode cX9_isGreat 0 = .ok (.iload_n 0, 1) := by decide +kernel
theorem dX9_isGreat_1 : decode cX9_isGreat 1 = .ok (.bipush 65, 2) := by decide +kernel
theorem dX9_isGreat_3 : decode cX9_isGreat 3 = .ok (.if_icmp .lt 13, 3) := by decide +kernel
theorem dX9_isGreat_6 : decode cX9_isGreat 6 = .ok (.iload_n 0, 1) := by decide +kernel
theorem dX9_isGreat_7 : decode cX9_isGreat 7 = .ok (.bipush 90, 2) := by decide +kernel
theorem dX9_isGreat_9 : decode cX9_isGreat 9 = .ok (.if_icmp .gt 7, 3) := by decide +kernel
theorem dX9_isGreat_12 : decode cX9_isGreat 12 = .ok (.iconst 1, 1) := by decide +kernel
theorem dX9_isGreat_13 : decode cX9_isGreat 13 = .ok (.goto 4, 3) := by decide +kernel
theorem dX9_isGreat_16 : decode cX9_isGreat 16 = .ok (.iconst 0, 1) := by decide +kernel
theorem dX9_isGreat_17 : decode cX9_isGreat 17 = .ok (.ireturn, 1) := by decide +kernel
theorem dX9_letterOf_0 : decode cX9_letterOf 0 = .ok (.iload_n 0, 1) := by decide +kernel
theorem dX9_letterOf_1 : decode cX9_letterOf 1 = .ok (.bipush 97, 2) := by decide +kernel
theorem dX9_letterOf_3 : decode cX9_letterOf 3 = .ok (.if_icmp .lt 18, 3) := by decide +kernel
theorem dX9_letterOf_6 : decode cX9_letterOf 6 = .ok (.iload_n 0, 1) := by decide +kernel
theorem dX9_letterOf_7 : decode cX9_letterOf 7 = .ok (.bipush 122, 2) := by decide +kernel
theorem dX9_letterOf_9 : decode cX9_letterOf 9 = .ok (.if_icmp .gt 12, 3) := by decide +kernel
theorem dX9_letterOf_12 : decode cX9_letterOf 12 = .ok (.iload_n 0, 1) := by decide +kernel
theorem dX9_letterOf_13 : decode cX9_letterOf 13 = .ok (.bipush 97, 2) := by decide +kernel
theorem dX9_letterOf_15 : decode cX9_letterOf 15 = .ok (.isub, 1) := by decide +kernel
theorem dX9_letterOf_16 : decode cX9_letterOf 16 = .ok (.iconst 1, 1) := by decide +kernel
theorem dX9_letterOf_17 : decode cX9_letterOf 17 = .ok (.iadd, 1) := by decide +kernel
theorem dX9_letterOf_18 : decode cX9_letterOf 18 = .ok (.goto 20, 3) := by decide +kernel
theorem dX9_letterOf_21 : decode cX9_letterOf 21 = .ok (.iload_n 0, 1) := by decide +kernel
theorem dX9_letterOf_22 : decode cX9_letterOf 22 = .ok (.invokestatic 140, 3) := by decide +kernel
theorem dX9_letterOf_25 : decode cX9_letterOf 25 = .ok (.ifCond .eq 12, 3) := by decide +kernel
theorem dX9_letterOf_28 : decode cX9_letterOf 28 = .ok (.iload_n 0, 1) := by decide +kernel
theorem dX9_letterOf_29 : decode cX9_letterOf 29 = .ok (.bipush 65, 2) := by decide +kernel
theorem dX9_letterOf_31 : decode cX9_letterOf 31 = .ok (.isub, 1) := by decide +kernel
theorem dX9_letterOf_32 : decode cX9_letterOf 32 = .ok (.iconst 1, 1) := by decide +kernel
theorem dX9_letterOf_33 : decode cX9_letterOf 33 = .ok (.iadd, 1) := by decide +kernel
theorem dX9_letterOf_34 : decode cX9_letterOf 34 = .ok (.goto 4, 3) := by decide +kernel
theorem dX9_letterOf_37 : decode cX9_letterOf 37 = .ok (.iconst 0, 1) := by decide +kernel
theorem dX9_letterOf_38 : decode cX9_letterOf 38 = .ok (.ireturn, 1) := by decide +kernel
theorem dX9_at_0 : decode cX9_at 0 = .ok (.aload_n 0, 1) := by decide +kernel
theorem dX9_at_1 : decode cX9_at 1 = .ok (.getfield 54, 3) := by decide +kernel
theorem dX9_at_4 : decode cX9_at 4 = .ok (.sipush 600, 3) := by decide +kernel
theorem dX9_at_7 : decode cX9_at 7 = .ok (.iload_n 1, 1) := by decide +kernel
theorem dX9_at_8 : decode cX9_at 8 = .ok (.imul, 1) := by decide +kernel
theorem dX9_at_9 : decode cX9_at 9 = .ok (.iload_n 2, 1) := by decide +kernel
theorem dX9_at_10 : decode cX9_at 10 = .ok (.iadd, 1) := by decide +kernel
theorem dX9_at_11 : decode cX9_at 11 = .ok (.iaload, 1) := by decide +kernel
theorem dX9_at_12 : decode cX9_at 12 = .ok (.ireturn, 1) := by decide +kernel
theorem dX9_finds_0 : decode cX9_finds 0 = .ok (.aload_n 0, 1) := by decide +kernel
theorem dX9_finds_1 : decode cX9_finds 1 = .ok (.iconst 0, 1) := by decide +kernel
theorem dX9_finds_2 : decode cX9_finds 2 = .ok (.putfield 143, 3) := by decide +kernel
theorem dX9_finds_5 : decode cX9_finds 5 = .ok (.iconst 0, 1) := by decide +kernel
theorem dX9_finds_6 : decode cX9_finds 6 = .ok (.istore_n 2, 1) := by decide +kernel
theorem dX9_finds_7 : decode cX9_finds 7 = .ok (.iconst 0, 1) := by decide +kernel
theorem dX9_finds_8 : decode cX9_finds 8 = .ok (.istore_n 3, 1) := by decide +kernel
theorem dX9_finds_9 : decode cX9_finds 9 = .ok (.iload_n 3, 1) := by decide +kernel
theorem dX9_finds_10 : decode cX9_finds 10 = .ok (.aload_n 0, 1) := by decide +kernel
theorem dX9_finds_11 : decode cX9_finds 11 = .ok (.getfield 57, 3) := by decide +kernel
theorem dX9_finds_14 : decode cX9_finds 14 = .ok (.iload_n 1, 1) := by decide +kernel
theorem dX9_finds_15 : decode cX9_finds 15 = .ok (.iaload, 1) := by decide +kernel
theorem dX9_finds_16 : decode cX9_finds 16 = .ok (.if_icmp .ge 127, 3) := by decide +kernel
theorem dX9_finds_19 : decode cX9_finds 19 = .ok (.aload_n 0, 1) := by decide +kernel
theorem dX9_finds_20 : decode cX9_finds 20 = .ok (.iload_n 1, 1) := by decide +kernel
theorem dX9_finds_21 : decode cX9_finds 21 = .ok (.iload_n 3, 1) := by decide +kernel
theorem dX9_finds_22 : decode cX9_finds 22 = .ok (.invokevirtual 146, 3) := by decide +kernel
theorem dX9_finds_25 : decode cX9_finds 25 = .ok (.istore 4, 2) := by decide +kernel
theorem dX9_finds_27 : decode cX9_finds 27 = .ok (.iload 4, 2) := by decide +kernel
theorem dX9_finds_29 : decode cX9_finds 29 = .ok (.invokestatic 150, 3) := by decide +kernel
theorem dX9_finds_32 : decode cX9_finds 32 = .ok (.ifCond .ne 40, 3) := by decide +kernel
theorem dX9_finds_35 : decode cX9_finds 35 = .ok (.iload 4, 2) := by decide +kernel
theorem dX9_finds_37 : decode cX9_finds 37 = .ok (.bipush 46, 2) := by decide +kernel
theorem dX9_finds_39 : decode cX9_finds 39 = .ok (.if_icmp .eq 24, 3) := by decide +kernel
theorem dX9_finds_42 : decode cX9_finds 42 = .ok (.iload 4, 2) := by decide +kernel
theorem dX9_finds_44 : decode cX9_finds 44 = .ok (.bipush 33, 2) := by decide +kernel
theorem dX9_finds_46 : decode cX9_finds 46 = .ok (.if_icmp .eq 17, 3) := by decide +kernel
theorem dX9_finds_49 : decode cX9_finds 49 = .ok (.iload 4, 2) := by decide +kernel
theorem dX9_finds_51 : decode cX9_finds 51 = .ok (.bipush 63, 2) := by decide +kernel
theorem dX9_finds_53 : decode cX9_finds 53 = .ok (.if_icmp .eq 10, 3) := by decide +kernel
theorem dX9_finds_56 : decode cX9_finds 56 = .ok (.iload 4, 2) := by decide +kernel
theorem dX9_finds_58 : decode cX9_finds 58 = .ok (.bipush 59, 2) := by decide +kernel
theorem dX9_finds_60 : decode cX9_finds 60 = .ok (.if_icmp .ne 6, 3) := by decide +kernel
theorem dX9_finds_63 : decode cX9_finds 63 = .ok (.iinc 2 1, 3) := by decide +kernel
theorem dX9_finds_66 : decode cX9_finds 66 = .ok (.iinc 3 1, 3) := by decide +kernel
theorem dX9_finds_69 : decode cX9_finds 69 = .ok (.goto (-60), 3) := by decide +kernel
theorem dX9_finds_72 : decode cX9_finds 72 = .ok (.aload_n 0, 1) := by decide +kernel
theorem dX9_finds_73 : decode cX9_finds 73 = .ok (.getfield 60, 3) := by decide +kernel
theorem dX9_finds_76 : decode cX9_finds 76 = .ok (.aload_n 0, 1) := by decide +kernel
theorem dX9_finds_77 : decode cX9_finds 77 = .ok (.getfield 143, 3) := by decide +kernel
theorem dX9_finds_80 : decode cX9_finds 80 = .ok (.iload_n 3, 1) := by decide +kernel
theorem dX9_finds_81 : decode cX9_finds 81 = .ok (.iastore, 1) := by decide +kernel
theorem dX9_finds_82 : decode cX9_finds 82 = .ok (.iload_n 3, 1) := by decide +kernel
theorem dX9_finds_83 : decode cX9_finds 83 = .ok (.aload_n 0, 1) := by decide +kernel
theorem dX9_finds_84 : decode cX9_finds 84 = .ok (.getfield 57, 3) := by decide +kernel
theorem dX9_finds_87 : decode cX9_finds 87 = .ok (.iload_n 1, 1) := by decide +kernel
theorem dX9_finds_88 : decode cX9_finds 88 = .ok (.iaload, 1) := by decide +kernel
theorem dX9_finds_89 : decode cX9_finds 89 = .ok (.if_icmp .ge 21, 3) := by decide +kernel
theorem dX9_finds_92 : decode cX9_finds 92 = .ok (.aload_n 0, 1) := by decide +kernel
theorem dX9_finds_93 : decode cX9_finds 93 = .ok (.iload_n 1, 1) := by decide +kernel
theorem dX9_finds_94 : decode cX9_finds 94 = .ok (.iload_n 3, 1) := by decide +kernel
theorem dX9_finds_95 : decode cX9_finds 95 = .ok (.invokevirtual 146, 3) := by decide +kernel
theorem dX9_finds_98 : decode cX9_finds 98 = .ok (.invokestatic 150, 3) := by decide +kernel
theorem dX9_finds_101 : decode cX9_finds 101 = .ok (.ifCond .le 9, 3) := by decide +kernel
theorem dX9_finds_104 : decode cX9_finds 104 = .ok (.iinc 3 1, 3) := by decide +kernel
theorem dX9_finds_107 : decode cX9_finds 107 = .ok (.goto (-25), 3) := by decide +kernel
theorem dX9_finds_110 : decode cX9_finds 110 = .ok (.aload_n 0, 1) := by decide +kernel
theorem dX9_finds_111 : decode cX9_finds 111 = .ok (.getfield 63, 3) := by decide +kernel
theorem dX9_finds_114 : decode cX9_finds 114 = .ok (.aload_n 0, 1) := by decide +kernel
theorem dX9_finds_115 : decode cX9_finds 115 = .ok (.getfield 143, 3) := by decide +kernel
theorem dX9_finds_118 : decode cX9_finds 118 = .ok (.iload_n 3, 1) := by decide +kernel
theorem dX9_finds_119 : decode cX9_finds 119 = .ok (.iastore, 1) := by decide +kernel
theorem dX9_finds_120 : decode cX9_finds 120 = .ok (.aload_n 0, 1) := by decide +kernel
theorem dX9_finds_121 : decode cX9_finds 121 = .ok (.getfield 66, 3) := by decide +kernel
theorem dX9_finds_124 : decode cX9_finds 124 = .ok (.aload_n 0, 1) := by decide +kernel
theorem dX9_finds_125 : decode cX9_finds 125 = .ok (.getfield 143, 3) := by decide +kernel
theorem dX9_finds_128 : decode cX9_finds 128 = .ok (.iload_n 2, 1) := by decide +kernel
theorem dX9_finds_129 : decode cX9_finds 129 = .ok (.iastore, 1) := by decide +kernel
theorem dX9_finds_130 : decode cX9_finds 130 = .ok (.aload_n 0, 1) := by decide +kernel
theorem dX9_finds_131 : decode cX9_finds 131 = .ok (.dup, 1) := by decide +kernel
theorem dX9_finds_132 : decode cX9_finds 132 = .ok (.getfield 143, 3) := by decide +kernel
theorem dX9_finds_135 : decode cX9_finds 135 = .ok (.iconst 1, 1) := by decide +kernel
theorem dX9_finds_136 : decode cX9_finds 136 = .ok (.iadd, 1) := by decide +kernel
theorem dX9_finds_137 : decode cX9_finds 137 = .ok (.putfield 143, 3) := by decide +kernel
theorem dX9_finds_140 : decode cX9_finds 140 = .ok (.goto (-131), 3) := by decide +kernel
theorem dX9_finds_143 : decode cX9_finds 143 = .ok (.return_, 1) := by decide +kernel
theorem dX9_isTogether_0 : decode cX9_isTogether 0 = .ok (.iload_n 2, 1) := by decide +kernel
theorem dX9_isTogether_1 : decode cX9_isTogether 1 = .ok (.iconst 1, 1) := by decide +kernel
theorem dX9_isTogether_2 : decode cX9_isTogether 2 = .ok (.iadd, 1) := by decide +kernel
theorem dX9_isTogether_3 : decode cX9_isTogether 3 = .ok (.aload_n 0, 1) := by decide +kernel
theorem dX9_isTogether_4 : decode cX9_isTogether 4 = .ok (.getfield 143, 3) := by decide +kernel
theorem dX9_isTogether_7 : decode cX9_isTogether 7 = .ok (.if_icmp .ge 58, 3) := by decide +kernel
theorem dX9_isTogether_10 : decode cX9_isTogether 10 = .ok (.aload_n 0, 1) := by decide +kernel
theorem dX9_isTogether_11 : decode cX9_isTogether 11 = .ok (.getfield 60, 3) := by decide +kernel
theorem dX9_isTogether_14 : decode cX9_isTogether 14 = .ok (.iload_n 2, 1) := by decide +kernel
theorem dX9_isTogether_15 : decode cX9_isTogether 15 = .ok (.iconst 1, 1) := by decide +kernel
theorem dX9_isTogether_16 : decode cX9_isTogether 16 = .ok (.iadd, 1) := by decide +kernel
theorem dX9_isTogether_17 : decode cX9_isTogether 17 = .ok (.iaload, 1) := by decide +kernel
theorem dX9_isTogether_18 : decode cX9_isTogether 18 = .ok (.aload_n 0, 1) := by decide +kernel
theorem dX9_isTogether_19 : decode cX9_isTogether 19 = .ok (.getfield 63, 3) := by decide +kernel
theorem dX9_isTogether_22 : decode cX9_isTogether 22 = .ok (.iload_n 2, 1) := by decide +kernel
theorem dX9_isTogether_23 : decode cX9_isTogether 23 = .ok (.iaload, 1) := by decide +kernel
theorem dX9_isTogether_24 : decode cX9_isTogether 24 = .ok (.iconst 1, 1) := by decide +kernel
theorem dX9_isTogether_25 : decode cX9_isTogether 25 = .ok (.iadd, 1) := by decide +kernel
theorem dX9_isTogether_26 : decode cX9_isTogether 26 = .ok (.if_icmp .ne 39, 3) := by decide +kernel
theorem dX9_isTogether_29 : decode cX9_isTogether 29 = .ok (.aload_n 0, 1) := by decide +kernel
theorem dX9_isTogether_30 : decode cX9_isTogether 30 = .ok (.iload_n 1, 1) := by decide +kernel
theorem dX9_isTogether_31 : decode cX9_isTogether 31 = .ok (.aload_n 0, 1) := by decide +kernel
theorem dX9_isTogether_32 : decode cX9_isTogether 32 = .ok (.getfield 63, 3) := by decide +kernel
theorem dX9_isTogether_35 : decode cX9_isTogether 35 = .ok (.iload_n 2, 1) := by decide +kernel
theorem dX9_isTogether_36 : decode cX9_isTogether 36 = .ok (.iaload, 1) := by decide +kernel
theorem dX9_isTogether_37 : decode cX9_isTogether 37 = .ok (.invokevirtual 146, 3) := by decide +kernel
theorem dX9_isTogether_40 : decode cX9_isTogether 40 = .ok (.bipush 32, 2) := by decide +kernel
theorem dX9_isTogether_42 : decode cX9_isTogether 42 = .ok (.if_icmp .eq 19, 3) := by decide +kernel
theorem dX9_isTogether_45 : decode cX9_isTogether 45 = .ok (.aload_n 0, 1) := by decide +kernel
theorem dX9_isTogether_46 : decode cX9_isTogether 46 = .ok (.iload_n 1, 1) := by decide +kernel
theorem dX9_isTogether_47 : decode cX9_isTogether 47 = .ok (.aload_n 0, 1) := by decide +kernel
theorem dX9_isTogether_48 : decode cX9_isTogether 48 = .ok (.getfield 63, 3) := by decide +kernel
theorem dX9_isTogether_51 : decode cX9_isTogether 51 = .ok (.iload_n 2, 1) := by decide +kernel
theorem dX9_isTogether_52 : decode cX9_isTogether 52 = .ok (.iaload, 1) := by decide +kernel
theorem dX9_isTogether_53 : decode cX9_isTogether 53 = .ok (.invokevirtual 146, 3) := by decide +kernel
theorem dX9_isTogether_56 : decode cX9_isTogether 56 = .ok (.bipush 10, 2) := by decide +kernel
theorem dX9_isTogether_58 : decode cX9_isTogether 58 = .ok (.if_icmp .ne 7, 3) := by decide +kernel
theorem dX9_isTogether_61 : decode cX9_isTogether 61 = .ok (.iconst 1, 1) := by decide +kernel
theorem dX9_isTogether_62 : decode cX9_isTogether 62 = .ok (.goto 4, 3) := by decide +kernel
theorem dX9_isTogether_65 : decode cX9_isTogether 65 = .ok (.iconst 0, 1) := by decide +kernel
theorem dX9_isTogether_66 : decode cX9_isTogether 66 = .ok (.ireturn, 1) := by decide +kernel
theorem dX9_isForm_0 : decode cX9_isForm 0 = .ok (.iload_n 2, 1) := by decide +kernel
theorem dX9_isForm_1 : decode cX9_isForm 1 = .ok (.iconst (-1), 1) := by decide +kernel
theorem dX9_isForm_2 : decode cX9_isForm 2 = .ok (.if_icmp .ne 5, 3) := by decide +kernel
theorem dX9_isForm_5 : decode cX9_isForm 5 = .ok (.iconst 1, 1) := by decide +kernel
theorem dX9_isForm_6 : decode cX9_isForm 6 = .ok (.ireturn, 1) := by decide +kernel
theorem dX9_isForm_7 : decode cX9_isForm 7 = .ok (.iload_n 2, 1) := by decide +kernel
theorem dX9_isForm_8 : decode cX9_isForm 8 = .ok (.aload_n 0, 1) := by decide +kernel
theorem dX9_isForm_9 : decode cX9_isForm 9 = .ok (.getfield 116, 3) := by decide +kernel
theorem dX9_isForm_12 : decode cX9_isForm 12 = .ok (.if_icmp .ge 50, 3) := by decide +kernel
theorem dX9_isForm_15 : decode cX9_isForm 15 = .ok (.aload_n 0, 1) := by decide +kernel
theorem dX9_isForm_16 : decode cX9_isForm 16 = .ok (.getfield 34, 3) := by decide +kernel
theorem dX9_isForm_19 : decode cX9_isForm 19 = .ok (.iload_n 1, 1) := by decide +kernel
theorem dX9_isForm_20 : decode cX9_isForm 20 = .ok (.iaload, 1) := by decide +kernel
theorem dX9_isForm_21 : decode cX9_isForm 21 = .ok (.iload_n 2, 1) := by decide +kernel
theorem dX9_isForm_22 : decode cX9_isForm 22 = .ok (.ishr, 1) := by decide +kernel
theorem dX9_isForm_23 : decode cX9_isForm 23 = .ok (.iconst 1, 1) := by decide +kernel
theorem dX9_isForm_24 : decode cX9_isForm 24 = .ok (.iand, 1) := by decide +kernel
theorem dX9_isForm_25 : decode cX9_isForm 25 = .ok (.iconst 1, 1) := by decide +kernel
theorem dX9_isForm_26 : decode cX9_isForm 26 = .ok (.if_icmp .ne 36, 3) := by decide +kernel
theorem dX9_isForm_29 : decode cX9_isForm 29 = .ok (.aload_n 0, 1) := by decide +kernel
theorem dX9_isForm_30 : decode cX9_isForm 30 = .ok (.getfield 22, 3) := by decide +kernel
theorem dX9_isForm_33 : decode cX9_isForm 33 = .ok (.iconst 3, 1) := by decide +kernel
theorem dX9_isForm_34 : decode cX9_isForm 34 = .ok (.iload_n 1, 1) := by decide +kernel
theorem dX9_isForm_35 : decode cX9_isForm 35 = .ok (.imul, 1) := by decide +kernel
theorem dX9_isForm_36 : decode cX9_isForm 36 = .ok (.aload_n 0, 1) := by decide +kernel
theorem dX9_isForm_37 : decode cX9_isForm 37 = .ok (.getfield 25, 3) := by decide +kernel
theorem dX9_isForm_40 : decode cX9_isForm 40 = .ok (.iload_n 1, 1) := by decide +kernel
theorem dX9_isForm_41 : decode cX9_isForm 41 = .ok (.iaload, 1) := by decide +kernel
theorem dX9_isForm_42 : decode cX9_isForm 42 = .ok (.iadd, 1) := by decide +kernel
theorem dX9_isForm_43 : decode cX9_isForm 43 = .ok (.iconst 1, 1) := by decide +kernel
theorem dX9_isForm_44 : decode cX9_isForm 44 = .ok (.isub, 1) := by decide +kernel
theorem dX9_isForm_45 : decode cX9_isForm 45 = .ok (.iaload, 1) := by decide +kernel
theorem dX9_isForm_46 : decode cX9_isForm 46 = .ok (.aload_n 0, 1) := by decide +kernel
theorem dX9_isForm_47 : decode cX9_isForm 47 = .ok (.getfield 16, 3) := by decide +kernel
theorem dX9_isForm_50 : decode cX9_isForm 50 = .ok (.iload_n 2, 1) := by decide +kernel
theorem dX9_isForm_51 : decode cX9_isForm 51 = .ok (.iaload, 1) := by decide +kernel
theorem dX9_isForm_52 : decode cX9_isForm 52 = .ok (.iadd, 1) := by decide +kernel
theorem dX9_isForm_53 : decode cX9_isForm 53 = .ok (.bipush 16, 2) := by decide +kernel
theorem dX9_isForm_55 : decode cX9_isForm 55 = .ok (.if_icmp .gt 7, 3) := by decide +kernel
theorem dX9_isForm_58 : decode cX9_isForm 58 = .ok (.iconst 1, 1) := by decide +kernel
theorem dX9_isForm_59 : decode cX9_isForm 59 = .ok (.goto 4, 3) := by decide +kernel
theorem dX9_isForm_62 : decode cX9_isForm 62 = .ok (.iconst 0, 1) := by decide +kernel
theorem dX9_isForm_63 : decode cX9_isForm 63 = .ok (.ireturn, 1) := by decide +kernel
theorem dX9_stands_0 : decode cX9_stands 0 = .ok (.iconst 0, 1) := by decide +kernel
theorem dX9_stands_1 : decode cX9_stands 1 = .ok (.istore 5, 2) := by decide +kernel
theorem dX9_stands_3 : decode cX9_stands 3 = .ok (.iload 5, 2) := by decide +kernel
theorem dX9_stands_5 : decode cX9_stands 5 = .ok (.aload_n 0, 1) := by decide +kernel
theorem dX9_stands_6 : decode cX9_stands 6 = .ok (.getfield 25, 3) := by decide +kernel
theorem dX9_stands_9 : decode cX9_stands 9 = .ok (.iload_n 3, 1) := by decide +kernel
theorem dX9_stands_10 : decode cX9_stands 10 = .ok (.iaload, 1) := by decide +kernel
theorem dX9_stands_11 : decode cX9_stands 11 = .ok (.if_icmp .ge 205, 3) := by decide +kernel
theorem dX9_stands_14 : decode cX9_stands 14 = .ok (.iload 5, 2) := by decide +kernel
theorem dX9_stands_16 : decode cX9_stands 16 = .ok (.ifCond .le 19, 3) := by decide +kernel
theorem dX9_stands_19 : decode cX9_stands 19 = .ok (.aload_n 0, 1) := by decide +kernel
theorem dX9_stands_20 : decode cX9_stands 20 = .ok (.iload_n 1, 1) := by decide +kernel
theorem dX9_stands_21 : decode cX9_stands 21 = .ok (.iload_n 2, 1) := by decide +kernel
theorem dX9_stands_22 : decode cX9_stands 22 = .ok (.iload 5, 2) := by decide +kernel
theorem dX9_stands_24 : decode cX9_stands 24 = .ok (.iadd, 1) := by decide +kernel
theorem dX9_stands_25 : decode cX9_stands 25 = .ok (.iconst 1, 1) := by decide +kernel
theorem dX9_stands_26 : decode cX9_stands 26 = .ok (.isub, 1) := by decide +kernel
theorem dX9_stands_27 : decode cX9_stands 27 = .ok (.invokevirtual 153, 3) := by decide +kernel
theorem dX9_stands_30 : decode cX9_stands 30 = .ok (.ifCond .ne 5, 3) := by decide +kernel
theorem dX9_stands_33 : decode cX9_stands 33 = .ok (.iconst 0, 1) := by decide +kernel
theorem dX9_stands_34 : decode cX9_stands 34 = .ok (.ireturn, 1) := by decide +kernel
theorem dX9_stands_35 : decode cX9_stands 35 = .ok (.aload_n 0, 1) := by decide +kernel
theorem dX9_stands_36 : decode cX9_stands 36 = .ok (.getfield 22, 3) := by decide +kernel
theorem dX9_stands_39 : decode cX9_stands 39 = .ok (.iconst 3, 1) := by decide +kernel
theorem dX9_stands_40 : decode cX9_stands 40 = .ok (.iload_n 3, 1) := by decide +kernel
theorem dX9_stands_41 : decode cX9_stands 41 = .ok (.imul, 1) := by decide +kernel
theorem dX9_stands_42 : decode cX9_stands 42 = .ok (.iload 5, 2) := by decide +kernel
theorem dX9_stands_44 : decode cX9_stands 44 = .ok (.iadd, 1) := by decide +kernel
theorem dX9_stands_45 : decode cX9_stands 45 = .ok (.iaload, 1) := by decide +kernel
theorem dX9_stands_46 : decode cX9_stands 46 = .ok (.istore 6, 2) := by decide +kernel
theorem dX9_stands_48 : decode cX9_stands 48 = .ok (.iload 5, 2) := by decide +kernel
theorem dX9_stands_50 : decode cX9_stands 50 = .ok (.aload_n 0, 1) := by decide +kernel
theorem dX9_stands_51 : decode cX9_stands 51 = .ok (.getfield 25, 3) := by decide +kernel
theorem dX9_stands_54 : decode cX9_stands 54 = .ok (.iload_n 3, 1) := by decide +kernel
theorem dX9_stands_55 : decode cX9_stands 55 = .ok (.iaload, 1) := by decide +kernel
theorem dX9_stands_56 : decode cX9_stands 56 = .ok (.iconst 1, 1) := by decide +kernel
theorem dX9_stands_57 : decode cX9_stands 57 = .ok (.isub, 1) := by decide +kernel
theorem dX9_stands_58 : decode cX9_stands 58 = .ok (.if_icmp .ne 13, 3) := by decide +kernel
theorem dX9_stands_61 : decode cX9_stands 61 = .ok (.iload 4, 2) := by decide +kernel
theorem dX9_stands_63 : decode cX9_stands 63 = .ok (.iconst (-1), 1) := by decide +kernel
theorem dX9_stands_64 : decode cX9_stands 64 = .ok (.if_icmp .eq 7, 3) := by decide +kernel
theorem dX9_stands_67 : decode cX9_stands 67 = .ok (.iconst 1, 1) := by decide +kernel
theorem dX9_stands_68 : decode cX9_stands 68 = .ok (.goto 4, 3) := by decide +kernel
theorem dX9_stands_71 : decode cX9_stands 71 = .ok (.iconst 0, 1) := by decide +kernel
theorem dX9_stands_72 : decode cX9_stands 72 = .ok (.istore 7, 2) := by decide +kernel
theorem dX9_stands_74 : decode cX9_stands 74 = .ok (.iload 7, 2) := by decide +kernel
theorem dX9_stands_76 : decode cX9_stands 76 = .ok (.ifCond .eq 16, 3) := by decide +kernel
theorem dX9_stands_79 : decode cX9_stands 79 = .ok (.iload 6, 2) := by decide +kernel
theorem dX9_stands_81 : decode cX9_stands 81 = .ok (.aload_n 0, 1) := by decide +kernel
theorem dX9_stands_82 : decode cX9_stands 82 = .ok (.getfield 16, 3) := by decide +kernel
theorem dX9_stands_85 : decode cX9_stands 85 = .ok (.iload 4, 2) := by decide +kernel
theorem dX9_stands_87 : decode cX9_stands 87 = .ok (.iaload, 1) := by decide +kernel
theorem dX9_stands_88 : decode cX9_stands 88 = .ok (.iadd, 1) := by decide +kernel
theorem dX9_stands_89 : decode cX9_stands 89 = .ok (.goto 5, 3) := by decide +kernel
theorem dX9_stands_92 : decode cX9_stands 92 = .ok (.iload 6, 2) := by decide +kernel
theorem dX9_stands_94 : decode cX9_stands 94 = .ok (.istore 8, 2) := by decide +kernel
theorem dX9_stands_96 : decode cX9_stands 96 = .ok (.aload_n 0, 1) := by decide +kernel
theorem dX9_stands_97 : decode cX9_stands 97 = .ok (.getfield 63, 3) := by decide +kernel
theorem dX9_stands_100 : decode cX9_stands 100 = .ok (.iload_n 2, 1) := by decide +kernel
theorem dX9_stands_101 : decode cX9_stands 101 = .ok (.iload 5, 2) := by decide +kernel
theorem dX9_stands_103 : decode cX9_stands 103 = .ok (.iadd, 1) := by decide +kernel
theorem dX9_stands_104 : decode cX9_stands 104 = .ok (.iaload, 1) := by decide +kernel
theorem dX9_stands_105 : decode cX9_stands 105 = .ok (.aload_n 0, 1) := by decide +kernel
theorem dX9_stands_106 : decode cX9_stands 106 = .ok (.getfield 60, 3) := by decide +kernel
theorem dX9_stands_109 : decode cX9_stands 109 = .ok (.iload_n 2, 1) := by decide +kernel
theorem dX9_stands_110 : decode cX9_stands 110 = .ok (.iload 5, 2) := by decide +kernel
theorem dX9_stands_112 : decode cX9_stands 112 = .ok (.iadd, 1) := by decide +kernel
theorem dX9_stands_113 : decode cX9_stands 113 = .ok (.iaload, 1) := by decide +kernel
theorem dX9_stands_114 : decode cX9_stands 114 = .ok (.isub, 1) := by decide +kernel
theorem dX9_stands_115 : decode cX9_stands 115 = .ok (.iload 8, 2) := by decide +kernel
theorem dX9_stands_117 : decode cX9_stands 117 = .ok (.if_icmp .eq 5, 3) := by decide +kernel
theorem dX9_stands_120 : decode cX9_stands 120 = .ok (.iconst 0, 1) := by decide +kernel
theorem dX9_stands_121 : decode cX9_stands 121 = .ok (.ireturn, 1) := by decide +kernel
theorem dX9_stands_122 : decode cX9_stands 122 = .ok (.iconst 0, 1) := by decide +kernel
theorem dX9_stands_123 : decode cX9_stands 123 = .ok (.istore 9, 2) := by decide +kernel
theorem dX9_stands_125 : decode cX9_stands 125 = .ok (.iload 9, 2) := by decide +kernel
theorem dX9_stands_127 : decode cX9_stands 127 = .ok (.iload 8, 2) := by decide +kernel
theorem dX9_stands_129 : decode cX9_stands 129 = .ok (.if_icmp .ge 81, 3) := by decide +kernel
theorem dX9_stands_132 : decode cX9_stands 132 = .ok (.iload 9, 2) := by decide +kernel
theorem dX9_stands_134 : decode cX9_stands 134 = .ok (.iload 6, 2) := by decide +kernel
theorem dX9_stands_136 : decode cX9_stands 136 = .ok (.if_icmp .ge 24, 3) := by decide +kernel
theorem dX9_stands_139 : decode cX9_stands 139 = .ok (.aload_n 0, 1) := by decide +kernel
theorem dX9_stands_140 : decode cX9_stands 140 = .ok (.getfield 19, 3) := by decide +kernel
theorem dX9_stands_143 : decode cX9_stands 143 = .ok (.bipush 36, 2) := by decide +kernel
theorem dX9_stands_145 : decode cX9_stands 145 = .ok (.iload_n 3, 1) := by decide +kernel
theorem dX9_stands_146 : decode cX9_stands 146 = .ok (.imul, 1) := by decide +kernel
theorem dX9_stands_147 : decode cX9_stands 147 = .ok (.bipush 12, 2) := by decide +kernel
theorem dX9_stands_149 : decode cX9_stands 149 = .ok (.iload 5, 2) := by decide +kernel
theorem dX9_stands_151 : decode cX9_stands 151 = .ok (.imul, 1) := by decide +kernel
theorem dX9_stands_152 : decode cX9_stands 152 = .ok (.iadd, 1) := by decide +kernel
theorem dX9_stands_153 : decode cX9_stands 153 = .ok (.iload 9, 2) := by decide +kernel
theorem dX9_stands_155 : decode cX9_stands 155 = .ok (.iadd, 1) := by decide +kernel
theorem dX9_stands_156 : decode cX9_stands 156 = .ok (.iaload, 1) := by decide +kernel
theorem dX9_stands_157 : decode cX9_stands 157 = .ok (.goto 18, 3) := by decide +kernel
theorem dX9_stands_160 : decode cX9_stands 160 = .ok (.aload_n 0, 1) := by decide +kernel
theorem dX9_stands_161 : decode cX9_stands 161 = .ok (.getfield 13, 3) := by decide +kernel
theorem dX9_stands_164 : decode cX9_stands 164 = .ok (.iconst 4, 1) := by decide +kernel
theorem dX9_stands_165 : decode cX9_stands 165 = .ok (.iload 4, 2) := by decide +kernel
theorem dX9_stands_167 : decode cX9_stands 167 = .ok (.imul, 1) := by decide +kernel
theorem dX9_stands_168 : decode cX9_stands 168 = .ok (.iload 9, 2) := by decide +kernel
theorem dX9_stands_170 : decode cX9_stands 170 = .ok (.iadd, 1) := by decide +kernel
theorem dX9_stands_171 : decode cX9_stands 171 = .ok (.iload 6, 2) := by decide +kernel
theorem dX9_stands_173 : decode cX9_stands 173 = .ok (.isub, 1) := by decide +kernel
theorem dX9_stands_174 : decode cX9_stands 174 = .ok (.iaload, 1) := by decide +kernel
theorem dX9_stands_175 : decode cX9_stands 175 = .ok (.istore 10, 2) := by decide +kernel
theorem dX9_stands_177 : decode cX9_stands 177 = .ok (.aload_n 0, 1) := by decide +kernel
theorem dX9_stands_178 : decode cX9_stands 178 = .ok (.iload_n 1, 1) := by decide +kernel
theorem dX9_stands_179 : decode cX9_stands 179 = .ok (.aload_n 0, 1) := by decide +kernel
theorem dX9_stands_180 : decode cX9_stands 180 = .ok (.getfield 60, 3) := by decide +kernel
theorem dX9_stands_183 : decode cX9_stands 183 = .ok (.iload_n 2, 1) := by decide +kernel
theorem dX9_stands_184 : decode cX9_stands 184 = .ok (.iload 5, 2) := by decide +kernel
theorem dX9_stands_186 : decode cX9_stands 186 = .ok (.iadd, 1) := by decide +kernel
theorem dX9_stands_187 : decode cX9_stands 187 = .ok (.iaload, 1) := by decide +kernel
theorem dX9_stands_188 : decode cX9_stands 188 = .ok (.iload 9, 2) := by decide +kernel
theorem dX9_stands_190 : decode cX9_stands 190 = .ok (.iadd, 1) := by decide +kernel
theorem dX9_stands_191 : decode cX9_stands 191 = .ok (.invokevirtual 146, 3) := by decide +kernel
theorem dX9_stands_194 : decode cX9_stands 194 = .ok (.invokestatic 150, 3) := by decide +kernel
theorem dX9_stands_197 : decode cX9_stands 197 = .ok (.iload 10, 2) := by decide +kernel
theorem dX9_stands_199 : decode cX9_stands 199 = .ok (.if_icmp .eq 5, 3) := by decide +kernel
theorem dX9_stands_202 : decode cX9_stands 202 = .ok (.iconst 0, 1) := by decide +kernel
theorem dX9_stands_203 : decode cX9_stands 203 = .ok (.ireturn, 1) := by decide +kernel
theorem dX9_stands_204 : decode cX9_stands 204 = .ok (.iinc 9 1, 3) := by decide +kernel
theorem dX9_stands_207 : decode cX9_stands 207 = .ok (.goto (-82), 3) := by decide +kernel
theorem dX9_stands_210 : decode cX9_stands 210 = .ok (.iinc 5 1, 3) := by decide +kernel
theorem dX9_stands_213 : decode cX9_stands 213 = .ok (.goto (-210), 3) := by decide +kernel
theorem dX9_stands_216 : decode cX9_stands 216 = .ok (.iconst 1, 1) := by decide +kernel
theorem dX9_stands_217 : decode cX9_stands 217 = .ok (.ireturn, 1) := by decide +kernel
theorem dX9_way_0 : decode cX9_way 0 = .ok (.iconst (-1), 1) := by decide +kernel
theorem dX9_way_1 : decode cX9_way 1 = .ok (.istore 4, 2) := by decide +kernel
theorem dX9_way_3 : decode cX9_way 3 = .ok (.iload 4, 2) := by decide +kernel
theorem dX9_way_5 : decode cX9_way 5 = .ok (.aload_n 0, 1) := by decide +kernel
theorem dX9_way_6 : decode cX9_way 6 = .ok (.getfield 116, 3) := by decide +kernel
theorem dX9_way_9 : decode cX9_way 9 = .ok (.if_icmp .ge 36, 3) := by decide +kernel
theorem dX9_way_12 : decode cX9_way 12 = .ok (.aload_n 0, 1) := by decide +kernel
theorem dX9_way_13 : decode cX9_way 13 = .ok (.iload_n 3, 1) := by decide +kernel
theorem dX9_way_14 : decode cX9_way 14 = .ok (.iload 4, 2) := by decide +kernel
theorem dX9_way_16 : decode cX9_way 16 = .ok (.invokevirtual 157, 3) := by decide +kernel
theorem dX9_way_19 : decode cX9_way 19 = .ok (.ifCond .eq 20, 3) := by decide +kernel
theorem dX9_way_22 : decode cX9_way 22 = .ok (.aload_n 0, 1) := by decide +kernel
theorem dX9_way_23 : decode cX9_way 23 = .ok (.iload_n 1, 1) := by decide +kernel
theorem dX9_way_24 : decode cX9_way 24 = .ok (.iload_n 2, 1) := by decide +kernel
theorem dX9_way_25 : decode cX9_way 25 = .ok (.iload_n 3, 1) := by decide +kernel
theorem dX9_way_26 : decode cX9_way 26 = .ok (.iload 4, 2) := by decide +kernel
theorem dX9_way_28 : decode cX9_way 28 = .ok (.invokevirtual 160, 3) := by decide +kernel
theorem dX9_way_31 : decode cX9_way 31 = .ok (.ifCond .eq 8, 3) := by decide +kernel
theorem dX9_way_34 : decode cX9_way 34 = .ok (.iload 4, 2) := by decide +kernel
theorem dX9_way_36 : decode cX9_way 36 = .ok (.iconst 1, 1) := by decide +kernel
theorem dX9_way_37 : decode cX9_way 37 = .ok (.iadd, 1) := by decide +kernel
theorem dX9_way_38 : decode cX9_way 38 = .ok (.ireturn, 1) := by decide +kernel
theorem dX9_way_39 : decode cX9_way 39 = .ok (.iinc 4 1, 3) := by decide +kernel
theorem dX9_way_42 : decode cX9_way 42 = .ok (.goto (-39), 3) := by decide +kernel
theorem dX9_way_45 : decode cX9_way 45 = .ok (.iconst (-1), 1) := by decide +kernel
theorem dX9_way_46 : decode cX9_way 46 = .ok (.ireturn, 1) := by decide +kernel
theorem dX9_score_0 : decode cX9_score 0 = .ok (.iconst 0, 1) := by decide +kernel
theorem dX9_score_1 : decode cX9_score 1 = .ok (.istore 5, 2) := by decide +kernel
theorem dX9_score_3 : decode cX9_score 3 = .ok (.iconst 0, 1) := by decide +kernel
theorem dX9_score_4 : decode cX9_score 4 = .ok (.istore 6, 2) := by decide +kernel
theorem dX9_score_6 : decode cX9_score 6 = .ok (.iload 6, 2) := by decide +kernel
theorem dX9_score_8 : decode cX9_score 8 = .ok (.aload_n 0, 1) := by decide +kernel
theorem dX9_score_9 : decode cX9_score 9 = .ok (.getfield 143, 3) := by decide +kernel
theorem dX9_score_12 : decode cX9_score 12 = .ok (.if_icmp .ge 186, 3) := by decide +kernel
theorem dX9_score_15 : decode cX9_score 15 = .ok (.aload_n 0, 1) := by decide +kernel
theorem dX9_score_16 : decode cX9_score 16 = .ok (.getfield 66, 3) := by decide +kernel
theorem dX9_score_19 : decode cX9_score 19 = .ok (.iload 6, 2) := by decide +kernel
theorem dX9_score_21 : decode cX9_score 21 = .ok (.iaload, 1) := by decide +kernel
theorem dX9_score_22 : decode cX9_score 22 = .ok (.aload_n 0, 1) := by decide +kernel
theorem dX9_score_23 : decode cX9_score 23 = .ok (.getfield 66, 3) := by decide +kernel
theorem dX9_score_26 : decode cX9_score 26 = .ok (.iload_n 2, 1) := by decide +kernel
theorem dX9_score_27 : decode cX9_score 27 = .ok (.iaload, 1) := by decide +kernel
theorem dX9_score_28 : decode cX9_score 28 = .ok (.if_icmp .ne 164, 3) := by decide +kernel
theorem dX9_score_31 : decode cX9_score 31 = .ok (.iload 6, 2) := by decide +kernel
theorem dX9_score_33 : decode cX9_score 33 = .ok (.iload_n 2, 1) := by decide +kernel
theorem dX9_score_34 : decode cX9_score 34 = .ok (.if_icmp .lt 12, 3) := by decide +kernel
theorem dX9_score_37 : decode cX9_score 37 = .ok (.iload 6, 2) := by decide +kernel
theorem dX9_score_39 : decode cX9_score 39 = .ok (.iload_n 3, 1) := by decide +kernel
theorem dX9_score_40 : decode cX9_score 40 = .ok (.if_icmp .ge 6, 3) := by decide +kernel
theorem dX9_score_43 : decode cX9_score 43 = .ok (.goto 149, 3) := by decide +kernel
theorem dX9_score_46 : decode cX9_score 46 = .ok (.iconst 0, 1) := by decide +kernel
theorem dX9_score_47 : decode cX9_score 47 = .ok (.istore 7, 2) := by decide +kernel
theorem dX9_score_49 : decode cX9_score 49 = .ok (.iload 7, 2) := by decide +kernel
theorem dX9_score_51 : decode cX9_score 51 = .ok (.aload_n 0, 1) := by decide +kernel
theorem dX9_score_52 : decode cX9_score 52 = .ok (.getfield 43, 3) := by decide +kernel
theorem dX9_score_55 : decode cX9_score 55 = .ok (.iload 4, 2) := by decide +kernel
theorem dX9_score_57 : decode cX9_score 57 = .ok (.iaload, 1) := by decide +kernel
theorem dX9_score_58 : decode cX9_score 58 = .ok (.if_icmp .ge 134, 3) := by decide +kernel
theorem dX9_score_61 : decode cX9_score 61 = .ok (.aload_n 0, 1) := by decide +kernel
theorem dX9_score_62 : decode cX9_score 62 = .ok (.getfield 40, 3) := by decide +kernel
theorem dX9_score_65 : decode cX9_score 65 = .ok (.bipush 8, 2) := by decide +kernel
theorem dX9_score_67 : decode cX9_score 67 = .ok (.iload 4, 2) := by decide +kernel
theorem dX9_score_69 : decode cX9_score 69 = .ok (.imul, 1) := by decide +kernel
theorem dX9_score_70 : decode cX9_score 70 = .ok (.iload 7, 2) := by decide +kernel
theorem dX9_score_72 : decode cX9_score 72 = .ok (.iadd, 1) := by decide +kernel
theorem dX9_score_73 : decode cX9_score 73 = .ok (.iaload, 1) := by decide +kernel
theorem dX9_score_74 : decode cX9_score 74 = .ok (.aload_n 0, 1) := by decide +kernel
theorem dX9_score_75 : decode cX9_score 75 = .ok (.getfield 63, 3) := by decide +kernel
theorem dX9_score_78 : decode cX9_score 78 = .ok (.iload 6, 2) := by decide +kernel
theorem dX9_score_80 : decode cX9_score 80 = .ok (.iaload, 1) := by decide +kernel
theorem dX9_score_81 : decode cX9_score 81 = .ok (.aload_n 0, 1) := by decide +kernel
theorem dX9_score_82 : decode cX9_score 82 = .ok (.getfield 60, 3) := by decide +kernel
theorem dX9_score_85 : decode cX9_score 85 = .ok (.iload 6, 2) := by decide +kernel
theorem dX9_score_87 : decode cX9_score 87 = .ok (.iaload, 1) := by decide +kernel
theorem dX9_score_88 : decode cX9_score 88 = .ok (.isub, 1) := by decide +kernel
theorem dX9_score_89 : decode cX9_score 89 = .ok (.if_icmp .ne 7, 3) := by decide +kernel
theorem dX9_score_92 : decode cX9_score 92 = .ok (.iconst 1, 1) := by decide +kernel
theorem dX9_score_93 : decode cX9_score 93 = .ok (.goto 4, 3) := by decide +kernel
theorem dX9_score_96 : decode cX9_score 96 = .ok (.iconst 0, 1) := by decide +kernel
theorem dX9_score_97 : decode cX9_score 97 = .ok (.istore 8, 2) := by decide +kernel
theorem dX9_score_99 : decode cX9_score 99 = .ok (.iconst 0, 1) := by decide +kernel
theorem dX9_score_100 : decode cX9_score 100 = .ok (.istore 9, 2) := by decide +kernel
theorem dX9_score_102 : decode cX9_score 102 = .ok (.iload 9, 2) := by decide +kernel
theorem dX9_score_104 : decode cX9_score 104 = .ok (.aload_n 0, 1) := by decide +kernel
theorem dX9_score_105 : decode cX9_score 105 = .ok (.getfield 40, 3) := by decide +kernel
theorem dX9_score_108 : decode cX9_score 108 = .ok (.bipush 8, 2) := by decide +kernel
theorem dX9_score_110 : decode cX9_score 110 = .ok (.iload 4, 2) := by decide +kernel
theorem dX9_score_112 : decode cX9_score 112 = .ok (.imul, 1) := by decide +kernel
theorem dX9_score_113 : decode cX9_score 113 = .ok (.iload 7, 2) := by decide +kernel
theorem dX9_score_115 : decode cX9_score 115 = .ok (.iadd, 1) := by decide +kernel
theorem dX9_score_116 : decode cX9_score 116 = .ok (.iaload, 1) := by decide +kernel
theorem dX9_score_117 : decode cX9_score 117 = .ok (.if_icmp .ge 61, 3) := by decide +kernel
theorem dX9_score_120 : decode cX9_score 120 = .ok (.iload 8, 2) := by decide +kernel
theorem dX9_score_122 : decode cX9_score 122 = .ok (.ifCond .eq 56, 3) := by decide +kernel
theorem dX9_score_125 : decode cX9_score 125 = .ok (.aload_n 0, 1) := by decide +kernel
theorem dX9_score_126 : decode cX9_score 126 = .ok (.getfield 37, 3) := by decide +kernel
theorem dX9_score_129 : decode cX9_score 129 = .ok (.bipush 96, 2) := by decide +kernel
theorem dX9_score_131 : decode cX9_score 131 = .ok (.iload 4, 2) := by decide +kernel
theorem dX9_score_133 : decode cX9_score 133 = .ok (.imul, 1) := by decide +kernel
theorem dX9_score_134 : decode cX9_score 134 = .ok (.bipush 12, 2) := by decide +kernel
theorem dX9_score_136 : decode cX9_score 136 = .ok (.iload 7, 2) := by decide +kernel
theorem dX9_score_138 : decode cX9_score 138 = .ok (.imul, 1) := by decide +kernel
theorem dX9_score_139 : decode cX9_score 139 = .ok (.iadd, 1) := by decide +kernel
theorem dX9_score_140 : decode cX9_score 140 = .ok (.iload 9, 2) := by decide +kernel
theorem dX9_score_142 : decode cX9_score 142 = .ok (.iadd, 1) := by decide +kernel
theorem dX9_score_143 : decode cX9_score 143 = .ok (.iaload, 1) := by decide +kernel
theorem dX9_score_144 : decode cX9_score 144 = .ok (.aload_n 0, 1) := by decide +kernel
theorem dX9_score_145 : decode cX9_score 145 = .ok (.iload_n 1, 1) := by decide +kernel
theorem dX9_score_146 : decode cX9_score 146 = .ok (.aload_n 0, 1) := by decide +kernel
theorem dX9_score_147 : decode cX9_score 147 = .ok (.getfield 60, 3) := by decide +kernel
theorem dX9_score_150 : decode cX9_score 150 = .ok (.iload 6, 2) := by decide +kernel
theorem dX9_score_152 : decode cX9_score 152 = .ok (.iaload, 1) := by decide +kernel
theorem dX9_score_153 : decode cX9_score 153 = .ok (.iload 9, 2) := by decide +kernel
theorem dX9_score_155 : decode cX9_score 155 = .ok (.iadd, 1) := by decide +kernel
theorem dX9_score_156 : decode cX9_score 156 = .ok (.invokevirtual 146, 3) := by decide +kernel
theorem dX9_score_159 : decode cX9_score 159 = .ok (.invokestatic 150, 3) := by decide +kernel
theorem dX9_score_162 : decode cX9_score 162 = .ok (.if_icmp .ne 7, 3) := by decide +kernel
theorem dX9_score_165 : decode cX9_score 165 = .ok (.iconst 1, 1) := by decide +kernel
theorem dX9_score_166 : decode cX9_score 166 = .ok (.goto 4, 3) := by decide +kernel
theorem dX9_score_169 : decode cX9_score 169 = .ok (.iconst 0, 1) := by decide +kernel
theorem dX9_score_170 : decode cX9_score 170 = .ok (.istore 8, 2) := by decide +kernel
theorem dX9_score_172 : decode cX9_score 172 = .ok (.iinc 9 1, 3) := by decide +kernel
theorem dX9_score_175 : decode cX9_score 175 = .ok (.goto (-73), 3) := by decide +kernel
theorem dX9_score_178 : decode cX9_score 178 = .ok (.iload 8, 2) := by decide +kernel
theorem dX9_score_180 : decode cX9_score 180 = .ok (.ifCond .eq 6, 3) := by decide +kernel
theorem dX9_score_183 : decode cX9_score 183 = .ok (.iinc 5 1, 3) := by decide +kernel
theorem dX9_score_186 : decode cX9_score 186 = .ok (.iinc 7 1, 3) := by decide +kernel
theorem dX9_score_189 : decode cX9_score 189 = .ok (.goto (-140), 3) := by decide +kernel
theorem dX9_score_192 : decode cX9_score 192 = .ok (.iinc 6 1, 3) := by decide +kernel
theorem dX9_score_195 : decode cX9_score 195 = .ok (.goto (-189), 3) := by decide +kernel
theorem dX9_score_198 : decode cX9_score 198 = .ok (.iload 5, 2) := by decide +kernel
theorem dX9_score_200 : decode cX9_score 200 = .ok (.ireturn, 1) := by decide +kernel
theorem dX9_reads_0 : decode cX9_reads 0 = .ok (.aload_n 0, 1) := by decide +kernel
theorem dX9_reads_1 : decode cX9_reads 1 = .ok (.iload_n 1, 1) := by decide +kernel
theorem dX9_reads_2 : decode cX9_reads 2 = .ok (.invokevirtual 164, 3) := by decide +kernel
theorem dX9_reads_5 : decode cX9_reads 5 = .ok (.aload_n 0, 1) := by decide +kernel
theorem dX9_reads_6 : decode cX9_reads 6 = .ok (.iconst 0, 1) := by decide +kernel
theorem dX9_reads_7 : decode cX9_reads 7 = .ok (.putfield 168, 3) := by decide +kernel
