theorem dX9_init_0 : decode cX9_init 0 = .ok (.aload_n 0, 1) := by decide +kernel
theorem dX9_init_1 : decode cX9_init 1 = .ok (.invokespecial 1, 3) := by decide +kernel
theorem dX9_init_4 : decode cX9_init 4 = .ok (.aload_n 0, 1) := by decide +kernel
theorem dX9_init_5 : decode cX9_init 5 = .ok (.sipush 200, 3) := by decide +kernel
theorem dX9_init_8 : decode cX9_init 8 = .ok (.newarray .byte, 2) := by decide +kernel
theorem dX9_init_10 : decode cX9_init 10 = .ok (.putfield 7, 3) := by decide +kernel
theorem dX9_init_13 : decode cX9_init 13 = .ok (.aload_n 0, 1) := by decide +kernel
theorem dX9_init_14 : decode cX9_init 14 = .ok (.bipush 12, 2) := by decide +kernel
theorem dX9_init_16 : decode cX9_init 16 = .ok (.newarray .int, 2) := by decide +kernel
theorem dX9_init_18 : decode cX9_init 18 = .ok (.putfield 13, 3) := by decide +kernel
theorem dX9_init_21 : decode cX9_init 21 = .ok (.aload_n 0, 1) := by decide +kernel
theorem dX9_init_22 : decode cX9_init 22 = .ok (.bipush 12, 2) := by decide +kernel
theorem dX9_init_24 : decode cX9_init 24 = .ok (.newarray .int, 2) := by decide +kernel
theorem dX9_init_26 : decode cX9_init 26 = .ok (.putfield 17, 3) := by decide +kernel
theorem dX9_init_29 : decode cX9_init 29 = .ok (.aload_n 0, 1) := by decide +kernel
theorem dX9_init_30 : decode cX9_init 30 = .ok (.bipush 12, 2) := by decide +kernel
theorem dX9_init_32 : decode cX9_init 32 = .ok (.newarray .int, 2) := by decide +kernel
theorem dX9_init_34 : decode cX9_init 34 = .ok (.putfield 20, 3) := by decide +kernel
theorem dX9_init_37 : decode cX9_init 37 = .ok (.aload_n 0, 1) := by decide +kernel
theorem dX9_init_38 : decode cX9_init 38 = .ok (.bipush 12, 2) := by decide +kernel
theorem dX9_init_40 : decode cX9_init 40 = .ok (.newarray .int, 2) := by decide +kernel
theorem dX9_init_42 : decode cX9_init 42 = .ok (.putfield 23, 3) := by decide +kernel
theorem dX9_init_45 : decode cX9_init 45 = .ok (.aload_n 0, 1) := by decide +kernel
theorem dX9_init_46 : decode cX9_init 46 = .ok (.bipush 12, 2) := by decide +kernel
theorem dX9_init_48 : decode cX9_init 48 = .ok (.newarray .int, 2) := by decide +kernel
theorem dX9_init_50 : decode cX9_init 50 = .ok (.putfield 26, 3) := by decide +kernel
theorem dX9_init_53 : decode cX9_init 53 = .ok (.aload_n 0, 1) := by decide +kernel
theorem dX9_init_54 : decode cX9_init 54 = .ok (.bipush 48, 2) := by decide +kernel
theorem dX9_init_56 : decode cX9_init 56 = .ok (.newarray .int, 2) := by decide +kernel
theorem dX9_init_58 : decode cX9_init 58 = .ok (.putfield 29, 3) := by decide +kernel
theorem dX9_init_61 : decode cX9_init 61 = .ok (.aload_n 0, 1) := by decide +kernel
theorem dX9_init_62 : decode cX9_init 62 = .ok (.bipush 6, 2) := by decide +kernel
theorem dX9_init_64 : decode cX9_init 64 = .ok (.newarray .int, 2) := by decide +kernel
theorem dX9_init_66 : decode cX9_init 66 = .ok (.putfield 32, 3) := by decide +kernel
theorem dX9_init_69 : decode cX9_init 69 = .ok (.aload_n 0, 1) := by decide +kernel
theorem dX9_init_70 : decode cX9_init 70 = .ok (.bipush 6, 2) := by decide +kernel
theorem dX9_init_72 : decode cX9_init 72 = .ok (.newarray .int, 2) := by decide +kernel
theorem dX9_init_74 : decode cX9_init 74 = .ok (.putfield 35, 3) := by decide +kernel
theorem dX9_init_77 : decode cX9_init 77 = .ok (.aload_n 0, 1) := by decide +kernel
theorem dX9_init_78 : decode cX9_init 78 = .ok (.bipush 6, 2) := by decide +kernel
theorem dX9_init_80 : decode cX9_init 80 = .ok (.newarray .int, 2) := by decide +kernel
theorem dX9_init_82 : decode cX9_init 82 = .ok (.putfield 38, 3) := by decide +kernel
theorem dX9_init_85 : decode cX9_init 85 = .ok (.aload_n 0, 1) := by decide +kernel
theorem dX9_init_86 : decode cX9_init 86 = .ok (.bipush 48, 2) := by decide +kernel
theorem dX9_init_88 : decode cX9_init 88 = .ok (.newarray .int, 2) := by decide +kernel
theorem dX9_init_90 : decode cX9_init 90 = .ok (.putfield 41, 3) := by decide +kernel
theorem dX9_init_93 : decode cX9_init 93 = .ok (.aload_n 0, 1) := by decide +kernel
theorem dX9_init_94 : decode cX9_init 94 = .ok (.bipush 6, 2) := by decide +kernel
theorem dX9_init_96 : decode cX9_init 96 = .ok (.newarray .int, 2) := by decide +kernel
theorem dX9_init_98 : decode cX9_init 98 = .ok (.putfield 44, 3) := by decide +kernel
theorem dX9_init_101 : decode cX9_init 101 = .ok (.aload_n 0, 1) := by decide +kernel
theorem dX9_init_102 : decode cX9_init 102 = .ok (.bipush 6, 2) := by decide +kernel
theorem dX9_init_104 : decode cX9_init 104 = .ok (.newarray .int, 2) := by decide +kernel
theorem dX9_init_106 : decode cX9_init 106 = .ok (.putfield 47, 3) := by decide +kernel
theorem dX9_init_109 : decode cX9_init 109 = .ok (.aload_n 0, 1) := by decide +kernel
theorem dX9_init_110 : decode cX9_init 110 = .ok (.bipush 6, 2) := by decide +kernel
theorem dX9_init_112 : decode cX9_init 112 = .ok (.newarray .int, 2) := by decide +kernel
theorem dX9_init_114 : decode cX9_init 114 = .ok (.putfield 50, 3) := by decide +kernel
theorem dX9_init_117 : decode cX9_init 117 = .ok (.aload_n 0, 1) := by decide +kernel
theorem dX9_init_118 : decode cX9_init 118 = .ok (.bipush 6, 2) := by decide +kernel
theorem dX9_init_120 : decode cX9_init 120 = .ok (.newarray .int, 2) := by decide +kernel
theorem dX9_init_122 : decode cX9_init 122 = .ok (.putfield 53, 3) := by decide +kernel
theorem dX9_init_125 : decode cX9_init 125 = .ok (.aload_n 0, 1) := by decide +kernel
theorem dX9_init_126 : decode cX9_init 126 = .ok (.bipush 72, 2) := by decide +kernel
theorem dX9_init_128 : decode cX9_init 128 = .ok (.newarray .int, 2) := by decide +kernel
theorem dX9_init_130 : decode cX9_init 130 = .ok (.putfield 56, 3) := by decide +kernel
theorem dX9_init_133 : decode cX9_init 133 = .ok (.aload_n 0, 1) := by decide +kernel
theorem dX9_init_134 : decode cX9_init 134 = .ok (.bipush 8, 2) := by decide +kernel
theorem dX9_init_136 : decode cX9_init 136 = .ok (.newarray .int, 2) := by decide +kernel
theorem dX9_init_138 : decode cX9_init 138 = .ok (.putfield 59, 3) := by decide +kernel
theorem dX9_init_141 : decode cX9_init 141 = .ok (.aload_n 0, 1) := by decide +kernel
theorem dX9_init_142 : decode cX9_init 142 = .ok (.iconst 4, 1) := by decide +kernel
theorem dX9_init_143 : decode cX9_init 143 = .ok (.newarray .int, 2) := by decide +kernel
theorem dX9_init_145 : decode cX9_init 145 = .ok (.putfield 62, 3) := by decide +kernel
theorem dX9_init_148 : decode cX9_init 148 = .ok (.aload_n 0, 1) := by decide +kernel
theorem dX9_init_149 : decode cX9_init 149 = .ok (.bipush 84, 2) := by decide +kernel
theorem dX9_init_151 : decode cX9_init 151 = .ok (.newarray .int, 2) := by decide +kernel
theorem dX9_init_153 : decode cX9_init 153 = .ok (.putfield 65, 3) := by decide +kernel
theorem dX9_init_156 : decode cX9_init 156 = .ok (.aload_n 0, 1) := by decide +kernel
theorem dX9_init_157 : decode cX9_init 157 = .ok (.bipush 84, 2) := by decide +kernel
theorem dX9_init_159 : decode cX9_init 159 = .ok (.newarray .int, 2) := by decide +kernel
theorem dX9_init_161 : decode cX9_init 161 = .ok (.putfield 68, 3) := by decide +kernel
theorem dX9_init_164 : decode cX9_init 164 = .ok (.aload_n 0, 1) := by decide +kernel
theorem dX9_init_165 : decode cX9_init 165 = .ok (.bipush 6, 2) := by decide +kernel
theorem dX9_init_167 : decode cX9_init 167 = .ok (.newarray .int, 2) := by decide +kernel
theorem dX9_init_169 : decode cX9_init 169 = .ok (.putfield 71, 3) := by decide +kernel
theorem dX9_init_172 : decode cX9_init 172 = .ok (.aload_n 0, 1) := by decide +kernel
theorem dX9_init_173 : decode cX9_init 173 = .ok (.bipush 15, 2) := by decide +kernel
theorem dX9_init_175 : decode cX9_init 175 = .ok (.newarray .int, 2) := by decide +kernel
theorem dX9_init_177 : decode cX9_init 177 = .ok (.putfield 74, 3) := by decide +kernel
theorem dX9_init_180 : decode cX9_init 180 = .ok (.aload_n 0, 1) := by decide +kernel
theorem dX9_init_181 : decode cX9_init 181 = .ok (.bipush 15, 2) := by decide +kernel
theorem dX9_init_183 : decode cX9_init 183 = .ok (.newarray .int, 2) := by decide +kernel
theorem dX9_init_185 : decode cX9_init 185 = .ok (.putfield 77, 3) := by decide +kernel
theorem dX9_init_188 : decode cX9_init 188 = .ok (.aload_n 0, 1) := by decide +kernel
theorem dX9_init_189 : decode cX9_init 189 = .ok (.bipush 15, 2) := by decide +kernel
theorem dX9_init_191 : decode cX9_init 191 = .ok (.newarray .int, 2) := by decide +kernel
theorem dX9_init_193 : decode cX9_init 193 = .ok (.putfield 80, 3) := by decide +kernel
theorem dX9_init_196 : decode cX9_init 196 = .ok (.aload_n 0, 1) := by decide +kernel
theorem dX9_init_197 : decode cX9_init 197 = .ok (.bipush 15, 2) := by decide +kernel
theorem dX9_init_199 : decode cX9_init 199 = .ok (.newarray .int, 2) := by decide +kernel
theorem dX9_init_201 : decode cX9_init 201 = .ok (.putfield 83, 3) := by decide +kernel
theorem dX9_init_204 : decode cX9_init 204 = .ok (.aload_n 0, 1) := by decide +kernel
theorem dX9_init_205 : decode cX9_init 205 = .ok (.bipush 15, 2) := by decide +kernel
theorem dX9_init_207 : decode cX9_init 207 = .ok (.newarray .int, 2) := by decide +kernel
theorem dX9_init_209 : decode cX9_init 209 = .ok (.putfield 86, 3) := by decide +kernel
theorem dX9_init_212 : decode cX9_init 212 = .ok (.aload_n 0, 1) := by decide +kernel
theorem dX9_init_213 : decode cX9_init 213 = .ok (.bipush 15, 2) := by decide +kernel
theorem dX9_init_215 : decode cX9_init 215 = .ok (.newarray .int, 2) := by decide +kernel
theorem dX9_init_217 : decode cX9_init 217 = .ok (.putfield 89, 3) := by decide +kernel
theorem dX9_init_220 : decode cX9_init 220 = .ok (.aload_n 0, 1) := by decide +kernel
theorem dX9_init_221 : decode cX9_init 221 = .ok (.bipush 14, 2) := by decide +kernel
theorem dX9_init_223 : decode cX9_init 223 = .ok (.newarray .int, 2) := by decide +kernel
theorem dX9_init_225 : decode cX9_init 225 = .ok (.putfield 92, 3) := by decide +kernel
theorem dX9_init_228 : decode cX9_init 228 = .ok (.aload_n 0, 1) := by decide +kernel
theorem dX9_init_229 : decode cX9_init 229 = .ok (.sipush 22050, 3) := by decide +kernel
theorem dX9_init_232 : decode cX9_init 232 = .ok (.newarray .long, 2) := by decide +kernel
theorem dX9_init_234 : decode cX9_init 234 = .ok (.putfield 95, 3) := by decide +kernel
theorem dX9_init_237 : decode cX9_init 237 = .ok (.aload_n 0, 1) := by decide +kernel
theorem dX9_init_238 : decode cX9_init 238 = .ok (.bipush 84, 2) := by decide +kernel
theorem dX9_init_240 : decode cX9_init 240 = .ok (.newarray .int, 2) := by decide +kernel
theorem dX9_init_242 : decode cX9_init 242 = .ok (.putfield 99, 3) := by decide +kernel
theorem dX9_init_245 : decode cX9_init 245 = .ok (.return_, 1) := by decide +kernel
theorem dX9_thrown_0 : decode cX9_thrown 0 = .ok (.aload_n 0, 1) := by decide +kernel
theorem dX9_thrown_1 : decode cX9_thrown 1 = .ok (.getfield 102, 3) := by decide +kernel
theorem dX9_thrown_4 : decode cX9_thrown 4 = .ok (.ireturn, 1) := by decide +kernel
theorem dX9_throwsIf_0 : decode cX9_throwsIf 0 = .ok (.aload_n 0, 1) := by decide +kernel
theorem dX9_throwsIf_1 : decode cX9_throwsIf 1 = .ok (.iload_n 1, 1) := by decide +kernel
theorem dX9_throwsIf_2 : decode cX9_throwsIf 2 = .ok (.ifCond .eq 7, 3) := by decide +kernel
theorem dX9_throwsIf_5 : decode cX9_throwsIf 5 = .ok (.iconst 1, 1) := by decide +kernel
theorem dX9_throwsIf_6 : decode cX9_throwsIf 6 = .ok (.goto 4, 3) := by decide +kernel
theorem dX9_throwsIf_9 : decode cX9_throwsIf 9 = .ok (.iconst 0, 1) := by decide +kernel
theorem dX9_throwsIf_10 : decode cX9_throwsIf 10 = .ok (.putfield 102, 3) := by decide +kernel
theorem dX9_throwsIf_13 : decode cX9_throwsIf 13 = .ok (.iload_n 1, 1) := by decide +kernel
theorem dX9_throwsIf_14 : decode cX9_throwsIf 14 = .ok (.ireturn, 1) := by decide +kernel
theorem dX9_four_0 : decode cX9_four 0 = .ok (.bipush 24, 2) := by decide +kernel
theorem dX9_four_2 : decode cX9_four 2 = .ok (.istore_n 2, 1) := by decide +kernel
theorem dX9_four_3 : decode cX9_four 3 = .ok (.iload_n 2, 1) := by decide +kernel
theorem dX9_four_4 : decode cX9_four 4 = .ok (.ifCond .lt 32, 3) := by decide +kernel
theorem dX9_four_7 : decode cX9_four 7 = .ok (.aload_n 0, 1) := by decide +kernel
theorem dX9_four_8 : decode cX9_four 8 = .ok (.getfield 7, 3) := by decide +kernel
theorem dX9_four_11 : decode cX9_four 11 = .ok (.aload_n 0, 1) := by decide +kernel
theorem dX9_four_12 : decode cX9_four 12 = .ok (.getfield 106, 3) := by decide +kernel
theorem dX9_four_15 : decode cX9_four 15 = .ok (.iload_n 1, 1) := by decide +kernel
theorem dX9_four_16 : decode cX9_four 16 = .ok (.iload_n 2, 1) := by decide +kernel
theorem dX9_four_17 : decode cX9_four 17 = .ok (.ishr, 1) := by decide +kernel
theorem dX9_four_18 : decode cX9_four 18 = .ok (.i2b, 1) := by decide +kernel
theorem dX9_four_19 : decode cX9_four 19 = .ok (.bastore, 1) := by decide +kernel
theorem dX9_four_20 : decode cX9_four 20 = .ok (.aload_n 0, 1) := by decide +kernel
theorem dX9_four_21 : decode cX9_four 21 = .ok (.dup, 1) := by decide +kernel
theorem dX9_four_22 : decode cX9_four 22 = .ok (.getfield 106, 3) := by decide +kernel
theorem dX9_four_25 : decode cX9_four 25 = .ok (.iconst 1, 1) := by decide +kernel
theorem dX9_four_26 : decode cX9_four 26 = .ok (.iadd, 1) := by decide +kernel
theorem dX9_four_27 : decode cX9_four 27 = .ok (.putfield 106, 3) := by decide +kernel
theorem dX9_four_30 : decode cX9_four 30 = .ok (.iinc 2 (-8), 3) := by decide +kernel
theorem dX9_four_33 : decode cX9_four 33 = .ok (.goto (-30), 3) := by decide +kernel
theorem dX9_four_36 : decode cX9_four 36 = .ok (.return_, 1) := by decide +kernel
theorem dX9_end_0 : decode cX9_end 0 = .ok (.aload_n 0, 1) := by decide +kernel
theorem dX9_end_1 : decode cX9_end 1 = .ok (.iconst 0, 1) := by decide +kernel
theorem dX9_end_2 : decode cX9_end 2 = .ok (.putfield 102, 3) := by decide +kernel
theorem dX9_end_5 : decode cX9_end 5 = .ok (.iload_n 1, 1) := by decide +kernel
theorem dX9_end_6 : decode cX9_end 6 = .ok (.ifCond .lt 11, 3) := by decide +kernel
theorem dX9_end_9 : decode cX9_end 9 = .ok (.iload_n 1, 1) := by decide +kernel
theorem dX9_end_10 : decode cX9_end 10 = .ok (.aload_n 0, 1) := by decide +kernel
theorem dX9_end_11 : decode cX9_end 11 = .ok (.getfield 106, 3) := by decide +kernel
theorem dX9_end_14 : decode cX9_end 14 = .ok (.if_icmp .le 5, 3) := by decide +kernel
theorem dX9_end_17 : decode cX9_end 17 = .ok (.iconst 0, 1) := by decide +kernel
theorem dX9_end_18 : decode cX9_end 18 = .ok (.ireturn, 1) := by decide +kernel
theorem dX9_end_19 : decode cX9_end 19 = .ok (.aload_n 0, 1) := by decide +kernel
theorem dX9_end_20 : decode cX9_end 20 = .ok (.iload_n 1, 1) := by decide +kernel
theorem dX9_end_21 : decode cX9_end 21 = .ok (.putfield 106, 3) := by decide +kernel
theorem dX9_end_24 : decode cX9_end 24 = .ok (.iconst 1, 1) := by decide +kernel
theorem dX9_end_25 : decode cX9_end 25 = .ok (.ireturn, 1) := by decide +kernel
theorem dX9_taken_0 : decode cX9_taken 0 = .ok (.aload_n 0, 1) := by decide +kernel
theorem dX9_taken_1 : decode cX9_taken 1 = .ok (.aload_n 0, 1) := by decide +kernel
theorem dX9_taken_2 : decode cX9_taken 2 = .ok (.getfield 106, 3) := by decide +kernel
theorem dX9_taken_5 : decode cX9_taken 5 = .ok (.putfield 113, 3) := by decide +kernel
theorem dX9_taken_8 : decode cX9_taken 8 = .ok (.aload_n 0, 1) := by decide +kernel
theorem dX9_taken_9 : decode cX9_taken 9 = .ok (.iconst 0, 1) := by decide +kernel
theorem dX9_taken_10 : decode cX9_taken 10 = .ok (.putfield 106, 3) := by decide +kernel
theorem dX9_taken_13 : decode cX9_taken 13 = .ok (.aload_n 0, 1) := by decide +kernel
theorem dX9_taken_14 : decode cX9_taken 14 = .ok (.iconst 0, 1) := by decide +kernel
theorem dX9_taken_15 : decode cX9_taken 15 = .ok (.putfield 116, 3) := by decide +kernel
theorem dX9_taken_18 : decode cX9_taken 18 = .ok (.return_, 1) := by decide +kernel
theorem dX9_isIn_0 : decode cX9_isIn 0 = .ok (.iload_n 0, 1) := by decide +kernel
theorem dX9_isIn_1 : decode cX9_isIn 1 = .ok (.iload_n 1, 1) := by decide +kernel
theorem dX9_isIn_2 : decode cX9_isIn 2 = .ok (.if_icmp .lt 12, 3) := by decide +kernel
theorem dX9_isIn_5 : decode cX9_isIn 5 = .ok (.iload_n 0, 1) := by decide +kernel
theorem dX9_isIn_6 : decode cX9_isIn 6 = .ok (.iload_n 2, 1) := by decide +kernel
theorem dX9_isIn_7 : decode cX9_isIn 7 = .ok (.if_icmp .gt 7, 3) := by decide +kernel
theorem dX9_isIn_10 : decode cX9_isIn 10 = .ok (.iconst 1, 1) := by decide +kernel
theorem dX9_isIn_11 : decode cX9_isIn 11 = .ok (.goto 4, 3) := by decide +kernel
theorem dX9_isIn_14 : decode cX9_isIn 14 = .ok (.iconst 0, 1) := by decide +kernel
theorem dX9_isIn_15 : decode cX9_isIn 15 = .ok (.ireturn, 1) := by decide +kernel
theorem dX9_isHall_0 : decode cX9_isHall 0 = .ok (.iload_n 1, 1) := by decide +kernel
theorem dX9_isHall_1 : decode cX9_isHall 1 = .ok (.ifCond .lt 15, 3) := by decide +kernel
theorem dX9_isHall_4 : decode cX9_isHall 4 = .ok (.iload_n 1, 1) := by decide +kernel
theorem dX9_isHall_5 : decode cX9_isHall 5 = .ok (.aload_n 0, 1) := by decide +kernel
theorem dX9_isHall_6 : decode cX9_isHall 6 = .ok (.getfield 119, 3) := by decide +kernel
theorem dX9_isHall_9 : decode cX9_isHall 9 = .ok (.if_icmp .ge 7, 3) := by decide +kernel
theorem dX9_isHall_12 : decode cX9_isHall 12 = .ok (.iconst 1, 1) := by decide +kernel
theorem dX9_isHall_13 : decode cX9_isHall 13 = .ok (.goto 4, 3) := by decide +kernel
theorem dX9_isHall_16 : decode cX9_isHall 16 = .ok (.iconst 0, 1) := by decide +kernel
theorem dX9_isHall_17 : decode cX9_isHall 17 = .ok (.ireturn, 1) := by decide +kernel
theorem dX9_isShow_0 : decode cX9_isShow 0 = .ok (.iload_n 1, 1) := by decide +kernel
theorem dX9_isShow_1 : decode cX9_isShow 1 = .ok (.ifCond .lt 15, 3) := by decide +kernel
theorem dX9_isShow_4 : decode cX9_isShow 4 = .ok (.iload_n 1, 1) := by decide +kernel
theorem dX9_isShow_5 : decode cX9_isShow 5 = .ok (.aload_n 0, 1) := by decide +kernel
theorem dX9_isShow_6 : decode cX9_isShow 6 = .ok (.getfield 122, 3) := by decide +kernel
theorem dX9_isShow_9 : decode cX9_isShow 9 = .ok (.if_icmp .ge 7, 3) := by decide +kernel
theorem dX9_isShow_12 : decode cX9_isShow 12 = .ok (.iconst 1, 1) := by decide +kernel
theorem dX9_isShow_13 : decode cX9_isShow 13 = .ok (.goto 4, 3) := by decide +kernel
theorem dX9_isShow_16 : decode cX9_isShow 16 = .ok (.iconst 0, 1) := by decide +kernel
theorem dX9_isShow_17 : decode cX9_isShow 17 = .ok (.ireturn, 1) := by decide +kernel
theorem dX9_areAmps_0 : decode cX9_areAmps 0 = .ok (.aload_n 0, 1) := by decide +kernel
theorem dX9_areAmps_1 : decode cX9_areAmps 1 = .ok (.getfield 113, 3) := by decide +kernel
theorem dX9_areAmps_4 : decode cX9_areAmps 4 = .ok (.iload_n 1, 1) := by decide +kernel
theorem dX9_areAmps_5 : decode cX9_areAmps 5 = .ok (.if_icmp .lt 11, 3) := by decide +kernel
theorem dX9_areAmps_8 : decode cX9_areAmps 8 = .ok (.aload_n 0, 1) := by decide +kernel
theorem dX9_areAmps_9 : decode cX9_areAmps 9 = .ok (.getfield 113, 3) := by decide +kernel
theorem dX9_areAmps_12 : decode cX9_areAmps 12 = .ok (.iload_n 2, 1) := by decide +kernel
theorem dX9_areAmps_13 : decode cX9_areAmps 13 = .ok (.if_icmp .le 5, 3) := by decide +kernel
theorem dX9_areAmps_16 : decode cX9_areAmps 16 = .ok (.iconst 0, 1) := by decide +kernel
theorem dX9_areAmps_17 : decode cX9_areAmps 17 = .ok (.ireturn, 1) := by decide +kernel
theorem dX9_areAmps_18 : decode cX9_areAmps 18 = .ok (.iconst 0, 1) := by decide +kernel
theorem dX9_areAmps_19 : decode cX9_areAmps 19 = .ok (.istore_n 3, 1) := by decide +kernel
theorem dX9_areAmps_20 : decode cX9_areAmps 20 = .ok (.iload_n 3, 1) := by decide +kernel
theorem dX9_areAmps_21 : decode cX9_areAmps 21 = .ok (.aload_n 0, 1) := by decide +kernel
theorem dX9_areAmps_22 : decode cX9_areAmps 22 = .ok (.getfield 113, 3) := by decide +kernel
theorem dX9_areAmps_25 : decode cX9_areAmps 25 = .ok (.if_icmp .ge 20, 3) := by decide +kernel
theorem dX9_areAmps_28 : decode cX9_areAmps 28 = .ok (.aload_n 0, 1) := by decide +kernel
theorem dX9_areAmps_29 : decode cX9_areAmps 29 = .ok (.getfield 7, 3) := by decide +kernel
theorem dX9_areAmps_32 : decode cX9_areAmps 32 = .ok (.iload_n 3, 1) := by decide +kernel
theorem dX9_areAmps_33 : decode cX9_areAmps 33 = .ok (.baload, 1) := by decide +kernel
theorem dX9_areAmps_34 : decode cX9_areAmps 34 = .ok (.ifCond .ne 5, 3) := by decide +kernel
theorem dX9_areAmps_37 : decode cX9_areAmps 37 = .ok (.iconst 0, 1) := by decide +kernel
theorem dX9_areAmps_38 : decode cX9_areAmps 38 = .ok (.ireturn, 1) := by decide +kernel
theorem dX9_areAmps_39 : decode cX9_areAmps 39 = .ok (.iinc 3 1, 3) := by decide +kernel
theorem dX9_areAmps_42 : decode cX9_areAmps 42 = .ok (.goto (-22), 3) := by decide +kernel
theorem dX9_areAmps_45 : decode cX9_areAmps 45 = .ok (.iconst 1, 1) := by decide +kernel
theorem dX9_areAmps_46 : decode cX9_areAmps 46 = .ok (.ireturn, 1) := by decide +kernel
theorem dX9_wire_0 : decode cX9_wire 0 = .ok (.aload_n 0, 1) := by decide +kernel
theorem dX9_wire_1 : decode cX9_wire 1 = .ok (.getfield 20, 3) := by decide +kernel
theorem dX9_wire_4 : decode cX9_wire 4 = .ok (.iload_n 1, 1) := by decide +kernel
theorem dX9_wire_5 : decode cX9_wire 5 = .ok (.iload_n 2, 1) := by decide +kernel
theorem dX9_wire_6 : decode cX9_wire 6 = .ok (.iastore, 1) := by decide +kernel
theorem dX9_wire_7 : decode cX9_wire 7 = .ok (.aload_n 0, 1) := by decide +kernel
theorem dX9_wire_8 : decode cX9_wire 8 = .ok (.getfield 23, 3) := by decide +kernel
theorem dX9_wire_11 : decode cX9_wire 11 = .ok (.iload_n 1, 1) := by decide +kernel
theorem dX9_wire_12 : decode cX9_wire 12 = .ok (.iload_n 3, 1) := by decide +kernel
theorem dX9_wire_13 : decode cX9_wire 13 = .ok (.iastore, 1) := by decide +kernel
theorem dX9_wire_14 : decode cX9_wire 14 = .ok (.aload_n 0, 1) := by decide +kernel
theorem dX9_wire_15 : decode cX9_wire 15 = .ok (.getfield 26, 3) := by decide +kernel
theorem dX9_wire_18 : decode cX9_wire 18 = .ok (.iload_n 1, 1) := by decide +kernel
theorem dX9_wire_19 : decode cX9_wire 19 = .ok (.aload_n 0, 1) := by decide +kernel
theorem dX9_wire_20 : decode cX9_wire 20 = .ok (.getfield 113, 3) := by decide +kernel
theorem dX9_wire_23 : decode cX9_wire 23 = .ok (.iastore, 1) := by decide +kernel
theorem dX9_wire_24 : decode cX9_wire 24 = .ok (.iconst 0, 1) := by decide +kernel
theorem dX9_wire_25 : decode cX9_wire 25 = .ok (.istore 4, 2) := by decide +kernel
theorem dX9_wire_27 : decode cX9_wire 27 = .ok (.iload 4, 2) := by decide +kernel
theorem dX9_wire_29 : decode cX9_wire 29 = .ok (.aload_n 0, 1) := by decide +kernel
theorem dX9_wire_30 : decode cX9_wire 30 = .ok (.getfield 113, 3) := by decide +kernel
theorem dX9_wire_33 : decode cX9_wire 33 = .ok (.if_icmp .ge 31, 3) := by decide +kernel
theorem dX9_wire_36 : decode cX9_wire 36 = .ok (.aload_n 0, 1) := by decide +kernel
theorem dX9_wire_37 : decode cX9_wire 37 = .ok (.getfield 29, 3) := by decide +kernel
theorem dX9_wire_40 : decode cX9_wire 40 = .ok (.iconst 4, 1) := by decide +kernel
theorem dX9_wire_41 : decode cX9_wire 41 = .ok (.iload_n 1, 1) := by decide +kernel
theorem dX9_wire_42 : decode cX9_wire 42 = .ok (.imul, 1) := by decide +kernel
theorem dX9_wire_43 : decode cX9_wire 43 = .ok (.iload 4, 2) := by decide +kernel
theorem dX9_wire_45 : decode cX9_wire 45 = .ok (.iadd, 1) := by decide +kernel
theorem dX9_wire_46 : decode cX9_wire 46 = .ok (.aload_n 0, 1) := by decide +kernel
theorem dX9_wire_47 : decode cX9_wire 47 = .ok (.getfield 7, 3) := by decide +kernel
theorem dX9_wire_50 : decode cX9_wire 50 = .ok (.iload 4, 2) := by decide +kernel
theorem dX9_wire_52 : decode cX9_wire 52 = .ok (.baload, 1) := by decide +kernel
theorem dX9_wire_53 : decode cX9_wire 53 = .ok (.sipush 255, 3) := by decide +kernel
theorem dX9_wire_56 : decode cX9_wire 56 = .ok (.iand, 1) := by decide +kernel
theorem dX9_wire_57 : decode cX9_wire 57 = .ok (.iastore, 1) := by decide +kernel
theorem dX9_wire_58 : decode cX9_wire 58 = .ok (.iinc 4 1, 3) := by decide +kernel
theorem dX9_wire_61 : decode cX9_wire 61 = .ok (.goto (-34), 3) := by decide +kernel
theorem dX9_wire_64 : decode cX9_wire 64 = .ok (.return_, 1) := by decide +kernel
theorem dX9_plug_0 : decode cX9_plug 0 = .ok (.iconst 0, 1) := by decide +kernel
theorem dX9_plug_1 : decode cX9_plug 1 = .ok (.istore_n 3, 1) := by decide +kernel
theorem dX9_plug_2 : decode cX9_plug 2 = .ok (.iload_n 3, 1) := by decide +kernel
theorem dX9_plug_3 : decode cX9_plug 3 = .ok (.iconst 4, 1) := by decide +kernel
theorem dX9_plug_4 : decode cX9_plug 4 = .ok (.if_icmp .ge 16, 3) := by decide +kernel
theorem dX9_plug_7 : decode cX9_plug 7 = .ok (.aload_n 0, 1) := by decide +kernel
theorem dX9_plug_8 : decode cX9_plug 8 = .ok (.getfield 62, 3) := by decide +kernel
theorem dX9_plug_11 : decode cX9_plug 11 = .ok (.iload_n 3, 1) := by decide +kernel
theorem dX9_plug_12 : decode cX9_plug 12 = .ok (.iconst 0, 1) := by decide +kernel
theorem dX9_plug_13 : decode cX9_plug 13 = .ok (.iastore, 1) := by decide +kernel
theorem dX9_plug_14 : decode cX9_plug 14 = .ok (.iinc 3 1, 3) := by decide +kernel
theorem dX9_plug_17 : decode cX9_plug 17 = .ok (.goto (-15), 3) := by decide +kernel
theorem dX9_plug_20 : decode cX9_plug 20 = .ok (.iconst 0, 1) := by decide +kernel
theorem dX9_plug_21 : decode cX9_plug 21 = .ok (.istore_n 3, 1) := by decide +kernel
theorem dX9_plug_22 : decode cX9_plug 22 = .ok (.iconst 0, 1) := by decide +kernel
theorem dX9_plug_23 : decode cX9_plug 23 = .ok (.istore 4, 2) := by decide +kernel
theorem dX9_plug_25 : decode cX9_plug 25 = .ok (.iload 4, 2) := by decide +kernel
theorem dX9_plug_27 : decode cX9_plug 27 = .ok (.bipush 8, 2) := by decide +kernel
theorem dX9_plug_29 : decode cX9_plug 29 = .ok (.if_icmp .ge 17, 3) := by decide +kernel
theorem dX9_plug_32 : decode cX9_plug 32 = .ok (.aload_n 0, 1) := by decide +kernel
theorem dX9_plug_33 : decode cX9_plug 33 = .ok (.getfield 59, 3) := by decide +kernel
theorem dX9_plug_36 : decode cX9_plug 36 = .ok (.iload 4, 2) := by decide +kernel
theorem dX9_plug_38 : decode cX9_plug 38 = .ok (.iconst (-1), 1) := by decide +kernel
theorem dX9_plug_39 : decode cX9_plug 39 = .ok (.iastore, 1) := by decide +kernel
theorem dX9_plug_40 : decode cX9_plug 40 = .ok (.iinc 4 1, 3) := by decide +kernel
theorem dX9_plug_43 : decode cX9_plug 43 = .ok (.goto (-18), 3) := by decide +kernel
theorem dX9_plug_46 : decode cX9_plug 46 = .ok (.iload_n 3, 1) := by decide +kernel
theorem dX9_plug_47 : decode cX9_plug 47 = .ok (.aload_n 0, 1) := by decide +kernel
theorem dX9_plug_48 : decode cX9_plug 48 = .ok (.getfield 38, 3) := by decide +kernel
theorem dX9_plug_51 : decode cX9_plug 51 = .ok (.iload_n 1, 1) := by decide +kernel
theorem dX9_plug_52 : decode cX9_plug 52 = .ok (.iaload, 1) := by decide +kernel
theorem dX9_plug_53 : decode cX9_plug 53 = .ok (.if_icmp .ge 167, 3) := by decide +kernel
theorem dX9_plug_56 : decode cX9_plug 56 = .ok (.aload_n 0, 1) := by decide +kernel
theorem dX9_plug_57 : decode cX9_plug 57 = .ok (.getfield 41, 3) := by decide +kernel
theorem dX9_plug_60 : decode cX9_plug 60 = .ok (.bipush 8, 2) := by decide +kernel
theorem dX9_plug_62 : decode cX9_plug 62 = .ok (.iload_n 1, 1) := by decide +kernel
theorem dX9_plug_63 : decode cX9_plug 63 = .ok (.imul, 1) := by decide +kernel
theorem dX9_plug_64 : decode cX9_plug 64 = .ok (.iload_n 3, 1) := by decide +kernel
theorem dX9_plug_65 : decode cX9_plug 65 = .ok (.iadd, 1) := by decide +kernel
theorem dX9_plug_66 : decode cX9_plug 66 = .ok (.iaload, 1) := by decide +kernel
theorem dX9_plug_67 : decode cX9_plug 67 = .ok (.istore 4, 2) := by decide +kernel
theorem dX9_plug_69 : decode cX9_plug 69 = .ok (.aload_n 0, 1) := by decide +kernel
theorem dX9_plug_70 : decode cX9_plug 70 = .ok (.getfield 59, 3) := by decide +kernel
theorem dX9_plug_73 : decode cX9_plug 73 = .ok (.iload_n 3, 1) := by decide +kernel
theorem dX9_plug_74 : decode cX9_plug 74 = .ok (.iaload, 1) := by decide +kernel
theorem dX9_plug_75 : decode cX9_plug 75 = .ok (.ifCond .lt 19, 3) := by decide +kernel
theorem dX9_plug_78 : decode cX9_plug 78 = .ok (.aload_n 0, 1) := by decide +kernel
theorem dX9_plug_79 : decode cX9_plug 79 = .ok (.getfield 62, 3) := by decide +kernel
theorem dX9_plug_82 : decode cX9_plug 82 = .ok (.aload_n 0, 1) := by decide +kernel
theorem dX9_plug_83 : decode cX9_plug 83 = .ok (.getfield 59, 3) := by decide +kernel
theorem dX9_plug_86 : decode cX9_plug 86 = .ok (.iload_n 3, 1) := by decide +kernel
theorem dX9_plug_87 : decode cX9_plug 87 = .ok (.iaload, 1) := by decide +kernel
theorem dX9_plug_88 : decode cX9_plug 88 = .ok (.dup2, 1) := by decide +kernel
theorem dX9_plug_89 : decode cX9_plug 89 = .ok (.iaload, 1) := by decide +kernel
theorem dX9_plug_90 : decode cX9_plug 90 = .ok (.iload 4, 2) := by decide +kernel
theorem dX9_plug_92 : decode cX9_plug 92 = .ok (.isub, 1) := by decide +kernel
theorem dX9_plug_93 : decode cX9_plug 93 = .ok (.iastore, 1) := by decide +kernel
theorem dX9_plug_94 : decode cX9_plug 94 = .ok (.aload_n 0, 1) := by decide +kernel
theorem dX9_plug_95 : decode cX9_plug 95 = .ok (.getfield 59, 3) := by decide +kernel
theorem dX9_plug_98 : decode cX9_plug 98 = .ok (.iload_n 3, 1) := by decide +kernel
theorem dX9_plug_99 : decode cX9_plug 99 = .ok (.dup2, 1) := by decide +kernel
theorem dX9_plug_100 : decode cX9_plug 100 = .ok (.iaload, 1) := by decide +kernel
theorem dX9_plug_101 : decode cX9_plug 101 = .ok (.iconst 1, 1) := by decide +kernel
theorem dX9_plug_102 : decode cX9_plug 102 = .ok (.iadd, 1) := by decide +kernel
theorem dX9_plug_103 : decode cX9_plug 103 = .ok (.iastore, 1) := by decide +kernel
theorem dX9_plug_104 : decode cX9_plug 104 = .ok (.aload_n 0, 1) := by decide +kernel
theorem dX9_plug_105 : decode cX9_plug 105 = .ok (.getfield 59, 3) := by decide +kernel
theorem dX9_plug_108 : decode cX9_plug 108 = .ok (.iload_n 3, 1) := by decide +kernel
theorem dX9_plug_109 : decode cX9_plug 109 = .ok (.iaload, 1) := by decide +kernel
theorem dX9_plug_110 : decode cX9_plug 110 = .ok (.aload_n 0, 1) := by decide +kernel
theorem dX9_plug_111 : decode cX9_plug 111 = .ok (.getfield 26, 3) := by decide +kernel
theorem dX9_plug_114 : decode cX9_plug 114 = .ok (.iload_n 2, 1) := by decide +kernel
theorem dX9_plug_115 : decode cX9_plug 115 = .ok (.iaload, 1) := by decide +kernel
theorem dX9_plug_116 : decode cX9_plug 116 = .ok (.if_icmp .ge 48, 3) := by decide +kernel
theorem dX9_plug_119 : decode cX9_plug 119 = .ok (.aload_n 0, 1) := by decide +kernel
theorem dX9_plug_120 : decode cX9_plug 120 = .ok (.getfield 62, 3) := by decide +kernel
theorem dX9_plug_123 : decode cX9_plug 123 = .ok (.aload_n 0, 1) := by decide +kernel
theorem dX9_plug_124 : decode cX9_plug 124 = .ok (.getfield 59, 3) := by decide +kernel
theorem dX9_plug_127 : decode cX9_plug 127 = .ok (.iload_n 3, 1) := by decide +kernel
theorem dX9_plug_128 : decode cX9_plug 128 = .ok (.iaload, 1) := by decide +kernel
theorem dX9_plug_129 : decode cX9_plug 129 = .ok (.iaload, 1) := by decide +kernel
theorem dX9_plug_130 : decode cX9_plug 130 = .ok (.iload 4, 2) := by decide +kernel
theorem dX9_plug_132 : decode cX9_plug 132 = .ok (.iadd, 1) := by decide +kernel
theorem dX9_plug_133 : decode cX9_plug 133 = .ok (.aload_n 0, 1) := by decide +kernel
theorem dX9_plug_134 : decode cX9_plug 134 = .ok (.getfield 29, 3) := by decide +kernel
theorem dX9_plug_137 : decode cX9_plug 137 = .ok (.iconst 4, 1) := by decide +kernel
theorem dX9_plug_138 : decode cX9_plug 138 = .ok (.iload_n 2, 1) := by decide +kernel
theorem dX9_plug_139 : decode cX9_plug 139 = .ok (.imul, 1) := by decide +kernel
theorem dX9_plug_140 : decode cX9_plug 140 = .ok (.aload_n 0, 1) := by decide +kernel
theorem dX9_plug_141 : decode cX9_plug 141 = .ok (.getfield 59, 3) := by decide +kernel
theorem dX9_plug_144 : decode cX9_plug 144 = .ok (.iload_n 3, 1) := by decide +kernel
theorem dX9_plug_145 : decode cX9_plug 145 = .ok (.iaload, 1) := by decide +kernel
theorem dX9_plug_146 : decode cX9_plug 146 = .ok (.iadd, 1) := by decide +kernel
theorem dX9_plug_147 : decode cX9_plug 147 = .ok (.iaload, 1) := by decide +kernel
theorem dX9_plug_148 : decode cX9_plug 148 = .ok (.if_icmp .le 16, 3) := by decide +kernel
theorem dX9_plug_151 : decode cX9_plug 151 = .ok (.aload_n 0, 1) := by decide +kernel
theorem dX9_plug_152 : decode cX9_plug 152 = .ok (.getfield 59, 3) := by decide +kernel
theorem dX9_plug_155 : decode cX9_plug 155 = .ok (.iload_n 3, 1) := by decide +kernel
theorem dX9_plug_156 : decode cX9_plug 156 = .ok (.dup2, 1) := by decide +kernel
theorem dX9_plug_157 : decode cX9_plug 157 = .ok (.iaload, 1) := by decide +kernel
theorem dX9_plug_158 : decode cX9_plug 158 = .ok (.iconst 1, 1) := by decide +kernel
theorem dX9_plug_159 : decode cX9_plug 159 = .ok (.iadd, 1) := by decide +kernel
theorem dX9_plug_160 : decode cX9_plug 160 = .ok (.iastore, 1) := by decide +kernel
theorem dX9_plug_161 : decode cX9_plug 161 = .ok (.goto (-57), 3) := by decide +kernel
theorem dX9_plug_164 : decode cX9_plug 164 = .ok (.aload_n 0, 1) := by decide +kernel
theorem dX9_plug_165 : decode cX9_plug 165 = .ok (.getfield 59, 3) := by decide +kernel
theorem dX9_plug_168 : decode cX9_plug 168 = .ok (.iload_n 3, 1) := by decide +kernel
theorem dX9_plug_169 : decode cX9_plug 169 = .ok (.iaload, 1) := by decide +kernel
theorem dX9_plug_170 : decode cX9_plug 170 = .ok (.aload_n 0, 1) := by decide +kernel
theorem dX9_plug_171 : decode cX9_plug 171 = .ok (.getfield 26, 3) := by decide +kernel
theorem dX9_plug_174 : decode cX9_plug 174 = .ok (.iload_n 2, 1) := by decide +kernel
theorem dX9_plug_175 : decode cX9_plug 175 = .ok (.iaload, 1) := by decide +kernel
theorem dX9_plug_176 : decode cX9_plug 176 = .ok (.if_icmp .ge 25, 3) := by decide +kernel
theorem dX9_plug_179 : decode cX9_plug 179 = .ok (.aload_n 0, 1) := by decide +kernel
theorem dX9_plug_180 : decode cX9_plug 180 = .ok (.getfield 62, 3) := by decide +kernel
theorem dX9_plug_183 : decode cX9_plug 183 = .ok (.aload_n 0, 1) := by decide +kernel
theorem dX9_plug_184 : decode cX9_plug 184 = .ok (.getfield 59, 3) := by decide +kernel
theorem dX9_plug_187 : decode cX9_plug 187 = .ok (.iload_n 3, 1) := by decide +kernel
theorem dX9_plug_188 : decode cX9_plug 188 = .ok (.iaload, 1) := by decide +kernel
theorem dX9_plug_189 : decode cX9_plug 189 = .ok (.dup2, 1) := by decide +kernel
theorem dX9_plug_190 : decode cX9_plug 190 = .ok (.iaload, 1) := by decide +kernel
theorem dX9_plug_191 : decode cX9_plug 191 = .ok (.iload 4, 2) := by decide +kernel
theorem dX9_plug_193 : decode cX9_plug 193 = .ok (.iadd, 1) := by decide +kernel
theorem dX9_plug_194 : decode cX9_plug 194 = .ok (.iastore, 1) := by decide +kernel
theorem dX9_plug_195 : decode cX9_plug 195 = .ok (.iinc 3 1, 3) := by decide +kernel
theorem dX9_plug_198 : decode cX9_plug 198 = .ok (.goto (-152), 3) := by decide +kernel
theorem dX9_plug_201 : decode cX9_plug 201 = .ok (.aload_n 0, 1) := by decide +kernel
theorem dX9_plug_202 : decode cX9_plug 202 = .ok (.getfield 59, 3) := by decide +kernel
theorem dX9_plug_205 : decode cX9_plug 205 = .ok (.iload_n 3, 1) := by decide +kernel
theorem dX9_plug_206 : decode cX9_plug 206 = .ok (.iconst (-1), 1) := by decide +kernel
theorem dX9_plug_207 : decode cX9_plug 207 = .ok (.iastore, 1) := by decide +kernel
theorem dX9_plug_208 : decode cX9_plug 208 = .ok (.iinc 3 (-1), 3) := by decide +kernel
theorem dX9_plug_211 : decode cX9_plug 211 = .ok (.iload_n 3, 1) := by decide +kernel
theorem dX9_plug_212 : decode cX9_plug 212 = .ok (.ifCond .ge 5, 3) := by decide +kernel
theorem dX9_plug_215 : decode cX9_plug 215 = .ok (.iconst 0, 1) := by decide +kernel
theorem dX9_plug_216 : decode cX9_plug 216 = .ok (.ireturn, 1) := by decide +kernel
theorem dX9_plug_217 : decode cX9_plug 217 = .ok (.goto (-171), 3) := by decide +kernel
theorem dX9_plug_220 : decode cX9_plug 220 = .ok (.iconst 1, 1) := by decide +kernel
theorem dX9_plug_221 : decode cX9_plug 221 = .ok (.ireturn, 1) := by decide +kernel
theorem dX9_milesOf_0 : decode cX9_milesOf 0 = .ok (.aload_n 0, 1) := by decide +kernel
theorem dX9_milesOf_1 : decode cX9_milesOf 1 = .ok (.getfield 13, 3) := by decide +kernel
theorem dX9_milesOf_4 : decode cX9_milesOf 4 = .ok (.iload_n 1, 1) := by decide +kernel
theorem dX9_milesOf_5 : decode cX9_milesOf 5 = .ok (.iaload, 1) := by decide +kernel
theorem dX9_milesOf_6 : decode cX9_milesOf 6 = .ok (.aload_n 0, 1) := by decide +kernel
theorem dX9_milesOf_7 : decode cX9_milesOf 7 = .ok (.getfield 13, 3) := by decide +kernel
theorem dX9_milesOf_10 : decode cX9_milesOf 10 = .ok (.iload_n 2, 1) := by decide +kernel
theorem dX9_milesOf_11 : decode cX9_milesOf 11 = .ok (.iaload, 1) := by decide +kernel
theorem dX9_milesOf_12 : decode cX9_milesOf 12 = .ok (.isub, 1) := by decide +kernel
theorem dX9_milesOf_13 : decode cX9_milesOf 13 = .ok (.istore_n 3, 1) := by decide +kernel
theorem dX9_milesOf_14 : decode cX9_milesOf 14 = .ok (.aload_n 0, 1) := by decide +kernel
theorem dX9_milesOf_15 : decode cX9_milesOf 15 = .ok (.getfield 17, 3) := by decide +kernel
theorem dX9_milesOf_18 : decode cX9_milesOf 18 = .ok (.iload_n 1, 1) := by decide +kernel
theorem dX9_milesOf_19 : decode cX9_milesOf 19 = .ok (.iaload, 1) := by decide +kernel
theorem dX9_milesOf_20 : decode cX9_milesOf 20 = .ok (.aload_n 0, 1) := by decide +kernel
theorem dX9_milesOf_21 : decode cX9_milesOf 21 = .ok (.getfield 17, 3) := by decide +kernel
theorem dX9_milesOf_24 : decode cX9_milesOf 24 = .ok (.iload_n 2, 1) := by decide +kernel
theorem dX9_milesOf_25 : decode cX9_milesOf 25 = .ok (.iaload, 1) := by decide +kernel
theorem dX9_milesOf_26 : decode cX9_milesOf 26 = .ok (.isub, 1) := by decide +kernel
theorem dX9_milesOf_27 : decode cX9_milesOf 27 = .ok (.istore 4, 2) := by decide +kernel
theorem dX9_milesOf_29 : decode cX9_milesOf 29 = .ok (.iload_n 3, 1) := by decide +kernel
theorem dX9_milesOf_30 : decode cX9_milesOf 30 = .ok (.ifCond .ge 8, 3) := by decide +kernel
theorem dX9_milesOf_33 : decode cX9_milesOf 33 = .ok (.iload_n 3, 1) := by decide +kernel
theorem dX9_milesOf_34 : decode cX9_milesOf 34 = .ok (.ineg, 1) := by decide +kernel
theorem dX9_milesOf_35 : decode cX9_milesOf 35 = .ok (.goto 4, 3) := by decide +kernel
theorem dX9_milesOf_38 : decode cX9_milesOf 38 = .ok (.iload_n 3, 1) := by decide +kernel
theorem dX9_milesOf_39 : decode cX9_milesOf 39 = .ok (.iload 4, 2) := by decide +kernel
theorem dX9_milesOf_41 : decode cX9_milesOf 41 = .ok (.ifCond .ge 9, 3) := by decide +kernel
theorem dX9_milesOf_44 : decode cX9_milesOf 44 = .ok (.iload 4, 2) := by decide +kernel
theorem dX9_milesOf_46 : decode cX9_milesOf 46 = .ok (.ineg, 1) := by decide +kernel
theorem dX9_milesOf_47 : decode cX9_milesOf 47 = .ok (.goto 5, 3) := by decide +kernel
theorem dX9_milesOf_50 : decode cX9_milesOf 50 = .ok (.iload 4, 2) := by decide +kernel
theorem dX9_milesOf_52 : decode cX9_milesOf 52 = .ok (.iadd, 1) := by decide +kernel
theorem dX9_milesOf_53 : decode cX9_milesOf 53 = .ok (.ireturn, 1) := by decide +kernel
theorem dX9_isFree_0 : decode cX9_isFree 0 = .ok (.iconst 0, 1) := by decide +kernel
theorem dX9_isFree_1 : decode cX9_isFree 1 = .ok (.istore 4, 2) := by decide +kernel
theorem dX9_isFree_3 : decode cX9_isFree 3 = .ok (.iload 4, 2) := by decide +kernel
theorem dX9_isFree_5 : decode cX9_isFree 5 = .ok (.aload_n 0, 1) := by decide +kernel
theorem dX9_isFree_6 : decode cX9_isFree 6 = .ok (.getfield 122, 3) := by decide +kernel
theorem dX9_isFree_9 : decode cX9_isFree 9 = .ok (.if_icmp .ge 33, 3) := by decide +kernel
theorem dX9_isFree_12 : decode cX9_isFree 12 = .ok (.iload 4, 2) := by decide +kernel
theorem dX9_isFree_14 : decode cX9_isFree 14 = .ok (.iload_n 1, 1) := by decide +kernel
theorem dX9_isFree_15 : decode cX9_isFree 15 = .ok (.if_icmp .eq 21, 3) := by decide +kernel
theorem dX9_isFree_18 : decode cX9_isFree 18 = .ok (.aload_n 0, 1) := by decide +kernel
theorem dX9_isFree_19 : decode cX9_isFree 19 = .ok (.getfield 65, 3) := by decide +kernel
theorem dX9_isFree_22 : decode cX9_isFree 22 = .ok (.bipush 14, 2) := by decide +kernel
theorem dX9_isFree_24 : decode cX9_isFree 24 = .ok (.iload 4, 2) := by decide +kernel
theorem dX9_isFree_26 : decode cX9_isFree 26 = .ok (.imul, 1) := by decide +kernel
theorem dX9_isFree_27 : decode cX9_isFree 27 = .ok (.iload_n 3, 1) := by decide +kernel
theorem dX9_isFree_28 : decode cX9_isFree 28 = .ok (.iadd, 1) := by decide +kernel
theorem dX9_isFree_29 : decode cX9_isFree 29 = .ok (.iaload, 1) := by decide +kernel
theorem dX9_isFree_30 : decode cX9_isFree 30 = .ok (.iload_n 2, 1) := by decide +kernel
theorem dX9_isFree_31 : decode cX9_isFree 31 = .ok (.if_icmp .ne 5, 3) := by decide +kernel
theorem dX9_isFree_34 : decode cX9_isFree 34 = .ok (.iconst 0, 1) := by decide +kernel
theorem dX9_isFree_35 : decode cX9_isFree 35 = .ok (.ireturn, 1) := by decide +kernel
theorem dX9_isFree_36 : decode cX9_isFree 36 = .ok (.iinc 4 1, 3) := by decide +kernel
theorem dX9_isFree_39 : decode cX9_isFree 39 = .ok (.goto (-36), 3) := by decide +kernel
theorem dX9_isFree_42 : decode cX9_isFree 42 = .ok (.iconst 1, 1) := by decide +kernel
theorem dX9_isFree_43 : decode cX9_isFree 43 = .ok (.ireturn, 1) := by decide +kernel
theorem dX9_wasThere_0 : decode cX9_wasThere 0 = .ok (.aload_n 0, 1) := by decide +kernel
theorem dX9_wasThere_1 : decode cX9_wasThere 1 = .ok (.getfield 80, 3) := by decide +kernel
theorem dX9_wasThere_4 : decode cX9_wasThere 4 = .ok (.iload_n 1, 1) := by decide +kernel
theorem dX9_wasThere_5 : decode cX9_wasThere 5 = .ok (.iaload, 1) := by decide +kernel
theorem dX9_wasThere_6 : decode cX9_wasThere 6 = .ok (.ifCond .ge 7, 3) := by decide +kernel
theorem dX9_wasThere_9 : decode cX9_wasThere 9 = .ok (.iconst 0, 1) := by decide +kernel
theorem dX9_wasThere_10 : decode cX9_wasThere 10 = .ok (.goto 11, 3) := by decide +kernel
theorem dX9_wasThere_13 : decode cX9_wasThere 13 = .ok (.iload_n 1, 1) := by decide +kernel
theorem dX9_wasThere_14 : decode cX9_wasThere 14 = .ok (.aload_n 0, 1) := by decide +kernel
theorem dX9_wasThere_15 : decode cX9_wasThere 15 = .ok (.getfield 83, 3) := by decide +kernel
theorem dX9_wasThere_18 : decode cX9_wasThere 18 = .ok (.iload_n 1, 1) := by decide +kernel
theorem dX9_wasThere_19 : decode cX9_wasThere 19 = .ok (.iaload, 1) := by decide +kernel
theorem dX9_wasThere_20 : decode cX9_wasThere 20 = .ok (.isub, 1) := by decide +kernel
theorem dX9_wasThere_21 : decode cX9_wasThere 21 = .ok (.istore_n 2, 1) := by decide +kernel
theorem dX9_wasThere_22 : decode cX9_wasThere 22 = .ok (.iload_n 1, 1) := by decide +kernel
theorem dX9_wasThere_23 : decode cX9_wasThere 23 = .ok (.bipush 64, 2) := by decide +kernel
theorem dX9_wasThere_25 : decode cX9_wasThere 25 = .ok (.imul, 1) := by decide +kernel
theorem dX9_wasThere_26 : decode cX9_wasThere 26 = .ok (.aload_n 0, 1) := by decide +kernel
theorem dX9_wasThere_27 : decode cX9_wasThere 27 = .ok (.getfield 77, 3) := by decide +kernel
theorem dX9_wasThere_30 : decode cX9_wasThere 30 = .ok (.iload_n 1, 1) := by decide +kernel
theorem dX9_wasThere_31 : decode cX9_wasThere 31 = .ok (.iaload, 1) := by decide +kernel
theorem dX9_wasThere_32 : decode cX9_wasThere 32 = .ok (.iadd, 1) := by decide +kernel
theorem dX9_wasThere_33 : decode cX9_wasThere 33 = .ok (.bipush 7, 2) := by decide +kernel
theorem dX9_wasThere_35 : decode cX9_wasThere 35 = .ok (.imul, 1) := by decide +kernel
theorem dX9_wasThere_36 : decode cX9_wasThere 36 = .ok (.aload_n 0, 1) := by decide +kernel
theorem dX9_wasThere_37 : decode cX9_wasThere 37 = .ok (.getfield 80, 3) := by decide +kernel
theorem dX9_wasThere_40 : decode cX9_wasThere 40 = .ok (.iload_n 1, 1) := by decide +kernel
theorem dX9_wasThere_41 : decode cX9_wasThere 41 = .ok (.iaload, 1) := by decide +kernel
theorem dX9_wasThere_42 : decode cX9_wasThere 42 = .ok (.iadd, 1) := by decide +kernel
theorem dX9_wasThere_43 : decode cX9_wasThere 43 = .ok (.iconst 1, 1) := by decide +kernel
theorem dX9_wasThere_44 : decode cX9_wasThere 44 = .ok (.iadd, 1) := by decide +kernel
theorem dX9_wasThere_45 : decode cX9_wasThere 45 = .ok (.bipush 15, 2) := by decide +kernel
theorem dX9_wasThere_47 : decode cX9_wasThere 47 = .ok (.imul, 1) := by decide +kernel
theorem dX9_wasThere_48 : decode cX9_wasThere 48 = .ok (.iload_n 2, 1) := by decide +kernel
theorem dX9_wasThere_49 : decode cX9_wasThere 49 = .ok (.iadd, 1) := by decide +kernel
theorem dX9_wasThere_50 : decode cX9_wasThere 50 = .ok (.bipush 15, 2) := by decide +kernel
theorem dX9_wasThere_52 : decode cX9_wasThere 52 = .ok (.imul, 1) := by decide +kernel
theorem dX9_wasThere_53 : decode cX9_wasThere 53 = .ok (.aload_n 0, 1) := by decide +kernel
theorem dX9_wasThere_54 : decode cX9_wasThere 54 = .ok (.getfield 86, 3) := by decide +kernel
theorem dX9_wasThere_57 : decode cX9_wasThere 57 = .ok (.iload_n 1, 1) := by decide +kernel
theorem dX9_wasThere_58 : decode cX9_wasThere 58 = .ok (.iaload, 1) := by decide +kernel
theorem dX9_wasThere_59 : decode cX9_wasThere 59 = .ok (.iadd, 1) := by decide +kernel
theorem dX9_wasThere_60 : decode cX9_wasThere 60 = .ok (.istore_n 3, 1) := by decide +kernel
theorem dX9_wasThere_61 : decode cX9_wasThere 61 = .ok (.aload_n 0, 1) := by decide +kernel
theorem dX9_wasThere_62 : decode cX9_wasThere 62 = .ok (.getfield 95, 3) := by decide +kernel
theorem dX9_wasThere_65 : decode cX9_wasThere 65 = .ok (.iload_n 3, 1) := by decide +kernel
theorem dX9_wasThere_66 : decode cX9_wasThere 66 = .ok (.bipush 64, 2) := by decide +kernel
theorem dX9_wasThere_68 : decode cX9_wasThere 68 = .ok (.idiv, 1) := by decide +kernel
theorem dX9_wasThere_69 : decode cX9_wasThere 69 = .ok (.laload, 1) := by decide +kernel
theorem dX9_wasThere_70 : decode cX9_wasThere 70 = .ok (.iload_n 3, 1) := by decide +kernel
theorem dX9_wasThere_71 : decode cX9_wasThere 71 = .ok (.bipush 64, 2) := by decide +kernel
theorem dX9_wasThere_73 : decode cX9_wasThere 73 = .ok (.irem, 1) := by decide +kernel
theorem dX9_wasThere_74 : decode cX9_wasThere 74 = .ok (.lshr, 1) := by decide +kernel
theorem dX9_wasThere_75 : decode cX9_wasThere 75 = .ok (.lconst 1, 1) := by decide +kernel
theorem dX9_wasThere_76 : decode cX9_wasThere 76 = .ok (.land, 1) := by decide +kernel
theorem dX9_wasThere_77 : decode cX9_wasThere 77 = .ok (.lconst 1, 1) := by decide +kernel
theorem dX9_wasThere_78 : decode cX9_wasThere 78 = .ok (.lcmp, 1) := by decide +kernel
theorem dX9_wasThere_79 : decode cX9_wasThere 79 = .ok (.ifCond .ne 7, 3) := by decide +kernel
theorem dX9_wasThere_82 : decode cX9_wasThere 82 = .ok (.iconst 1, 1) := by decide +kernel
theorem dX9_wasThere_83 : decode cX9_wasThere 83 = .ok (.goto 4, 3) := by decide +kernel
theorem dX9_wasThere_86 : decode cX9_wasThere 86 = .ok (.iconst 0, 1) := by decide +kernel
theorem dX9_wasThere_87 : decode cX9_wasThere 87 = .ok (.istore 4, 2) := by decide +kernel
theorem dX9_wasThere_89 : decode cX9_wasThere 89 = .ok (.aload_n 0, 1) := by decide +kernel
theorem dX9_wasThere_90 : decode cX9_wasThere 90 = .ok (.getfield 95, 3) := by decide +kernel
theorem dX9_wasThere_93 : decode cX9_wasThere 93 = .ok (.iload_n 3, 1) := by decide +kernel
theorem dX9_wasThere_94 : decode cX9_wasThere 94 = .ok (.bipush 64, 2) := by decide +kernel
theorem dX9_wasThere_96 : decode cX9_wasThere 96 = .ok (.idiv, 1) := by decide +kernel
theorem dX9_wasThere_97 : decode cX9_wasThere 97 = .ok (.aload_n 0, 1) := by decide +kernel
theorem dX9_wasThere_98 : decode cX9_wasThere 98 = .ok (.getfield 95, 3) := by decide +kernel
theorem dX9_wasThere_101 : decode cX9_wasThere 101 = .ok (.iload_n 3, 1) := by decide +kernel
theorem dX9_wasThere_102 : decode cX9_wasThere 102 = .ok (.bipush 64, 2) := by decide +kernel
theorem dX9_wasThere_104 : decode cX9_wasThere 104 = .ok (.idiv, 1) := by decide +kernel
theorem dX9_wasThere_105 : decode cX9_wasThere 105 = .ok (.laload, 1) := by decide +kernel
theorem dX9_wasThere_106 : decode cX9_wasThere 106 = .ok (.lconst 1, 1) := by decide +kernel
theorem dX9_wasThere_107 : decode cX9_wasThere 107 = .ok (.iload_n 3, 1) := by decide +kernel
theorem dX9_wasThere_108 : decode cX9_wasThere 108 = .ok (.bipush 64, 2) := by decide +kernel
theorem dX9_wasThere_110 : decode cX9_wasThere 110 = .ok (.irem, 1) := by decide +kernel
theorem dX9_wasThere_111 : decode cX9_wasThere 111 = .ok (.lshl, 1) := by decide +kernel
theorem dX9_wasThere_112 : decode cX9_wasThere 112 = .ok (.lor, 1) := by decide +kernel
theorem dX9_wasThere_113 : decode cX9_wasThere 113 = .ok (.lastore, 1) := by decide +kernel
theorem dX9_wasThere_114 : decode cX9_wasThere 114 = .ok (.iload 4, 2) := by decide +kernel
theorem dX9_wasThere_116 : decode cX9_wasThere 116 = .ok (.ireturn, 1) := by decide +kernel
theorem dX9_stand_0 : decode cX9_stand 0 = .ok (.aload_n 0, 1) := by decide +kernel
theorem dX9_stand_1 : decode cX9_stand 1 = .ok (.getfield 77, 3) := by decide +kernel
theorem dX9_stand_4 : decode cX9_stand 4 = .ok (.iload_n 1, 1) := by decide +kernel
theorem dX9_stand_5 : decode cX9_stand 5 = .ok (.iload_n 2, 1) := by decide +kernel
theorem dX9_stand_6 : decode cX9_stand 6 = .ok (.iastore, 1) := by decide +kernel
theorem dX9_stand_7 : decode cX9_stand 7 = .ok (.aload_n 0, 1) := by decide +kernel
theorem dX9_stand_8 : decode cX9_stand 8 = .ok (.getfield 80, 3) := by decide +kernel
theorem dX9_stand_11 : decode cX9_stand 11 = .ok (.iload_n 1, 1) := by decide +kernel
theorem dX9_stand_12 : decode cX9_stand 12 = .ok (.iload_n 3, 1) := by decide +kernel
theorem dX9_stand_13 : decode cX9_stand 13 = .ok (.iastore, 1) := by decide +kernel
theorem dX9_stand_14 : decode cX9_stand 14 = .ok (.aload_n 0, 1) := by decide +kernel
theorem dX9_stand_15 : decode cX9_stand 15 = .ok (.getfield 83, 3) := by decide +kernel
theorem dX9_stand_18 : decode cX9_stand 18 = .ok (.iload_n 1, 1) := by decide +kernel
theorem dX9_stand_19 : decode cX9_stand 19 = .ok (.iload 4, 2) := by decide +kernel
theorem dX9_stand_21 : decode cX9_stand 21 = .ok (.iastore, 1) := by decide +kernel
theorem dX9_stand_22 : decode cX9_stand 22 = .ok (.aload_n 0, 1) := by decide +kernel
theorem dX9_stand_23 : decode cX9_stand 23 = .ok (.getfield 86, 3) := by decide +kernel
theorem dX9_stand_26 : decode cX9_stand 26 = .ok (.iload_n 1, 1) := by decide +kernel
theorem dX9_stand_27 : decode cX9_stand 27 = .ok (.iload 5, 2) := by decide +kernel
theorem dX9_stand_29 : decode cX9_stand 29 = .ok (.iastore, 1) := by decide +kernel
theorem dX9_stand_30 : decode cX9_stand 30 = .ok (.aload_n 0, 1) := by decide +kernel
theorem dX9_stand_31 : decode cX9_stand 31 = .ok (.getfield 89, 3) := by decide +kernel
theorem dX9_stand_34 : decode cX9_stand 34 = .ok (.iload_n 1, 1) := by decide +kernel
theorem dX9_stand_35 : decode cX9_stand 35 = .ok (.iload 6, 2) := by decide +kernel
theorem dX9_stand_37 : decode cX9_stand 37 = .ok (.iastore, 1) := by decide +kernel
theorem dX9_stand_38 : decode cX9_stand 38 = .ok (.return_, 1) := by decide +kernel
theorem dX9_rest_0 : decode cX9_rest 0 = .ok (.iconst 0, 1) := by decide +kernel
theorem dX9_rest_1 : decode cX9_rest 1 = .ok (.istore 4, 2) := by decide +kernel
theorem dX9_rest_3 : decode cX9_rest 3 = .ok (.iconst 0, 1) := by decide +kernel
theorem dX9_rest_4 : decode cX9_rest 4 = .ok (.istore 5, 2) := by decide +kernel
theorem dX9_rest_6 : decode cX9_rest 6 = .ok (.iload 5, 2) := by decide +kernel
theorem dX9_rest_8 : decode cX9_rest 8 = .ok (.iload_n 3, 1) := by decide +kernel
theorem dX9_rest_9 : decode cX9_rest 9 = .ok (.if_icmp .ge 50, 3) := by decide +kernel
theorem dX9_rest_12 : decode cX9_rest 12 = .ok (.iload 4, 2) := by decide +kernel
theorem dX9_rest_14 : decode cX9_rest 14 = .ok (.aload_n 0, 1) := by decide +kernel
theorem dX9_rest_15 : decode cX9_rest 15 = .ok (.getfield 77, 3) := by decide +kernel
theorem dX9_rest_18 : decode cX9_rest 18 = .ok (.iload_n 2, 1) := by decide +kernel
theorem dX9_rest_19 : decode cX9_rest 19 = .ok (.iaload, 1) := by decide +kernel
theorem dX9_rest_20 : decode cX9_rest 20 = .ok (.iload 5, 2) := by decide +kernel
theorem dX9_rest_22 : decode cX9_rest 22 = .ok (.ishr, 1) := by decide +kernel
theorem dX9_rest_23 : decode cX9_rest 23 = .ok (.iconst 1, 1) := by decide +kernel
theorem dX9_rest_24 : decode cX9_rest 24 = .ok (.iand, 1) := by decide +kernel
theorem dX9_rest_25 : decode cX9_rest 25 = .ok (.iconst 1, 1) := by decide +kernel
theorem dX9_rest_26 : decode cX9_rest 26 = .ok (.if_icmp .ne 7, 3) := by decide +kernel
theorem dX9_rest_29 : decode cX9_rest 29 = .ok (.iconst 0, 1) := by decide +kernel
theorem dX9_rest_30 : decode cX9_rest 30 = .ok (.goto 20, 3) := by decide +kernel
theorem dX9_rest_33 : decode cX9_rest 33 = .ok (.aload_n 0, 1) := by decide +kernel
theorem dX9_rest_34 : decode cX9_rest 34 = .ok (.getfield 56, 3) := by decide +kernel
theorem dX9_rest_37 : decode cX9_rest 37 = .ok (.bipush 6, 2) := by decide +kernel
theorem dX9_rest_39 : decode cX9_rest 39 = .ok (.aload_n 0, 1) := by decide +kernel
theorem dX9_rest_40 : decode cX9_rest 40 = .ok (.getfield 71, 3) := by decide +kernel
theorem dX9_rest_43 : decode cX9_rest 43 = .ok (.iload 5, 2) := by decide +kernel
theorem dX9_rest_45 : decode cX9_rest 45 = .ok (.iaload, 1) := by decide +kernel
theorem dX9_rest_46 : decode cX9_rest 46 = .ok (.imul, 1) := by decide +kernel
theorem dX9_rest_47 : decode cX9_rest 47 = .ok (.iload_n 1, 1) := by decide +kernel
theorem dX9_rest_48 : decode cX9_rest 48 = .ok (.iadd, 1) := by decide +kernel
theorem dX9_rest_49 : decode cX9_rest 49 = .ok (.iaload, 1) := by decide +kernel
theorem dX9_rest_50 : decode cX9_rest 50 = .ok (.iadd, 1) := by decide +kernel
theorem dX9_rest_51 : decode cX9_rest 51 = .ok (.istore 4, 2) := by decide +kernel
theorem dX9_rest_53 : decode cX9_rest 53 = .ok (.iinc 5 1, 3) := by decide +kernel
theorem dX9_rest_56 : decode cX9_rest 56 = .ok (.goto (-50), 3) := by decide +kernel
theorem dX9_rest_59 : decode cX9_rest 59 = .ok (.iload 4, 2) := by decide +kernel
theorem dX9_rest_61 : decode cX9_rest 61 = .ok (.ireturn, 1) := by decide +kernel
theorem dX9_peek_0 : decode cX9_peek 0 = .ok (.aload_n 0, 1) := by decide +kernel
theorem dX9_peek_1 : decode cX9_peek 1 = .ok (.getfield 116, 3) := by decide +kernel
theorem dX9_peek_4 : decode cX9_peek 4 = .ok (.aload_n 0, 1) := by decide +kernel
theorem dX9_peek_5 : decode cX9_peek 5 = .ok (.getfield 113, 3) := by decide +kernel
theorem dX9_peek_8 : decode cX9_peek 8 = .ok (.if_icmp .ge 19, 3) := by decide +kernel
theorem dX9_peek_11 : decode cX9_peek 11 = .ok (.aload_n 0, 1) := by decide +kernel
theorem dX9_peek_12 : decode cX9_peek 12 = .ok (.getfield 7, 3) := by decide +kernel
theorem dX9_peek_15 : decode cX9_peek 15 = .ok (.aload_n 0, 1) := by decide +kernel
theorem dX9_peek_16 : decode cX9_peek 16 = .ok (.getfield 116, 3) := by decide +kernel
theorem dX9_peek_19 : decode cX9_peek 19 = .ok (.baload, 1) := by decide +kernel
theorem dX9_peek_20 : decode cX9_peek 20 = .ok (.sipush 255, 3) := by decide +kernel
theorem dX9_peek_23 : decode cX9_peek 23 = .ok (.iand, 1) := by decide +kernel
theorem dX9_peek_24 : decode cX9_peek 24 = .ok (.goto 4, 3) := by decide +kernel
theorem dX9_peek_27 : decode cX9_peek 27 = .ok (.iconst (-1), 1) := by decide +kernel
theorem dX9_peek_28 : decode cX9_peek 28 = .ok (.ireturn, 1) := by decide +kernel
theorem dX9_isSmall_0 : decode cX9_isSmall 0 = .ok (.iload_n 0, 1) := by decide +kernel
theorem dX9_isSmall_1 : decode cX9_isSmall 1 = .ok (.bipush 97, 2) := by decide +kernel
theorem dX9_isSmall_3 : decode cX9_isSmall 3 = .ok (.if_icmp .lt 13, 3) := by decide +kernel
theorem dX9_isSmall_6 : decode cX9_isSmall 6 = .ok (.iload_n 0, 1) := by decide +kernel
theorem dX9_isSmall_7 : decode cX9_isSmall 7 = .ok (.bipush 122, 2) := by decide +kernel
theorem dX9_isSmall_9 : decode cX9_isSmall 9 = .ok (.if_icmp .gt 7, 3) := by decide +kernel
theorem dX9_isSmall_12 : decode cX9_isSmall 12 = .ok (.iconst 1, 1) := by decide +kernel
theorem dX9_isSmall_13 : decode cX9_isSmall 13 = .ok (.goto 4, 3) := by decide +kernel
theorem dX9_isSmall_16 : decode cX9_isSmall 16 = .ok (.iconst 0, 1) := by decide +kernel
theorem dX9_isSmall_17 : decode cX9_isSmall 17 = .ok (.ireturn, 1) := by decide +kernel
theorem dX9_isDigit_0 : decode cX9_isDigit 0 = .ok (.iload_n 0, 1) := by decide +kernel
theorem dX9_isDigit_1 : decode cX9_isDigit 1 = .ok (.bipush 48, 2) := by decide +kernel
theorem dX9_isDigit_3 : decode cX9_isDigit 3 = .ok (.if_icmp .lt 13, 3) := by decide +kernel
theorem dX9_isDigit_6 : decode cX9_isDigit 6 = .ok (.iload_n 0, 1) := by decide +kernel
theorem dX9_isDigit_7 : decode cX9_isDigit 7 = .ok (.bipush 57, 2) := by decide +kernel
theorem dX9_isDigit_9 : decode cX9_isDigit 9 = .ok (.if_icmp .gt 7, 3) := by decide +kernel
theorem dX9_isDigit_12 : decode cX9_isDigit 12 = .ok (.iconst 1, 1) := by decide +kernel
theorem dX9_isDigit_13 : decode cX9_isDigit 13 = .ok (.goto 4, 3) := by decide +kernel
theorem dX9_isDigit_16 : decode cX9_isDigit 16 = .ok (.iconst 0, 1) := by decide +kernel
theorem dX9_isDigit_17 : decode cX9_isDigit 17 = .ok (.ireturn, 1) := by decide +kernel
theorem dX9_wrong_0 : decode cX9_wrong 0 = .ok (.aload_n 0, 1) := by decide +kernel
theorem dX9_wrong_1 : decode cX9_wrong 1 = .ok (.iload_n 1, 1) := by decide +kernel
theorem dX9_wrong_2 : decode cX9_wrong 2 = .ok (.putfield 200, 3) := by decide +kernel
theorem dX9_wrong_5 : decode cX9_wrong 5 = .ok (.aload_n 0, 1) := by decide +kernel
theorem dX9_wrong_6 : decode cX9_wrong 6 = .ok (.iload_n 2, 1) := by decide +kernel
theorem dX9_wrong_7 : decode cX9_wrong 7 = .ok (.putfield 203, 3) := by decide +kernel
theorem dX9_wrong_10 : decode cX9_wrong 10 = .ok (.iconst 0, 1) := by decide +kernel
theorem dX9_wrong_11 : decode cX9_wrong 11 = .ok (.ireturn, 1) := by decide +kernel
theorem dX9_isWord_0 : decode cX9_isWord 0 = .ok (.aload_n 0, 1) := by decide +kernel
theorem dX9_isWord_1 : decode cX9_isWord 1 = .ok (.getfield 184, 3) := by decide +kernel
theorem dX9_isWord_4 : decode cX9_isWord 4 = .ok (.iconst 1, 1) := by decide +kernel
theorem dX9_isWord_5 : decode cX9_isWord 5 = .ok (.if_icmp .ne 16, 3) := by decide +kernel
theorem dX9_isWord_8 : decode cX9_isWord 8 = .ok (.aload_n 0, 1) := by decide +kernel
theorem dX9_isWord_9 : decode cX9_isWord 9 = .ok (.getfield 193, 3) := by decide +kernel
theorem dX9_isWord_12 : decode cX9_isWord 12 = .ok (.lload_n 1, 1) := by decide +kernel
theorem dX9_isWord_13 : decode cX9_isWord 13 = .ok (.lcmp, 1) := by decide +kernel
theorem dX9_isWord_14 : decode cX9_isWord 14 = .ok (.ifCond .ne 7, 3) := by decide +kernel
theorem dX9_isWord_17 : decode cX9_isWord 17 = .ok (.iconst 1, 1) := by decide +kernel
theorem dX9_isWord_18 : decode cX9_isWord 18 = .ok (.goto 4, 3) := by decide +kernel
theorem dX9_isWord_21 : decode cX9_isWord 21 = .ok (.iconst 0, 1) := by decide +kernel
theorem dX9_isWord_22 : decode cX9_isWord 22 = .ok (.ireturn, 1) := by decide +kernel
theorem dX9_fault_0 : decode cX9_fault 0 = .ok (.aload_n 0, 1) := by decide +kernel
theorem dX9_fault_1 : decode cX9_fault 1 = .ok (.iconst 0, 1) := by decide +kernel
theorem dX9_fault_2 : decode cX9_fault 2 = .ok (.putfield 102, 3) := by decide +kernel
theorem dX9_fault_5 : decode cX9_fault 5 = .ok (.aload_n 0, 1) := by decide +kernel
theorem dX9_fault_6 : decode cX9_fault 6 = .ok (.getfield 200, 3) := by decide +kernel
theorem dX9_fault_9 : decode cX9_fault 9 = .ok (.ireturn, 1) := by decide +kernel
theorem dX9_company_0 : decode cX9_company 0 = .ok (.bipush 12, 2) := by decide +kernel
theorem dX9_company_2 : decode cX9_company 2 = .ok (.iload_n 1, 1) := by decide +kernel
theorem dX9_company_3 : decode cX9_company 3 = .ok (.imul, 1) := by decide +kernel
theorem dX9_company_4 : decode cX9_company 4 = .ok (.istore_n 3, 1) := by decide +kernel
theorem dX9_company_5 : decode cX9_company 5 = .ok (.aload_n 0, 1) := by decide +kernel
theorem dX9_company_6 : decode cX9_company 6 = .ok (.getfield 99, 3) := by decide +kernel
theorem dX9_company_9 : decode cX9_company 9 = .ok (.iload_n 3, 1) := by decide +kernel
theorem dX9_company_10 : decode cX9_company 10 = .ok (.iconst 0, 1) := by decide +kernel
theorem dX9_company_11 : decode cX9_company 11 = .ok (.iadd, 1) := by decide +kernel
theorem dX9_company_12 : decode cX9_company 12 = .ok (.iaload, 1) := by decide +kernel
theorem dX9_company_13 : decode cX9_company 13 = .ok (.istore 4, 2) := by decide +kernel
theorem dX9_company_15 : decode cX9_company 15 = .ok (.iconst 0, 1) := by decide +kernel
theorem dX9_company_16 : decode cX9_company 16 = .ok (.istore 5, 2) := by decide +kernel
theorem dX9_company_18 : decode cX9_company 18 = .ok (.iload 5, 2) := by decide +kernel
theorem dX9_company_20 : decode cX9_company 20 = .ok (.aload_n 0, 1) := by decide +kernel
theorem dX9_company_21 : decode cX9_company 21 = .ok (.getfield 99, 3) := by decide +kernel
theorem dX9_company_24 : decode cX9_company 24 = .ok (.iload_n 3, 1) := by decide +kernel
theorem dX9_company_25 : decode cX9_company 25 = .ok (.iconst 1, 1) := by decide +kernel
theorem dX9_company_26 : decode cX9_company 26 = .ok (.iadd, 1) := by decide +kernel
theorem dX9_company_27 : decode cX9_company 27 = .ok (.iaload, 1) := by decide +kernel
theorem dX9_company_28 : decode cX9_company 28 = .ok (.if_icmp .ge 108, 3) := by decide +kernel
theorem dX9_company_31 : decode cX9_company 31 = .ok (.aload_n 0, 1) := by decide +kernel
theorem dX9_company_32 : decode cX9_company 32 = .ok (.getfield 99, 3) := by decide +kernel
theorem dX9_company_35 : decode cX9_company 35 = .ok (.iload_n 3, 1) := by decide +kernel
theorem dX9_company_36 : decode cX9_company 36 = .ok (.iconst 5, 1) := by decide +kernel
theorem dX9_company_37 : decode cX9_company 37 = .ok (.iadd, 1) := by decide +kernel
theorem dX9_company_38 : decode cX9_company 38 = .ok (.iload 5, 2) := by decide +kernel
theorem dX9_company_40 : decode cX9_company 40 = .ok (.iadd, 1) := by decide +kernel
theorem dX9_company_41 : decode cX9_company 41 = .ok (.iaload, 1) := by decide +kernel
theorem dX9_company_42 : decode cX9_company 42 = .ok (.istore 6, 2) := by decide +kernel
theorem dX9_company_44 : decode cX9_company 44 = .ok (.iload 5, 2) := by decide +kernel
theorem dX9_company_46 : decode cX9_company 46 = .ok (.iconst 1, 1) := by decide +kernel
theorem dX9_company_47 : decode cX9_company 47 = .ok (.iadd, 1) := by decide +kernel
theorem dX9_company_48 : decode cX9_company 48 = .ok (.aload_n 0, 1) := by decide +kernel
theorem dX9_company_49 : decode cX9_company 49 = .ok (.getfield 99, 3) := by decide +kernel
theorem dX9_company_52 : decode cX9_company 52 = .ok (.iload_n 3, 1) := by decide +kernel
theorem dX9_company_53 : decode cX9_company 53 = .ok (.iconst 1, 1) := by decide +kernel
theorem dX9_company_54 : decode cX9_company 54 = .ok (.iadd, 1) := by decide +kernel
theorem dX9_company_55 : decode cX9_company 55 = .ok (.iaload, 1) := by decide +kernel
theorem dX9_company_56 : decode cX9_company 56 = .ok (.if_icmp .ge 19, 3) := by decide +kernel
theorem dX9_company_59 : decode cX9_company 59 = .ok (.aload_n 0, 1) := by decide +kernel
theorem dX9_company_60 : decode cX9_company 60 = .ok (.getfield 99, 3) := by decide +kernel
theorem dX9_company_63 : decode cX9_company 63 = .ok (.iload_n 3, 1) := by decide +kernel
theorem dX9_company_64 : decode cX9_company 64 = .ok (.iconst 5, 1) := by decide +kernel
theorem dX9_company_65 : decode cX9_company 65 = .ok (.iadd, 1) := by decide +kernel
theorem dX9_company_66 : decode cX9_company 66 = .ok (.iload 5, 2) := by decide +kernel
theorem dX9_company_68 : decode cX9_company 68 = .ok (.iadd, 1) := by decide +kernel
theorem dX9_company_69 : decode cX9_company 69 = .ok (.iconst 1, 1) := by decide +kernel
theorem dX9_company_70 : decode cX9_company 70 = .ok (.iadd, 1) := by decide +kernel
theorem dX9_company_71 : decode cX9_company 71 = .ok (.iaload, 1) := by decide +kernel
theorem dX9_company_72 : decode cX9_company 72 = .ok (.goto 5, 3) := by decide +kernel
theorem dX9_company_75 : decode cX9_company 75 = .ok (.ldc 249, 2) := by decide +kernel
theorem dX9_company_77 : decode cX9_company 77 = .ok (.istore 7, 2) := by decide +kernel
theorem dX9_company_79 : decode cX9_company 79 = .ok (.iload_n 2, 1) := by decide +kernel
theorem dX9_company_80 : decode cX9_company 80 = .ok (.iload 7, 2) := by decide +kernel
theorem dX9_company_82 : decode cX9_company 82 = .ok (.if_icmp .ge 10, 3) := by decide +kernel
theorem dX9_company_85 : decode cX9_company 85 = .ok (.iload_n 2, 1) := by decide +kernel
theorem dX9_company_86 : decode cX9_company 86 = .ok (.iload 6, 2) := by decide +kernel
theorem dX9_company_88 : decode cX9_company 88 = .ok (.isub, 1) := by decide +kernel
theorem dX9_company_89 : decode cX9_company 89 = .ok (.goto 8, 3) := by decide +kernel
theorem dX9_company_92 : decode cX9_company 92 = .ok (.iload 7, 2) := by decide +kernel
theorem dX9_company_94 : decode cX9_company 94 = .ok (.iload 6, 2) := by decide +kernel
theorem dX9_company_96 : decode cX9_company 96 = .ok (.isub, 1) := by decide +kernel
theorem dX9_company_97 : decode cX9_company 97 = .ok (.istore 8, 2) := by decide +kernel
theorem dX9_company_99 : decode cX9_company 99 = .ok (.iload 4, 2) := by decide +kernel
theorem dX9_company_101 : decode cX9_company 101 = .ok (.iload 8, 2) := by decide +kernel
theorem dX9_company_103 : decode cX9_company 103 = .ok (.ifCond .le 23, 3) := by decide +kernel
theorem dX9_company_106 : decode cX9_company 106 = .ok (.iload 8, 2) := by decide +kernel
theorem dX9_company_108 : decode cX9_company 108 = .ok (.aload_n 0, 1) := by decide +kernel
theorem dX9_company_109 : decode cX9_company 109 = .ok (.getfield 99, 3) := by decide +kernel
theorem dX9_company_112 : decode cX9_company 112 = .ok (.iload_n 3, 1) := by decide +kernel
theorem dX9_company_113 : decode cX9_company 113 = .ok (.iconst 2, 1) := by decide +kernel
theorem dX9_company_114 : decode cX9_company 114 = .ok (.iadd, 1) := by decide +kernel
theorem dX9_company_115 : decode cX9_company 115 = .ok (.iload 5, 2) := by decide +kernel
theorem dX9_company_117 : decode cX9_company 117 = .ok (.iadd, 1) := by decide +kernel
theorem dX9_company_118 : decode cX9_company 118 = .ok (.iaload, 1) := by decide +kernel
theorem dX9_company_119 : decode cX9_company 119 = .ok (.imul, 1) := by decide +kernel
theorem dX9_company_120 : decode cX9_company 120 = .ok (.bipush 100, 2) := by decide +kernel
theorem dX9_company_122 : decode cX9_company 122 = .ok (.idiv, 1) := by decide +kernel
theorem dX9_company_123 : decode cX9_company 123 = .ok (.goto 4, 3) := by decide +kernel
theorem dX9_company_126 : decode cX9_company 126 = .ok (.iconst 0, 1) := by decide +kernel
theorem dX9_company_127 : decode cX9_company 127 = .ok (.iadd, 1) := by decide +kernel
theorem dX9_company_128 : decode cX9_company 128 = .ok (.istore 4, 2) := by decide +kernel
theorem dX9_company_130 : decode cX9_company 130 = .ok (.iinc 5 1, 3) := by decide +kernel
theorem dX9_company_133 : decode cX9_company 133 = .ok (.goto (-115), 3) := by decide +kernel
theorem dX9_company_136 : decode cX9_company 136 = .ok (.iload 4, 2) := by decide +kernel
theorem dX9_company_138 : decode cX9_company 138 = .ok (.ireturn, 1) := by decide +kernel
theorem dX9_count_0 : decode cX9_count 0 = .ok (.aload_n 0, 1) := by decide +kernel
theorem dX9_count_1 : decode cX9_count 1 = .ok (.iconst 0, 1) := by decide +kernel
theorem dX9_count_2 : decode cX9_count 2 = .ok (.putfield 102, 3) := by decide +kernel
theorem dX9_count_5 : decode cX9_count 5 = .ok (.iconst 0, 1) := by decide +kernel
theorem dX9_count_6 : decode cX9_count 6 = .ok (.istore_n 2, 1) := by decide +kernel
theorem dX9_count_7 : decode cX9_count 7 = .ok (.iload_n 1, 1) := by decide +kernel
theorem dX9_count_8 : decode cX9_count 8 = .ok (.tableswitch 104 0 3 #[32, 37, 42, 99], 32) := by decide +kernel
theorem dX9_count_40 : decode cX9_count 40 = .ok (.aload_n 0, 1) := by decide +kernel
theorem dX9_count_41 : decode cX9_count 41 = .ok (.getfield 119, 3) := by decide +kernel
theorem dX9_count_44 : decode cX9_count 44 = .ok (.ireturn, 1) := by decide +kernel
theorem dX9_count_45 : decode cX9_count 45 = .ok (.aload_n 0, 1) := by decide +kernel
theorem dX9_count_46 : decode cX9_count 46 = .ok (.getfield 122, 3) := by decide +kernel
theorem dX9_count_49 : decode cX9_count 49 = .ok (.ireturn, 1) := by decide +kernel
theorem dX9_count_50 : decode cX9_count 50 = .ok (.iconst 0, 1) := by decide +kernel
theorem dX9_count_51 : decode cX9_count 51 = .ok (.istore_n 3, 1) := by decide +kernel
theorem dX9_count_52 : decode cX9_count 52 = .ok (.iload_n 3, 1) := by decide +kernel
theorem dX9_count_53 : decode cX9_count 53 = .ok (.aload_n 0, 1) := by decide +kernel
theorem dX9_count_54 : decode cX9_count 54 = .ok (.getfield 122, 3) := by decide +kernel
theorem dX9_count_57 : decode cX9_count 57 = .ok (.if_icmp .ge 48, 3) := by decide +kernel
theorem dX9_count_60 : decode cX9_count 60 = .ok (.iconst 0, 1) := by decide +kernel
theorem dX9_count_61 : decode cX9_count 61 = .ok (.istore 4, 2) := by decide +kernel
theorem dX9_count_63 : decode cX9_count 63 = .ok (.iload 4, 2) := by decide +kernel
theorem dX9_count_65 : decode cX9_count 65 = .ok (.bipush 14, 2) := by decide +kernel
theorem dX9_count_67 : decode cX9_count 67 = .ok (.if_icmp .ge 32, 3) := by decide +kernel
theorem dX9_count_70 : decode cX9_count 70 = .ok (.iload_n 2, 1) := by decide +kernel
theorem dX9_count_71 : decode cX9_count 71 = .ok (.aload_n 0, 1) := by decide +kernel
theorem dX9_count_72 : decode cX9_count 72 = .ok (.getfield 65, 3) := by decide +kernel
theorem dX9_count_75 : decode cX9_count 75 = .ok (.bipush 14, 2) := by decide +kernel
theorem dX9_count_77 : decode cX9_count 77 = .ok (.iload_n 3, 1) := by decide +kernel
theorem dX9_count_78 : decode cX9_count 78 = .ok (.imul, 1) := by decide +kernel
theorem dX9_count_79 : decode cX9_count 79 = .ok (.iload 4, 2) := by decide +kernel
theorem dX9_count_81 : decode cX9_count 81 = .ok (.iadd, 1) := by decide +kernel
theorem dX9_count_82 : decode cX9_count 82 = .ok (.iaload, 1) := by decide +kernel
theorem dX9_count_83 : decode cX9_count 83 = .ok (.ifCond .lt 7, 3) := by decide +kernel
theorem dX9_count_86 : decode cX9_count 86 = .ok (.iconst 1, 1) := by decide +kernel
theorem dX9_count_87 : decode cX9_count 87 = .ok (.goto 4, 3) := by decide +kernel
theorem dX9_count_90 : decode cX9_count 90 = .ok (.iconst 0, 1) := by decide +kernel
theorem dX9_count_91 : decode cX9_count 91 = .ok (.iadd, 1) := by decide +kernel
theorem dX9_count_92 : decode cX9_count 92 = .ok (.istore_n 2, 1) := by decide +kernel
theorem dX9_count_93 : decode cX9_count 93 = .ok (.iinc 4 1, 3) := by decide +kernel
theorem dX9_count_96 : decode cX9_count 96 = .ok (.goto (-33), 3) := by decide +kernel
theorem dX9_count_99 : decode cX9_count 99 = .ok (.iinc 3 1, 3) := by decide +kernel
theorem dX9_count_102 : decode cX9_count 102 = .ok (.goto (-50), 3) := by decide +kernel
theorem dX9_count_105 : decode cX9_count 105 = .ok (.iload_n 2, 1) := by decide +kernel
theorem dX9_count_106 : decode cX9_count 106 = .ok (.ireturn, 1) := by decide +kernel
theorem dX9_count_107 : decode cX9_count 107 = .ok (.aload_n 0, 1) := by decide +kernel
theorem dX9_count_108 : decode cX9_count 108 = .ok (.getfield 106, 3) := by decide +kernel
theorem dX9_count_111 : decode cX9_count 111 = .ok (.ireturn, 1) := by decide +kernel
theorem dX9_count_112 : decode cX9_count 112 = .ok (.iconst (-1), 1) := by decide +kernel
theorem dX9_count_113 : decode cX9_count 113 = .ok (.ireturn, 1) := by decide +kernel
theorem dX9_feed_0 : decode cX9_feed 0 = .ok (.aload_n 0, 1) := by decide +kernel
theorem dX9_feed_1 : decode cX9_feed 1 = .ok (.iconst 0, 1) := by decide +kernel
theorem dX9_feed_2 : decode cX9_feed 2 = .ok (.putfield 102, 3) := by decide +kernel
theorem dX9_feed_5 : decode cX9_feed 5 = .ok (.aload_n 0, 1) := by decide +kernel
theorem dX9_feed_6 : decode cX9_feed 6 = .ok (.getfield 106, 3) := by decide +kernel
theorem dX9_feed_9 : decode cX9_feed 9 = .ok (.bipush 20, 2) := by decide +kernel
theorem dX9_feed_11 : decode cX9_feed 11 = .ok (.iadd, 1) := by decide +kernel
theorem dX9_feed_12 : decode cX9_feed 12 = .ok (.sipush 200, 3) := by decide +kernel
theorem dX9_feed_15 : decode cX9_feed 15 = .ok (.if_icmp .le 5, 3) := by decide +kernel
theorem dX9_feed_18 : decode cX9_feed 18 = .ok (.iconst (-1), 1) := by decide +kernel
theorem dX9_feed_19 : decode cX9_feed 19 = .ok (.ireturn, 1) := by decide +kernel
theorem dX9_feed_20 : decode cX9_feed 20 = .ok (.aload_n 0, 1) := by decide +kernel
theorem dX9_feed_21 : decode cX9_feed 21 = .ok (.iload_n 1, 1) := by decide +kernel
theorem dX9_feed_22 : decode cX9_feed 22 = .ok (.invokevirtual 109, 3) := by decide +kernel
theorem dX9_feed_25 : decode cX9_feed 25 = .ok (.aload_n 0, 1) := by decide +kernel
theorem dX9_feed_26 : decode cX9_feed 26 = .ok (.iload_n 2, 1) := by decide +kernel
theorem dX9_feed_27 : decode cX9_feed 27 = .ok (.invokevirtual 109, 3) := by decide +kernel
theorem dX9_feed_30 : decode cX9_feed 30 = .ok (.aload_n 0, 1) := by decide +kernel
theorem dX9_feed_31 : decode cX9_feed 31 = .ok (.iload_n 3, 1) := by decide +kernel
theorem dX9_feed_32 : decode cX9_feed 32 = .ok (.invokevirtual 109, 3) := by decide +kernel
theorem dX9_feed_35 : decode cX9_feed 35 = .ok (.aload_n 0, 1) := by decide +kernel
theorem dX9_feed_36 : decode cX9_feed 36 = .ok (.iload 4, 2) := by decide +kernel
theorem dX9_feed_38 : decode cX9_feed 38 = .ok (.invokevirtual 109, 3) := by decide +kernel
theorem dX9_feed_41 : decode cX9_feed 41 = .ok (.aload_n 0, 1) := by decide +kernel
theorem dX9_feed_42 : decode cX9_feed 42 = .ok (.iload 5, 2) := by decide +kernel
theorem dX9_feed_44 : decode cX9_feed 44 = .ok (.invokevirtual 109, 3) := by decide +kernel
theorem dX9_feed_47 : decode cX9_feed 47 = .ok (.aload_n 0, 1) := by decide +kernel
theorem dX9_feed_48 : decode cX9_feed 48 = .ok (.getfield 106, 3) := by decide +kernel
theorem dX9_feed_51 : decode cX9_feed 51 = .ok (.ireturn, 1) := by decide +kernel
theorem dX9_hall_0 : decode cX9_hall 0 = .ok (.aload_n 0, 1) := by decide +kernel
theorem dX9_hall_1 : decode cX9_hall 1 = .ok (.iconst 0, 1) := by decide +kernel
theorem dX9_hall_2 : decode cX9_hall 2 = .ok (.putfield 102, 3) := by decide +kernel
theorem dX9_hall_5 : decode cX9_hall 5 = .ok (.aload_n 0, 1) := by decide +kernel
theorem dX9_hall_6 : decode cX9_hall 6 = .ok (.invokevirtual 125, 3) := by decide +kernel
theorem dX9_hall_9 : decode cX9_hall 9 = .ok (.aload_n 0, 1) := by decide +kernel
theorem dX9_hall_10 : decode cX9_hall 10 = .ok (.getfield 119, 3) := by decide +kernel
theorem dX9_hall_13 : decode cX9_hall 13 = .ok (.bipush 12, 2) := by decide +kernel
theorem dX9_hall_15 : decode cX9_hall 15 = .ok (.if_icmp .eq 53, 3) := by decide +kernel
theorem dX9_hall_18 : decode cX9_hall 18 = .ok (.iload_n 1, 1) := by decide +kernel
theorem dX9_hall_19 : decode cX9_hall 19 = .ok (.iconst 0, 1) := by decide +kernel
theorem dX9_hall_20 : decode cX9_hall 20 = .ok (.bipush 99, 2) := by decide +kernel
theorem dX9_hall_22 : decode cX9_hall 22 = .ok (.invokestatic 128, 3) := by decide +kernel
theorem dX9_hall_25 : decode cX9_hall 25 = .ok (.ifCond .eq 43, 3) := by decide +kernel
theorem dX9_hall_28 : decode cX9_hall 28 = .ok (.iload_n 2, 1) := by decide +kernel
theorem dX9_hall_29 : decode cX9_hall 29 = .ok (.iconst 0, 1) := by decide +kernel
theorem dX9_hall_30 : decode cX9_hall 30 = .ok (.bipush 99, 2) := by decide +kernel
theorem dX9_hall_32 : decode cX9_hall 32 = .ok (.invokestatic 128, 3) := by decide +kernel
theorem dX9_hall_35 : decode cX9_hall 35 = .ok (.ifCond .eq 33, 3) := by decide +kernel
theorem dX9_hall_38 : decode cX9_hall 38 = .ok (.iload_n 3, 1) := by decide +kernel
theorem dX9_hall_39 : decode cX9_hall 39 = .ok (.iconst 0, 1) := by decide +kernel
theorem dX9_hall_40 : decode cX9_hall 40 = .ok (.bipush 99, 2) := by decide +kernel
theorem dX9_hall_42 : decode cX9_hall 42 = .ok (.invokestatic 128, 3) := by decide +kernel
theorem dX9_hall_45 : decode cX9_hall 45 = .ok (.ifCond .eq 23, 3) := by decide +kernel
theorem dX9_hall_48 : decode cX9_hall 48 = .ok (.iload 4, 2) := by decide +kernel
theorem dX9_hall_50 : decode cX9_hall 50 = .ok (.iconst 0, 1) := by decide +kernel
theorem dX9_hall_51 : decode cX9_hall 51 = .ok (.bipush 99, 2) := by decide +kernel
theorem dX9_hall_53 : decode cX9_hall 53 = .ok (.invokestatic 128, 3) := by decide +kernel
theorem dX9_hall_56 : decode cX9_hall 56 = .ok (.ifCond .eq 12, 3) := by decide +kernel
theorem dX9_hall_59 : decode cX9_hall 59 = .ok (.aload_n 0, 1) := by decide +kernel
theorem dX9_hall_60 : decode cX9_hall 60 = .ok (.iconst 1, 1) := by decide +kernel
theorem dX9_hall_61 : decode cX9_hall 61 = .ok (.iconst 4, 1) := by decide +kernel
theorem dX9_hall_62 : decode cX9_hall 62 = .ok (.invokevirtual 132, 3) := by decide +kernel
theorem dX9_hall_65 : decode cX9_hall 65 = .ok (.ifCond .ne 5, 3) := by decide +kernel
theorem dX9_hall_68 : decode cX9_hall 68 = .ok (.iconst (-1), 1) := by decide +kernel
theorem dX9_hall_69 : decode cX9_hall 69 = .ok (.ireturn, 1) := by decide +kernel
theorem dX9_hall_70 : decode cX9_hall 70 = .ok (.aload_n 0, 1) := by decide +kernel
theorem dX9_hall_71 : decode cX9_hall 71 = .ok (.getfield 13, 3) := by decide +kernel
theorem dX9_hall_74 : decode cX9_hall 74 = .ok (.aload_n 0, 1) := by decide +kernel
theorem dX9_hall_75 : decode cX9_hall 75 = .ok (.getfield 119, 3) := by decide +kernel
theorem dX9_hall_78 : decode cX9_hall 78 = .ok (.iload_n 1, 1) := by decide +kernel
theorem dX9_hall_79 : decode cX9_hall 79 = .ok (.iastore, 1) := by decide +kernel
theorem dX9_hall_80 : decode cX9_hall 80 = .ok (.aload_n 0, 1) := by decide +kernel
theorem dX9_hall_81 : decode cX9_hall 81 = .ok (.getfield 17, 3) := by decide +kernel
theorem dX9_hall_84 : decode cX9_hall 84 = .ok (.aload_n 0, 1) := by decide +kernel
theorem dX9_hall_85 : decode cX9_hall 85 = .ok (.getfield 119, 3) := by decide +kernel
theorem dX9_hall_88 : decode cX9_hall 88 = .ok (.iload_n 2, 1) := by decide +kernel
theorem dX9_hall_89 : decode cX9_hall 89 = .ok (.iastore, 1) := by decide +kernel
theorem dX9_hall_90 : decode cX9_hall 90 = .ok (.aload_n 0, 1) := by decide +kernel
theorem dX9_hall_91 : decode cX9_hall 91 = .ok (.aload_n 0, 1) := by decide +kernel
theorem dX9_hall_92 : decode cX9_hall 92 = .ok (.getfield 119, 3) := by decide +kernel
theorem dX9_hall_95 : decode cX9_hall 95 = .ok (.iload_n 3, 1) := by decide +kernel
theorem dX9_hall_96 : decode cX9_hall 96 = .ok (.iload 4, 2) := by decide +kernel
theorem dX9_hall_98 : decode cX9_hall 98 = .ok (.invokevirtual 136, 3) := by decide +kernel
theorem dX9_hall_101 : decode cX9_hall 101 = .ok (.aload_n 0, 1) := by decide +kernel
theorem dX9_hall_102 : decode cX9_hall 102 = .ok (.dup, 1) := by decide +kernel
theorem dX9_hall_103 : decode cX9_hall 103 = .ok (.getfield 119, 3) := by decide +kernel
theorem dX9_hall_106 : decode cX9_hall 106 = .ok (.iconst 1, 1) := by decide +kernel
theorem dX9_hall_107 : decode cX9_hall 107 = .ok (.iadd, 1) := by decide +kernel
theorem dX9_hall_108 : decode cX9_hall 108 = .ok (.putfield 119, 3) := by decide +kernel
theorem dX9_hall_111 : decode cX9_hall 111 = .ok (.aload_n 0, 1) := by decide +kernel
theorem dX9_hall_112 : decode cX9_hall 112 = .ok (.getfield 119, 3) := by decide +kernel
theorem dX9_hall_115 : decode cX9_hall 115 = .ok (.iconst 1, 1) := by decide +kernel
theorem dX9_hall_116 : decode cX9_hall 116 = .ok (.isub, 1) := by decide +kernel
theorem dX9_hall_117 : decode cX9_hall 117 = .ok (.ireturn, 1) := by decide +kernel
theorem dX9_rewire_0 : decode cX9_rewire 0 = .ok (.aload_n 0, 1) := by decide +kernel
theorem dX9_rewire_1 : decode cX9_rewire 1 = .ok (.iconst 0, 1) := by decide +kernel
theorem dX9_rewire_2 : decode cX9_rewire 2 = .ok (.putfield 102, 3) := by decide +kernel
theorem dX9_rewire_5 : decode cX9_rewire 5 = .ok (.aload_n 0, 1) := by decide +kernel
theorem dX9_rewire_6 : decode cX9_rewire 6 = .ok (.invokevirtual 125, 3) := by decide +kernel
theorem dX9_rewire_9 : decode cX9_rewire 9 = .ok (.aload_n 0, 1) := by decide +kernel
theorem dX9_rewire_10 : decode cX9_rewire 10 = .ok (.iload_n 1, 1) := by decide +kernel
theorem dX9_rewire_11 : decode cX9_rewire 11 = .ok (.invokevirtual 140, 3) := by decide +kernel
theorem dX9_rewire_14 : decode cX9_rewire 14 = .ok (.ifCond .eq 32, 3) := by decide +kernel
theorem dX9_rewire_17 : decode cX9_rewire 17 = .ok (.iload_n 2, 1) := by decide +kernel
theorem dX9_rewire_18 : decode cX9_rewire 18 = .ok (.iconst 0, 1) := by decide +kernel
theorem dX9_rewire_19 : decode cX9_rewire 19 = .ok (.bipush 99, 2) := by decide +kernel
theorem dX9_rewire_21 : decode cX9_rewire 21 = .ok (.invokestatic 128, 3) := by decide +kernel
theorem dX9_rewire_24 : decode cX9_rewire 24 = .ok (.ifCond .eq 22, 3) := by decide +kernel
theorem dX9_rewire_27 : decode cX9_rewire 27 = .ok (.iload_n 3, 1) := by decide +kernel
theorem dX9_rewire_28 : decode cX9_rewire 28 = .ok (.iconst 0, 1) := by decide +kernel
theorem dX9_rewire_29 : decode cX9_rewire 29 = .ok (.bipush 99, 2) := by decide +kernel
theorem dX9_rewire_31 : decode cX9_rewire 31 = .ok (.invokestatic 128, 3) := by decide +kernel
theorem dX9_rewire_34 : decode cX9_rewire 34 = .ok (.ifCond .eq 12, 3) := by decide +kernel
theorem dX9_rewire_37 : decode cX9_rewire 37 = .ok (.aload_n 0, 1) := by decide +kernel
theorem dX9_rewire_38 : decode cX9_rewire 38 = .ok (.iconst 1, 1) := by decide +kernel
theorem dX9_rewire_39 : decode cX9_rewire 39 = .ok (.iconst 4, 1) := by decide +kernel
theorem dX9_rewire_40 : decode cX9_rewire 40 = .ok (.invokevirtual 132, 3) := by decide +kernel
theorem dX9_rewire_43 : decode cX9_rewire 43 = .ok (.ifCond .ne 5, 3) := by decide +kernel
theorem dX9_rewire_46 : decode cX9_rewire 46 = .ok (.iconst 0, 1) := by decide +kernel
theorem dX9_rewire_47 : decode cX9_rewire 47 = .ok (.ireturn, 1) := by decide +kernel
theorem dX9_rewire_48 : decode cX9_rewire 48 = .ok (.aload_n 0, 1) := by decide +kernel
theorem dX9_rewire_49 : decode cX9_rewire 49 = .ok (.iload_n 1, 1) := by decide +kernel
theorem dX9_rewire_50 : decode cX9_rewire 50 = .ok (.iload_n 2, 1) := by decide +kernel
theorem dX9_rewire_51 : decode cX9_rewire 51 = .ok (.iload_n 3, 1) := by decide +kernel
theorem dX9_rewire_52 : decode cX9_rewire 52 = .ok (.invokevirtual 136, 3) := by decide +kernel
theorem dX9_rewire_55 : decode cX9_rewire 55 = .ok (.iconst 1, 1) := by decide +kernel
theorem dX9_rewire_56 : decode cX9_rewire 56 = .ok (.ireturn, 1) := by decide +kernel
theorem dX9_show_0 : decode cX9_show 0 = .ok (.aload_n 0, 1) := by decide +kernel
theorem dX9_show_1 : decode cX9_show 1 = .ok (.iconst 0, 1) := by decide +kernel
theorem dX9_show_2 : decode cX9_show 2 = .ok (.putfield 102, 3) := by decide +kernel
theorem dX9_show_5 : decode cX9_show 5 = .ok (.aload_n 0, 1) := by decide +kernel
theorem dX9_show_6 : decode cX9_show 6 = .ok (.invokevirtual 125, 3) := by decide +kernel
theorem dX9_show_9 : decode cX9_show 9 = .ok (.aload_n 0, 1) := by decide +kernel
theorem dX9_show_10 : decode cX9_show 10 = .ok (.getfield 122, 3) := by decide +kernel
theorem dX9_show_13 : decode cX9_show 13 = .ok (.bipush 6, 2) := by decide +kernel
theorem dX9_show_15 : decode cX9_show 15 = .ok (.if_icmp .eq 77, 3) := by decide +kernel
theorem dX9_show_18 : decode cX9_show 18 = .ok (.iload_n 1, 1) := by decide +kernel
theorem dX9_show_19 : decode cX9_show 19 = .ok (.iconst 0, 1) := by decide +kernel
theorem dX9_show_20 : decode cX9_show 20 = .ok (.bipush 99, 2) := by decide +kernel
theorem dX9_show_22 : decode cX9_show 22 = .ok (.invokestatic 128, 3) := by decide +kernel
theorem dX9_show_25 : decode cX9_show 25 = .ok (.ifCond .eq 67, 3) := by decide +kernel
theorem dX9_show_28 : decode cX9_show 28 = .ok (.iload_n 2, 1) := by decide +kernel
theorem dX9_show_29 : decode cX9_show 29 = .ok (.iconst 0, 1) := by decide +kernel
theorem dX9_show_30 : decode cX9_show 30 = .ok (.bipush 99, 2) := by decide +kernel
theorem dX9_show_32 : decode cX9_show 32 = .ok (.invokestatic 128, 3) := by decide +kernel
theorem dX9_show_35 : decode cX9_show 35 = .ok (.ifCond .eq 57, 3) := by decide +kernel
theorem dX9_show_38 : decode cX9_show 38 = .ok (.iload 4, 2) := by decide +kernel
theorem dX9_show_40 : decode cX9_show 40 = .ok (.iconst 0, 1) := by decide +kernel
theorem dX9_show_41 : decode cX9_show 41 = .ok (.bipush 13, 2) := by decide +kernel
theorem dX9_show_43 : decode cX9_show 43 = .ok (.invokestatic 128, 3) := by decide +kernel
theorem dX9_show_46 : decode cX9_show 46 = .ok (.ifCond .eq 46, 3) := by decide +kernel
theorem dX9_show_49 : decode cX9_show 49 = .ok (.iload_n 3, 1) := by decide +kernel
theorem dX9_show_50 : decode cX9_show 50 = .ok (.iconst 0, 1) := by decide +kernel
theorem dX9_show_51 : decode cX9_show 51 = .ok (.iload 4, 2) := by decide +kernel
theorem dX9_show_53 : decode cX9_show 53 = .ok (.invokestatic 128, 3) := by decide +kernel
theorem dX9_show_56 : decode cX9_show 56 = .ok (.ifCond .eq 36, 3) := by decide +kernel
theorem dX9_show_59 : decode cX9_show 59 = .ok (.iload 5, 2) := by decide +kernel
theorem dX9_show_61 : decode cX9_show 61 = .ok (.iconst 1, 1) := by decide +kernel
theorem dX9_show_62 : decode cX9_show 62 = .ok (.sipush 200, 3) := by decide +kernel
theorem dX9_show_65 : decode cX9_show 65 = .ok (.invokestatic 128, 3) := by decide +kernel
theorem dX9_show_68 : decode cX9_show 68 = .ok (.ifCond .eq 24, 3) := by decide +kernel
theorem dX9_show_71 : decode cX9_show 71 = .ok (.iload 6, 2) := by decide +kernel
theorem dX9_show_73 : decode cX9_show 73 = .ok (.iconst 1, 1) := by decide +kernel
theorem dX9_show_74 : decode cX9_show 74 = .ok (.bipush 14, 2) := by decide +kernel
theorem dX9_show_76 : decode cX9_show 76 = .ok (.invokestatic 128, 3) := by decide +kernel
theorem dX9_show_79 : decode cX9_show 79 = .ok (.ifCond .eq 13, 3) := by decide +kernel
theorem dX9_show_82 : decode cX9_show 82 = .ok (.aload_n 0, 1) := by decide +kernel
theorem dX9_show_83 : decode cX9_show 83 = .ok (.iconst 0, 1) := by decide +kernel
theorem dX9_show_84 : decode cX9_show 84 = .ok (.bipush 8, 2) := by decide +kernel
theorem dX9_show_86 : decode cX9_show 86 = .ok (.invokevirtual 132, 3) := by decide +kernel
theorem dX9_show_89 : decode cX9_show 89 = .ok (.ifCond .ne 5, 3) := by decide +kernel
theorem dX9_show_92 : decode cX9_show 92 = .ok (.iconst (-1), 1) := by decide +kernel
theorem dX9_show_93 : decode cX9_show 93 = .ok (.ireturn, 1) := by decide +kernel
theorem dX9_show_94 : decode cX9_show 94 = .ok (.aload_n 0, 1) := by decide +kernel
theorem dX9_show_95 : decode cX9_show 95 = .ok (.getfield 122, 3) := by decide +kernel
theorem dX9_show_98 : decode cX9_show 98 = .ok (.istore 7, 2) := by decide +kernel
theorem dX9_show_100 : decode cX9_show 100 = .ok (.aload_n 0, 1) := by decide +kernel
theorem dX9_show_101 : decode cX9_show 101 = .ok (.getfield 32, 3) := by decide +kernel
theorem dX9_show_104 : decode cX9_show 104 = .ok (.iload 7, 2) := by decide +kernel
theorem dX9_show_106 : decode cX9_show 106 = .ok (.iload_n 1, 1) := by decide +kernel
theorem dX9_show_107 : decode cX9_show 107 = .ok (.iastore, 1) := by decide +kernel
theorem dX9_show_108 : decode cX9_show 108 = .ok (.aload_n 0, 1) := by decide +kernel
theorem dX9_show_109 : decode cX9_show 109 = .ok (.getfield 35, 3) := by decide +kernel
theorem dX9_show_112 : decode cX9_show 112 = .ok (.iload 7, 2) := by decide +kernel
theorem dX9_show_114 : decode cX9_show 114 = .ok (.iload_n 2, 1) := by decide +kernel
theorem dX9_show_115 : decode cX9_show 115 = .ok (.iastore, 1) := by decide +kernel
theorem dX9_show_116 : decode cX9_show 116 = .ok (.aload_n 0, 1) := by decide +kernel
theorem dX9_show_117 : decode cX9_show 117 = .ok (.getfield 44, 3) := by decide +kernel
theorem dX9_show_120 : decode cX9_show 120 = .ok (.iload 7, 2) := by decide +kernel
theorem dX9_show_122 : decode cX9_show 122 = .ok (.iload_n 3, 1) := by decide +kernel
theorem dX9_show_123 : decode cX9_show 123 = .ok (.iastore, 1) := by decide +kernel
theorem dX9_show_124 : decode cX9_show 124 = .ok (.aload_n 0, 1) := by decide +kernel
theorem dX9_show_125 : decode cX9_show 125 = .ok (.getfield 47, 3) := by decide +kernel
theorem dX9_show_128 : decode cX9_show 128 = .ok (.iload 7, 2) := by decide +kernel
theorem dX9_show_130 : decode cX9_show 130 = .ok (.iload 4, 2) := by decide +kernel
theorem dX9_show_132 : decode cX9_show 132 = .ok (.iastore, 1) := by decide +kernel
theorem dX9_show_133 : decode cX9_show 133 = .ok (.aload_n 0, 1) := by decide +kernel
theorem dX9_show_134 : decode cX9_show 134 = .ok (.getfield 50, 3) := by decide +kernel
theorem dX9_show_137 : decode cX9_show 137 = .ok (.iload 7, 2) := by decide +kernel
theorem dX9_show_139 : decode cX9_show 139 = .ok (.iload 5, 2) := by decide +kernel
theorem dX9_show_141 : decode cX9_show 141 = .ok (.iastore, 1) := by decide +kernel
theorem dX9_show_142 : decode cX9_show 142 = .ok (.aload_n 0, 1) := by decide +kernel
theorem dX9_show_143 : decode cX9_show 143 = .ok (.getfield 53, 3) := by decide +kernel
theorem dX9_show_146 : decode cX9_show 146 = .ok (.iload 7, 2) := by decide +kernel
theorem dX9_show_148 : decode cX9_show 148 = .ok (.iload 6, 2) := by decide +kernel
theorem dX9_show_150 : decode cX9_show 150 = .ok (.iastore, 1) := by decide +kernel
theorem dX9_show_151 : decode cX9_show 151 = .ok (.aload_n 0, 1) := by decide +kernel
theorem dX9_show_152 : decode cX9_show 152 = .ok (.getfield 38, 3) := by decide +kernel
theorem dX9_show_155 : decode cX9_show 155 = .ok (.iload 7, 2) := by decide +kernel
theorem dX9_show_157 : decode cX9_show 157 = .ok (.aload_n 0, 1) := by decide +kernel
theorem dX9_show_158 : decode cX9_show 158 = .ok (.getfield 113, 3) := by decide +kernel
theorem dX9_show_161 : decode cX9_show 161 = .ok (.iastore, 1) := by decide +kernel
theorem dX9_show_162 : decode cX9_show 162 = .ok (.iconst 0, 1) := by decide +kernel
theorem dX9_show_163 : decode cX9_show 163 = .ok (.istore 8, 2) := by decide +kernel
theorem dX9_show_165 : decode cX9_show 165 = .ok (.iload 8, 2) := by decide +kernel
theorem dX9_show_167 : decode cX9_show 167 = .ok (.aload_n 0, 1) := by decide +kernel
theorem dX9_show_168 : decode cX9_show 168 = .ok (.getfield 113, 3) := by decide +kernel
theorem dX9_show_171 : decode cX9_show 171 = .ok (.if_icmp .ge 33, 3) := by decide +kernel
theorem dX9_show_174 : decode cX9_show 174 = .ok (.aload_n 0, 1) := by decide +kernel
theorem dX9_show_175 : decode cX9_show 175 = .ok (.getfield 41, 3) := by decide +kernel
theorem dX9_show_178 : decode cX9_show 178 = .ok (.bipush 8, 2) := by decide +kernel
theorem dX9_show_180 : decode cX9_show 180 = .ok (.iload 7, 2) := by decide +kernel
theorem dX9_show_182 : decode cX9_show 182 = .ok (.imul, 1) := by decide +kernel
theorem dX9_show_183 : decode cX9_show 183 = .ok (.iload 8, 2) := by decide +kernel
theorem dX9_show_185 : decode cX9_show 185 = .ok (.iadd, 1) := by decide +kernel
theorem dX9_show_186 : decode cX9_show 186 = .ok (.aload_n 0, 1) := by decide +kernel
theorem dX9_show_187 : decode cX9_show 187 = .ok (.getfield 7, 3) := by decide +kernel
theorem dX9_show_190 : decode cX9_show 190 = .ok (.iload 8, 2) := by decide +kernel
theorem dX9_show_192 : decode cX9_show 192 = .ok (.baload, 1) := by decide +kernel
theorem dX9_show_193 : decode cX9_show 193 = .ok (.sipush 255, 3) := by decide +kernel
theorem dX9_show_196 : decode cX9_show 196 = .ok (.iand, 1) := by decide +kernel
theorem dX9_show_197 : decode cX9_show 197 = .ok (.iastore, 1) := by decide +kernel
theorem dX9_show_198 : decode cX9_show 198 = .ok (.iinc 8 1, 3) := by decide +kernel
theorem dX9_show_201 : decode cX9_show 201 = .ok (.goto (-36), 3) := by decide +kernel
theorem dX9_show_204 : decode cX9_show 204 = .ok (.iconst 0, 1) := by decide +kernel
theorem dX9_show_205 : decode cX9_show 205 = .ok (.istore 8, 2) := by decide +kernel
theorem dX9_show_207 : decode cX9_show 207 = .ok (.iload 8, 2) := by decide +kernel
theorem dX9_show_209 : decode cX9_show 209 = .ok (.bipush 14, 2) := by decide +kernel
theorem dX9_show_211 : decode cX9_show 211 = .ok (.if_icmp .ge 37, 3) := by decide +kernel
theorem dX9_show_214 : decode cX9_show 214 = .ok (.aload_n 0, 1) := by decide +kernel
theorem dX9_show_215 : decode cX9_show 215 = .ok (.getfield 65, 3) := by decide +kernel
theorem dX9_show_218 : decode cX9_show 218 = .ok (.bipush 14, 2) := by decide +kernel
theorem dX9_show_220 : decode cX9_show 220 = .ok (.iload 7, 2) := by decide +kernel
theorem dX9_show_222 : decode cX9_show 222 = .ok (.imul, 1) := by decide +kernel
theorem dX9_show_223 : decode cX9_show 223 = .ok (.iload 8, 2) := by decide +kernel
theorem dX9_show_225 : decode cX9_show 225 = .ok (.iadd, 1) := by decide +kernel
theorem dX9_show_226 : decode cX9_show 226 = .ok (.iconst (-1), 1) := by decide +kernel
theorem dX9_show_227 : decode cX9_show 227 = .ok (.iastore, 1) := by decide +kernel
theorem dX9_show_228 : decode cX9_show 228 = .ok (.aload_n 0, 1) := by decide +kernel
theorem dX9_show_229 : decode cX9_show 229 = .ok (.getfield 68, 3) := by decide +kernel
theorem dX9_show_232 : decode cX9_show 232 = .ok (.bipush 14, 2) := by decide +kernel
theorem dX9_show_234 : decode cX9_show 234 = .ok (.iload 7, 2) := by decide +kernel
theorem dX9_show_236 : decode cX9_show 236 = .ok (.imul, 1) := by decide +kernel
theorem dX9_show_237 : decode cX9_show 237 = .ok (.iload 8, 2) := by decide +kernel
theorem dX9_show_239 : decode cX9_show 239 = .ok (.iadd, 1) := by decide +kernel
theorem dX9_show_240 : decode cX9_show 240 = .ok (.iconst (-1), 1) := by decide +kernel
theorem dX9_show_241 : decode cX9_show 241 = .ok (.iastore, 1) := by decide +kernel
theorem dX9_show_242 : decode cX9_show 242 = .ok (.iinc 8 1, 3) := by decide +kernel
theorem dX9_show_245 : decode cX9_show 245 = .ok (.goto (-38), 3) := by decide +kernel
theorem dX9_show_248 : decode cX9_show 248 = .ok (.aload_n 0, 1) := by decide +kernel
theorem dX9_show_249 : decode cX9_show 249 = .ok (.dup, 1) := by decide +kernel
theorem dX9_show_250 : decode cX9_show 250 = .ok (.getfield 122, 3) := by decide +kernel
theorem dX9_show_253 : decode cX9_show 253 = .ok (.iconst 1, 1) := by decide +kernel
theorem dX9_show_254 : decode cX9_show 254 = .ok (.iadd, 1) := by decide +kernel
theorem dX9_show_255 : decode cX9_show 255 = .ok (.putfield 122, 3) := by decide +kernel
theorem dX9_show_258 : decode cX9_show 258 = .ok (.iload 7, 2) := by decide +kernel
theorem dX9_show_260 : decode cX9_show 260 = .ok (.ireturn, 1) := by decide +kernel
theorem dX9_give_0 : decode cX9_give 0 = .ok (.aload_n 0, 1) := by decide +kernel
theorem dX9_give_1 : decode cX9_give 1 = .ok (.iconst 0, 1) := by decide +kernel
theorem dX9_give_2 : decode cX9_give 2 = .ok (.putfield 102, 3) := by decide +kernel
theorem dX9_give_5 : decode cX9_give 5 = .ok (.aload_n 0, 1) := by decide +kernel
theorem dX9_give_6 : decode cX9_give 6 = .ok (.iload_n 1, 1) := by decide +kernel
theorem dX9_give_7 : decode cX9_give 7 = .ok (.invokevirtual 140, 3) := by decide +kernel
theorem dX9_give_10 : decode cX9_give 10 = .ok (.ifCond .eq 21, 3) := by decide +kernel
theorem dX9_give_13 : decode cX9_give 13 = .ok (.aload_n 0, 1) := by decide +kernel
theorem dX9_give_14 : decode cX9_give 14 = .ok (.iload_n 2, 1) := by decide +kernel
theorem dX9_give_15 : decode cX9_give 15 = .ok (.invokevirtual 144, 3) := by decide +kernel
theorem dX9_give_18 : decode cX9_give 18 = .ok (.ifCond .eq 13, 3) := by decide +kernel
theorem dX9_give_21 : decode cX9_give 21 = .ok (.iload_n 3, 1) := by decide +kernel
theorem dX9_give_22 : decode cX9_give 22 = .ok (.ifCond .lt 9, 3) := by decide +kernel
theorem dX9_give_25 : decode cX9_give 25 = .ok (.iload_n 3, 1) := by decide +kernel
theorem dX9_give_26 : decode cX9_give 26 = .ok (.bipush 10, 2) := by decide +kernel
theorem dX9_give_28 : decode cX9_give 28 = .ok (.if_icmp .le 5, 3) := by decide +kernel
theorem dX9_give_31 : decode cX9_give 31 = .ok (.iconst 0, 1) := by decide +kernel
theorem dX9_give_32 : decode cX9_give 32 = .ok (.ireturn, 1) := by decide +kernel
theorem dX9_give_33 : decode cX9_give 33 = .ok (.iconst 0, 1) := by decide +kernel
theorem dX9_give_34 : decode cX9_give 34 = .ok (.istore 4, 2) := by decide +kernel
theorem dX9_give_36 : decode cX9_give 36 = .ok (.iconst 0, 1) := by decide +kernel
theorem dX9_give_37 : decode cX9_give 37 = .ok (.istore 5, 2) := by decide +kernel
theorem dX9_give_39 : decode cX9_give 39 = .ok (.iload 5, 2) := by decide +kernel
theorem dX9_give_41 : decode cX9_give 41 = .ok (.aload_n 0, 1) := by decide +kernel
theorem dX9_give_42 : decode cX9_give 42 = .ok (.getfield 122, 3) := by decide +kernel
theorem dX9_give_45 : decode cX9_give 45 = .ok (.if_icmp .ge 36, 3) := by decide +kernel
theorem dX9_give_48 : decode cX9_give 48 = .ok (.iload 4, 2) := by decide +kernel
theorem dX9_give_50 : decode cX9_give 50 = .ok (.iload 5, 2) := by decide +kernel
theorem dX9_give_52 : decode cX9_give 52 = .ok (.iload_n 2, 1) := by decide +kernel
theorem dX9_give_53 : decode cX9_give 53 = .ok (.if_icmp .ne 7, 3) := by decide +kernel
theorem dX9_give_56 : decode cX9_give 56 = .ok (.iconst 0, 1) := by decide +kernel
theorem dX9_give_57 : decode cX9_give 57 = .ok (.goto 15, 3) := by decide +kernel
theorem dX9_give_60 : decode cX9_give 60 = .ok (.aload_n 0, 1) := by decide +kernel
theorem dX9_give_61 : decode cX9_give 61 = .ok (.getfield 56, 3) := by decide +kernel
theorem dX9_give_64 : decode cX9_give 64 = .ok (.bipush 6, 2) := by decide +kernel
theorem dX9_give_66 : decode cX9_give 66 = .ok (.iload_n 1, 1) := by decide +kernel
theorem dX9_give_67 : decode cX9_give 67 = .ok (.imul, 1) := by decide +kernel
theorem dX9_give_68 : decode cX9_give 68 = .ok (.iload 5, 2) := by decide +kernel
theorem dX9_give_70 : decode cX9_give 70 = .ok (.iadd, 1) := by decide +kernel
theorem dX9_give_71 : decode cX9_give 71 = .ok (.iaload, 1) := by decide +kernel
theorem dX9_give_72 : decode cX9_give 72 = .ok (.iadd, 1) := by decide +kernel
theorem dX9_give_73 : decode cX9_give 73 = .ok (.istore 4, 2) := by decide +kernel
theorem dX9_give_75 : decode cX9_give 75 = .ok (.iinc 5 1, 3) := by decide +kernel
theorem dX9_give_78 : decode cX9_give 78 = .ok (.goto (-39), 3) := by decide +kernel
theorem dX9_give_81 : decode cX9_give 81 = .ok (.iload 4, 2) := by decide +kernel
theorem dX9_give_83 : decode cX9_give 83 = .ok (.iload_n 3, 1) := by decide +kernel
theorem dX9_give_84 : decode cX9_give 84 = .ok (.iadd, 1) := by decide +kernel
theorem dX9_give_85 : decode cX9_give 85 = .ok (.bipush 10, 2) := by decide +kernel
theorem dX9_give_87 : decode cX9_give 87 = .ok (.if_icmp .le 5, 3) := by decide +kernel
theorem dX9_give_90 : decode cX9_give 90 = .ok (.iconst 0, 1) := by decide +kernel
theorem dX9_give_91 : decode cX9_give 91 = .ok (.ireturn, 1) := by decide +kernel
theorem dX9_give_92 : decode cX9_give 92 = .ok (.aload_n 0, 1) := by decide +kernel
theorem dX9_give_93 : decode cX9_give 93 = .ok (.getfield 56, 3) := by decide +kernel
theorem dX9_give_96 : decode cX9_give 96 = .ok (.bipush 6, 2) := by decide +kernel
theorem dX9_give_98 : decode cX9_give 98 = .ok (.iload_n 1, 1) := by decide +kernel
theorem dX9_give_99 : decode cX9_give 99 = .ok (.imul, 1) := by decide +kernel
theorem dX9_give_100 : decode cX9_give 100 = .ok (.iload_n 2, 1) := by decide +kernel
theorem dX9_give_101 : decode cX9_give 101 = .ok (.iadd, 1) := by decide +kernel
theorem dX9_give_102 : decode cX9_give 102 = .ok (.iload_n 3, 1) := by decide +kernel
theorem dX9_give_103 : decode cX9_give 103 = .ok (.iastore, 1) := by decide +kernel
theorem dX9_give_104 : decode cX9_give 104 = .ok (.iconst 1, 1) := by decide +kernel
theorem dX9_give_105 : decode cX9_give 105 = .ok (.ireturn, 1) := by decide +kernel
theorem dX9_fit_0 : decode cX9_fit 0 = .ok (.aload_n 0, 1) := by decide +kernel
theorem dX9_fit_1 : decode cX9_fit 1 = .ok (.getfield 20, 3) := by decide +kernel
theorem dX9_fit_4 : decode cX9_fit 4 = .ok (.iload_n 2, 1) := by decide +kernel
theorem dX9_fit_5 : decode cX9_fit 5 = .ok (.iaload, 1) := by decide +kernel
theorem dX9_fit_6 : decode cX9_fit 6 = .ok (.aload_n 0, 1) := by decide +kernel
theorem dX9_fit_7 : decode cX9_fit 7 = .ok (.getfield 32, 3) := by decide +kernel
theorem dX9_fit_10 : decode cX9_fit 10 = .ok (.iload_n 1, 1) := by decide +kernel
theorem dX9_fit_11 : decode cX9_fit 11 = .ok (.iaload, 1) := by decide +kernel
theorem dX9_fit_12 : decode cX9_fit 12 = .ok (.if_icmp .ge 5, 3) := by decide +kernel
theorem dX9_fit_15 : decode cX9_fit 15 = .ok (.iconst 0, 1) := by decide +kernel
theorem dX9_fit_16 : decode cX9_fit 16 = .ok (.ireturn, 1) := by decide +kernel
theorem dX9_fit_17 : decode cX9_fit 17 = .ok (.aload_n 0, 1) := by decide +kernel
theorem dX9_fit_18 : decode cX9_fit 18 = .ok (.getfield 23, 3) := by decide +kernel
theorem dX9_fit_21 : decode cX9_fit 21 = .ok (.iload_n 2, 1) := by decide +kernel
theorem dX9_fit_22 : decode cX9_fit 22 = .ok (.iaload, 1) := by decide +kernel
theorem dX9_fit_23 : decode cX9_fit 23 = .ok (.aload_n 0, 1) := by decide +kernel
theorem dX9_fit_24 : decode cX9_fit 24 = .ok (.getfield 35, 3) := by decide +kernel
theorem dX9_fit_27 : decode cX9_fit 27 = .ok (.iload_n 1, 1) := by decide +kernel
theorem dX9_fit_28 : decode cX9_fit 28 = .ok (.iaload, 1) := by decide +kernel
theorem dX9_fit_29 : decode cX9_fit 29 = .ok (.if_icmp .ge 5, 3) := by decide +kernel
theorem dX9_fit_32 : decode cX9_fit 32 = .ok (.iconst (-1), 1) := by decide +kernel
theorem dX9_fit_33 : decode cX9_fit 33 = .ok (.ireturn, 1) := by decide +kernel
theorem dX9_fit_34 : decode cX9_fit 34 = .ok (.aload_n 0, 1) := by decide +kernel
theorem dX9_fit_35 : decode cX9_fit 35 = .ok (.iload_n 1, 1) := by decide +kernel
theorem dX9_fit_36 : decode cX9_fit 36 = .ok (.iload_n 2, 1) := by decide +kernel
theorem dX9_fit_37 : decode cX9_fit 37 = .ok (.invokevirtual 151, 3) := by decide +kernel
theorem dX9_fit_40 : decode cX9_fit 40 = .ok (.ifCond .eq 7, 3) := by decide +kernel
theorem dX9_fit_43 : decode cX9_fit 43 = .ok (.iconst 1, 1) := by decide +kernel
theorem dX9_fit_44 : decode cX9_fit 44 = .ok (.goto 5, 3) := by decide +kernel
theorem dX9_fit_47 : decode cX9_fit 47 = .ok (.bipush (-2), 2) := by decide +kernel
theorem dX9_fit_49 : decode cX9_fit 49 = .ok (.ireturn, 1) := by decide +kernel
theorem dX9_plugged_0 : decode cX9_plugged 0 = .ok (.aload_n 0, 1) := by decide +kernel
theorem dX9_plugged_1 : decode cX9_plugged 1 = .ok (.iconst 0, 1) := by decide +kernel
theorem dX9_plugged_2 : decode cX9_plugged 2 = .ok (.putfield 102, 3) := by decide +kernel
theorem dX9_plugged_5 : decode cX9_plugged 5 = .ok (.aload_n 0, 1) := by decide +kernel
theorem dX9_plugged_6 : decode cX9_plugged 6 = .ok (.iload_n 1, 1) := by decide +kernel
theorem dX9_plugged_7 : decode cX9_plugged 7 = .ok (.invokevirtual 144, 3) := by decide +kernel
theorem dX9_plugged_10 : decode cX9_plugged 10 = .ok (.ifCond .eq 25, 3) := by decide +kernel
theorem dX9_plugged_13 : decode cX9_plugged 13 = .ok (.aload_n 0, 1) := by decide +kernel
theorem dX9_plugged_14 : decode cX9_plugged 14 = .ok (.iload_n 2, 1) := by decide +kernel
theorem dX9_plugged_15 : decode cX9_plugged 15 = .ok (.invokevirtual 140, 3) := by decide +kernel
theorem dX9_plugged_18 : decode cX9_plugged 18 = .ok (.ifCond .eq 17, 3) := by decide +kernel
theorem dX9_plugged_21 : decode cX9_plugged 21 = .ok (.iload_n 3, 1) := by decide +kernel
theorem dX9_plugged_22 : decode cX9_plugged 22 = .ok (.ifCond .lt 13, 3) := by decide +kernel
theorem dX9_plugged_25 : decode cX9_plugged 25 = .ok (.iload_n 3, 1) := by decide +kernel
theorem dX9_plugged_26 : decode cX9_plugged 26 = .ok (.aload_n 0, 1) := by decide +kernel
theorem dX9_plugged_27 : decode cX9_plugged 27 = .ok (.getfield 38, 3) := by decide +kernel
theorem dX9_plugged_30 : decode cX9_plugged 30 = .ok (.iload_n 1, 1) := by decide +kernel
theorem dX9_plugged_31 : decode cX9_plugged 31 = .ok (.iaload, 1) := by decide +kernel
theorem dX9_plugged_32 : decode cX9_plugged 32 = .ok (.if_icmp .lt 5, 3) := by decide +kernel
theorem dX9_plugged_35 : decode cX9_plugged 35 = .ok (.iconst (-1), 1) := by decide +kernel
theorem dX9_plugged_36 : decode cX9_plugged 36 = .ok (.ireturn, 1) := by decide +kernel
theorem dX9_plugged_37 : decode cX9_plugged 37 = .ok (.aload_n 0, 1) := by decide +kernel
theorem dX9_plugged_38 : decode cX9_plugged 38 = .ok (.iload_n 1, 1) := by decide +kernel
theorem dX9_plugged_39 : decode cX9_plugged 39 = .ok (.iload_n 2, 1) := by decide +kernel
theorem dX9_plugged_40 : decode cX9_plugged 40 = .ok (.invokevirtual 151, 3) := by decide +kernel
theorem dX9_plugged_43 : decode cX9_plugged 43 = .ok (.ifCond .eq 12, 3) := by decide +kernel
theorem dX9_plugged_46 : decode cX9_plugged 46 = .ok (.aload_n 0, 1) := by decide +kernel
theorem dX9_plugged_47 : decode cX9_plugged 47 = .ok (.getfield 59, 3) := by decide +kernel
theorem dX9_plugged_50 : decode cX9_plugged 50 = .ok (.iload_n 3, 1) := by decide +kernel
theorem dX9_plugged_51 : decode cX9_plugged 51 = .ok (.iaload, 1) := by decide +kernel
theorem dX9_plugged_52 : decode cX9_plugged 52 = .ok (.goto 4, 3) := by decide +kernel
theorem dX9_plugged_55 : decode cX9_plugged 55 = .ok (.iconst (-1), 1) := by decide +kernel
theorem dX9_plugged_56 : decode cX9_plugged 56 = .ok (.ireturn, 1) := by decide +kernel
theorem dX9_lacks_0 : decode cX9_lacks 0 = .ok (.aload_n 0, 1) := by decide +kernel
theorem dX9_lacks_1 : decode cX9_lacks 1 = .ok (.iconst 0, 1) := by decide +kernel
theorem dX9_lacks_2 : decode cX9_lacks 2 = .ok (.putfield 102, 3) := by decide +kernel
theorem dX9_lacks_5 : decode cX9_lacks 5 = .ok (.aload_n 0, 1) := by decide +kernel
theorem dX9_lacks_6 : decode cX9_lacks 6 = .ok (.iload_n 1, 1) := by decide +kernel
theorem dX9_lacks_7 : decode cX9_lacks 7 = .ok (.invokevirtual 144, 3) := by decide +kernel
theorem dX9_lacks_10 : decode cX9_lacks 10 = .ok (.ifCond .eq 11, 3) := by decide +kernel
theorem dX9_lacks_13 : decode cX9_lacks 13 = .ok (.aload_n 0, 1) := by decide +kernel
theorem dX9_lacks_14 : decode cX9_lacks 14 = .ok (.iload_n 2, 1) := by decide +kernel
theorem dX9_lacks_15 : decode cX9_lacks 15 = .ok (.invokevirtual 140, 3) := by decide +kernel
theorem dX9_lacks_18 : decode cX9_lacks 18 = .ok (.ifCond .ne 5, 3) := by decide +kernel
theorem dX9_lacks_21 : decode cX9_lacks 21 = .ok (.iconst (-1), 1) := by decide +kernel
theorem dX9_lacks_22 : decode cX9_lacks 22 = .ok (.ireturn, 1) := by decide +kernel
theorem dX9_lacks_23 : decode cX9_lacks 23 = .ok (.iconst 1, 1) := by decide +kernel
theorem dX9_lacks_24 : decode cX9_lacks 24 = .ok (.istore_n 3, 1) := by decide +kernel
theorem dX9_lacks_25 : decode cX9_lacks 25 = .ok (.iconst 0, 1) := by decide +kernel
theorem dX9_lacks_26 : decode cX9_lacks 26 = .ok (.istore 4, 2) := by decide +kernel
theorem dX9_lacks_28 : decode cX9_lacks 28 = .ok (.iload 4, 2) := by decide +kernel
theorem dX9_lacks_30 : decode cX9_lacks 30 = .ok (.aload_n 0, 1) := by decide +kernel
theorem dX9_lacks_31 : decode cX9_lacks 31 = .ok (.getfield 38, 3) := by decide +kernel
theorem dX9_lacks_34 : decode cX9_lacks 34 = .ok (.iload_n 1, 1) := by decide +kernel
theorem dX9_lacks_35 : decode cX9_lacks 35 = .ok (.iaload, 1) := by decide +kernel
theorem dX9_lacks_36 : decode cX9_lacks 36 = .ok (.if_icmp .ge 18, 3) := by decide +kernel
theorem dX9_lacks_39 : decode cX9_lacks 39 = .ok (.iload_n 3, 1) := by decide +kernel
theorem dX9_lacks_40 : decode cX9_lacks 40 = .ok (.aload_n 0, 1) := by decide +kernel
theorem dX9_lacks_41 : decode cX9_lacks 41 = .ok (.getfield 26, 3) := by decide +kernel
theorem dX9_lacks_44 : decode cX9_lacks 44 = .ok (.iload_n 2, 1) := by decide +kernel
theorem dX9_lacks_45 : decode cX9_lacks 45 = .ok (.iaload, 1) := by decide +kernel
theorem dX9_lacks_46 : decode cX9_lacks 46 = .ok (.imul, 1) := by decide +kernel
theorem dX9_lacks_47 : decode cX9_lacks 47 = .ok (.istore_n 3, 1) := by decide +kernel
theorem dX9_lacks_48 : decode cX9_lacks 48 = .ok (.iinc 4 1, 3) := by decide +kernel
theorem dX9_lacks_51 : decode cX9_lacks 51 = .ok (.goto (-23), 3) := by decide +kernel
theorem dX9_lacks_54 : decode cX9_lacks 54 = .ok (.iconst (-1), 1) := by decide +kernel
theorem dX9_lacks_55 : decode cX9_lacks 55 = .ok (.istore 4, 2) := by decide +kernel
theorem dX9_lacks_57 : decode cX9_lacks 57 = .ok (.iconst 0, 1) := by decide +kernel
theorem dX9_lacks_58 : decode cX9_lacks 58 = .ok (.istore 5, 2) := by decide +kernel
theorem dX9_lacks_60 : decode cX9_lacks 60 = .ok (.iload 5, 2) := by decide +kernel
theorem dX9_lacks_62 : decode cX9_lacks 62 = .ok (.iload_n 3, 1) := by decide +kernel
theorem dX9_lacks_63 : decode cX9_lacks 63 = .ok (.if_icmp .ge 189, 3) := by decide +kernel
theorem dX9_lacks_66 : decode cX9_lacks 66 = .ok (.iconst 0, 1) := by decide +kernel
theorem dX9_lacks_67 : decode cX9_lacks 67 = .ok (.istore 6, 2) := by decide +kernel
theorem dX9_lacks_69 : decode cX9_lacks 69 = .ok (.iload 6, 2) := by decide +kernel
theorem dX9_lacks_71 : decode cX9_lacks 71 = .ok (.iconst 4, 1) := by decide +kernel
theorem dX9_lacks_72 : decode cX9_lacks 72 = .ok (.if_icmp .ge 17, 3) := by decide +kernel
theorem dX9_lacks_75 : decode cX9_lacks 75 = .ok (.aload_n 0, 1) := by decide +kernel
theorem dX9_lacks_76 : decode cX9_lacks 76 = .ok (.getfield 62, 3) := by decide +kernel
theorem dX9_lacks_79 : decode cX9_lacks 79 = .ok (.iload 6, 2) := by decide +kernel
theorem dX9_lacks_81 : decode cX9_lacks 81 = .ok (.iconst 0, 1) := by decide +kernel
theorem dX9_lacks_82 : decode cX9_lacks 82 = .ok (.iastore, 1) := by decide +kernel
theorem dX9_lacks_83 : decode cX9_lacks 83 = .ok (.iinc 6 1, 3) := by decide +kernel
theorem dX9_lacks_86 : decode cX9_lacks 86 = .ok (.goto (-17), 3) := by decide +kernel
theorem dX9_lacks_89 : decode cX9_lacks 89 = .ok (.iload 5, 2) := by decide +kernel
theorem dX9_lacks_91 : decode cX9_lacks 91 = .ok (.istore 6, 2) := by decide +kernel
theorem dX9_lacks_93 : decode cX9_lacks 93 = .ok (.iconst 0, 1) := by decide +kernel
theorem dX9_lacks_94 : decode cX9_lacks 94 = .ok (.istore 7, 2) := by decide +kernel
theorem dX9_lacks_96 : decode cX9_lacks 96 = .ok (.iload 7, 2) := by decide +kernel
theorem dX9_lacks_98 : decode cX9_lacks 98 = .ok (.aload_n 0, 1) := by decide +kernel
theorem dX9_lacks_99 : decode cX9_lacks 99 = .ok (.getfield 38, 3) := by decide +kernel
theorem dX9_lacks_102 : decode cX9_lacks 102 = .ok (.iload_n 1, 1) := by decide +kernel
theorem dX9_lacks_103 : decode cX9_lacks 103 = .ok (.iaload, 1) := by decide +kernel
theorem dX9_lacks_104 : decode cX9_lacks 104 = .ok (.if_icmp .ge 49, 3) := by decide +kernel
theorem dX9_lacks_107 : decode cX9_lacks 107 = .ok (.aload_n 0, 1) := by decide +kernel
theorem dX9_lacks_108 : decode cX9_lacks 108 = .ok (.getfield 62, 3) := by decide +kernel
theorem dX9_lacks_111 : decode cX9_lacks 111 = .ok (.iload 6, 2) := by decide +kernel
theorem dX9_lacks_113 : decode cX9_lacks 113 = .ok (.aload_n 0, 1) := by decide +kernel
theorem dX9_lacks_114 : decode cX9_lacks 114 = .ok (.getfield 26, 3) := by decide +kernel
theorem dX9_lacks_117 : decode cX9_lacks 117 = .ok (.iload_n 2, 1) := by decide +kernel
theorem dX9_lacks_118 : decode cX9_lacks 118 = .ok (.iaload, 1) := by decide +kernel
theorem dX9_lacks_119 : decode cX9_lacks 119 = .ok (.irem, 1) := by decide +kernel
theorem dX9_lacks_120 : decode cX9_lacks 120 = .ok (.dup2, 1) := by decide +kernel
theorem dX9_lacks_121 : decode cX9_lacks 121 = .ok (.iaload, 1) := by decide +kernel
theorem dX9_lacks_122 : decode cX9_lacks 122 = .ok (.aload_n 0, 1) := by decide +kernel
theorem dX9_lacks_123 : decode cX9_lacks 123 = .ok (.getfield 41, 3) := by decide +kernel
theorem dX9_lacks_126 : decode cX9_lacks 126 = .ok (.bipush 8, 2) := by decide +kernel
theorem dX9_lacks_128 : decode cX9_lacks 128 = .ok (.iload_n 1, 1) := by decide +kernel
theorem dX9_lacks_129 : decode cX9_lacks 129 = .ok (.imul, 1) := by decide +kernel
theorem dX9_lacks_130 : decode cX9_lacks 130 = .ok (.iload 7, 2) := by decide +kernel
theorem dX9_lacks_132 : decode cX9_lacks 132 = .ok (.iadd, 1) := by decide +kernel
theorem dX9_lacks_133 : decode cX9_lacks 133 = .ok (.iaload, 1) := by decide +kernel
theorem dX9_lacks_134 : decode cX9_lacks 134 = .ok (.iadd, 1) := by decide +kernel
theorem dX9_lacks_135 : decode cX9_lacks 135 = .ok (.iastore, 1) := by decide +kernel
theorem dX9_lacks_136 : decode cX9_lacks 136 = .ok (.iload 6, 2) := by decide +kernel
theorem dX9_lacks_138 : decode cX9_lacks 138 = .ok (.aload_n 0, 1) := by decide +kernel
theorem dX9_lacks_139 : decode cX9_lacks 139 = .ok (.getfield 26, 3) := by decide +kernel
theorem dX9_lacks_142 : decode cX9_lacks 142 = .ok (.iload_n 2, 1) := by decide +kernel
theorem dX9_lacks_143 : decode cX9_lacks 143 = .ok (.iaload, 1) := by decide +kernel
theorem dX9_lacks_144 : decode cX9_lacks 144 = .ok (.idiv, 1) := by decide +kernel
theorem dX9_lacks_145 : decode cX9_lacks 145 = .ok (.istore 6, 2) := by decide +kernel
theorem dX9_lacks_147 : decode cX9_lacks 147 = .ok (.iinc 7 1, 3) := by decide +kernel
theorem dX9_lacks_150 : decode cX9_lacks 150 = .ok (.goto (-54), 3) := by decide +kernel
theorem dX9_lacks_153 : decode cX9_lacks 153 = .ok (.iconst 0, 1) := by decide +kernel
theorem dX9_lacks_154 : decode cX9_lacks 154 = .ok (.istore 7, 2) := by decide +kernel
theorem dX9_lacks_156 : decode cX9_lacks 156 = .ok (.iconst 0, 1) := by decide +kernel
theorem dX9_lacks_157 : decode cX9_lacks 157 = .ok (.istore 8, 2) := by decide +kernel
theorem dX9_lacks_159 : decode cX9_lacks 159 = .ok (.iload 8, 2) := by decide +kernel
theorem dX9_lacks_161 : decode cX9_lacks 161 = .ok (.aload_n 0, 1) := by decide +kernel
theorem dX9_lacks_162 : decode cX9_lacks 162 = .ok (.getfield 26, 3) := by decide +kernel
theorem dX9_lacks_165 : decode cX9_lacks 165 = .ok (.iload_n 2, 1) := by decide +kernel
theorem dX9_lacks_166 : decode cX9_lacks 166 = .ok (.iaload, 1) := by decide +kernel
theorem dX9_lacks_167 : decode cX9_lacks 167 = .ok (.if_icmp .ge 58, 3) := by decide +kernel
theorem dX9_lacks_170 : decode cX9_lacks 170 = .ok (.iload 7, 2) := by decide +kernel
theorem dX9_lacks_172 : decode cX9_lacks 172 = .ok (.aload_n 0, 1) := by decide +kernel
theorem dX9_lacks_173 : decode cX9_lacks 173 = .ok (.getfield 62, 3) := by decide +kernel
theorem dX9_lacks_176 : decode cX9_lacks 176 = .ok (.iload 8, 2) := by decide +kernel
theorem dX9_lacks_178 : decode cX9_lacks 178 = .ok (.iaload, 1) := by decide +kernel
theorem dX9_lacks_179 : decode cX9_lacks 179 = .ok (.aload_n 0, 1) := by decide +kernel
theorem dX9_lacks_180 : decode cX9_lacks 180 = .ok (.getfield 29, 3) := by decide +kernel
theorem dX9_lacks_183 : decode cX9_lacks 183 = .ok (.iconst 4, 1) := by decide +kernel
theorem dX9_lacks_184 : decode cX9_lacks 184 = .ok (.iload_n 2, 1) := by decide +kernel
theorem dX9_lacks_185 : decode cX9_lacks 185 = .ok (.imul, 1) := by decide +kernel
theorem dX9_lacks_186 : decode cX9_lacks 186 = .ok (.iload 8, 2) := by decide +kernel
theorem dX9_lacks_188 : decode cX9_lacks 188 = .ok (.iadd, 1) := by decide +kernel
theorem dX9_lacks_189 : decode cX9_lacks 189 = .ok (.iaload, 1) := by decide +kernel
theorem dX9_lacks_190 : decode cX9_lacks 190 = .ok (.if_icmp .le 25, 3) := by decide +kernel
theorem dX9_lacks_193 : decode cX9_lacks 193 = .ok (.aload_n 0, 1) := by decide +kernel
theorem dX9_lacks_194 : decode cX9_lacks 194 = .ok (.getfield 62, 3) := by decide +kernel
theorem dX9_lacks_197 : decode cX9_lacks 197 = .ok (.iload 8, 2) := by decide +kernel
theorem dX9_lacks_199 : decode cX9_lacks 199 = .ok (.iaload, 1) := by decide +kernel
theorem dX9_lacks_200 : decode cX9_lacks 200 = .ok (.aload_n 0, 1) := by decide +kernel
theorem dX9_lacks_201 : decode cX9_lacks 201 = .ok (.getfield 29, 3) := by decide +kernel
theorem dX9_lacks_204 : decode cX9_lacks 204 = .ok (.iconst 4, 1) := by decide +kernel
theorem dX9_lacks_205 : decode cX9_lacks 205 = .ok (.iload_n 2, 1) := by decide +kernel
theorem dX9_lacks_206 : decode cX9_lacks 206 = .ok (.imul, 1) := by decide +kernel
theorem dX9_lacks_207 : decode cX9_lacks 207 = .ok (.iload 8, 2) := by decide +kernel
theorem dX9_lacks_209 : decode cX9_lacks 209 = .ok (.iadd, 1) := by decide +kernel
theorem dX9_lacks_210 : decode cX9_lacks 210 = .ok (.iaload, 1) := by decide +kernel
theorem dX9_lacks_211 : decode cX9_lacks 211 = .ok (.isub, 1) := by decide +kernel
theorem dX9_lacks_212 : decode cX9_lacks 212 = .ok (.goto 4, 3) := by decide +kernel
theorem dX9_lacks_215 : decode cX9_lacks 215 = .ok (.iconst 0, 1) := by decide +kernel
theorem dX9_lacks_216 : decode cX9_lacks 216 = .ok (.iadd, 1) := by decide +kernel
theorem dX9_lacks_217 : decode cX9_lacks 217 = .ok (.istore 7, 2) := by decide +kernel
theorem dX9_lacks_219 : decode cX9_lacks 219 = .ok (.iinc 8 1, 3) := by decide +kernel
theorem dX9_lacks_222 : decode cX9_lacks 222 = .ok (.goto (-63), 3) := by decide +kernel
theorem dX9_lacks_225 : decode cX9_lacks 225 = .ok (.iload 4, 2) := by decide +kernel
theorem dX9_lacks_227 : decode cX9_lacks 227 = .ok (.ifCond .lt 10, 3) := by decide +kernel
theorem dX9_lacks_230 : decode cX9_lacks 230 = .ok (.iload 7, 2) := by decide +kernel
theorem dX9_lacks_232 : decode cX9_lacks 232 = .ok (.iload 4, 2) := by decide +kernel
theorem dX9_lacks_234 : decode cX9_lacks 234 = .ok (.if_icmp .ge 8, 3) := by decide +kernel
theorem dX9_lacks_237 : decode cX9_lacks 237 = .ok (.iload 7, 2) := by decide +kernel
theorem dX9_lacks_239 : decode cX9_lacks 239 = .ok (.goto 5, 3) := by decide +kernel
theorem dX9_lacks_242 : decode cX9_lacks 242 = .ok (.iload 4, 2) := by decide +kernel
theorem dX9_lacks_244 : decode cX9_lacks 244 = .ok (.istore 4, 2) := by decide +kernel
theorem dX9_lacks_246 : decode cX9_lacks 246 = .ok (.iinc 5 1, 3) := by decide +kernel
theorem dX9_lacks_249 : decode cX9_lacks 249 = .ok (.goto (-189), 3) := by decide +kernel
theorem dX9_lacks_252 : decode cX9_lacks 252 = .ok (.iload 4, 2) := by decide +kernel
theorem dX9_lacks_254 : decode cX9_lacks 254 = .ok (.ireturn, 1) := by decide +kernel
theorem dX9_go_0 : decode cX9_go 0 = .ok (.aload_n 0, 1) := by decide +kernel
theorem dX9_go_1 : decode cX9_go 1 = .ok (.getfield 74, 3) := by decide +kernel
theorem dX9_go_4 : decode cX9_go 4 = .ok (.iload_n 2, 1) := by decide +kernel
theorem dX9_go_5 : decode cX9_go 5 = .ok (.iaload, 1) := by decide +kernel
theorem dX9_go_6 : decode cX9_go 6 = .ok (.istore 4, 2) := by decide +kernel
theorem dX9_go_8 : decode cX9_go 8 = .ok (.iload 4, 2) := by decide +kernel
theorem dX9_go_10 : decode cX9_go 10 = .ok (.iload_n 3, 1) := by decide +kernel
theorem dX9_go_11 : decode cX9_go 11 = .ok (.if_icmp .ne 37, 3) := by decide +kernel
theorem dX9_go_14 : decode cX9_go 14 = .ok (.aload_n 0, 1) := by decide +kernel
theorem dX9_go_15 : decode cX9_go 15 = .ok (.iload_n 2, 1) := by decide +kernel
theorem dX9_go_16 : decode cX9_go 16 = .ok (.iconst 1, 1) := by decide +kernel
theorem dX9_go_17 : decode cX9_go 17 = .ok (.iadd, 1) := by decide +kernel
theorem dX9_go_18 : decode cX9_go 18 = .ok (.aload_n 0, 1) := by decide +kernel
theorem dX9_go_19 : decode cX9_go 19 = .ok (.getfield 77, 3) := by decide +kernel
theorem dX9_go_22 : decode cX9_go 22 = .ok (.iload_n 2, 1) := by decide +kernel
theorem dX9_go_23 : decode cX9_go 23 = .ok (.iaload, 1) := by decide +kernel
theorem dX9_go_24 : decode cX9_go 24 = .ok (.aload_n 0, 1) := by decide +kernel
theorem dX9_go_25 : decode cX9_go 25 = .ok (.getfield 80, 3) := by decide +kernel
theorem dX9_go_28 : decode cX9_go 28 = .ok (.iload_n 2, 1) := by decide +kernel
theorem dX9_go_29 : decode cX9_go 29 = .ok (.iaload, 1) := by decide +kernel
theorem dX9_go_30 : decode cX9_go 30 = .ok (.aload_n 0, 1) := by decide +kernel
theorem dX9_go_31 : decode cX9_go 31 = .ok (.getfield 83, 3) := by decide +kernel
theorem dX9_go_34 : decode cX9_go 34 = .ok (.iload_n 2, 1) := by decide +kernel
theorem dX9_go_35 : decode cX9_go 35 = .ok (.iaload, 1) := by decide +kernel
theorem dX9_go_36 : decode cX9_go 36 = .ok (.iconst 0, 1) := by decide +kernel
theorem dX9_go_37 : decode cX9_go 37 = .ok (.aload_n 0, 1) := by decide +kernel
theorem dX9_go_38 : decode cX9_go 38 = .ok (.getfield 89, 3) := by decide +kernel
theorem dX9_go_41 : decode cX9_go 41 = .ok (.iload_n 2, 1) := by decide +kernel
theorem dX9_go_42 : decode cX9_go 42 = .ok (.iaload, 1) := by decide +kernel
theorem dX9_go_43 : decode cX9_go 43 = .ok (.invokevirtual 154, 3) := by decide +kernel
theorem dX9_go_46 : decode cX9_go 46 = .ok (.iconst 1, 1) := by decide +kernel
theorem dX9_go_47 : decode cX9_go 47 = .ok (.ireturn, 1) := by decide +kernel
theorem dX9_go_48 : decode cX9_go 48 = .ok (.aload_n 0, 1) := by decide +kernel
theorem dX9_go_49 : decode cX9_go 49 = .ok (.getfield 71, 3) := by decide +kernel
theorem dX9_go_52 : decode cX9_go 52 = .ok (.iload 4, 2) := by decide +kernel
theorem dX9_go_54 : decode cX9_go 54 = .ok (.iaload, 1) := by decide +kernel
theorem dX9_go_55 : decode cX9_go 55 = .ok (.istore 5, 2) := by decide +kernel
theorem dX9_go_57 : decode cX9_go 57 = .ok (.aload_n 0, 1) := by decide +kernel
theorem dX9_go_58 : decode cX9_go 58 = .ok (.getfield 80, 3) := by decide +kernel
theorem dX9_go_61 : decode cX9_go 61 = .ok (.iload_n 2, 1) := by decide +kernel
theorem dX9_go_62 : decode cX9_go 62 = .ok (.iaload, 1) := by decide +kernel
theorem dX9_go_63 : decode cX9_go 63 = .ok (.ifCond .lt 42, 3) := by decide +kernel
theorem dX9_go_66 : decode cX9_go 66 = .ok (.aload_n 0, 1) := by decide +kernel
theorem dX9_go_67 : decode cX9_go 67 = .ok (.aload_n 0, 1) := by decide +kernel
theorem dX9_go_68 : decode cX9_go 68 = .ok (.getfield 71, 3) := by decide +kernel
theorem dX9_go_71 : decode cX9_go 71 = .ok (.aload_n 0, 1) := by decide +kernel
theorem dX9_go_72 : decode cX9_go 72 = .ok (.getfield 80, 3) := by decide +kernel
theorem dX9_go_75 : decode cX9_go 75 = .ok (.iload_n 2, 1) := by decide +kernel
theorem dX9_go_76 : decode cX9_go 76 = .ok (.iaload, 1) := by decide +kernel
theorem dX9_go_77 : decode cX9_go 77 = .ok (.iaload, 1) := by decide +kernel
theorem dX9_go_78 : decode cX9_go 78 = .ok (.iload 5, 2) := by decide +kernel
theorem dX9_go_80 : decode cX9_go 80 = .ok (.invokevirtual 168, 3) := by decide +kernel
theorem dX9_go_83 : decode cX9_go 83 = .ok (.aload_n 0, 1) := by decide +kernel
theorem dX9_go_84 : decode cX9_go 84 = .ok (.getfield 50, 3) := by decide +kernel
theorem dX9_go_87 : decode cX9_go 87 = .ok (.iload_n 1, 1) := by decide +kernel
theorem dX9_go_88 : decode cX9_go 88 = .ok (.iaload, 1) := by decide +kernel
theorem dX9_go_89 : decode cX9_go 89 = .ok (.iload_n 2, 1) := by decide +kernel
theorem dX9_go_90 : decode cX9_go 90 = .ok (.aload_n 0, 1) := by decide +kernel
theorem dX9_go_91 : decode cX9_go 91 = .ok (.getfield 83, 3) := by decide +kernel
theorem dX9_go_94 : decode cX9_go 94 = .ok (.iload_n 2, 1) := by decide +kernel
theorem dX9_go_95 : decode cX9_go 95 = .ok (.iaload, 1) := by decide +kernel
theorem dX9_go_96 : decode cX9_go 96 = .ok (.isub, 1) := by decide +kernel
theorem dX9_go_97 : decode cX9_go 97 = .ok (.imul, 1) := by decide +kernel
theorem dX9_go_98 : decode cX9_go 98 = .ok (.if_icmp .le 7, 3) := by decide +kernel
theorem dX9_go_101 : decode cX9_go 101 = .ok (.iconst 1, 1) := by decide +kernel
theorem dX9_go_102 : decode cX9_go 102 = .ok (.goto 4, 3) := by decide +kernel
theorem dX9_go_105 : decode cX9_go 105 = .ok (.iconst 0, 1) := by decide +kernel
theorem dX9_go_106 : decode cX9_go 106 = .ok (.istore 6, 2) := by decide +kernel
theorem dX9_go_108 : decode cX9_go 108 = .ok (.aload_n 0, 1) := by decide +kernel
theorem dX9_go_109 : decode cX9_go 109 = .ok (.getfield 77, 3) := by decide +kernel
theorem dX9_go_112 : decode cX9_go 112 = .ok (.iload_n 2, 1) := by decide +kernel
theorem dX9_go_113 : decode cX9_go 113 = .ok (.iaload, 1) := by decide +kernel
theorem dX9_go_114 : decode cX9_go 114 = .ok (.iload 4, 2) := by decide +kernel
theorem dX9_go_116 : decode cX9_go 116 = .ok (.ishr, 1) := by decide +kernel
theorem dX9_go_117 : decode cX9_go 117 = .ok (.iconst 1, 1) := by decide +kernel
theorem dX9_go_118 : decode cX9_go 118 = .ok (.iand, 1) := by decide +kernel
theorem dX9_go_119 : decode cX9_go 119 = .ok (.iconst 1, 1) := by decide +kernel
theorem dX9_go_120 : decode cX9_go 120 = .ok (.if_icmp .eq 34, 3) := by decide +kernel
theorem dX9_go_123 : decode cX9_go 123 = .ok (.aload_n 0, 1) := by decide +kernel
theorem dX9_go_124 : decode cX9_go 124 = .ok (.getfield 86, 3) := by decide +kernel
theorem dX9_go_127 : decode cX9_go 127 = .ok (.iload_n 2, 1) := by decide +kernel
theorem dX9_go_128 : decode cX9_go 128 = .ok (.iaload, 1) := by decide +kernel
theorem dX9_go_129 : decode cX9_go 129 = .ok (.aload_n 0, 1) := by decide +kernel
theorem dX9_go_130 : decode cX9_go 130 = .ok (.getfield 53, 3) := by decide +kernel
theorem dX9_go_133 : decode cX9_go 133 = .ok (.iload_n 1, 1) := by decide +kernel
theorem dX9_go_134 : decode cX9_go 134 = .ok (.iaload, 1) := by decide +kernel
theorem dX9_go_135 : decode cX9_go 135 = .ok (.if_icmp .eq 19, 3) := by decide +kernel
theorem dX9_go_138 : decode cX9_go 138 = .ok (.iload 6, 2) := by decide +kernel
theorem dX9_go_140 : decode cX9_go 140 = .ok (.ifCond .ne 14, 3) := by decide +kernel
theorem dX9_go_143 : decode cX9_go 143 = .ok (.aload_n 0, 1) := by decide +kernel
theorem dX9_go_144 : decode cX9_go 144 = .ok (.iload_n 1, 1) := by decide +kernel
theorem dX9_go_145 : decode cX9_go 145 = .ok (.iload 5, 2) := by decide +kernel
theorem dX9_go_147 : decode cX9_go 147 = .ok (.iload_n 2, 1) := by decide +kernel
theorem dX9_go_148 : decode cX9_go 148 = .ok (.invokevirtual 171, 3) := by decide +kernel
theorem dX9_go_151 : decode cX9_go 151 = .ok (.ifCond .ne 5, 3) := by decide +kernel
theorem dX9_go_154 : decode cX9_go 154 = .ok (.iconst 0, 1) := by decide +kernel
theorem dX9_go_155 : decode cX9_go 155 = .ok (.ireturn, 1) := by decide +kernel
theorem dX9_go_156 : decode cX9_go 156 = .ok (.aload_n 0, 1) := by decide +kernel
theorem dX9_go_157 : decode cX9_go 157 = .ok (.iload_n 2, 1) := by decide +kernel
theorem dX9_go_158 : decode cX9_go 158 = .ok (.iconst 1, 1) := by decide +kernel
theorem dX9_go_159 : decode cX9_go 159 = .ok (.iadd, 1) := by decide +kernel
theorem dX9_go_160 : decode cX9_go 160 = .ok (.aload_n 0, 1) := by decide +kernel
theorem dX9_go_161 : decode cX9_go 161 = .ok (.getfield 77, 3) := by decide +kernel
theorem dX9_go_164 : decode cX9_go 164 = .ok (.iload_n 2, 1) := by decide +kernel
theorem dX9_go_165 : decode cX9_go 165 = .ok (.iaload, 1) := by decide +kernel
theorem dX9_go_166 : decode cX9_go 166 = .ok (.iconst 1, 1) := by decide +kernel
theorem dX9_go_167 : decode cX9_go 167 = .ok (.iload 4, 2) := by decide +kernel
theorem dX9_go_169 : decode cX9_go 169 = .ok (.ishl, 1) := by decide +kernel
theorem dX9_go_170 : decode cX9_go 170 = .ok (.ior, 1) := by decide +kernel
theorem dX9_go_171 : decode cX9_go 171 = .ok (.iload 4, 2) := by decide +kernel
theorem dX9_go_173 : decode cX9_go 173 = .ok (.iload_n 2, 1) := by decide +kernel
theorem dX9_go_174 : decode cX9_go 174 = .ok (.aload_n 0, 1) := by decide +kernel
theorem dX9_go_175 : decode cX9_go 175 = .ok (.getfield 86, 3) := by decide +kernel
theorem dX9_go_178 : decode cX9_go 178 = .ok (.iload_n 2, 1) := by decide +kernel
theorem dX9_go_179 : decode cX9_go 179 = .ok (.iaload, 1) := by decide +kernel
theorem dX9_go_180 : decode cX9_go 180 = .ok (.iconst 1, 1) := by decide +kernel
theorem dX9_go_181 : decode cX9_go 181 = .ok (.iadd, 1) := by decide +kernel
theorem dX9_go_182 : decode cX9_go 182 = .ok (.aload_n 0, 1) := by decide +kernel
theorem dX9_go_183 : decode cX9_go 183 = .ok (.getfield 89, 3) := by decide +kernel
theorem dX9_go_186 : decode cX9_go 186 = .ok (.iload_n 2, 1) := by decide +kernel
theorem dX9_go_187 : decode cX9_go 187 = .ok (.iaload, 1) := by decide +kernel
theorem dX9_go_188 : decode cX9_go 188 = .ok (.aload_n 0, 1) := by decide +kernel
theorem dX9_go_189 : decode cX9_go 189 = .ok (.getfield 56, 3) := by decide +kernel
theorem dX9_go_192 : decode cX9_go 192 = .ok (.bipush 6, 2) := by decide +kernel
theorem dX9_go_194 : decode cX9_go 194 = .ok (.iload 5, 2) := by decide +kernel
theorem dX9_go_196 : decode cX9_go 196 = .ok (.imul, 1) := by decide +kernel
theorem dX9_go_197 : decode cX9_go 197 = .ok (.iload_n 1, 1) := by decide +kernel
theorem dX9_go_198 : decode cX9_go 198 = .ok (.iadd, 1) := by decide +kernel
theorem dX9_go_199 : decode cX9_go 199 = .ok (.iaload, 1) := by decide +kernel
theorem dX9_go_200 : decode cX9_go 200 = .ok (.iadd, 1) := by decide +kernel
theorem dX9_go_201 : decode cX9_go 201 = .ok (.invokevirtual 154, 3) := by decide +kernel
theorem dX9_go_204 : decode cX9_go 204 = .ok (.iconst 1, 1) := by decide +kernel
theorem dX9_go_205 : decode cX9_go 205 = .ok (.ireturn, 1) := by decide +kernel
theorem dX9_on_0 : decode cX9_on 0 = .ok (.aload_n 0, 1) := by decide +kernel
theorem dX9_on_1 : decode cX9_on 1 = .ok (.iconst 0, 1) := by decide +kernel
theorem dX9_on_2 : decode cX9_on 2 = .ok (.putfield 102, 3) := by decide +kernel
theorem dX9_on_5 : decode cX9_on 5 = .ok (.aload_n 0, 1) := by decide +kernel
theorem dX9_on_6 : decode cX9_on 6 = .ok (.iload_n 1, 1) := by decide +kernel
theorem dX9_on_7 : decode cX9_on 7 = .ok (.invokevirtual 144, 3) := by decide +kernel
theorem dX9_on_10 : decode cX9_on 10 = .ok (.ifCond .eq 27, 3) := by decide +kernel
theorem dX9_on_13 : decode cX9_on 13 = .ok (.iload_n 2, 1) := by decide +kernel
theorem dX9_on_14 : decode cX9_on 14 = .ok (.iconst 0, 1) := by decide +kernel
theorem dX9_on_15 : decode cX9_on 15 = .ok (.bipush 13, 2) := by decide +kernel
theorem dX9_on_17 : decode cX9_on 17 = .ok (.invokestatic 128, 3) := by decide +kernel
theorem dX9_on_20 : decode cX9_on 20 = .ok (.ifCond .eq 17, 3) := by decide +kernel
theorem dX9_on_23 : decode cX9_on 23 = .ok (.aload_n 0, 1) := by decide +kernel
theorem dX9_on_24 : decode cX9_on 24 = .ok (.getfield 65, 3) := by decide +kernel
theorem dX9_on_27 : decode cX9_on 27 = .ok (.bipush 14, 2) := by decide +kernel
theorem dX9_on_29 : decode cX9_on 29 = .ok (.iload_n 1, 1) := by decide +kernel
theorem dX9_on_30 : decode cX9_on 30 = .ok (.imul, 1) := by decide +kernel
theorem dX9_on_31 : decode cX9_on 31 = .ok (.iload_n 2, 1) := by decide +kernel
theorem dX9_on_32 : decode cX9_on 32 = .ok (.iadd, 1) := by decide +kernel
theorem dX9_on_33 : decode cX9_on 33 = .ok (.iaload, 1) := by decide +kernel
theorem dX9_on_34 : decode cX9_on 34 = .ok (.goto 4, 3) := by decide +kernel
theorem dX9_on_37 : decode cX9_on 37 = .ok (.iconst (-1), 1) := by decide +kernel
theorem dX9_on_38 : decode cX9_on 38 = .ok (.ireturn, 1) := by decide +kernel
theorem dX9_isLawful_0 : decode cX9_isLawful 0 = .ok (.iconst (-1), 1) := by decide +kernel
theorem dX9_isLawful_1 : decode cX9_isLawful 1 = .ok (.istore_n 2, 1) := by decide +kernel
theorem dX9_isLawful_2 : decode cX9_isLawful 2 = .ok (.iconst 0, 1) := by decide +kernel
theorem dX9_isLawful_3 : decode cX9_isLawful 3 = .ok (.istore_n 3, 1) := by decide +kernel
theorem dX9_isLawful_4 : decode cX9_isLawful 4 = .ok (.iconst 0, 1) := by decide +kernel
theorem dX9_isLawful_5 : decode cX9_isLawful 5 = .ok (.istore 4, 2) := by decide +kernel
theorem dX9_isLawful_7 : decode cX9_isLawful 7 = .ok (.iload 4, 2) := by decide +kernel
theorem dX9_isLawful_9 : decode cX9_isLawful 9 = .ok (.bipush 14, 2) := by decide +kernel
theorem dX9_isLawful_11 : decode cX9_isLawful 11 = .ok (.if_icmp .ge 106, 3) := by decide +kernel
theorem dX9_isLawful_14 : decode cX9_isLawful 14 = .ok (.aload_n 0, 1) := by decide +kernel
theorem dX9_isLawful_15 : decode cX9_isLawful 15 = .ok (.getfield 65, 3) := by decide +kernel
theorem dX9_isLawful_18 : decode cX9_isLawful 18 = .ok (.bipush 14, 2) := by decide +kernel
theorem dX9_isLawful_20 : decode cX9_isLawful 20 = .ok (.iload_n 1, 1) := by decide +kernel
theorem dX9_isLawful_21 : decode cX9_isLawful 21 = .ok (.imul, 1) := by decide +kernel
theorem dX9_isLawful_22 : decode cX9_isLawful 22 = .ok (.iload 4, 2) := by decide +kernel
theorem dX9_isLawful_24 : decode cX9_isLawful 24 = .ok (.iadd, 1) := by decide +kernel
theorem dX9_isLawful_25 : decode cX9_isLawful 25 = .ok (.iaload, 1) := by decide +kernel
theorem dX9_isLawful_26 : decode cX9_isLawful 26 = .ok (.istore 5, 2) := by decide +kernel
theorem dX9_isLawful_28 : decode cX9_isLawful 28 = .ok (.iload 5, 2) := by decide +kernel
theorem dX9_isLawful_30 : decode cX9_isLawful 30 = .ok (.ifCond .ge 7, 3) := by decide +kernel
theorem dX9_isLawful_33 : decode cX9_isLawful 33 = .ok (.iconst 0, 1) := by decide +kernel
theorem dX9_isLawful_34 : decode cX9_isLawful 34 = .ok (.goto 6, 3) := by decide +kernel
theorem dX9_isLawful_37 : decode cX9_isLawful 37 = .ok (.iload_n 3, 1) := by decide +kernel
theorem dX9_isLawful_38 : decode cX9_isLawful 38 = .ok (.iconst 1, 1) := by decide +kernel
theorem dX9_isLawful_39 : decode cX9_isLawful 39 = .ok (.iadd, 1) := by decide +kernel
theorem dX9_isLawful_40 : decode cX9_isLawful 40 = .ok (.istore_n 3, 1) := by decide +kernel
theorem dX9_isLawful_41 : decode cX9_isLawful 41 = .ok (.iload 5, 2) := by decide +kernel
theorem dX9_isLawful_43 : decode cX9_isLawful 43 = .ok (.ifCond .ge 6, 3) := by decide +kernel
theorem dX9_isLawful_46 : decode cX9_isLawful 46 = .ok (.goto 65, 3) := by decide +kernel
theorem dX9_isLawful_49 : decode cX9_isLawful 49 = .ok (.iload_n 3, 1) := by decide +kernel
theorem dX9_isLawful_50 : decode cX9_isLawful 50 = .ok (.aload_n 0, 1) := by decide +kernel
theorem dX9_isLawful_51 : decode cX9_isLawful 51 = .ok (.getfield 53, 3) := by decide +kernel
theorem dX9_isLawful_54 : decode cX9_isLawful 54 = .ok (.iload_n 1, 1) := by decide +kernel
theorem dX9_isLawful_55 : decode cX9_isLawful 55 = .ok (.iaload, 1) := by decide +kernel
theorem dX9_isLawful_56 : decode cX9_isLawful 56 = .ok (.if_icmp .gt 50, 3) := by decide +kernel
theorem dX9_isLawful_59 : decode cX9_isLawful 59 = .ok (.aload_n 0, 1) := by decide +kernel
theorem dX9_isLawful_60 : decode cX9_isLawful 60 = .ok (.iload_n 1, 1) := by decide +kernel
theorem dX9_isLawful_61 : decode cX9_isLawful 61 = .ok (.iload 5, 2) := by decide +kernel
theorem dX9_isLawful_63 : decode cX9_isLawful 63 = .ok (.iload 4, 2) := by decide +kernel
theorem dX9_isLawful_65 : decode cX9_isLawful 65 = .ok (.invokevirtual 171, 3) := by decide +kernel
theorem dX9_isLawful_68 : decode cX9_isLawful 68 = .ok (.ifCond .eq 38, 3) := by decide +kernel
theorem dX9_isLawful_71 : decode cX9_isLawful 71 = .ok (.iload_n 2, 1) := by decide +kernel
theorem dX9_isLawful_72 : decode cX9_isLawful 72 = .ok (.ifCond .lt 36, 3) := by decide +kernel
theorem dX9_isLawful_75 : decode cX9_isLawful 75 = .ok (.aload_n 0, 1) := by decide +kernel
theorem dX9_isLawful_76 : decode cX9_isLawful 76 = .ok (.aload_n 0, 1) := by decide +kernel
theorem dX9_isLawful_77 : decode cX9_isLawful 77 = .ok (.getfield 65, 3) := by decide +kernel
theorem dX9_isLawful_80 : decode cX9_isLawful 80 = .ok (.bipush 14, 2) := by decide +kernel
theorem dX9_isLawful_82 : decode cX9_isLawful 82 = .ok (.iload_n 1, 1) := by decide +kernel
theorem dX9_isLawful_83 : decode cX9_isLawful 83 = .ok (.imul, 1) := by decide +kernel
theorem dX9_isLawful_84 : decode cX9_isLawful 84 = .ok (.iload_n 2, 1) := by decide +kernel
theorem dX9_isLawful_85 : decode cX9_isLawful 85 = .ok (.iadd, 1) := by decide +kernel
theorem dX9_isLawful_86 : decode cX9_isLawful 86 = .ok (.iaload, 1) := by decide +kernel
theorem dX9_isLawful_87 : decode cX9_isLawful 87 = .ok (.iload 5, 2) := by decide +kernel
theorem dX9_isLawful_89 : decode cX9_isLawful 89 = .ok (.invokevirtual 168, 3) := by decide +kernel
theorem dX9_isLawful_92 : decode cX9_isLawful 92 = .ok (.aload_n 0, 1) := by decide +kernel
theorem dX9_isLawful_93 : decode cX9_isLawful 93 = .ok (.getfield 50, 3) := by decide +kernel
theorem dX9_isLawful_96 : decode cX9_isLawful 96 = .ok (.iload_n 1, 1) := by decide +kernel
theorem dX9_isLawful_97 : decode cX9_isLawful 97 = .ok (.iaload, 1) := by decide +kernel
theorem dX9_isLawful_98 : decode cX9_isLawful 98 = .ok (.iload 4, 2) := by decide +kernel
theorem dX9_isLawful_100 : decode cX9_isLawful 100 = .ok (.iload_n 2, 1) := by decide +kernel
theorem dX9_isLawful_101 : decode cX9_isLawful 101 = .ok (.isub, 1) := by decide +kernel
theorem dX9_isLawful_102 : decode cX9_isLawful 102 = .ok (.imul, 1) := by decide +kernel
theorem dX9_isLawful_103 : decode cX9_isLawful 103 = .ok (.if_icmp .le 5, 3) := by decide +kernel
theorem dX9_isLawful_106 : decode cX9_isLawful 106 = .ok (.iconst 0, 1) := by decide +kernel
theorem dX9_isLawful_107 : decode cX9_isLawful 107 = .ok (.ireturn, 1) := by decide +kernel
theorem dX9_isLawful_108 : decode cX9_isLawful 108 = .ok (.iload 4, 2) := by decide +kernel
theorem dX9_isLawful_110 : decode cX9_isLawful 110 = .ok (.istore_n 2, 1) := by decide +kernel
theorem dX9_isLawful_111 : decode cX9_isLawful 111 = .ok (.iinc 4 1, 3) := by decide +kernel
theorem dX9_isLawful_114 : decode cX9_isLawful 114 = .ok (.goto (-107), 3) := by decide +kernel
theorem dX9_isLawful_117 : decode cX9_isLawful 117 = .ok (.iconst 1, 1) := by decide +kernel
theorem dX9_isLawful_118 : decode cX9_isLawful 118 = .ok (.ireturn, 1) := by decide +kernel
theorem dX9_worth_0 : decode cX9_worth 0 = .ok (.aload_n 0, 1) := by decide +kernel
theorem dX9_worth_1 : decode cX9_worth 1 = .ok (.iconst 0, 1) := by decide +kernel
theorem dX9_worth_2 : decode cX9_worth 2 = .ok (.putfield 102, 3) := by decide +kernel
theorem dX9_worth_5 : decode cX9_worth 5 = .ok (.aload_n 0, 1) := by decide +kernel
theorem dX9_worth_6 : decode cX9_worth 6 = .ok (.iload_n 1, 1) := by decide +kernel
theorem dX9_worth_7 : decode cX9_worth 7 = .ok (.invokevirtual 144, 3) := by decide +kernel
theorem dX9_worth_10 : decode cX9_worth 10 = .ok (.ifCond .ne 5, 3) := by decide +kernel
theorem dX9_worth_13 : decode cX9_worth 13 = .ok (.iconst (-1), 1) := by decide +kernel
theorem dX9_worth_14 : decode cX9_worth 14 = .ok (.ireturn, 1) := by decide +kernel
theorem dX9_worth_15 : decode cX9_worth 15 = .ok (.iconst 0, 1) := by decide +kernel
theorem dX9_worth_16 : decode cX9_worth 16 = .ok (.istore_n 2, 1) := by decide +kernel
theorem dX9_worth_17 : decode cX9_worth 17 = .ok (.iconst 0, 1) := by decide +kernel
theorem dX9_worth_18 : decode cX9_worth 18 = .ok (.istore_n 3, 1) := by decide +kernel
theorem dX9_worth_19 : decode cX9_worth 19 = .ok (.iload_n 3, 1) := by decide +kernel
theorem dX9_worth_20 : decode cX9_worth 20 = .ok (.bipush 14, 2) := by decide +kernel
theorem dX9_worth_22 : decode cX9_worth 22 = .ok (.if_icmp .ge 51, 3) := by decide +kernel
theorem dX9_worth_25 : decode cX9_worth 25 = .ok (.iload_n 2, 1) := by decide +kernel
theorem dX9_worth_26 : decode cX9_worth 26 = .ok (.aload_n 0, 1) := by decide +kernel
theorem dX9_worth_27 : decode cX9_worth 27 = .ok (.getfield 65, 3) := by decide +kernel
theorem dX9_worth_30 : decode cX9_worth 30 = .ok (.bipush 14, 2) := by decide +kernel
theorem dX9_worth_32 : decode cX9_worth 32 = .ok (.iload_n 1, 1) := by decide +kernel
theorem dX9_worth_33 : decode cX9_worth 33 = .ok (.imul, 1) := by decide +kernel
theorem dX9_worth_34 : decode cX9_worth 34 = .ok (.iload_n 3, 1) := by decide +kernel
theorem dX9_worth_35 : decode cX9_worth 35 = .ok (.iadd, 1) := by decide +kernel
theorem dX9_worth_36 : decode cX9_worth 36 = .ok (.iaload, 1) := by decide +kernel
theorem dX9_worth_37 : decode cX9_worth 37 = .ok (.ifCond .ge 7, 3) := by decide +kernel
theorem dX9_worth_40 : decode cX9_worth 40 = .ok (.iconst 0, 1) := by decide +kernel
theorem dX9_worth_41 : decode cX9_worth 41 = .ok (.goto 24, 3) := by decide +kernel
theorem dX9_worth_44 : decode cX9_worth 44 = .ok (.aload_n 0, 1) := by decide +kernel
theorem dX9_worth_45 : decode cX9_worth 45 = .ok (.getfield 56, 3) := by decide +kernel
theorem dX9_worth_48 : decode cX9_worth 48 = .ok (.bipush 6, 2) := by decide +kernel
theorem dX9_worth_50 : decode cX9_worth 50 = .ok (.aload_n 0, 1) := by decide +kernel
theorem dX9_worth_51 : decode cX9_worth 51 = .ok (.getfield 65, 3) := by decide +kernel
theorem dX9_worth_54 : decode cX9_worth 54 = .ok (.bipush 14, 2) := by decide +kernel
theorem dX9_worth_56 : decode cX9_worth 56 = .ok (.iload_n 1, 1) := by decide +kernel
theorem dX9_worth_57 : decode cX9_worth 57 = .ok (.imul, 1) := by decide +kernel
theorem dX9_worth_58 : decode cX9_worth 58 = .ok (.iload_n 3, 1) := by decide +kernel
theorem dX9_worth_59 : decode cX9_worth 59 = .ok (.iadd, 1) := by decide +kernel
theorem dX9_worth_60 : decode cX9_worth 60 = .ok (.iaload, 1) := by decide +kernel
theorem dX9_worth_61 : decode cX9_worth 61 = .ok (.imul, 1) := by decide +kernel
theorem dX9_worth_62 : decode cX9_worth 62 = .ok (.iload_n 1, 1) := by decide +kernel
theorem dX9_worth_63 : decode cX9_worth 63 = .ok (.iadd, 1) := by decide +kernel
theorem dX9_worth_64 : decode cX9_worth 64 = .ok (.iaload, 1) := by decide +kernel
theorem dX9_worth_65 : decode cX9_worth 65 = .ok (.iadd, 1) := by decide +kernel
theorem dX9_worth_66 : decode cX9_worth 66 = .ok (.istore_n 2, 1) := by decide +kernel
theorem dX9_worth_67 : decode cX9_worth 67 = .ok (.iinc 3 1, 3) := by decide +kernel
theorem dX9_worth_70 : decode cX9_worth 70 = .ok (.goto (-51), 3) := by decide +kernel
theorem dX9_worth_73 : decode cX9_worth 73 = .ok (.iload_n 2, 1) := by decide +kernel
theorem dX9_worth_74 : decode cX9_worth 74 = .ok (.ireturn, 1) := by decide +kernel
theorem dX9_next_0 : decode cX9_next 0 = .ok (.aload_n 0, 1) := by decide +kernel
theorem dX9_next_1 : decode cX9_next 1 = .ok (.invokevirtual 177, 3) := by decide +kernel
theorem dX9_next_4 : decode cX9_next 4 = .ok (.bipush 32, 2) := by decide +kernel
theorem dX9_next_6 : decode cX9_next 6 = .ok (.if_icmp .eq 12, 3) := by decide +kernel
theorem dX9_next_9 : decode cX9_next 9 = .ok (.aload_n 0, 1) := by decide +kernel
theorem dX9_next_10 : decode cX9_next 10 = .ok (.invokevirtual 177, 3) := by decide +kernel
theorem dX9_next_13 : decode cX9_next 13 = .ok (.bipush 10, 2) := by decide +kernel
theorem dX9_next_15 : decode cX9_next 15 = .ok (.if_icmp .ne 16, 3) := by decide +kernel
theorem dX9_next_18 : decode cX9_next 18 = .ok (.aload_n 0, 1) := by decide +kernel
theorem dX9_next_19 : decode cX9_next 19 = .ok (.dup, 1) := by decide +kernel
theorem dX9_next_20 : decode cX9_next 20 = .ok (.getfield 116, 3) := by decide +kernel
theorem dX9_next_23 : decode cX9_next 23 = .ok (.iconst 1, 1) := by decide +kernel
theorem dX9_next_24 : decode cX9_next 24 = .ok (.iadd, 1) := by decide +kernel
theorem dX9_next_25 : decode cX9_next 25 = .ok (.putfield 116, 3) := by decide +kernel
theorem dX9_next_28 : decode cX9_next 28 = .ok (.goto (-28), 3) := by decide +kernel
theorem dX9_next_31 : decode cX9_next 31 = .ok (.aload_n 0, 1) := by decide +kernel
theorem dX9_next_32 : decode cX9_next 32 = .ok (.aload_n 0, 1) := by decide +kernel
theorem dX9_next_33 : decode cX9_next 33 = .ok (.getfield 116, 3) := by decide +kernel
theorem dX9_next_36 : decode cX9_next 36 = .ok (.putfield 181, 3) := by decide +kernel
theorem dX9_next_39 : decode cX9_next 39 = .ok (.aload_n 0, 1) := by decide +kernel
theorem dX9_next_40 : decode cX9_next 40 = .ok (.invokevirtual 177, 3) := by decide +kernel
theorem dX9_next_43 : decode cX9_next 43 = .ok (.istore_n 1, 1) := by decide +kernel
theorem dX9_next_44 : decode cX9_next 44 = .ok (.iload_n 1, 1) := by decide +kernel
theorem dX9_next_45 : decode cX9_next 45 = .ok (.ifCond .ge 9, 3) := by decide +kernel
theorem dX9_next_48 : decode cX9_next 48 = .ok (.aload_n 0, 1) := by decide +kernel
theorem dX9_next_49 : decode cX9_next 49 = .ok (.iconst 0, 1) := by decide +kernel
theorem dX9_next_50 : decode cX9_next 50 = .ok (.putfield 184, 3) := by decide +kernel
theorem dX9_next_53 : decode cX9_next 53 = .ok (.return_, 1) := by decide +kernel
theorem dX9_next_54 : decode cX9_next 54 = .ok (.iload_n 1, 1) := by decide +kernel
theorem dX9_next_55 : decode cX9_next 55 = .ok (.invokestatic 187, 3) := by decide +kernel
theorem dX9_next_58 : decode cX9_next 58 = .ok (.ifCond .ne 36, 3) := by decide +kernel
theorem dX9_next_61 : decode cX9_next 61 = .ok (.iload_n 1, 1) := by decide +kernel
theorem dX9_next_62 : decode cX9_next 62 = .ok (.invokestatic 190, 3) := by decide +kernel
theorem dX9_next_65 : decode cX9_next 65 = .ok (.ifCond .ne 29, 3) := by decide +kernel
theorem dX9_next_68 : decode cX9_next 68 = .ok (.aload_n 0, 1) := by decide +kernel
theorem dX9_next_69 : decode cX9_next 69 = .ok (.iload_n 1, 1) := by decide +kernel
theorem dX9_next_70 : decode cX9_next 70 = .ok (.bipush 59, 2) := by decide +kernel
theorem dX9_next_72 : decode cX9_next 72 = .ok (.if_icmp .ne 7, 3) := by decide +kernel
theorem dX9_next_75 : decode cX9_next 75 = .ok (.iconst 3, 1) := by decide +kernel
theorem dX9_next_76 : decode cX9_next 76 = .ok (.goto 4, 3) := by decide +kernel
theorem dX9_next_79 : decode cX9_next 79 = .ok (.iconst 4, 1) := by decide +kernel
theorem dX9_next_80 : decode cX9_next 80 = .ok (.putfield 184, 3) := by decide +kernel
theorem dX9_next_83 : decode cX9_next 83 = .ok (.aload_n 0, 1) := by decide +kernel
theorem dX9_next_84 : decode cX9_next 84 = .ok (.dup, 1) := by decide +kernel
theorem dX9_next_85 : decode cX9_next 85 = .ok (.getfield 116, 3) := by decide +kernel
theorem dX9_next_88 : decode cX9_next 88 = .ok (.iconst 1, 1) := by decide +kernel
theorem dX9_next_89 : decode cX9_next 89 = .ok (.iadd, 1) := by decide +kernel
theorem dX9_next_90 : decode cX9_next 90 = .ok (.putfield 116, 3) := by decide +kernel
theorem dX9_next_93 : decode cX9_next 93 = .ok (.return_, 1) := by decide +kernel
theorem dX9_next_94 : decode cX9_next 94 = .ok (.iload_n 1, 1) := by decide +kernel
theorem dX9_next_95 : decode cX9_next 95 = .ok (.invokestatic 187, 3) := by decide +kernel
theorem dX9_next_98 : decode cX9_next 98 = .ok (.istore_n 2, 1) := by decide +kernel
theorem dX9_next_99 : decode cX9_next 99 = .ok (.iconst 1, 1) := by decide +kernel
theorem dX9_next_100 : decode cX9_next 100 = .ok (.istore_n 3, 1) := by decide +kernel
theorem dX9_next_101 : decode cX9_next 101 = .ok (.iconst 0, 1) := by decide +kernel
theorem dX9_next_102 : decode cX9_next 102 = .ok (.istore 4, 2) := by decide +kernel
theorem dX9_next_104 : decode cX9_next 104 = .ok (.aload_n 0, 1) := by decide +kernel
theorem dX9_next_105 : decode cX9_next 105 = .ok (.lconst 0, 1) := by decide +kernel
theorem dX9_next_106 : decode cX9_next 106 = .ok (.putfield 193, 3) := by decide +kernel
theorem dX9_next_109 : decode cX9_next 109 = .ok (.aload_n 0, 1) := by decide +kernel
theorem dX9_next_110 : decode cX9_next 110 = .ok (.iconst 0, 1) := by decide +kernel
theorem dX9_next_111 : decode cX9_next 111 = .ok (.putfield 197, 3) := by decide +kernel
theorem dX9_next_114 : decode cX9_next 114 = .ok (.aload_n 0, 1) := by decide +kernel
theorem dX9_next_115 : decode cX9_next 115 = .ok (.invokevirtual 177, 3) := by decide +kernel
theorem dX9_next_118 : decode cX9_next 118 = .ok (.invokestatic 187, 3) := by decide +kernel
theorem dX9_next_121 : decode cX9_next 121 = .ok (.ifCond .ne 13, 3) := by decide +kernel
theorem dX9_next_124 : decode cX9_next 124 = .ok (.aload_n 0, 1) := by decide +kernel
theorem dX9_next_125 : decode cX9_next 125 = .ok (.invokevirtual 177, 3) := by decide +kernel
theorem dX9_next_128 : decode cX9_next 128 = .ok (.invokestatic 190, 3) := by decide +kernel
theorem dX9_next_131 : decode cX9_next 131 = .ok (.ifCond .eq 89, 3) := by decide +kernel
theorem dX9_next_134 : decode cX9_next 134 = .ok (.iload_n 3, 1) := by decide +kernel
theorem dX9_next_135 : decode cX9_next 135 = .ok (.ifCond .eq 18, 3) := by decide +kernel
theorem dX9_next_138 : decode cX9_next 138 = .ok (.aload_n 0, 1) := by decide +kernel
theorem dX9_next_139 : decode cX9_next 139 = .ok (.invokevirtual 177, 3) := by decide +kernel
theorem dX9_next_142 : decode cX9_next 142 = .ok (.invokestatic 187, 3) := by decide +kernel
theorem dX9_next_145 : decode cX9_next 145 = .ok (.iload_n 2, 1) := by decide +kernel
theorem dX9_next_146 : decode cX9_next 146 = .ok (.if_icmp .ne 7, 3) := by decide +kernel
theorem dX9_next_149 : decode cX9_next 149 = .ok (.iconst 1, 1) := by decide +kernel
theorem dX9_next_150 : decode cX9_next 150 = .ok (.goto 4, 3) := by decide +kernel
theorem dX9_next_153 : decode cX9_next 153 = .ok (.iconst 0, 1) := by decide +kernel
theorem dX9_next_154 : decode cX9_next 154 = .ok (.istore_n 3, 1) := by decide +kernel
theorem dX9_next_155 : decode cX9_next 155 = .ok (.iload 4, 2) := by decide +kernel
theorem dX9_next_157 : decode cX9_next 157 = .ok (.bipush 8, 2) := by decide +kernel
theorem dX9_next_159 : decode cX9_next 159 = .ok (.if_icmp .ge 20, 3) := by decide +kernel
theorem dX9_next_162 : decode cX9_next 162 = .ok (.aload_n 0, 1) := by decide +kernel
theorem dX9_next_163 : decode cX9_next 163 = .ok (.aload_n 0, 1) := by decide +kernel
theorem dX9_next_164 : decode cX9_next 164 = .ok (.getfield 193, 3) := by decide +kernel
theorem dX9_next_167 : decode cX9_next 167 = .ok (.bipush 8, 2) := by decide +kernel
theorem dX9_next_169 : decode cX9_next 169 = .ok (.lshl, 1) := by decide +kernel
theorem dX9_next_170 : decode cX9_next 170 = .ok (.aload_n 0, 1) := by decide +kernel
theorem dX9_next_171 : decode cX9_next 171 = .ok (.invokevirtual 177, 3) := by decide +kernel
theorem dX9_next_174 : decode cX9_next 174 = .ok (.i2l, 1) := by decide +kernel
theorem dX9_next_175 : decode cX9_next 175 = .ok (.lor, 1) := by decide +kernel
theorem dX9_next_176 : decode cX9_next 176 = .ok (.putfield 193, 3) := by decide +kernel
theorem dX9_next_179 : decode cX9_next 179 = .ok (.iload 4, 2) := by decide +kernel
theorem dX9_next_181 : decode cX9_next 181 = .ok (.iconst 5, 1) := by decide +kernel
theorem dX9_next_182 : decode cX9_next 182 = .ok (.if_icmp .ge 22, 3) := by decide +kernel
theorem dX9_next_185 : decode cX9_next 185 = .ok (.aload_n 0, 1) := by decide +kernel
theorem dX9_next_186 : decode cX9_next 186 = .ok (.bipush 10, 2) := by decide +kernel
theorem dX9_next_188 : decode cX9_next 188 = .ok (.aload_n 0, 1) := by decide +kernel
theorem dX9_next_189 : decode cX9_next 189 = .ok (.getfield 197, 3) := by decide +kernel
theorem dX9_next_192 : decode cX9_next 192 = .ok (.imul, 1) := by decide +kernel
theorem dX9_next_193 : decode cX9_next 193 = .ok (.aload_n 0, 1) := by decide +kernel
theorem dX9_next_194 : decode cX9_next 194 = .ok (.invokevirtual 177, 3) := by decide +kernel
theorem dX9_next_197 : decode cX9_next 197 = .ok (.iadd, 1) := by decide +kernel
theorem dX9_next_198 : decode cX9_next 198 = .ok (.bipush 48, 2) := by decide +kernel
theorem dX9_next_200 : decode cX9_next 200 = .ok (.isub, 1) := by decide +kernel
theorem dX9_next_201 : decode cX9_next 201 = .ok (.putfield 197, 3) := by decide +kernel
theorem dX9_next_204 : decode cX9_next 204 = .ok (.iinc 4 1, 3) := by decide +kernel
theorem dX9_next_207 : decode cX9_next 207 = .ok (.aload_n 0, 1) := by decide +kernel
theorem dX9_next_208 : decode cX9_next 208 = .ok (.dup, 1) := by decide +kernel
theorem dX9_next_209 : decode cX9_next 209 = .ok (.getfield 116, 3) := by decide +kernel
theorem dX9_next_212 : decode cX9_next 212 = .ok (.iconst 1, 1) := by decide +kernel
theorem dX9_next_213 : decode cX9_next 213 = .ok (.iadd, 1) := by decide +kernel
theorem dX9_next_214 : decode cX9_next 214 = .ok (.putfield 116, 3) := by decide +kernel
theorem dX9_next_217 : decode cX9_next 217 = .ok (.goto (-103), 3) := by decide +kernel
theorem dX9_next_220 : decode cX9_next 220 = .ok (.iload 4, 2) := by decide +kernel
theorem dX9_next_222 : decode cX9_next 222 = .ok (.bipush 8, 2) := by decide +kernel
theorem dX9_next_224 : decode cX9_next 224 = .ok (.if_icmp .le 8, 3) := by decide +kernel
theorem dX9_next_227 : decode cX9_next 227 = .ok (.aload_n 0, 1) := by decide +kernel
theorem dX9_next_228 : decode cX9_next 228 = .ok (.lconst 0, 1) := by decide +kernel
theorem dX9_next_229 : decode cX9_next 229 = .ok (.putfield 193, 3) := by decide +kernel
theorem dX9_next_232 : decode cX9_next 232 = .ok (.aload_n 0, 1) := by decide +kernel
theorem dX9_next_233 : decode cX9_next 233 = .ok (.iload_n 3, 1) := by decide +kernel
theorem dX9_next_234 : decode cX9_next 234 = .ok (.ifCond .eq 13, 3) := by decide +kernel
theorem dX9_next_237 : decode cX9_next 237 = .ok (.iload_n 2, 1) := by decide +kernel
theorem dX9_next_238 : decode cX9_next 238 = .ok (.ifCond .ne 13, 3) := by decide +kernel
theorem dX9_next_241 : decode cX9_next 241 = .ok (.iload 4, 2) := by decide +kernel
theorem dX9_next_243 : decode cX9_next 243 = .ok (.iconst 5, 1) := by decide +kernel
theorem dX9_next_244 : decode cX9_next 244 = .ok (.if_icmp .le 7, 3) := by decide +kernel
theorem dX9_next_247 : decode cX9_next 247 = .ok (.iconst 4, 1) := by decide +kernel
theorem dX9_next_248 : decode cX9_next 248 = .ok (.goto 12, 3) := by decide +kernel
theorem dX9_next_251 : decode cX9_next 251 = .ok (.iload_n 2, 1) := by decide +kernel
theorem dX9_next_252 : decode cX9_next 252 = .ok (.ifCond .eq 7, 3) := by decide +kernel
theorem dX9_next_255 : decode cX9_next 255 = .ok (.iconst 1, 1) := by decide +kernel
theorem dX9_next_256 : decode cX9_next 256 = .ok (.goto 4, 3) := by decide +kernel
theorem dX9_next_259 : decode cX9_next 259 = .ok (.iconst 2, 1) := by decide +kernel
theorem dX9_next_260 : decode cX9_next 260 = .ok (.putfield 184, 3) := by decide +kernel
theorem dX9_next_263 : decode cX9_next 263 = .ok (.return_, 1) := by decide +kernel
theorem dX9_cant_0 : decode cX9_cant 0 = .ok (.aload_n 0, 1) := by decide +kernel
theorem dX9_cant_1 : decode cX9_cant 1 = .ok (.aload_n 0, 1) := by decide +kernel
theorem dX9_cant_2 : decode cX9_cant 2 = .ok (.getfield 184, 3) := by decide +kernel
theorem dX9_cant_5 : decode cX9_cant 5 = .ok (.iconst 4, 1) := by decide +kernel
theorem dX9_cant_6 : decode cX9_cant 6 = .ok (.if_icmp .ne 7, 3) := by decide +kernel
theorem dX9_cant_9 : decode cX9_cant 9 = .ok (.iconst 1, 1) := by decide +kernel
theorem dX9_cant_10 : decode cX9_cant 10 = .ok (.goto 4, 3) := by decide +kernel
theorem dX9_cant_13 : decode cX9_cant 13 = .ok (.iconst 2, 1) := by decide +kernel
theorem dX9_cant_14 : decode cX9_cant 14 = .ok (.aload_n 0, 1) := by decide +kernel
theorem dX9_cant_15 : decode cX9_cant 15 = .ok (.getfield 181, 3) := by decide +kernel
theorem dX9_cant_18 : decode cX9_cant 18 = .ok (.invokevirtual 206, 3) := by decide +kernel
theorem dX9_cant_21 : decode cX9_cant 21 = .ok (.ireturn, 1) := by decide +kernel
theorem dX9_door_0 : decode cX9_door 0 = .ok (.aload_n 0, 1) := by decide +kernel
theorem dX9_door_1 : decode cX9_door 1 = .ok (.iconst 0, 1) := by decide +kernel
theorem dX9_door_2 : decode cX9_door 2 = .ok (.putfield 102, 3) := by decide +kernel
theorem dX9_door_5 : decode cX9_door 5 = .ok (.aload_n 0, 1) := by decide +kernel
theorem dX9_door_6 : decode cX9_door 6 = .ok (.iload_n 1, 1) := by decide +kernel
theorem dX9_door_7 : decode cX9_door 7 = .ok (.invokevirtual 144, 3) := by decide +kernel
theorem dX9_door_10 : decode cX9_door 10 = .ok (.ifCond .eq 37, 3) := by decide +kernel
theorem dX9_door_13 : decode cX9_door 13 = .ok (.iload_n 2, 1) := by decide +kernel
theorem dX9_door_14 : decode cX9_door 14 = .ok (.iconst 0, 1) := by decide +kernel
theorem dX9_door_15 : decode cX9_door 15 = .ok (.bipush 13, 2) := by decide +kernel
theorem dX9_door_17 : decode cX9_door 17 = .ok (.invokestatic 128, 3) := by decide +kernel
theorem dX9_door_20 : decode cX9_door 20 = .ok (.ifCond .eq 27, 3) := by decide +kernel
theorem dX9_door_23 : decode cX9_door 23 = .ok (.aload_n 0, 1) := by decide +kernel
theorem dX9_door_24 : decode cX9_door 24 = .ok (.getfield 65, 3) := by decide +kernel
theorem dX9_door_27 : decode cX9_door 27 = .ok (.bipush 14, 2) := by decide +kernel
theorem dX9_door_29 : decode cX9_door 29 = .ok (.iload_n 1, 1) := by decide +kernel
theorem dX9_door_30 : decode cX9_door 30 = .ok (.imul, 1) := by decide +kernel
theorem dX9_door_31 : decode cX9_door 31 = .ok (.iload_n 2, 1) := by decide +kernel
theorem dX9_door_32 : decode cX9_door 32 = .ok (.iadd, 1) := by decide +kernel
theorem dX9_door_33 : decode cX9_door 33 = .ok (.iaload, 1) := by decide +kernel
theorem dX9_door_34 : decode cX9_door 34 = .ok (.ifCond .lt 13, 3) := by decide +kernel
theorem dX9_door_37 : decode cX9_door 37 = .ok (.iload_n 3, 1) := by decide +kernel
theorem dX9_door_38 : decode cX9_door 38 = .ok (.ifCond .lt 9, 3) := by decide +kernel
theorem dX9_door_41 : decode cX9_door 41 = .ok (.iload_n 3, 1) := by decide +kernel
theorem dX9_door_42 : decode cX9_door 42 = .ok (.ldc 249, 2) := by decide +kernel
theorem dX9_door_44 : decode cX9_door 44 = .ok (.if_icmp .le 5, 3) := by decide +kernel
theorem dX9_door_47 : decode cX9_door 47 = .ok (.iconst 0, 1) := by decide +kernel
theorem dX9_door_48 : decode cX9_door 48 = .ok (.ireturn, 1) := by decide +kernel
theorem dX9_door_49 : decode cX9_door 49 = .ok (.aload_n 0, 1) := by decide +kernel
theorem dX9_door_50 : decode cX9_door 50 = .ok (.getfield 68, 3) := by decide +kernel
theorem dX9_door_53 : decode cX9_door 53 = .ok (.bipush 14, 2) := by decide +kernel
theorem dX9_door_55 : decode cX9_door 55 = .ok (.iload_n 1, 1) := by decide +kernel
theorem dX9_door_56 : decode cX9_door 56 = .ok (.imul, 1) := by decide +kernel
theorem dX9_door_57 : decode cX9_door 57 = .ok (.iload_n 2, 1) := by decide +kernel
theorem dX9_door_58 : decode cX9_door 58 = .ok (.iadd, 1) := by decide +kernel
theorem dX9_door_59 : decode cX9_door 59 = .ok (.iload_n 3, 1) := by decide +kernel
theorem dX9_door_60 : decode cX9_door 60 = .ok (.iastore, 1) := by decide +kernel
theorem dX9_door_61 : decode cX9_door 61 = .ok (.iconst 1, 1) := by decide +kernel
theorem dX9_door_62 : decode cX9_door 62 = .ok (.ireturn, 1) := by decide +kernel
theorem dX9_shareOf_0 : decode cX9_shareOf 0 = .ok (.bipush 12, 2) := by decide +kernel
theorem dX9_shareOf_2 : decode cX9_shareOf 2 = .ok (.iload_n 1, 1) := by decide +kernel
theorem dX9_shareOf_3 : decode cX9_shareOf 3 = .ok (.imul, 1) := by decide +kernel
theorem dX9_shareOf_4 : decode cX9_shareOf 4 = .ok (.istore 4, 2) := by decide +kernel
theorem dX9_shareOf_6 : decode cX9_shareOf 6 = .ok (.aload_n 0, 1) := by decide +kernel
theorem dX9_shareOf_7 : decode cX9_shareOf 7 = .ok (.iload_n 1, 1) := by decide +kernel
theorem dX9_shareOf_8 : decode cX9_shareOf 8 = .ok (.iload_n 2, 1) := by decide +kernel
theorem dX9_shareOf_9 : decode cX9_shareOf 9 = .ok (.invokevirtual 250, 3) := by decide +kernel
theorem dX9_shareOf_12 : decode cX9_shareOf 12 = .ok (.istore 5, 2) := by decide +kernel
theorem dX9_shareOf_14 : decode cX9_shareOf 14 = .ok (.aload_n 0, 1) := by decide +kernel
theorem dX9_shareOf_15 : decode cX9_shareOf 15 = .ok (.getfield 99, 3) := by decide +kernel
theorem dX9_shareOf_18 : decode cX9_shareOf 18 = .ok (.iload 4, 2) := by decide +kernel
theorem dX9_shareOf_20 : decode cX9_shareOf 20 = .ok (.iconst 0, 1) := by decide +kernel
theorem dX9_shareOf_21 : decode cX9_shareOf 21 = .ok (.iadd, 1) := by decide +kernel
theorem dX9_shareOf_22 : decode cX9_shareOf 22 = .ok (.iaload, 1) := by decide +kernel
theorem dX9_shareOf_23 : decode cX9_shareOf 23 = .ok (.aload_n 0, 1) := by decide +kernel
theorem dX9_shareOf_24 : decode cX9_shareOf 24 = .ok (.getfield 99, 3) := by decide +kernel
theorem dX9_shareOf_27 : decode cX9_shareOf 27 = .ok (.iload 4, 2) := by decide +kernel
theorem dX9_shareOf_29 : decode cX9_shareOf 29 = .ok (.bipush 8, 2) := by decide +kernel
theorem dX9_shareOf_31 : decode cX9_shareOf 31 = .ok (.iadd, 1) := by decide +kernel
theorem dX9_shareOf_32 : decode cX9_shareOf 32 = .ok (.iaload, 1) := by decide +kernel
theorem dX9_shareOf_33 : decode cX9_shareOf 33 = .ok (.imul, 1) := by decide +kernel
theorem dX9_shareOf_34 : decode cX9_shareOf 34 = .ok (.bipush 100, 2) := by decide +kernel
theorem dX9_shareOf_36 : decode cX9_shareOf 36 = .ok (.idiv, 1) := by decide +kernel
theorem dX9_shareOf_37 : decode cX9_shareOf 37 = .ok (.istore 6, 2) := by decide +kernel
theorem dX9_shareOf_39 : decode cX9_shareOf 39 = .ok (.iload 6, 2) := by decide +kernel
theorem dX9_shareOf_41 : decode cX9_shareOf 41 = .ok (.aload_n 0, 1) := by decide +kernel
theorem dX9_shareOf_42 : decode cX9_shareOf 42 = .ok (.getfield 99, 3) := by decide +kernel
theorem dX9_shareOf_45 : decode cX9_shareOf 45 = .ok (.iload 4, 2) := by decide +kernel
theorem dX9_shareOf_47 : decode cX9_shareOf 47 = .ok (.bipush 9, 2) := by decide +kernel
theorem dX9_shareOf_49 : decode cX9_shareOf 49 = .ok (.iadd, 1) := by decide +kernel
theorem dX9_shareOf_50 : decode cX9_shareOf 50 = .ok (.iaload, 1) := by decide +kernel
theorem dX9_shareOf_51 : decode cX9_shareOf 51 = .ok (.if_icmp .ge 8, 3) := by decide +kernel
theorem dX9_shareOf_54 : decode cX9_shareOf 54 = .ok (.iload 6, 2) := by decide +kernel
theorem dX9_shareOf_56 : decode cX9_shareOf 56 = .ok (.goto 13, 3) := by decide +kernel
theorem dX9_shareOf_59 : decode cX9_shareOf 59 = .ok (.aload_n 0, 1) := by decide +kernel
theorem dX9_shareOf_60 : decode cX9_shareOf 60 = .ok (.getfield 99, 3) := by decide +kernel
theorem dX9_shareOf_63 : decode cX9_shareOf 63 = .ok (.iload 4, 2) := by decide +kernel
theorem dX9_shareOf_65 : decode cX9_shareOf 65 = .ok (.bipush 9, 2) := by decide +kernel
theorem dX9_shareOf_67 : decode cX9_shareOf 67 = .ok (.iadd, 1) := by decide +kernel
theorem dX9_shareOf_68 : decode cX9_shareOf 68 = .ok (.iaload, 1) := by decide +kernel
theorem dX9_shareOf_69 : decode cX9_shareOf 69 = .ok (.istore 6, 2) := by decide +kernel
theorem dX9_shareOf_71 : decode cX9_shareOf 71 = .ok (.iload_n 2, 1) := by decide +kernel
theorem dX9_shareOf_72 : decode cX9_shareOf 72 = .ok (.iload 6, 2) := by decide +kernel
theorem dX9_shareOf_74 : decode cX9_shareOf 74 = .ok (.iadd, 1) := by decide +kernel
theorem dX9_shareOf_75 : decode cX9_shareOf 75 = .ok (.iload 5, 2) := by decide +kernel
theorem dX9_shareOf_77 : decode cX9_shareOf 77 = .ok (.isub, 1) := by decide +kernel
theorem dX9_shareOf_78 : decode cX9_shareOf 78 = .ok (.istore 7, 2) := by decide +kernel
theorem dX9_shareOf_80 : decode cX9_shareOf 80 = .ok (.iload 7, 2) := by decide +kernel
theorem dX9_shareOf_82 : decode cX9_shareOf 82 = .ok (.ifCond .ge 26, 3) := by decide +kernel
theorem dX9_shareOf_85 : decode cX9_shareOf 85 = .ok (.aload_n 0, 1) := by decide +kernel
theorem dX9_shareOf_86 : decode cX9_shareOf 86 = .ok (.getfield 99, 3) := by decide +kernel
theorem dX9_shareOf_89 : decode cX9_shareOf 89 = .ok (.iload 4, 2) := by decide +kernel
theorem dX9_shareOf_91 : decode cX9_shareOf 91 = .ok (.bipush 10, 2) := by decide +kernel
theorem dX9_shareOf_93 : decode cX9_shareOf 93 = .ok (.iadd, 1) := by decide +kernel
theorem dX9_shareOf_94 : decode cX9_shareOf 94 = .ok (.iaload, 1) := by decide +kernel
theorem dX9_shareOf_95 : decode cX9_shareOf 95 = .ok (.iconst 1, 1) := by decide +kernel
theorem dX9_shareOf_96 : decode cX9_shareOf 96 = .ok (.if_icmp .ne 12, 3) := by decide +kernel
theorem dX9_shareOf_99 : decode cX9_shareOf 99 = .ok (.iconst 1, 1) := by decide +kernel
theorem dX9_shareOf_100 : decode cX9_shareOf 100 = .ok (.iload 7, 2) := by decide +kernel
theorem dX9_shareOf_102 : decode cX9_shareOf 102 = .ok (.isub, 1) := by decide +kernel
theorem dX9_shareOf_103 : decode cX9_shareOf 103 = .ok (.iconst 2, 1) := by decide +kernel
theorem dX9_shareOf_104 : decode cX9_shareOf 104 = .ok (.idiv, 1) := by decide +kernel
theorem dX9_shareOf_105 : decode cX9_shareOf 105 = .ok (.goto 4, 3) := by decide +kernel
theorem dX9_shareOf_108 : decode cX9_shareOf 108 = .ok (.iconst 0, 1) := by decide +kernel
theorem dX9_shareOf_109 : decode cX9_shareOf 109 = .ok (.istore 8, 2) := by decide +kernel
theorem dX9_shareOf_111 : decode cX9_shareOf 111 = .ok (.iload_n 3, 1) := by decide +kernel
theorem dX9_shareOf_112 : decode cX9_shareOf 112 = .ok (.ifCond .ne 7, 3) := by decide +kernel
theorem dX9_shareOf_115 : decode cX9_shareOf 115 = .ok (.iload_n 2, 1) := by decide +kernel
theorem dX9_shareOf_116 : decode cX9_shareOf 116 = .ok (.goto 31, 3) := by decide +kernel
theorem dX9_shareOf_119 : decode cX9_shareOf 119 = .ok (.iload_n 3, 1) := by decide +kernel
theorem dX9_shareOf_120 : decode cX9_shareOf 120 = .ok (.iconst 1, 1) := by decide +kernel
theorem dX9_shareOf_121 : decode cX9_shareOf 121 = .ok (.if_icmp .ne 8, 3) := by decide +kernel
theorem dX9_shareOf_124 : decode cX9_shareOf 124 = .ok (.iload 5, 2) := by decide +kernel
theorem dX9_shareOf_126 : decode cX9_shareOf 126 = .ok (.goto 21, 3) := by decide +kernel
theorem dX9_shareOf_129 : decode cX9_shareOf 129 = .ok (.iload_n 3, 1) := by decide +kernel
theorem dX9_shareOf_130 : decode cX9_shareOf 130 = .ok (.iconst 2, 1) := by decide +kernel
theorem dX9_shareOf_131 : decode cX9_shareOf 131 = .ok (.if_icmp .ne 11, 3) := by decide +kernel
theorem dX9_shareOf_134 : decode cX9_shareOf 134 = .ok (.iload 7, 2) := by decide +kernel
theorem dX9_shareOf_136 : decode cX9_shareOf 136 = .ok (.iload 8, 2) := by decide +kernel
theorem dX9_shareOf_138 : decode cX9_shareOf 138 = .ok (.iadd, 1) := by decide +kernel
theorem dX9_shareOf_139 : decode cX9_shareOf 139 = .ok (.goto 8, 3) := by decide +kernel
theorem dX9_shareOf_142 : decode cX9_shareOf 142 = .ok (.iload 6, 2) := by decide +kernel
theorem dX9_shareOf_144 : decode cX9_shareOf 144 = .ok (.iload 8, 2) := by decide +kernel
theorem dX9_shareOf_146 : decode cX9_shareOf 146 = .ok (.iadd, 1) := by decide +kernel
theorem dX9_shareOf_147 : decode cX9_shareOf 147 = .ok (.ireturn, 1) := by decide +kernel
theorem dX9_fits_0 : decode cX9_fits 0 = .ok (.aload_n 0, 1) := by decide +kernel
theorem dX9_fits_1 : decode cX9_fits 1 = .ok (.iconst 0, 1) := by decide +kernel
theorem dX9_fits_2 : decode cX9_fits 2 = .ok (.putfield 102, 3) := by decide +kernel
theorem dX9_fits_5 : decode cX9_fits 5 = .ok (.aload_n 0, 1) := by decide +kernel
theorem dX9_fits_6 : decode cX9_fits 6 = .ok (.iload_n 1, 1) := by decide +kernel
theorem dX9_fits_7 : decode cX9_fits 7 = .ok (.invokevirtual 144, 3) := by decide +kernel
theorem dX9_fits_10 : decode cX9_fits 10 = .ok (.ifCond .eq 20, 3) := by decide +kernel
theorem dX9_fits_13 : decode cX9_fits 13 = .ok (.aload_n 0, 1) := by decide +kernel
theorem dX9_fits_14 : decode cX9_fits 14 = .ok (.iload_n 2, 1) := by decide +kernel
theorem dX9_fits_15 : decode cX9_fits 15 = .ok (.invokevirtual 140, 3) := by decide +kernel
theorem dX9_fits_18 : decode cX9_fits 18 = .ok (.ifCond .eq 12, 3) := by decide +kernel
theorem dX9_fits_21 : decode cX9_fits 21 = .ok (.aload_n 0, 1) := by decide +kernel
theorem dX9_fits_22 : decode cX9_fits 22 = .ok (.iload_n 1, 1) := by decide +kernel
theorem dX9_fits_23 : decode cX9_fits 23 = .ok (.iload_n 2, 1) := by decide +kernel
theorem dX9_fits_24 : decode cX9_fits 24 = .ok (.invokevirtual 147, 3) := by decide +kernel
theorem dX9_fits_27 : decode cX9_fits 27 = .ok (.goto 5, 3) := by decide +kernel
theorem dX9_fits_30 : decode cX9_fits 30 = .ok (.bipush (-3), 2) := by decide +kernel
theorem dX9_fits_32 : decode cX9_fits 32 = .ok (.ireturn, 1) := by decide +kernel
theorem dX9_book_0 : decode cX9_book 0 = .ok (.aload_n 0, 1) := by decide +kernel
theorem dX9_book_1 : decode cX9_book 1 = .ok (.iconst 0, 1) := by decide +kernel
theorem dX9_book_2 : decode cX9_book 2 = .ok (.putfield 102, 3) := by decide +kernel
theorem dX9_book_5 : decode cX9_book 5 = .ok (.aload_n 0, 1) := by decide +kernel
theorem dX9_book_6 : decode cX9_book 6 = .ok (.iload_n 1, 1) := by decide +kernel
theorem dX9_book_7 : decode cX9_book 7 = .ok (.invokevirtual 144, 3) := by decide +kernel
theorem dX9_book_10 : decode cX9_book 10 = .ok (.ifCond .ne 5, 3) := by decide +kernel
theorem dX9_book_13 : decode cX9_book 13 = .ok (.iconst (-1), 1) := by decide +kernel
theorem dX9_book_14 : decode cX9_book 14 = .ok (.ireturn, 1) := by decide +kernel
theorem dX9_book_15 : decode cX9_book 15 = .ok (.iconst 0, 1) := by decide +kernel
theorem dX9_book_16 : decode cX9_book 16 = .ok (.istore_n 2, 1) := by decide +kernel
theorem dX9_book_17 : decode cX9_book 17 = .ok (.iload_n 2, 1) := by decide +kernel
theorem dX9_book_18 : decode cX9_book 18 = .ok (.bipush 14, 2) := by decide +kernel
theorem dX9_book_20 : decode cX9_book 20 = .ok (.if_icmp .ge 33, 3) := by decide +kernel
theorem dX9_book_23 : decode cX9_book 23 = .ok (.aload_n 0, 1) := by decide +kernel
theorem dX9_book_24 : decode cX9_book 24 = .ok (.getfield 65, 3) := by decide +kernel
theorem dX9_book_27 : decode cX9_book 27 = .ok (.bipush 14, 2) := by decide +kernel
theorem dX9_book_29 : decode cX9_book 29 = .ok (.iload_n 1, 1) := by decide +kernel
theorem dX9_book_30 : decode cX9_book 30 = .ok (.imul, 1) := by decide +kernel
theorem dX9_book_31 : decode cX9_book 31 = .ok (.iload_n 2, 1) := by decide +kernel
theorem dX9_book_32 : decode cX9_book 32 = .ok (.iadd, 1) := by decide +kernel
theorem dX9_book_33 : decode cX9_book 33 = .ok (.iconst (-1), 1) := by decide +kernel
theorem dX9_book_34 : decode cX9_book 34 = .ok (.iastore, 1) := by decide +kernel
theorem dX9_book_35 : decode cX9_book 35 = .ok (.aload_n 0, 1) := by decide +kernel
theorem dX9_book_36 : decode cX9_book 36 = .ok (.getfield 68, 3) := by decide +kernel
theorem dX9_book_39 : decode cX9_book 39 = .ok (.bipush 14, 2) := by decide +kernel
theorem dX9_book_41 : decode cX9_book 41 = .ok (.iload_n 1, 1) := by decide +kernel
theorem dX9_book_42 : decode cX9_book 42 = .ok (.imul, 1) := by decide +kernel
theorem dX9_book_43 : decode cX9_book 43 = .ok (.iload_n 2, 1) := by decide +kernel
theorem dX9_book_44 : decode cX9_book 44 = .ok (.iadd, 1) := by decide +kernel
theorem dX9_book_45 : decode cX9_book 45 = .ok (.iconst (-1), 1) := by decide +kernel
theorem dX9_book_46 : decode cX9_book 46 = .ok (.iastore, 1) := by decide +kernel
theorem dX9_book_47 : decode cX9_book 47 = .ok (.iinc 2 1, 3) := by decide +kernel
theorem dX9_book_50 : decode cX9_book 50 = .ok (.goto (-33), 3) := by decide +kernel
theorem dX9_book_53 : decode cX9_book 53 = .ok (.iconst 0, 1) := by decide +kernel
theorem dX9_book_54 : decode cX9_book 54 = .ok (.istore_n 2, 1) := by decide +kernel
theorem dX9_book_55 : decode cX9_book 55 = .ok (.iconst 0, 1) := by decide +kernel
theorem dX9_book_56 : decode cX9_book 56 = .ok (.istore_n 3, 1) := by decide +kernel
theorem dX9_book_57 : decode cX9_book 57 = .ok (.iload_n 3, 1) := by decide +kernel
theorem dX9_book_58 : decode cX9_book 58 = .ok (.aload_n 0, 1) := by decide +kernel
theorem dX9_book_59 : decode cX9_book 59 = .ok (.getfield 119, 3) := by decide +kernel
theorem dX9_book_62 : decode cX9_book 62 = .ok (.if_icmp .ge 52, 3) := by decide +kernel
theorem dX9_book_65 : decode cX9_book 65 = .ok (.iload_n 2, 1) := by decide +kernel
theorem dX9_book_66 : decode cX9_book 66 = .ok (.bipush 6, 2) := by decide +kernel
theorem dX9_book_68 : decode cX9_book 68 = .ok (.if_icmp .ge 46, 3) := by decide +kernel
theorem dX9_book_71 : decode cX9_book 71 = .ok (.aload_n 0, 1) := by decide +kernel
theorem dX9_book_72 : decode cX9_book 72 = .ok (.getfield 56, 3) := by decide +kernel
theorem dX9_book_75 : decode cX9_book 75 = .ok (.bipush 6, 2) := by decide +kernel
theorem dX9_book_77 : decode cX9_book 77 = .ok (.iload_n 3, 1) := by decide +kernel
theorem dX9_book_78 : decode cX9_book 78 = .ok (.imul, 1) := by decide +kernel
theorem dX9_book_79 : decode cX9_book 79 = .ok (.iload_n 1, 1) := by decide +kernel
theorem dX9_book_80 : decode cX9_book 80 = .ok (.iadd, 1) := by decide +kernel
theorem dX9_book_81 : decode cX9_book 81 = .ok (.iaload, 1) := by decide +kernel
theorem dX9_book_82 : decode cX9_book 82 = .ok (.ifCond .eq 26, 3) := by decide +kernel
theorem dX9_book_85 : decode cX9_book 85 = .ok (.aload_n 0, 1) := by decide +kernel
theorem dX9_book_86 : decode cX9_book 86 = .ok (.iload_n 1, 1) := by decide +kernel
theorem dX9_book_87 : decode cX9_book 87 = .ok (.iload_n 3, 1) := by decide +kernel
theorem dX9_book_88 : decode cX9_book 88 = .ok (.invokevirtual 147, 3) := by decide +kernel
theorem dX9_book_91 : decode cX9_book 91 = .ok (.iconst 1, 1) := by decide +kernel
theorem dX9_book_92 : decode cX9_book 92 = .ok (.if_icmp .eq 6, 3) := by decide +kernel
theorem dX9_book_95 : decode cX9_book 95 = .ok (.goto 13, 3) := by decide +kernel
theorem dX9_book_98 : decode cX9_book 98 = .ok (.aload_n 0, 1) := by decide +kernel
theorem dX9_book_99 : decode cX9_book 99 = .ok (.getfield 71, 3) := by decide +kernel
theorem dX9_book_102 : decode cX9_book 102 = .ok (.iload_n 2, 1) := by decide +kernel
theorem dX9_book_103 : decode cX9_book 103 = .ok (.iload_n 3, 1) := by decide +kernel
theorem dX9_book_104 : decode cX9_book 104 = .ok (.iastore, 1) := by decide +kernel
theorem dX9_book_105 : decode cX9_book 105 = .ok (.iinc 2 1, 3) := by decide +kernel
theorem dX9_book_108 : decode cX9_book 108 = .ok (.iinc 3 1, 3) := by decide +kernel
theorem dX9_book_111 : decode cX9_book 111 = .ok (.goto (-54), 3) := by decide +kernel
theorem dX9_book_114 : decode cX9_book 114 = .ok (.iconst 0, 1) := by decide +kernel
theorem dX9_book_115 : decode cX9_book 115 = .ok (.istore_n 3, 1) := by decide +kernel
theorem dX9_book_116 : decode cX9_book 116 = .ok (.iload_n 3, 1) := by decide +kernel
theorem dX9_book_117 : decode cX9_book 117 = .ok (.sipush 22050, 3) := by decide +kernel
theorem dX9_book_120 : decode cX9_book 120 = .ok (.if_icmp .ge 16, 3) := by decide +kernel
theorem dX9_book_123 : decode cX9_book 123 = .ok (.aload_n 0, 1) := by decide +kernel
theorem dX9_book_124 : decode cX9_book 124 = .ok (.getfield 95, 3) := by decide +kernel
theorem dX9_book_127 : decode cX9_book 127 = .ok (.iload_n 3, 1) := by decide +kernel
theorem dX9_book_128 : decode cX9_book 128 = .ok (.lconst 0, 1) := by decide +kernel
theorem dX9_book_129 : decode cX9_book 129 = .ok (.lastore, 1) := by decide +kernel
theorem dX9_book_130 : decode cX9_book 130 = .ok (.iinc 3 1, 3) := by decide +kernel
theorem dX9_book_133 : decode cX9_book 133 = .ok (.goto (-17), 3) := by decide +kernel
theorem dX9_book_136 : decode cX9_book 136 = .ok (.iconst (-1), 1) := by decide +kernel
theorem dX9_book_137 : decode cX9_book 137 = .ok (.istore_n 3, 1) := by decide +kernel
theorem dX9_book_138 : decode cX9_book 138 = .ok (.aload_n 0, 1) := by decide +kernel
theorem dX9_book_139 : decode cX9_book 139 = .ok (.getfield 44, 3) := by decide +kernel
theorem dX9_book_142 : decode cX9_book 142 = .ok (.iload_n 1, 1) := by decide +kernel
theorem dX9_book_143 : decode cX9_book 143 = .ok (.iaload, 1) := by decide +kernel
theorem dX9_book_144 : decode cX9_book 144 = .ok (.istore 4, 2) := by decide +kernel
theorem dX9_book_146 : decode cX9_book 146 = .ok (.aload_n 0, 1) := by decide +kernel
theorem dX9_book_147 : decode cX9_book 147 = .ok (.iload 4, 2) := by decide +kernel
theorem dX9_book_149 : decode cX9_book 149 = .ok (.iconst 0, 1) := by decide +kernel
theorem dX9_book_150 : decode cX9_book 150 = .ok (.iconst (-1), 1) := by decide +kernel
theorem dX9_book_151 : decode cX9_book 151 = .ok (.iconst 0, 1) := by decide +kernel
theorem dX9_book_152 : decode cX9_book 152 = .ok (.iconst 0, 1) := by decide +kernel
theorem dX9_book_153 : decode cX9_book 153 = .ok (.iconst 0, 1) := by decide +kernel
theorem dX9_book_154 : decode cX9_book 154 = .ok (.invokevirtual 154, 3) := by decide +kernel
theorem dX9_book_157 : decode cX9_book 157 = .ok (.aload_n 0, 1) := by decide +kernel
theorem dX9_book_158 : decode cX9_book 158 = .ok (.getfield 74, 3) := by decide +kernel
theorem dX9_book_161 : decode cX9_book 161 = .ok (.iload 4, 2) := by decide +kernel
theorem dX9_book_163 : decode cX9_book 163 = .ok (.iconst (-1), 1) := by decide +kernel
theorem dX9_book_164 : decode cX9_book 164 = .ok (.iastore, 1) := by decide +kernel
theorem dX9_book_165 : decode cX9_book 165 = .ok (.iload 4, 2) := by decide +kernel
theorem dX9_book_167 : decode cX9_book 167 = .ok (.aload_n 0, 1) := by decide +kernel
theorem dX9_book_168 : decode cX9_book 168 = .ok (.getfield 44, 3) := by decide +kernel
theorem dX9_book_171 : decode cX9_book 171 = .ok (.iload_n 1, 1) := by decide +kernel
theorem dX9_book_172 : decode cX9_book 172 = .ok (.iaload, 1) := by decide +kernel
theorem dX9_book_173 : decode cX9_book 173 = .ok (.if_icmp .lt 189, 3) := by decide +kernel
theorem dX9_book_176 : decode cX9_book 176 = .ok (.aload_n 0, 1) := by decide +kernel
theorem dX9_book_177 : decode cX9_book 177 = .ok (.getfield 74, 3) := by decide +kernel
theorem dX9_book_180 : decode cX9_book 180 = .ok (.iload 4, 2) := by decide +kernel
theorem dX9_book_182 : decode cX9_book 182 = .ok (.dup2, 1) := by decide +kernel
theorem dX9_book_183 : decode cX9_book 183 = .ok (.iaload, 1) := by decide +kernel
theorem dX9_book_184 : decode cX9_book 184 = .ok (.iconst 1, 1) := by decide +kernel
theorem dX9_book_185 : decode cX9_book 185 = .ok (.iadd, 1) := by decide +kernel
theorem dX9_book_186 : decode cX9_book 186 = .ok (.iastore, 1) := by decide +kernel
theorem dX9_book_187 : decode cX9_book 187 = .ok (.aload_n 0, 1) := by decide +kernel
theorem dX9_book_188 : decode cX9_book 188 = .ok (.getfield 74, 3) := by decide +kernel
theorem dX9_book_191 : decode cX9_book 191 = .ok (.iload 4, 2) := by decide +kernel
theorem dX9_book_193 : decode cX9_book 193 = .ok (.iaload, 1) := by decide +kernel
theorem dX9_book_194 : decode cX9_book 194 = .ok (.iload_n 2, 1) := by decide +kernel
theorem dX9_book_195 : decode cX9_book 195 = .ok (.if_icmp .le 9, 3) := by decide +kernel
theorem dX9_book_198 : decode cX9_book 198 = .ok (.iinc 4 (-1), 3) := by decide +kernel
theorem dX9_book_201 : decode cX9_book 201 = .ok (.goto (-36), 3) := by decide +kernel
theorem dX9_book_204 : decode cX9_book 204 = .ok (.aload_n 0, 1) := by decide +kernel
theorem dX9_book_205 : decode cX9_book 205 = .ok (.iload_n 1, 1) := by decide +kernel
theorem dX9_book_206 : decode cX9_book 206 = .ok (.iload 4, 2) := by decide +kernel
theorem dX9_book_208 : decode cX9_book 208 = .ok (.iload_n 2, 1) := by decide +kernel
theorem dX9_book_209 : decode cX9_book 209 = .ok (.invokevirtual 158, 3) := by decide +kernel
theorem dX9_book_212 : decode cX9_book 212 = .ok (.ifCond .ne 6, 3) := by decide +kernel
theorem dX9_book_215 : decode cX9_book 215 = .ok (.goto (-50), 3) := by decide +kernel
theorem dX9_book_218 : decode cX9_book 218 = .ok (.iinc 4 1, 3) := by decide +kernel
theorem dX9_book_221 : decode cX9_book 221 = .ok (.iload 4, 2) := by decide +kernel
theorem dX9_book_223 : decode cX9_book 223 = .ok (.aload_n 0, 1) := by decide +kernel
theorem dX9_book_224 : decode cX9_book 224 = .ok (.getfield 47, 3) := by decide +kernel
theorem dX9_book_227 : decode cX9_book 227 = .ok (.iload_n 1, 1) := by decide +kernel
theorem dX9_book_228 : decode cX9_book 228 = .ok (.iaload, 1) := by decide +kernel
theorem dX9_book_229 : decode cX9_book 229 = .ok (.if_icmp .le 87, 3) := by decide +kernel
theorem dX9_book_232 : decode cX9_book 232 = .ok (.aload_n 0, 1) := by decide +kernel
theorem dX9_book_233 : decode cX9_book 233 = .ok (.getfield 89, 3) := by decide +kernel
theorem dX9_book_236 : decode cX9_book 236 = .ok (.iload 4, 2) := by decide +kernel
theorem dX9_book_238 : decode cX9_book 238 = .ok (.iaload, 1) := by decide +kernel
theorem dX9_book_239 : decode cX9_book 239 = .ok (.iload_n 3, 1) := by decide +kernel
theorem dX9_book_240 : decode cX9_book 240 = .ok (.if_icmp .le 70, 3) := by decide +kernel
theorem dX9_book_243 : decode cX9_book 243 = .ok (.aload_n 0, 1) := by decide +kernel
theorem dX9_book_244 : decode cX9_book 244 = .ok (.getfield 89, 3) := by decide +kernel
theorem dX9_book_247 : decode cX9_book 247 = .ok (.iload 4, 2) := by decide +kernel
theorem dX9_book_249 : decode cX9_book 249 = .ok (.iaload, 1) := by decide +kernel
theorem dX9_book_250 : decode cX9_book 250 = .ok (.istore_n 3, 1) := by decide +kernel
theorem dX9_book_251 : decode cX9_book 251 = .ok (.aload_n 0, 1) := by decide +kernel
theorem dX9_book_252 : decode cX9_book 252 = .ok (.getfield 44, 3) := by decide +kernel
theorem dX9_book_255 : decode cX9_book 255 = .ok (.iload_n 1, 1) := by decide +kernel
theorem dX9_book_256 : decode cX9_book 256 = .ok (.iaload, 1) := by decide +kernel
theorem dX9_book_257 : decode cX9_book 257 = .ok (.istore 5, 2) := by decide +kernel
theorem dX9_book_259 : decode cX9_book 259 = .ok (.iload 5, 2) := by decide +kernel
theorem dX9_book_261 : decode cX9_book 261 = .ok (.aload_n 0, 1) := by decide +kernel
theorem dX9_book_262 : decode cX9_book 262 = .ok (.getfield 47, 3) := by decide +kernel
theorem dX9_book_265 : decode cX9_book 265 = .ok (.iload_n 1, 1) := by decide +kernel
theorem dX9_book_266 : decode cX9_book 266 = .ok (.iaload, 1) := by decide +kernel
theorem dX9_book_267 : decode cX9_book 267 = .ok (.if_icmp .gt 43, 3) := by decide +kernel
theorem dX9_book_270 : decode cX9_book 270 = .ok (.aload_n 0, 1) := by decide +kernel
theorem dX9_book_271 : decode cX9_book 271 = .ok (.getfield 92, 3) := by decide +kernel
theorem dX9_book_274 : decode cX9_book 274 = .ok (.iload 5, 2) := by decide +kernel
theorem dX9_book_276 : decode cX9_book 276 = .ok (.aload_n 0, 1) := by decide +kernel
theorem dX9_book_277 : decode cX9_book 277 = .ok (.getfield 74, 3) := by decide +kernel
theorem dX9_book_280 : decode cX9_book 280 = .ok (.iload 5, 2) := by decide +kernel
theorem dX9_book_282 : decode cX9_book 282 = .ok (.iaload, 1) := by decide +kernel
theorem dX9_book_283 : decode cX9_book 283 = .ok (.iload_n 2, 1) := by decide +kernel
theorem dX9_book_284 : decode cX9_book 284 = .ok (.if_icmp .ge 18, 3) := by decide +kernel
theorem dX9_book_287 : decode cX9_book 287 = .ok (.aload_n 0, 1) := by decide +kernel
theorem dX9_book_288 : decode cX9_book 288 = .ok (.getfield 71, 3) := by decide +kernel
theorem dX9_book_291 : decode cX9_book 291 = .ok (.aload_n 0, 1) := by decide +kernel
theorem dX9_book_292 : decode cX9_book 292 = .ok (.getfield 74, 3) := by decide +kernel
theorem dX9_book_295 : decode cX9_book 295 = .ok (.iload 5, 2) := by decide +kernel
theorem dX9_book_297 : decode cX9_book 297 = .ok (.iaload, 1) := by decide +kernel
theorem dX9_book_298 : decode cX9_book 298 = .ok (.iaload, 1) := by decide +kernel
theorem dX9_book_299 : decode cX9_book 299 = .ok (.goto 4, 3) := by decide +kernel
theorem dX9_book_302 : decode cX9_book 302 = .ok (.iconst (-1), 1) := by decide +kernel
theorem dX9_book_303 : decode cX9_book 303 = .ok (.iastore, 1) := by decide +kernel
theorem dX9_book_304 : decode cX9_book 304 = .ok (.iinc 5 1, 3) := by decide +kernel
theorem dX9_book_307 : decode cX9_book 307 = .ok (.goto (-48), 3) := by decide +kernel
theorem dX9_book_310 : decode cX9_book 310 = .ok (.iinc 4 (-1), 3) := by decide +kernel
theorem dX9_book_313 : decode cX9_book 313 = .ok (.goto (-148), 3) := by decide +kernel
theorem dX9_book_316 : decode cX9_book 316 = .ok (.aload_n 0, 1) := by decide +kernel
theorem dX9_book_317 : decode cX9_book 317 = .ok (.iload 4, 2) := by decide +kernel
theorem dX9_book_319 : decode cX9_book 319 = .ok (.invokevirtual 161, 3) := by decide +kernel
theorem dX9_book_322 : decode cX9_book 322 = .ok (.ifCond .ne 23, 3) := by decide +kernel
theorem dX9_book_325 : decode cX9_book 325 = .ok (.aload_n 0, 1) := by decide +kernel
theorem dX9_book_326 : decode cX9_book 326 = .ok (.getfield 89, 3) := by decide +kernel
theorem dX9_book_329 : decode cX9_book 329 = .ok (.iload 4, 2) := by decide +kernel
theorem dX9_book_331 : decode cX9_book 331 = .ok (.iaload, 1) := by decide +kernel
theorem dX9_book_332 : decode cX9_book 332 = .ok (.aload_n 0, 1) := by decide +kernel
theorem dX9_book_333 : decode cX9_book 333 = .ok (.iload_n 1, 1) := by decide +kernel
theorem dX9_book_334 : decode cX9_book 334 = .ok (.iload 4, 2) := by decide +kernel
theorem dX9_book_336 : decode cX9_book 336 = .ok (.iload_n 2, 1) := by decide +kernel
theorem dX9_book_337 : decode cX9_book 337 = .ok (.invokevirtual 164, 3) := by decide +kernel
theorem dX9_book_340 : decode cX9_book 340 = .ok (.iadd, 1) := by decide +kernel
theorem dX9_book_341 : decode cX9_book 341 = .ok (.iload_n 3, 1) := by decide +kernel
theorem dX9_book_342 : decode cX9_book 342 = .ok (.if_icmp .gt 9, 3) := by decide +kernel
theorem dX9_book_345 : decode cX9_book 345 = .ok (.iinc 4 (-1), 3) := by decide +kernel
theorem dX9_book_348 : decode cX9_book 348 = .ok (.goto (-183), 3) := by decide +kernel
theorem dX9_book_351 : decode cX9_book 351 = .ok (.aload_n 0, 1) := by decide +kernel
theorem dX9_book_352 : decode cX9_book 352 = .ok (.getfield 74, 3) := by decide +kernel
theorem dX9_book_355 : decode cX9_book 355 = .ok (.iload 4, 2) := by decide +kernel
theorem dX9_book_357 : decode cX9_book 357 = .ok (.iconst (-1), 1) := by decide +kernel
theorem dX9_book_358 : decode cX9_book 358 = .ok (.iastore, 1) := by decide +kernel
theorem dX9_book_359 : decode cX9_book 359 = .ok (.goto (-194), 3) := by decide +kernel
theorem dX9_book_362 : decode cX9_book 362 = .ok (.aload_n 0, 1) := by decide +kernel
theorem dX9_book_363 : decode cX9_book 363 = .ok (.getfield 44, 3) := by decide +kernel
theorem dX9_book_366 : decode cX9_book 366 = .ok (.iload_n 1, 1) := by decide +kernel
theorem dX9_book_367 : decode cX9_book 367 = .ok (.iaload, 1) := by decide +kernel
theorem dX9_book_368 : decode cX9_book 368 = .ok (.istore 5, 2) := by decide +kernel
theorem dX9_book_370 : decode cX9_book 370 = .ok (.iload 5, 2) := by decide +kernel
theorem dX9_book_372 : decode cX9_book 372 = .ok (.aload_n 0, 1) := by decide +kernel
theorem dX9_book_373 : decode cX9_book 373 = .ok (.getfield 47, 3) := by decide +kernel
theorem dX9_book_376 : decode cX9_book 376 = .ok (.iload_n 1, 1) := by decide +kernel
theorem dX9_book_377 : decode cX9_book 377 = .ok (.iaload, 1) := by decide +kernel
theorem dX9_book_378 : decode cX9_book 378 = .ok (.if_icmp .gt 28, 3) := by decide +kernel
theorem dX9_book_381 : decode cX9_book 381 = .ok (.aload_n 0, 1) := by decide +kernel
theorem dX9_book_382 : decode cX9_book 382 = .ok (.getfield 65, 3) := by decide +kernel
theorem dX9_book_385 : decode cX9_book 385 = .ok (.bipush 14, 2) := by decide +kernel
theorem dX9_book_387 : decode cX9_book 387 = .ok (.iload_n 1, 1) := by decide +kernel
theorem dX9_book_388 : decode cX9_book 388 = .ok (.imul, 1) := by decide +kernel
theorem dX9_book_389 : decode cX9_book 389 = .ok (.iload 5, 2) := by decide +kernel
theorem dX9_book_391 : decode cX9_book 391 = .ok (.iadd, 1) := by decide +kernel
theorem dX9_book_392 : decode cX9_book 392 = .ok (.aload_n 0, 1) := by decide +kernel
theorem dX9_book_393 : decode cX9_book 393 = .ok (.getfield 92, 3) := by decide +kernel
theorem dX9_book_396 : decode cX9_book 396 = .ok (.iload 5, 2) := by decide +kernel
theorem dX9_book_398 : decode cX9_book 398 = .ok (.iaload, 1) := by decide +kernel
theorem dX9_book_399 : decode cX9_book 399 = .ok (.iastore, 1) := by decide +kernel
theorem dX9_book_400 : decode cX9_book 400 = .ok (.iinc 5 1, 3) := by decide +kernel
theorem dX9_book_403 : decode cX9_book 403 = .ok (.goto (-33), 3) := by decide +kernel
theorem dX9_book_406 : decode cX9_book 406 = .ok (.iload_n 3, 1) := by decide +kernel
theorem dX9_book_407 : decode cX9_book 407 = .ok (.ireturn, 1) := by decide +kernel
theorem dX9_snow_0 : decode cX9_snow 0 = .ok (.aload_n 0, 1) := by decide +kernel
theorem dX9_snow_1 : decode cX9_snow 1 = .ok (.iconst 0, 1) := by decide +kernel
theorem dX9_snow_2 : decode cX9_snow 2 = .ok (.putfield 102, 3) := by decide +kernel
theorem dX9_snow_5 : decode cX9_snow 5 = .ok (.aload_n 0, 1) := by decide +kernel
theorem dX9_snow_6 : decode cX9_snow 6 = .ok (.iload_n 1, 1) := by decide +kernel
theorem dX9_snow_7 : decode cX9_snow 7 = .ok (.invokevirtual 140, 3) := by decide +kernel
theorem dX9_snow_10 : decode cX9_snow 10 = .ok (.ifCond .eq 13, 3) := by decide +kernel
theorem dX9_snow_13 : decode cX9_snow 13 = .ok (.iload_n 2, 1) := by decide +kernel
theorem dX9_snow_14 : decode cX9_snow 14 = .ok (.iconst 0, 1) := by decide +kernel
theorem dX9_snow_15 : decode cX9_snow 15 = .ok (.bipush 13, 2) := by decide +kernel
theorem dX9_snow_17 : decode cX9_snow 17 = .ok (.invokestatic 128, 3) := by decide +kernel
theorem dX9_snow_20 : decode cX9_snow 20 = .ok (.ifCond .ne 5, 3) := by decide +kernel
theorem dX9_snow_23 : decode cX9_snow 23 = .ok (.iconst (-1), 1) := by decide +kernel
theorem dX9_snow_24 : decode cX9_snow 24 = .ok (.ireturn, 1) := by decide +kernel
theorem dX9_snow_25 : decode cX9_snow 25 = .ok (.iconst (-1), 1) := by decide +kernel
theorem dX9_snow_26 : decode cX9_snow 26 = .ok (.istore_n 3, 1) := by decide +kernel
theorem dX9_snow_27 : decode cX9_snow 27 = .ok (.iconst 0, 1) := by decide +kernel
theorem dX9_snow_28 : decode cX9_snow 28 = .ok (.istore 4, 2) := by decide +kernel
theorem dX9_snow_30 : decode cX9_snow 30 = .ok (.iload 4, 2) := by decide +kernel
theorem dX9_snow_32 : decode cX9_snow 32 = .ok (.aload_n 0, 1) := by decide +kernel
theorem dX9_snow_33 : decode cX9_snow 33 = .ok (.getfield 122, 3) := by decide +kernel
theorem dX9_snow_36 : decode cX9_snow 36 = .ok (.if_icmp .ge 28, 3) := by decide +kernel
theorem dX9_snow_39 : decode cX9_snow 39 = .ok (.aload_n 0, 1) := by decide +kernel
theorem dX9_snow_40 : decode cX9_snow 40 = .ok (.getfield 65, 3) := by decide +kernel
theorem dX9_snow_43 : decode cX9_snow 43 = .ok (.bipush 14, 2) := by decide +kernel
theorem dX9_snow_45 : decode cX9_snow 45 = .ok (.iload 4, 2) := by decide +kernel
theorem dX9_snow_47 : decode cX9_snow 47 = .ok (.imul, 1) := by decide +kernel
theorem dX9_snow_48 : decode cX9_snow 48 = .ok (.iload_n 2, 1) := by decide +kernel
theorem dX9_snow_49 : decode cX9_snow 49 = .ok (.iadd, 1) := by decide +kernel
theorem dX9_snow_50 : decode cX9_snow 50 = .ok (.iaload, 1) := by decide +kernel
theorem dX9_snow_51 : decode cX9_snow 51 = .ok (.iload_n 1, 1) := by decide +kernel
theorem dX9_snow_52 : decode cX9_snow 52 = .ok (.if_icmp .ne 6, 3) := by decide +kernel
theorem dX9_snow_55 : decode cX9_snow 55 = .ok (.iload 4, 2) := by decide +kernel
theorem dX9_snow_57 : decode cX9_snow 57 = .ok (.istore_n 3, 1) := by decide +kernel
theorem dX9_snow_58 : decode cX9_snow 58 = .ok (.iinc 4 1, 3) := by decide +kernel
theorem dX9_snow_61 : decode cX9_snow 61 = .ok (.goto (-31), 3) := by decide +kernel
theorem dX9_snow_64 : decode cX9_snow 64 = .ok (.iload_n 3, 1) := by decide +kernel
theorem dX9_snow_65 : decode cX9_snow 65 = .ok (.ifCond .ge 5, 3) := by decide +kernel
theorem dX9_snow_68 : decode cX9_snow 68 = .ok (.iconst (-1), 1) := by decide +kernel
theorem dX9_snow_69 : decode cX9_snow 69 = .ok (.ireturn, 1) := by decide +kernel
theorem dX9_snow_70 : decode cX9_snow 70 = .ok (.aload_n 0, 1) := by decide +kernel
theorem dX9_snow_71 : decode cX9_snow 71 = .ok (.getfield 65, 3) := by decide +kernel
theorem dX9_snow_74 : decode cX9_snow 74 = .ok (.bipush 14, 2) := by decide +kernel
theorem dX9_snow_76 : decode cX9_snow 76 = .ok (.iload_n 3, 1) := by decide +kernel
theorem dX9_snow_77 : decode cX9_snow 77 = .ok (.imul, 1) := by decide +kernel
theorem dX9_snow_78 : decode cX9_snow 78 = .ok (.iload_n 2, 1) := by decide +kernel
theorem dX9_snow_79 : decode cX9_snow 79 = .ok (.iadd, 1) := by decide +kernel
theorem dX9_snow_80 : decode cX9_snow 80 = .ok (.iconst (-1), 1) := by decide +kernel
theorem dX9_snow_81 : decode cX9_snow 81 = .ok (.iastore, 1) := by decide +kernel
theorem dX9_snow_82 : decode cX9_snow 82 = .ok (.aload_n 0, 1) := by decide +kernel
theorem dX9_snow_83 : decode cX9_snow 83 = .ok (.getfield 68, 3) := by decide +kernel
theorem dX9_snow_86 : decode cX9_snow 86 = .ok (.bipush 14, 2) := by decide +kernel
theorem dX9_snow_88 : decode cX9_snow 88 = .ok (.iload_n 3, 1) := by decide +kernel
theorem dX9_snow_89 : decode cX9_snow 89 = .ok (.imul, 1) := by decide +kernel
theorem dX9_snow_90 : decode cX9_snow 90 = .ok (.iload_n 2, 1) := by decide +kernel
theorem dX9_snow_91 : decode cX9_snow 91 = .ok (.iadd, 1) := by decide +kernel
theorem dX9_snow_92 : decode cX9_snow 92 = .ok (.iconst (-1), 1) := by decide +kernel
theorem dX9_snow_93 : decode cX9_snow 93 = .ok (.iastore, 1) := by decide +kernel
theorem dX9_snow_94 : decode cX9_snow 94 = .ok (.iload_n 2, 1) := by decide +kernel
theorem dX9_snow_95 : decode cX9_snow 95 = .ok (.iconst 1, 1) := by decide +kernel
theorem dX9_snow_96 : decode cX9_snow 96 = .ok (.iadd, 1) := by decide +kernel
theorem dX9_snow_97 : decode cX9_snow 97 = .ok (.istore 4, 2) := by decide +kernel
theorem dX9_snow_99 : decode cX9_snow 99 = .ok (.iload 4, 2) := by decide +kernel
theorem dX9_snow_101 : decode cX9_snow 101 = .ok (.aload_n 0, 1) := by decide +kernel
theorem dX9_snow_102 : decode cX9_snow 102 = .ok (.getfield 47, 3) := by decide +kernel
theorem dX9_snow_105 : decode cX9_snow 105 = .ok (.iload_n 3, 1) := by decide +kernel
theorem dX9_snow_106 : decode cX9_snow 106 = .ok (.iaload, 1) := by decide +kernel
theorem dX9_snow_107 : decode cX9_snow 107 = .ok (.if_icmp .gt 64, 3) := by decide +kernel
theorem dX9_snow_110 : decode cX9_snow 110 = .ok (.aload_n 0, 1) := by decide +kernel
theorem dX9_snow_111 : decode cX9_snow 111 = .ok (.getfield 65, 3) := by decide +kernel
theorem dX9_snow_114 : decode cX9_snow 114 = .ok (.bipush 14, 2) := by decide +kernel
theorem dX9_snow_116 : decode cX9_snow 116 = .ok (.iload_n 3, 1) := by decide +kernel
theorem dX9_snow_117 : decode cX9_snow 117 = .ok (.imul, 1) := by decide +kernel
theorem dX9_snow_118 : decode cX9_snow 118 = .ok (.iload 4, 2) := by decide +kernel
theorem dX9_snow_120 : decode cX9_snow 120 = .ok (.iadd, 1) := by decide +kernel
theorem dX9_snow_121 : decode cX9_snow 121 = .ok (.iaload, 1) := by decide +kernel
theorem dX9_snow_122 : decode cX9_snow 122 = .ok (.ifCond .lt 6, 3) := by decide +kernel
theorem dX9_snow_125 : decode cX9_snow 125 = .ok (.goto 40, 3) := by decide +kernel
theorem dX9_snow_128 : decode cX9_snow 128 = .ok (.aload_n 0, 1) := by decide +kernel
theorem dX9_snow_129 : decode cX9_snow 129 = .ok (.getfield 65, 3) := by decide +kernel
theorem dX9_snow_132 : decode cX9_snow 132 = .ok (.bipush 14, 2) := by decide +kernel
theorem dX9_snow_134 : decode cX9_snow 134 = .ok (.iload_n 3, 1) := by decide +kernel
theorem dX9_snow_135 : decode cX9_snow 135 = .ok (.imul, 1) := by decide +kernel
theorem dX9_snow_136 : decode cX9_snow 136 = .ok (.iload 4, 2) := by decide +kernel
theorem dX9_snow_138 : decode cX9_snow 138 = .ok (.iadd, 1) := by decide +kernel
theorem dX9_snow_139 : decode cX9_snow 139 = .ok (.iload_n 1, 1) := by decide +kernel
theorem dX9_snow_140 : decode cX9_snow 140 = .ok (.iastore, 1) := by decide +kernel
theorem dX9_snow_141 : decode cX9_snow 141 = .ok (.aload_n 0, 1) := by decide +kernel
theorem dX9_snow_142 : decode cX9_snow 142 = .ok (.iload_n 3, 1) := by decide +kernel
theorem dX9_snow_143 : decode cX9_snow 143 = .ok (.invokevirtual 174, 3) := by decide +kernel
theorem dX9_snow_146 : decode cX9_snow 146 = .ok (.ifCond .eq 6, 3) := by decide +kernel
theorem dX9_snow_149 : decode cX9_snow 149 = .ok (.iload 4, 2) := by decide +kernel
theorem dX9_snow_151 : decode cX9_snow 151 = .ok (.ireturn, 1) := by decide +kernel
theorem dX9_snow_152 : decode cX9_snow 152 = .ok (.aload_n 0, 1) := by decide +kernel
theorem dX9_snow_153 : decode cX9_snow 153 = .ok (.getfield 65, 3) := by decide +kernel
theorem dX9_snow_156 : decode cX9_snow 156 = .ok (.bipush 14, 2) := by decide +kernel
theorem dX9_snow_158 : decode cX9_snow 158 = .ok (.iload_n 3, 1) := by decide +kernel
theorem dX9_snow_159 : decode cX9_snow 159 = .ok (.imul, 1) := by decide +kernel
theorem dX9_snow_160 : decode cX9_snow 160 = .ok (.iload 4, 2) := by decide +kernel
theorem dX9_snow_162 : decode cX9_snow 162 = .ok (.iadd, 1) := by decide +kernel
theorem dX9_snow_163 : decode cX9_snow 163 = .ok (.iconst (-1), 1) := by decide +kernel
theorem dX9_snow_164 : decode cX9_snow 164 = .ok (.iastore, 1) := by decide +kernel
theorem dX9_snow_165 : decode cX9_snow 165 = .ok (.iinc 4 1, 3) := by decide +kernel
theorem dX9_snow_168 : decode cX9_snow 168 = .ok (.goto (-69), 3) := by decide +kernel
theorem dX9_snow_171 : decode cX9_snow 171 = .ok (.bipush (-2), 2) := by decide +kernel
theorem dX9_snow_173 : decode cX9_snow 173 = .ok (.ireturn, 1) := by decide +kernel
theorem dX9_behind_0 : decode cX9_behind 0 = .ok (.aload_n 0, 1) := by decide +kernel
theorem dX9_behind_1 : decode cX9_behind 1 = .ok (.lload_n 1, 1) := by decide +kernel
theorem dX9_behind_2 : decode cX9_behind 2 = .ok (.invokevirtual 221, 3) := by decide +kernel
theorem dX9_behind_5 : decode cX9_behind 5 = .ok (.ifCond .ne 8, 3) := by decide +kernel
theorem dX9_behind_8 : decode cX9_behind 8 = .ok (.aload_n 0, 1) := by decide +kernel
theorem dX9_behind_9 : decode cX9_behind 9 = .ok (.invokevirtual 231, 3) := by decide +kernel
theorem dX9_behind_12 : decode cX9_behind 12 = .ok (.ireturn, 1) := by decide +kernel
theorem dX9_behind_13 : decode cX9_behind 13 = .ok (.aload_n 0, 1) := by decide +kernel
theorem dX9_behind_14 : decode cX9_behind 14 = .ok (.invokevirtual 212, 3) := by decide +kernel
theorem dX9_behind_17 : decode cX9_behind 17 = .ok (.iconst 1, 1) := by decide +kernel
theorem dX9_behind_18 : decode cX9_behind 18 = .ok (.ireturn, 1) := by decide +kernel
theorem dX9_take_0 : decode cX9_take 0 = .ok (.aload_n 0, 1) := by decide +kernel
theorem dX9_take_1 : decode cX9_take 1 = .ok (.getfield 184, 3) := by decide +kernel
theorem dX9_take_4 : decode cX9_take 4 = .ok (.iconst 2, 1) := by decide +kernel
theorem dX9_take_5 : decode cX9_take 5 = .ok (.if_icmp .eq 8, 3) := by decide +kernel
theorem dX9_take_8 : decode cX9_take 8 = .ok (.aload_n 0, 1) := by decide +kernel
theorem dX9_take_9 : decode cX9_take 9 = .ok (.invokevirtual 231, 3) := by decide +kernel
theorem dX9_take_12 : decode cX9_take 12 = .ok (.ireturn, 1) := by decide +kernel
theorem dX9_take_13 : decode cX9_take 13 = .ok (.aload_n 0, 1) := by decide +kernel
theorem dX9_take_14 : decode cX9_take 14 = .ok (.getfield 197, 3) := by decide +kernel
theorem dX9_take_17 : decode cX9_take 17 = .ok (.iload_n 2, 1) := by decide +kernel
theorem dX9_take_18 : decode cX9_take 18 = .ok (.if_icmp .gt 11, 3) := by decide +kernel
theorem dX9_take_21 : decode cX9_take 21 = .ok (.aload_n 0, 1) := by decide +kernel
theorem dX9_take_22 : decode cX9_take 22 = .ok (.getfield 197, 3) := by decide +kernel
theorem dX9_take_25 : decode cX9_take 25 = .ok (.iload_n 3, 1) := by decide +kernel
theorem dX9_take_26 : decode cX9_take 26 = .ok (.if_icmp .gt 13, 3) := by decide +kernel
theorem dX9_take_29 : decode cX9_take 29 = .ok (.aload_n 0, 1) := by decide +kernel
theorem dX9_take_30 : decode cX9_take 30 = .ok (.iconst 3, 1) := by decide +kernel
theorem dX9_take_31 : decode cX9_take 31 = .ok (.aload_n 0, 1) := by decide +kernel
theorem dX9_take_32 : decode cX9_take 32 = .ok (.getfield 181, 3) := by decide +kernel
theorem dX9_take_35 : decode cX9_take 35 = .ok (.invokevirtual 206, 3) := by decide +kernel
theorem dX9_take_38 : decode cX9_take 38 = .ok (.ireturn, 1) := by decide +kernel
theorem dX9_take_39 : decode cX9_take 39 = .ok (.aload_n 0, 1) := by decide +kernel
theorem dX9_take_40 : decode cX9_take 40 = .ok (.getfield 99, 3) := by decide +kernel
theorem dX9_take_43 : decode cX9_take 43 = .ok (.bipush 72, 2) := by decide +kernel
theorem dX9_take_45 : decode cX9_take 45 = .ok (.iload_n 1, 1) := by decide +kernel
theorem dX9_take_46 : decode cX9_take 46 = .ok (.iadd, 1) := by decide +kernel
theorem dX9_take_47 : decode cX9_take 47 = .ok (.aload_n 0, 1) := by decide +kernel
theorem dX9_take_48 : decode cX9_take 48 = .ok (.getfield 197, 3) := by decide +kernel
theorem dX9_take_51 : decode cX9_take 51 = .ok (.iastore, 1) := by decide +kernel
theorem dX9_take_52 : decode cX9_take 52 = .ok (.aload_n 0, 1) := by decide +kernel
theorem dX9_take_53 : decode cX9_take 53 = .ok (.invokevirtual 212, 3) := by decide +kernel
theorem dX9_take_56 : decode cX9_take 56 = .ok (.iconst 1, 1) := by decide +kernel
theorem dX9_take_57 : decode cX9_take 57 = .ok (.ireturn, 1) := by decide +kernel
theorem dX9_shared_0 : decode cX9_shared 0 = .ok (.aload_n 0, 1) := by decide +kernel
theorem dX9_shared_1 : decode cX9_shared 1 = .ok (.aload_n 0, 1) := by decide +kernel
theorem dX9_shared_2 : decode cX9_shared 2 = .ok (.iload_n 1, 1) := by decide +kernel
theorem dX9_shared_3 : decode cX9_shared 3 = .ok (.invokevirtual 144, 3) := by decide +kernel
theorem dX9_shared_6 : decode cX9_shared 6 = .ok (.ifCond .eq 36, 3) := by decide +kernel
theorem dX9_shared_9 : decode cX9_shared 9 = .ok (.iload_n 2, 1) := by decide +kernel
theorem dX9_shared_10 : decode cX9_shared 10 = .ok (.iconst 0, 1) := by decide +kernel
theorem dX9_shared_11 : decode cX9_shared 11 = .ok (.bipush 13, 2) := by decide +kernel
theorem dX9_shared_13 : decode cX9_shared 13 = .ok (.invokestatic 128, 3) := by decide +kernel
theorem dX9_shared_16 : decode cX9_shared 16 = .ok (.ifCond .eq 26, 3) := by decide +kernel
theorem dX9_shared_19 : decode cX9_shared 19 = .ok (.aload_n 0, 1) := by decide +kernel
theorem dX9_shared_20 : decode cX9_shared 20 = .ok (.getfield 68, 3) := by decide +kernel
theorem dX9_shared_23 : decode cX9_shared 23 = .ok (.bipush 14, 2) := by decide +kernel
theorem dX9_shared_25 : decode cX9_shared 25 = .ok (.iload_n 1, 1) := by decide +kernel
theorem dX9_shared_26 : decode cX9_shared 26 = .ok (.imul, 1) := by decide +kernel
theorem dX9_shared_27 : decode cX9_shared 27 = .ok (.iload_n 2, 1) := by decide +kernel
theorem dX9_shared_28 : decode cX9_shared 28 = .ok (.iadd, 1) := by decide +kernel
theorem dX9_shared_29 : decode cX9_shared 29 = .ok (.iaload, 1) := by decide +kernel
theorem dX9_shared_30 : decode cX9_shared 30 = .ok (.ifCond .lt 12, 3) := by decide +kernel
theorem dX9_shared_33 : decode cX9_shared 33 = .ok (.iload_n 3, 1) := by decide +kernel
theorem dX9_shared_34 : decode cX9_shared 34 = .ok (.iconst 0, 1) := by decide +kernel
theorem dX9_shared_35 : decode cX9_shared 35 = .ok (.iconst 3, 1) := by decide +kernel
theorem dX9_shared_36 : decode cX9_shared 36 = .ok (.invokestatic 128, 3) := by decide +kernel
theorem dX9_shared_39 : decode cX9_shared 39 = .ok (.ifCond .ne 7, 3) := by decide +kernel
theorem dX9_shared_42 : decode cX9_shared 42 = .ok (.iconst 1, 1) := by decide +kernel
theorem dX9_shared_43 : decode cX9_shared 43 = .ok (.goto 4, 3) := by decide +kernel
theorem dX9_shared_46 : decode cX9_shared 46 = .ok (.iconst 0, 1) := by decide +kernel
theorem dX9_shared_47 : decode cX9_shared 47 = .ok (.invokevirtual 253, 3) := by decide +kernel
theorem dX9_shared_50 : decode cX9_shared 50 = .ok (.ifCond .eq 5, 3) := by decide +kernel
theorem dX9_shared_53 : decode cX9_shared 53 = .ok (.iconst 0, 1) := by decide +kernel
theorem dX9_shared_54 : decode cX9_shared 54 = .ok (.ireturn, 1) := by decide +kernel
theorem dX9_shared_55 : decode cX9_shared 55 = .ok (.aload_n 0, 1) := by decide +kernel
theorem dX9_shared_56 : decode cX9_shared 56 = .ok (.iload_n 1, 1) := by decide +kernel
theorem dX9_shared_57 : decode cX9_shared 57 = .ok (.aload_n 0, 1) := by decide +kernel
theorem dX9_shared_58 : decode cX9_shared 58 = .ok (.getfield 68, 3) := by decide +kernel
theorem dX9_shared_61 : decode cX9_shared 61 = .ok (.bipush 14, 2) := by decide +kernel
theorem dX9_shared_63 : decode cX9_shared 63 = .ok (.iload_n 1, 1) := by decide +kernel
theorem dX9_shared_64 : decode cX9_shared 64 = .ok (.imul, 1) := by decide +kernel
theorem dX9_shared_65 : decode cX9_shared 65 = .ok (.iload_n 2, 1) := by decide +kernel
theorem dX9_shared_66 : decode cX9_shared 66 = .ok (.iadd, 1) := by decide +kernel
theorem dX9_shared_67 : decode cX9_shared 67 = .ok (.iaload, 1) := by decide +kernel
theorem dX9_shared_68 : decode cX9_shared 68 = .ok (.iload_n 3, 1) := by decide +kernel
theorem dX9_shared_69 : decode cX9_shared 69 = .ok (.invokevirtual 257, 3) := by decide +kernel
theorem dX9_shared_72 : decode cX9_shared 72 = .ok (.ireturn, 1) := by decide +kernel
theorem dX9_sum_0 : decode cX9_sum 0 = .ok (.aload_n 0, 1) := by decide +kernel
theorem dX9_sum_1 : decode cX9_sum 1 = .ok (.iconst 0, 1) := by decide +kernel
theorem dX9_sum_2 : decode cX9_sum 2 = .ok (.putfield 102, 3) := by decide +kernel
theorem dX9_sum_5 : decode cX9_sum 5 = .ok (.iload_n 1, 1) := by decide +kernel
theorem dX9_sum_6 : decode cX9_sum 6 = .ok (.iconst 0, 1) := by decide +kernel
theorem dX9_sum_7 : decode cX9_sum 7 = .ok (.iconst 4, 1) := by decide +kernel
theorem dX9_sum_8 : decode cX9_sum 8 = .ok (.invokestatic 128, 3) := by decide +kernel
theorem dX9_sum_11 : decode cX9_sum 11 = .ok (.ifCond .ne 5, 3) := by decide +kernel
theorem dX9_sum_14 : decode cX9_sum 14 = .ok (.iconst (-1), 1) := by decide +kernel
theorem dX9_sum_15 : decode cX9_sum 15 = .ok (.ireturn, 1) := by decide +kernel
theorem dX9_sum_16 : decode cX9_sum 16 = .ok (.iconst 0, 1) := by decide +kernel
theorem dX9_sum_17 : decode cX9_sum 17 = .ok (.istore_n 2, 1) := by decide +kernel
theorem dX9_sum_18 : decode cX9_sum 18 = .ok (.iconst 0, 1) := by decide +kernel
theorem dX9_sum_19 : decode cX9_sum 19 = .ok (.istore_n 3, 1) := by decide +kernel
theorem dX9_sum_20 : decode cX9_sum 20 = .ok (.iload_n 3, 1) := by decide +kernel
theorem dX9_sum_21 : decode cX9_sum 21 = .ok (.aload_n 0, 1) := by decide +kernel
theorem dX9_sum_22 : decode cX9_sum 22 = .ok (.getfield 122, 3) := by decide +kernel
theorem dX9_sum_25 : decode cX9_sum 25 = .ok (.if_icmp .ge 70, 3) := by decide +kernel
theorem dX9_sum_28 : decode cX9_sum 28 = .ok (.iconst 0, 1) := by decide +kernel
theorem dX9_sum_29 : decode cX9_sum 29 = .ok (.istore 4, 2) := by decide +kernel
theorem dX9_sum_31 : decode cX9_sum 31 = .ok (.iload 4, 2) := by decide +kernel
theorem dX9_sum_33 : decode cX9_sum 33 = .ok (.bipush 14, 2) := by decide +kernel
theorem dX9_sum_35 : decode cX9_sum 35 = .ok (.if_icmp .ge 54, 3) := by decide +kernel
theorem dX9_sum_38 : decode cX9_sum 38 = .ok (.aload_n 0, 1) := by decide +kernel
theorem dX9_sum_39 : decode cX9_sum 39 = .ok (.getfield 68, 3) := by decide +kernel
theorem dX9_sum_42 : decode cX9_sum 42 = .ok (.bipush 14, 2) := by decide +kernel
theorem dX9_sum_44 : decode cX9_sum 44 = .ok (.iload_n 3, 1) := by decide +kernel
theorem dX9_sum_45 : decode cX9_sum 45 = .ok (.imul, 1) := by decide +kernel
theorem dX9_sum_46 : decode cX9_sum 46 = .ok (.iload 4, 2) := by decide +kernel
theorem dX9_sum_48 : decode cX9_sum 48 = .ok (.iadd, 1) := by decide +kernel
theorem dX9_sum_49 : decode cX9_sum 49 = .ok (.iaload, 1) := by decide +kernel
theorem dX9_sum_50 : decode cX9_sum 50 = .ok (.ifCond .lt 33, 3) := by decide +kernel
theorem dX9_sum_53 : decode cX9_sum 53 = .ok (.iload_n 2, 1) := by decide +kernel
theorem dX9_sum_54 : decode cX9_sum 54 = .ok (.iload_n 1, 1) := by decide +kernel
theorem dX9_sum_55 : decode cX9_sum 55 = .ok (.iconst 4, 1) := by decide +kernel
theorem dX9_sum_56 : decode cX9_sum 56 = .ok (.if_icmp .ne 7, 3) := by decide +kernel
theorem dX9_sum_59 : decode cX9_sum 59 = .ok (.iconst 1, 1) := by decide +kernel
theorem dX9_sum_60 : decode cX9_sum 60 = .ok (.goto 21, 3) := by decide +kernel
theorem dX9_sum_63 : decode cX9_sum 63 = .ok (.aload_n 0, 1) := by decide +kernel
theorem dX9_sum_64 : decode cX9_sum 64 = .ok (.iload_n 3, 1) := by decide +kernel
theorem dX9_sum_65 : decode cX9_sum 65 = .ok (.aload_n 0, 1) := by decide +kernel
theorem dX9_sum_66 : decode cX9_sum 66 = .ok (.getfield 68, 3) := by decide +kernel
theorem dX9_sum_69 : decode cX9_sum 69 = .ok (.bipush 14, 2) := by decide +kernel
theorem dX9_sum_71 : decode cX9_sum 71 = .ok (.iload_n 3, 1) := by decide +kernel
theorem dX9_sum_72 : decode cX9_sum 72 = .ok (.imul, 1) := by decide +kernel
theorem dX9_sum_73 : decode cX9_sum 73 = .ok (.iload 4, 2) := by decide +kernel
theorem dX9_sum_75 : decode cX9_sum 75 = .ok (.iadd, 1) := by decide +kernel
theorem dX9_sum_76 : decode cX9_sum 76 = .ok (.iaload, 1) := by decide +kernel
theorem dX9_sum_77 : decode cX9_sum 77 = .ok (.iload_n 1, 1) := by decide +kernel
theorem dX9_sum_78 : decode cX9_sum 78 = .ok (.invokevirtual 257, 3) := by decide +kernel
theorem dX9_sum_81 : decode cX9_sum 81 = .ok (.iadd, 1) := by decide +kernel
theorem dX9_sum_82 : decode cX9_sum 82 = .ok (.istore_n 2, 1) := by decide +kernel
theorem dX9_sum_83 : decode cX9_sum 83 = .ok (.iinc 4 1, 3) := by decide +kernel
theorem dX9_sum_86 : decode cX9_sum 86 = .ok (.goto (-55), 3) := by decide +kernel
theorem dX9_sum_89 : decode cX9_sum 89 = .ok (.iinc 3 1, 3) := by decide +kernel
theorem dX9_sum_92 : decode cX9_sum 92 = .ok (.goto (-72), 3) := by decide +kernel
theorem dX9_sum_95 : decode cX9_sum 95 = .ok (.iload_n 2, 1) := by decide +kernel
theorem dX9_sum_96 : decode cX9_sum 96 = .ok (.ireturn, 1) := by decide +kernel
theorem dX9_keeps_0 : decode cX9_keeps 0 = .ok (.aload_n 0, 1) := by decide +kernel
theorem dX9_keeps_1 : decode cX9_keeps 1 = .ok (.aload_n 0, 1) := by decide +kernel
theorem dX9_keeps_2 : decode cX9_keeps 2 = .ok (.iload_n 1, 1) := by decide +kernel
theorem dX9_keeps_3 : decode cX9_keeps 3 = .ok (.invokevirtual 140, 3) := by decide +kernel
theorem dX9_keeps_6 : decode cX9_keeps 6 = .ok (.ifCond .ne 7, 3) := by decide +kernel
theorem dX9_keeps_9 : decode cX9_keeps 9 = .ok (.iconst 1, 1) := by decide +kernel
theorem dX9_keeps_10 : decode cX9_keeps 10 = .ok (.goto 4, 3) := by decide +kernel
theorem dX9_keeps_13 : decode cX9_keeps 13 = .ok (.iconst 0, 1) := by decide +kernel
theorem dX9_keeps_14 : decode cX9_keeps 14 = .ok (.invokevirtual 253, 3) := by decide +kernel
theorem dX9_keeps_17 : decode cX9_keeps 17 = .ok (.ifCond .eq 5, 3) := by decide +kernel
theorem dX9_keeps_20 : decode cX9_keeps 20 = .ok (.iconst 0, 1) := by decide +kernel
theorem dX9_keeps_21 : decode cX9_keeps 21 = .ok (.ireturn, 1) := by decide +kernel
theorem dX9_keeps_22 : decode cX9_keeps 22 = .ok (.iconst 0, 1) := by decide +kernel
theorem dX9_keeps_23 : decode cX9_keeps 23 = .ok (.istore_n 2, 1) := by decide +kernel
theorem dX9_keeps_24 : decode cX9_keeps 24 = .ok (.iconst 0, 1) := by decide +kernel
theorem dX9_keeps_25 : decode cX9_keeps 25 = .ok (.istore_n 3, 1) := by decide +kernel
theorem dX9_keeps_26 : decode cX9_keeps 26 = .ok (.iload_n 3, 1) := by decide +kernel
theorem dX9_keeps_27 : decode cX9_keeps 27 = .ok (.aload_n 0, 1) := by decide +kernel
theorem dX9_keeps_28 : decode cX9_keeps 28 = .ok (.getfield 122, 3) := by decide +kernel
theorem dX9_keeps_31 : decode cX9_keeps 31 = .ok (.if_icmp .ge 77, 3) := by decide +kernel
theorem dX9_keeps_34 : decode cX9_keeps 34 = .ok (.iconst 0, 1) := by decide +kernel
theorem dX9_keeps_35 : decode cX9_keeps 35 = .ok (.istore 4, 2) := by decide +kernel
theorem dX9_keeps_37 : decode cX9_keeps 37 = .ok (.iload 4, 2) := by decide +kernel
theorem dX9_keeps_39 : decode cX9_keeps 39 = .ok (.bipush 14, 2) := by decide +kernel
theorem dX9_keeps_41 : decode cX9_keeps 41 = .ok (.if_icmp .ge 61, 3) := by decide +kernel
theorem dX9_keeps_44 : decode cX9_keeps 44 = .ok (.aload_n 0, 1) := by decide +kernel
theorem dX9_keeps_45 : decode cX9_keeps 45 = .ok (.getfield 68, 3) := by decide +kernel
theorem dX9_keeps_48 : decode cX9_keeps 48 = .ok (.bipush 14, 2) := by decide +kernel
theorem dX9_keeps_50 : decode cX9_keeps 50 = .ok (.iload_n 3, 1) := by decide +kernel
theorem dX9_keeps_51 : decode cX9_keeps 51 = .ok (.imul, 1) := by decide +kernel
theorem dX9_keeps_52 : decode cX9_keeps 52 = .ok (.iload 4, 2) := by decide +kernel
theorem dX9_keeps_54 : decode cX9_keeps 54 = .ok (.iadd, 1) := by decide +kernel
theorem dX9_keeps_55 : decode cX9_keeps 55 = .ok (.iaload, 1) := by decide +kernel
theorem dX9_keeps_56 : decode cX9_keeps 56 = .ok (.ifCond .lt 40, 3) := by decide +kernel
theorem dX9_keeps_59 : decode cX9_keeps 59 = .ok (.aload_n 0, 1) := by decide +kernel
theorem dX9_keeps_60 : decode cX9_keeps 60 = .ok (.getfield 65, 3) := by decide +kernel
theorem dX9_keeps_63 : decode cX9_keeps 63 = .ok (.bipush 14, 2) := by decide +kernel
theorem dX9_keeps_65 : decode cX9_keeps 65 = .ok (.iload_n 3, 1) := by decide +kernel
theorem dX9_keeps_66 : decode cX9_keeps 66 = .ok (.imul, 1) := by decide +kernel
theorem dX9_keeps_67 : decode cX9_keeps 67 = .ok (.iload 4, 2) := by decide +kernel
theorem dX9_keeps_69 : decode cX9_keeps 69 = .ok (.iadd, 1) := by decide +kernel
theorem dX9_keeps_70 : decode cX9_keeps 70 = .ok (.iaload, 1) := by decide +kernel
theorem dX9_keeps_71 : decode cX9_keeps 71 = .ok (.iload_n 1, 1) := by decide +kernel
theorem dX9_keeps_72 : decode cX9_keeps 72 = .ok (.if_icmp .ne 24, 3) := by decide +kernel
theorem dX9_keeps_75 : decode cX9_keeps 75 = .ok (.iload_n 2, 1) := by decide +kernel
theorem dX9_keeps_76 : decode cX9_keeps 76 = .ok (.aload_n 0, 1) := by decide +kernel
theorem dX9_keeps_77 : decode cX9_keeps 77 = .ok (.iload_n 3, 1) := by decide +kernel
theorem dX9_keeps_78 : decode cX9_keeps 78 = .ok (.aload_n 0, 1) := by decide +kernel
theorem dX9_keeps_79 : decode cX9_keeps 79 = .ok (.getfield 68, 3) := by decide +kernel
theorem dX9_keeps_82 : decode cX9_keeps 82 = .ok (.bipush 14, 2) := by decide +kernel
theorem dX9_keeps_84 : decode cX9_keeps 84 = .ok (.iload_n 3, 1) := by decide +kernel
theorem dX9_keeps_85 : decode cX9_keeps 85 = .ok (.imul, 1) := by decide +kernel
theorem dX9_keeps_86 : decode cX9_keeps 86 = .ok (.iload 4, 2) := by decide +kernel
theorem dX9_keeps_88 : decode cX9_keeps 88 = .ok (.iadd, 1) := by decide +kernel
theorem dX9_keeps_89 : decode cX9_keeps 89 = .ok (.iaload, 1) := by decide +kernel
theorem dX9_keeps_90 : decode cX9_keeps 90 = .ok (.iconst 2, 1) := by decide +kernel
theorem dX9_keeps_91 : decode cX9_keeps 91 = .ok (.invokevirtual 257, 3) := by decide +kernel
theorem dX9_keeps_94 : decode cX9_keeps 94 = .ok (.iadd, 1) := by decide +kernel
theorem dX9_keeps_95 : decode cX9_keeps 95 = .ok (.istore_n 2, 1) := by decide +kernel
theorem dX9_keeps_96 : decode cX9_keeps 96 = .ok (.iinc 4 1, 3) := by decide +kernel
theorem dX9_keeps_99 : decode cX9_keeps 99 = .ok (.goto (-62), 3) := by decide +kernel
theorem dX9_keeps_102 : decode cX9_keeps 102 = .ok (.iinc 3 1, 3) := by decide +kernel
theorem dX9_keeps_105 : decode cX9_keeps 105 = .ok (.goto (-79), 3) := by decide +kernel
theorem dX9_keeps_108 : decode cX9_keeps 108 = .ok (.iload_n 2, 1) := by decide +kernel
theorem dX9_keeps_109 : decode cX9_keeps 109 = .ok (.ireturn, 1) := by decide +kernel
theorem dX9_term_0 : decode cX9_term 0 = .ok (.aload_n 0, 1) := by decide +kernel
theorem dX9_term_1 : decode cX9_term 1 = .ok (.ldc2_w 219, 3) := by decide +kernel
theorem dX9_term_4 : decode cX9_term 4 = .ok (.invokevirtual 221, 3) := by decide +kernel
theorem dX9_term_7 : decode cX9_term 7 = .ok (.ifCond .eq 7, 3) := by decide +kernel
theorem dX9_term_10 : decode cX9_term 10 = .ok (.iconst 0, 1) := by decide +kernel
theorem dX9_term_11 : decode cX9_term 11 = .ok (.goto 48, 3) := by decide +kernel
theorem dX9_term_14 : decode cX9_term 14 = .ok (.aload_n 0, 1) := by decide +kernel
theorem dX9_term_15 : decode cX9_term 15 = .ok (.ldc2_w 225, 3) := by decide +kernel
theorem dX9_term_18 : decode cX9_term 18 = .ok (.invokevirtual 221, 3) := by decide +kernel
theorem dX9_term_21 : decode cX9_term 21 = .ok (.ifCond .eq 7, 3) := by decide +kernel
theorem dX9_term_24 : decode cX9_term 24 = .ok (.iconst 2, 1) := by decide +kernel
theorem dX9_term_25 : decode cX9_term 25 = .ok (.goto 34, 3) := by decide +kernel
theorem dX9_term_28 : decode cX9_term 28 = .ok (.aload_n 0, 1) := by decide +kernel
theorem dX9_term_29 : decode cX9_term 29 = .ok (.ldc2_w 227, 3) := by decide +kernel
theorem dX9_term_32 : decode cX9_term 32 = .ok (.invokevirtual 221, 3) := by decide +kernel
theorem dX9_term_35 : decode cX9_term 35 = .ok (.ifCond .eq 8, 3) := by decide +kernel
theorem dX9_term_38 : decode cX9_term 38 = .ok (.bipush 8, 2) := by decide +kernel
theorem dX9_term_40 : decode cX9_term 40 = .ok (.goto 19, 3) := by decide +kernel
theorem dX9_term_43 : decode cX9_term 43 = .ok (.aload_n 0, 1) := by decide +kernel
theorem dX9_term_44 : decode cX9_term 44 = .ok (.ldc2_w 229, 3) := by decide +kernel
theorem dX9_term_47 : decode cX9_term 47 = .ok (.invokevirtual 221, 3) := by decide +kernel
theorem dX9_term_50 : decode cX9_term 50 = .ok (.ifCond .eq 8, 3) := by decide +kernel
theorem dX9_term_53 : decode cX9_term 53 = .ok (.bipush 10, 2) := by decide +kernel
theorem dX9_term_55 : decode cX9_term 55 = .ok (.goto 4, 3) := by decide +kernel
theorem dX9_term_58 : decode cX9_term 58 = .ok (.iconst (-1), 1) := by decide +kernel
theorem dX9_term_59 : decode cX9_term 59 = .ok (.istore_n 1, 1) := by decide +kernel
theorem dX9_term_60 : decode cX9_term 60 = .ok (.iload_n 1, 1) := by decide +kernel
theorem dX9_term_61 : decode cX9_term 61 = .ok (.ifCond .ge 8, 3) := by decide +kernel
theorem dX9_term_64 : decode cX9_term 64 = .ok (.aload_n 0, 1) := by decide +kernel
theorem dX9_term_65 : decode cX9_term 65 = .ok (.invokevirtual 231, 3) := by decide +kernel
theorem dX9_term_68 : decode cX9_term 68 = .ok (.ireturn, 1) := by decide +kernel
theorem dX9_term_69 : decode cX9_term 69 = .ok (.aload_n 0, 1) := by decide +kernel
theorem dX9_term_70 : decode cX9_term 70 = .ok (.getfield 99, 3) := by decide +kernel
theorem dX9_term_73 : decode cX9_term 73 = .ok (.bipush 73, 2) := by decide +kernel
theorem dX9_term_75 : decode cX9_term 75 = .ok (.iaload, 1) := by decide +kernel
theorem dX9_term_76 : decode cX9_term 76 = .ok (.istore_n 2, 1) := by decide +kernel
theorem dX9_term_77 : decode cX9_term 77 = .ok (.iload_n 1, 1) := by decide +kernel
theorem dX9_term_78 : decode cX9_term 78 = .ok (.iconst 2, 1) := by decide +kernel
theorem dX9_term_79 : decode cX9_term 79 = .ok (.if_icmp .ne 11, 3) := by decide +kernel
theorem dX9_term_82 : decode cX9_term 82 = .ok (.iload_n 2, 1) := by decide +kernel
theorem dX9_term_83 : decode cX9_term 83 = .ok (.iconst 3, 1) := by decide +kernel
theorem dX9_term_84 : decode cX9_term 84 = .ok (.if_icmp .ne 28, 3) := by decide +kernel
theorem dX9_term_87 : decode cX9_term 87 = .ok (.goto 15, 3) := by decide +kernel
theorem dX9_term_90 : decode cX9_term 90 = .ok (.aload_n 0, 1) := by decide +kernel
theorem dX9_term_91 : decode cX9_term 91 = .ok (.getfield 209, 3) := by decide +kernel
theorem dX9_term_94 : decode cX9_term 94 = .ok (.iload_n 1, 1) := by decide +kernel
theorem dX9_term_95 : decode cX9_term 95 = .ok (.ishr, 1) := by decide +kernel
theorem dX9_term_96 : decode cX9_term 96 = .ok (.iconst 1, 1) := by decide +kernel
theorem dX9_term_97 : decode cX9_term 97 = .ok (.iand, 1) := by decide +kernel
theorem dX9_term_98 : decode cX9_term 98 = .ok (.iconst 1, 1) := by decide +kernel
theorem dX9_term_99 : decode cX9_term 99 = .ok (.if_icmp .ne 13, 3) := by decide +kernel
theorem dX9_term_102 : decode cX9_term 102 = .ok (.aload_n 0, 1) := by decide +kernel
theorem dX9_term_103 : decode cX9_term 103 = .ok (.iconst 4, 1) := by decide +kernel
theorem dX9_term_104 : decode cX9_term 104 = .ok (.aload_n 0, 1) := by decide +kernel
theorem dX9_term_105 : decode cX9_term 105 = .ok (.getfield 181, 3) := by decide +kernel
theorem dX9_term_108 : decode cX9_term 108 = .ok (.invokevirtual 206, 3) := by decide +kernel
theorem dX9_term_111 : decode cX9_term 111 = .ok (.ireturn, 1) := by decide +kernel
theorem dX9_term_112 : decode cX9_term 112 = .ok (.aload_n 0, 1) := by decide +kernel
theorem dX9_term_113 : decode cX9_term 113 = .ok (.aload_n 0, 1) := by decide +kernel
theorem dX9_term_114 : decode cX9_term 114 = .ok (.getfield 209, 3) := by decide +kernel
theorem dX9_term_117 : decode cX9_term 117 = .ok (.iconst 1, 1) := by decide +kernel
theorem dX9_term_118 : decode cX9_term 118 = .ok (.iload_n 1, 1) := by decide +kernel
theorem dX9_term_119 : decode cX9_term 119 = .ok (.ishl, 1) := by decide +kernel
theorem dX9_term_120 : decode cX9_term 120 = .ok (.ior, 1) := by decide +kernel
theorem dX9_term_121 : decode cX9_term 121 = .ok (.putfield 209, 3) := by decide +kernel
theorem dX9_term_124 : decode cX9_term 124 = .ok (.aload_n 0, 1) := by decide +kernel
theorem dX9_term_125 : decode cX9_term 125 = .ok (.invokevirtual 212, 3) := by decide +kernel
theorem dX9_term_128 : decode cX9_term 128 = .ok (.iload_n 1, 1) := by decide +kernel
theorem dX9_term_129 : decode cX9_term 129 = .ok (.ifCond .ne 15, 3) := by decide +kernel
theorem dX9_term_132 : decode cX9_term 132 = .ok (.aload_n 0, 1) := by decide +kernel
theorem dX9_term_133 : decode cX9_term 133 = .ok (.iconst 0, 1) := by decide +kernel
theorem dX9_term_134 : decode cX9_term 134 = .ok (.ldc 234, 2) := by decide +kernel
theorem dX9_term_136 : decode cX9_term 136 = .ok (.iconst (-1), 1) := by decide +kernel
theorem dX9_term_137 : decode cX9_term 137 = .ok (.invokevirtual 235, 3) := by decide +kernel
theorem dX9_term_140 : decode cX9_term 140 = .ok (.istore_n 3, 1) := by decide +kernel
theorem dX9_term_141 : decode cX9_term 141 = .ok (.goto 196, 3) := by decide +kernel
theorem dX9_term_144 : decode cX9_term 144 = .ok (.iload_n 1, 1) := by decide +kernel
theorem dX9_term_145 : decode cX9_term 145 = .ok (.iconst 2, 1) := by decide +kernel
theorem dX9_term_146 : decode cX9_term 146 = .ok (.if_icmp .ne 80, 3) := by decide +kernel
theorem dX9_term_149 : decode cX9_term 149 = .ok (.aload_n 0, 1) := by decide +kernel
theorem dX9_term_150 : decode cX9_term 150 = .ok (.iconst 2, 1) := by decide +kernel
theorem dX9_term_151 : decode cX9_term 151 = .ok (.iload_n 2, 1) := by decide +kernel
theorem dX9_term_152 : decode cX9_term 152 = .ok (.iadd, 1) := by decide +kernel
theorem dX9_term_153 : decode cX9_term 153 = .ok (.bipush 100, 2) := by decide +kernel
theorem dX9_term_155 : decode cX9_term 155 = .ok (.iconst (-1), 1) := by decide +kernel
theorem dX9_term_156 : decode cX9_term 156 = .ok (.invokevirtual 235, 3) := by decide +kernel
theorem dX9_term_159 : decode cX9_term 159 = .ok (.ifCond .eq 48, 3) := by decide +kernel
theorem dX9_term_162 : decode cX9_term 162 = .ok (.aload_n 0, 1) := by decide +kernel
theorem dX9_term_163 : decode cX9_term 163 = .ok (.ldc2_w 238, 3) := by decide +kernel
theorem dX9_term_166 : decode cX9_term 166 = .ok (.invokevirtual 240, 3) := by decide +kernel
theorem dX9_term_169 : decode cX9_term 169 = .ok (.ifCond .eq 38, 3) := by decide +kernel
theorem dX9_term_172 : decode cX9_term 172 = .ok (.aload_n 0, 1) := by decide +kernel
theorem dX9_term_173 : decode cX9_term 173 = .ok (.iconst 5, 1) := by decide +kernel
theorem dX9_term_174 : decode cX9_term 174 = .ok (.iload_n 2, 1) := by decide +kernel
theorem dX9_term_175 : decode cX9_term 175 = .ok (.iadd, 1) := by decide +kernel
theorem dX9_term_176 : decode cX9_term 176 = .ok (.ldc 234, 2) := by decide +kernel
theorem dX9_term_178 : decode cX9_term 178 = .ok (.iload_n 2, 1) := by decide +kernel
theorem dX9_term_179 : decode cX9_term 179 = .ok (.ifCond .ne 7, 3) := by decide +kernel
theorem dX9_term_182 : decode cX9_term 182 = .ok (.iconst (-1), 1) := by decide +kernel
theorem dX9_term_183 : decode cX9_term 183 = .ok (.goto 14, 3) := by decide +kernel
theorem dX9_term_186 : decode cX9_term 186 = .ok (.aload_n 0, 1) := by decide +kernel
theorem dX9_term_187 : decode cX9_term 187 = .ok (.getfield 99, 3) := by decide +kernel
theorem dX9_term_190 : decode cX9_term 190 = .ok (.bipush 77, 2) := by decide +kernel
theorem dX9_term_192 : decode cX9_term 192 = .ok (.iload_n 2, 1) := by decide +kernel
theorem dX9_term_193 : decode cX9_term 193 = .ok (.iadd, 1) := by decide +kernel
theorem dX9_term_194 : decode cX9_term 194 = .ok (.iconst 1, 1) := by decide +kernel
theorem dX9_term_195 : decode cX9_term 195 = .ok (.isub, 1) := by decide +kernel
theorem dX9_term_196 : decode cX9_term 196 = .ok (.iaload, 1) := by decide +kernel
theorem dX9_term_197 : decode cX9_term 197 = .ok (.invokevirtual 235, 3) := by decide +kernel
theorem dX9_term_200 : decode cX9_term 200 = .ok (.ifCond .eq 7, 3) := by decide +kernel
theorem dX9_term_203 : decode cX9_term 203 = .ok (.iconst 1, 1) := by decide +kernel
theorem dX9_term_204 : decode cX9_term 204 = .ok (.goto 4, 3) := by decide +kernel
theorem dX9_term_207 : decode cX9_term 207 = .ok (.iconst 0, 1) := by decide +kernel
theorem dX9_term_208 : decode cX9_term 208 = .ok (.istore_n 3, 1) := by decide +kernel
theorem dX9_term_209 : decode cX9_term 209 = .ok (.iload_n 3, 1) := by decide +kernel
theorem dX9_term_210 : decode cX9_term 210 = .ok (.ifCond .eq 127, 3) := by decide +kernel
theorem dX9_term_213 : decode cX9_term 213 = .ok (.aload_n 0, 1) := by decide +kernel
theorem dX9_term_214 : decode cX9_term 214 = .ok (.getfield 99, 3) := by decide +kernel
theorem dX9_term_217 : decode cX9_term 217 = .ok (.bipush 73, 2) := by decide +kernel
theorem dX9_term_219 : decode cX9_term 219 = .ok (.iload_n 2, 1) := by decide +kernel
theorem dX9_term_220 : decode cX9_term 220 = .ok (.iconst 1, 1) := by decide +kernel
theorem dX9_term_221 : decode cX9_term 221 = .ok (.iadd, 1) := by decide +kernel
theorem dX9_term_222 : decode cX9_term 222 = .ok (.iastore, 1) := by decide +kernel
theorem dX9_term_223 : decode cX9_term 223 = .ok (.goto 114, 3) := by decide +kernel
theorem dX9_term_226 : decode cX9_term 226 = .ok (.iload_n 1, 1) := by decide +kernel
theorem dX9_term_227 : decode cX9_term 227 = .ok (.bipush 8, 2) := by decide +kernel
theorem dX9_term_229 : decode cX9_term 229 = .ok (.if_icmp .ne 46, 3) := by decide +kernel
theorem dX9_term_232 : decode cX9_term 232 = .ok (.aload_n 0, 1) := by decide +kernel
theorem dX9_term_233 : decode cX9_term 233 = .ok (.bipush 8, 2) := by decide +kernel
theorem dX9_term_235 : decode cX9_term 235 = .ok (.bipush 100, 2) := by decide +kernel
theorem dX9_term_237 : decode cX9_term 237 = .ok (.iconst (-1), 1) := by decide +kernel
theorem dX9_term_238 : decode cX9_term 238 = .ok (.invokevirtual 235, 3) := by decide +kernel
theorem dX9_term_241 : decode cX9_term 241 = .ok (.ifCond .eq 29, 3) := by decide +kernel
theorem dX9_term_244 : decode cX9_term 244 = .ok (.aload_n 0, 1) := by decide +kernel
theorem dX9_term_245 : decode cX9_term 245 = .ok (.ldc2_w 243, 3) := by decide +kernel
theorem dX9_term_248 : decode cX9_term 248 = .ok (.invokevirtual 240, 3) := by decide +kernel
theorem dX9_term_251 : decode cX9_term 251 = .ok (.ifCond .eq 19, 3) := by decide +kernel
theorem dX9_term_254 : decode cX9_term 254 = .ok (.aload_n 0, 1) := by decide +kernel
theorem dX9_term_255 : decode cX9_term 255 = .ok (.bipush 9, 2) := by decide +kernel
theorem dX9_term_257 : decode cX9_term 257 = .ok (.ldc 234, 2) := by decide +kernel
theorem dX9_term_259 : decode cX9_term 259 = .ok (.iconst (-1), 1) := by decide +kernel
theorem dX9_term_260 : decode cX9_term 260 = .ok (.invokevirtual 235, 3) := by decide +kernel
theorem dX9_term_263 : decode cX9_term 263 = .ok (.ifCond .eq 7, 3) := by decide +kernel
theorem dX9_term_266 : decode cX9_term 266 = .ok (.iconst 1, 1) := by decide +kernel
theorem dX9_term_267 : decode cX9_term 267 = .ok (.goto 4, 3) := by decide +kernel
theorem dX9_term_270 : decode cX9_term 270 = .ok (.iconst 0, 1) := by decide +kernel
theorem dX9_term_271 : decode cX9_term 271 = .ok (.istore_n 3, 1) := by decide +kernel
theorem dX9_term_272 : decode cX9_term 272 = .ok (.goto 65, 3) := by decide +kernel
theorem dX9_term_275 : decode cX9_term 275 = .ok (.aload_n 0, 1) := by decide +kernel
theorem dX9_term_276 : decode cX9_term 276 = .ok (.ldc2_w 245, 3) := by decide +kernel
theorem dX9_term_279 : decode cX9_term 279 = .ok (.invokevirtual 221, 3) := by decide +kernel
theorem dX9_term_282 : decode cX9_term 282 = .ok (.istore 4, 2) := by decide +kernel
theorem dX9_term_284 : decode cX9_term 284 = .ok (.iload 4, 2) := by decide +kernel
theorem dX9_term_286 : decode cX9_term 286 = .ok (.ifCond .ne 20, 3) := by decide +kernel
theorem dX9_term_289 : decode cX9_term 289 = .ok (.aload_n 0, 1) := by decide +kernel
theorem dX9_term_290 : decode cX9_term 290 = .ok (.ldc2_w 247, 3) := by decide +kernel
theorem dX9_term_293 : decode cX9_term 293 = .ok (.invokevirtual 221, 3) := by decide +kernel
theorem dX9_term_296 : decode cX9_term 296 = .ok (.ifCond .ne 10, 3) := by decide +kernel
theorem dX9_term_299 : decode cX9_term 299 = .ok (.aload_n 0, 1) := by decide +kernel
theorem dX9_term_300 : decode cX9_term 300 = .ok (.invokevirtual 231, 3) := by decide +kernel
theorem dX9_term_303 : decode cX9_term 303 = .ok (.ifCond .eq 7, 3) := by decide +kernel
theorem dX9_term_306 : decode cX9_term 306 = .ok (.iconst 1, 1) := by decide +kernel
theorem dX9_term_307 : decode cX9_term 307 = .ok (.goto 4, 3) := by decide +kernel
theorem dX9_term_310 : decode cX9_term 310 = .ok (.iconst 0, 1) := by decide +kernel
theorem dX9_term_311 : decode cX9_term 311 = .ok (.istore_n 3, 1) := by decide +kernel
theorem dX9_term_312 : decode cX9_term 312 = .ok (.aload_n 0, 1) := by decide +kernel
theorem dX9_term_313 : decode cX9_term 313 = .ok (.getfield 99, 3) := by decide +kernel
theorem dX9_term_316 : decode cX9_term 316 = .ok (.bipush 82, 2) := by decide +kernel
theorem dX9_term_318 : decode cX9_term 318 = .ok (.iload 4, 2) := by decide +kernel
theorem dX9_term_320 : decode cX9_term 320 = .ok (.ifCond .eq 7, 3) := by decide +kernel
theorem dX9_term_323 : decode cX9_term 323 = .ok (.iconst 1, 1) := by decide +kernel
theorem dX9_term_324 : decode cX9_term 324 = .ok (.goto 4, 3) := by decide +kernel
theorem dX9_term_327 : decode cX9_term 327 = .ok (.iconst 0, 1) := by decide +kernel
theorem dX9_term_328 : decode cX9_term 328 = .ok (.iastore, 1) := by decide +kernel
theorem dX9_term_329 : decode cX9_term 329 = .ok (.iload_n 3, 1) := by decide +kernel
theorem dX9_term_330 : decode cX9_term 330 = .ok (.ifCond .eq 7, 3) := by decide +kernel
theorem dX9_term_333 : decode cX9_term 333 = .ok (.aload_n 0, 1) := by decide +kernel
theorem dX9_term_334 : decode cX9_term 334 = .ok (.invokevirtual 212, 3) := by decide +kernel
theorem dX9_term_337 : decode cX9_term 337 = .ok (.iload_n 3, 1) := by decide +kernel
theorem dX9_term_338 : decode cX9_term 338 = .ok (.ifCond .ne 5, 3) := by decide +kernel
theorem dX9_term_341 : decode cX9_term 341 = .ok (.iconst 0, 1) := by decide +kernel
theorem dX9_term_342 : decode cX9_term 342 = .ok (.ireturn, 1) := by decide +kernel
theorem dX9_term_343 : decode cX9_term 343 = .ok (.aload_n 0, 1) := by decide +kernel
theorem dX9_term_344 : decode cX9_term 344 = .ok (.getfield 184, 3) := by decide +kernel
theorem dX9_term_347 : decode cX9_term 347 = .ok (.iconst 3, 1) := by decide +kernel
theorem dX9_term_348 : decode cX9_term 348 = .ok (.if_icmp .eq 8, 3) := by decide +kernel
theorem dX9_term_351 : decode cX9_term 351 = .ok (.aload_n 0, 1) := by decide +kernel
theorem dX9_term_352 : decode cX9_term 352 = .ok (.invokevirtual 231, 3) := by decide +kernel
theorem dX9_term_355 : decode cX9_term 355 = .ok (.ireturn, 1) := by decide +kernel
theorem dX9_term_356 : decode cX9_term 356 = .ok (.aload_n 0, 1) := by decide +kernel
theorem dX9_term_357 : decode cX9_term 357 = .ok (.getfield 99, 3) := by decide +kernel
theorem dX9_term_360 : decode cX9_term 360 = .ok (.bipush 83, 2) := by decide +kernel
theorem dX9_term_362 : decode cX9_term 362 = .ok (.dup2, 1) := by decide +kernel
theorem dX9_term_363 : decode cX9_term 363 = .ok (.iaload, 1) := by decide +kernel
theorem dX9_term_364 : decode cX9_term 364 = .ok (.iconst 1, 1) := by decide +kernel
theorem dX9_term_365 : decode cX9_term 365 = .ok (.iadd, 1) := by decide +kernel
theorem dX9_term_366 : decode cX9_term 366 = .ok (.iastore, 1) := by decide +kernel
theorem dX9_term_367 : decode cX9_term 367 = .ok (.aload_n 0, 1) := by decide +kernel
theorem dX9_term_368 : decode cX9_term 368 = .ok (.invokevirtual 212, 3) := by decide +kernel
theorem dX9_term_371 : decode cX9_term 371 = .ok (.iconst 1, 1) := by decide +kernel
theorem dX9_term_372 : decode cX9_term 372 = .ok (.ireturn, 1) := by decide +kernel
theorem dX9_terms_0 : decode cX9_terms 0 = .ok (.aload_n 0, 1) := by decide +kernel
theorem dX9_terms_1 : decode cX9_terms 1 = .ok (.iconst 0, 1) := by decide +kernel
theorem dX9_terms_2 : decode cX9_terms 2 = .ok (.putfield 102, 3) := by decide +kernel
theorem dX9_terms_5 : decode cX9_terms 5 = .ok (.aload_n 0, 1) := by decide +kernel
theorem dX9_terms_6 : decode cX9_terms 6 = .ok (.invokevirtual 125, 3) := by decide +kernel
theorem dX9_terms_9 : decode cX9_terms 9 = .ok (.aload_n 0, 1) := by decide +kernel
theorem dX9_terms_10 : decode cX9_terms 10 = .ok (.iload_n 1, 1) := by decide +kernel
theorem dX9_terms_11 : decode cX9_terms 11 = .ok (.invokevirtual 144, 3) := by decide +kernel
theorem dX9_terms_14 : decode cX9_terms 14 = .ok (.ifCond .ne 7, 3) := by decide +kernel
theorem dX9_terms_17 : decode cX9_terms 17 = .ok (.sipush (-300), 3) := by decide +kernel
theorem dX9_terms_20 : decode cX9_terms 20 = .ok (.ireturn, 1) := by decide +kernel
theorem dX9_terms_21 : decode cX9_terms 21 = .ok (.aload_n 0, 1) := by decide +kernel
theorem dX9_terms_22 : decode cX9_terms 22 = .ok (.iconst 0, 1) := by decide +kernel
theorem dX9_terms_23 : decode cX9_terms 23 = .ok (.putfield 200, 3) := by decide +kernel
theorem dX9_terms_26 : decode cX9_terms 26 = .ok (.aload_n 0, 1) := by decide +kernel
theorem dX9_terms_27 : decode cX9_terms 27 = .ok (.iconst 0, 1) := by decide +kernel
theorem dX9_terms_28 : decode cX9_terms 28 = .ok (.putfield 209, 3) := by decide +kernel
theorem dX9_terms_31 : decode cX9_terms 31 = .ok (.iconst 0, 1) := by decide +kernel
theorem dX9_terms_32 : decode cX9_terms 32 = .ok (.istore_n 2, 1) := by decide +kernel
theorem dX9_terms_33 : decode cX9_terms 33 = .ok (.iload_n 2, 1) := by decide +kernel
theorem dX9_terms_34 : decode cX9_terms 34 = .ok (.bipush 12, 2) := by decide +kernel
theorem dX9_terms_36 : decode cX9_terms 36 = .ok (.if_icmp .ge 19, 3) := by decide +kernel
theorem dX9_terms_39 : decode cX9_terms 39 = .ok (.aload_n 0, 1) := by decide +kernel
theorem dX9_terms_40 : decode cX9_terms 40 = .ok (.getfield 99, 3) := by decide +kernel
theorem dX9_terms_43 : decode cX9_terms 43 = .ok (.bipush 72, 2) := by decide +kernel
theorem dX9_terms_45 : decode cX9_terms 45 = .ok (.iload_n 2, 1) := by decide +kernel
theorem dX9_terms_46 : decode cX9_terms 46 = .ok (.iadd, 1) := by decide +kernel
theorem dX9_terms_47 : decode cX9_terms 47 = .ok (.iconst 0, 1) := by decide +kernel
theorem dX9_terms_48 : decode cX9_terms 48 = .ok (.iastore, 1) := by decide +kernel
theorem dX9_terms_49 : decode cX9_terms 49 = .ok (.iinc 2 1, 3) := by decide +kernel
theorem dX9_terms_52 : decode cX9_terms 52 = .ok (.goto (-19), 3) := by decide +kernel
theorem dX9_terms_55 : decode cX9_terms 55 = .ok (.aload_n 0, 1) := by decide +kernel
theorem dX9_terms_56 : decode cX9_terms 56 = .ok (.invokevirtual 212, 3) := by decide +kernel
theorem dX9_terms_59 : decode cX9_terms 59 = .ok (.aload_n 0, 1) := by decide +kernel
theorem dX9_terms_60 : decode cX9_terms 60 = .ok (.getfield 184, 3) := by decide +kernel
theorem dX9_terms_63 : decode cX9_terms 63 = .ok (.ifCond .eq 17, 3) := by decide +kernel
theorem dX9_terms_66 : decode cX9_terms 66 = .ok (.aload_n 0, 1) := by decide +kernel
theorem dX9_terms_67 : decode cX9_terms 67 = .ok (.invokevirtual 215, 3) := by decide +kernel
theorem dX9_terms_70 : decode cX9_terms 70 = .ok (.ifCond .ne (-11), 3) := by decide +kernel
theorem dX9_terms_73 : decode cX9_terms 73 = .ok (.iconst (-1), 1) := by decide +kernel
theorem dX9_terms_74 : decode cX9_terms 74 = .ok (.aload_n 0, 1) := by decide +kernel
theorem dX9_terms_75 : decode cX9_terms 75 = .ok (.getfield 203, 3) := by decide +kernel
theorem dX9_terms_78 : decode cX9_terms 78 = .ok (.isub, 1) := by decide +kernel
theorem dX9_terms_79 : decode cX9_terms 79 = .ok (.ireturn, 1) := by decide +kernel
theorem dX9_terms_80 : decode cX9_terms 80 = .ok (.iconst 0, 1) := by decide +kernel
theorem dX9_terms_81 : decode cX9_terms 81 = .ok (.istore_n 2, 1) := by decide +kernel
theorem dX9_terms_82 : decode cX9_terms 82 = .ok (.iload_n 2, 1) := by decide +kernel
theorem dX9_terms_83 : decode cX9_terms 83 = .ok (.bipush 12, 2) := by decide +kernel
theorem dX9_terms_85 : decode cX9_terms 85 = .ok (.if_icmp .ge 29, 3) := by decide +kernel
theorem dX9_terms_88 : decode cX9_terms 88 = .ok (.aload_n 0, 1) := by decide +kernel
theorem dX9_terms_89 : decode cX9_terms 89 = .ok (.getfield 99, 3) := by decide +kernel
theorem dX9_terms_92 : decode cX9_terms 92 = .ok (.bipush 12, 2) := by decide +kernel
theorem dX9_terms_94 : decode cX9_terms 94 = .ok (.iload_n 1, 1) := by decide +kernel
theorem dX9_terms_95 : decode cX9_terms 95 = .ok (.imul, 1) := by decide +kernel
theorem dX9_terms_96 : decode cX9_terms 96 = .ok (.iload_n 2, 1) := by decide +kernel
theorem dX9_terms_97 : decode cX9_terms 97 = .ok (.iadd, 1) := by decide +kernel
theorem dX9_terms_98 : decode cX9_terms 98 = .ok (.aload_n 0, 1) := by decide +kernel
theorem dX9_terms_99 : decode cX9_terms 99 = .ok (.getfield 99, 3) := by decide +kernel
theorem dX9_terms_102 : decode cX9_terms 102 = .ok (.bipush 72, 2) := by decide +kernel
theorem dX9_terms_104 : decode cX9_terms 104 = .ok (.iload_n 2, 1) := by decide +kernel
theorem dX9_terms_105 : decode cX9_terms 105 = .ok (.iadd, 1) := by decide +kernel
theorem dX9_terms_106 : decode cX9_terms 106 = .ok (.iaload, 1) := by decide +kernel
theorem dX9_terms_107 : decode cX9_terms 107 = .ok (.iastore, 1) := by decide +kernel
theorem dX9_terms_108 : decode cX9_terms 108 = .ok (.iinc 2 1, 3) := by decide +kernel
theorem dX9_terms_111 : decode cX9_terms 111 = .ok (.goto (-29), 3) := by decide +kernel
theorem dX9_terms_114 : decode cX9_terms 114 = .ok (.aload_n 0, 1) := by decide +kernel
theorem dX9_terms_115 : decode cX9_terms 115 = .ok (.getfield 99, 3) := by decide +kernel
theorem dX9_terms_118 : decode cX9_terms 118 = .ok (.bipush 83, 2) := by decide +kernel
theorem dX9_terms_120 : decode cX9_terms 120 = .ok (.iaload, 1) := by decide +kernel
theorem dX9_terms_121 : decode cX9_terms 121 = .ok (.ireturn, 1) := by decide +kernel
