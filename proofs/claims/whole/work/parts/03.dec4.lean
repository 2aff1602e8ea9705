theorem dX12_hasChoice_24 : decode cX12_hasChoice 24 = .ok (.if_icmp .ne 7, 3) := by decide +kernel
theorem dX12_hasChoice_27 : decode cX12_hasChoice 27 = .ok (.iconst 1, 1) := by decide +kernel
theorem dX12_hasChoice_28 : decode cX12_hasChoice 28 = .ok (.goto 4, 3) := by decide +kernel
theorem dX12_hasChoice_31 : decode cX12_hasChoice 31 = .ok (.iconst 0, 1) := by decide +kernel
theorem dX12_hasChoice_32 : decode cX12_hasChoice 32 = .ok (.ireturn, 1) := by decide +kernel
theorem dX12_chooses_0 : decode cX12_chooses 0 = .ok (.aload_n 0, 1) := by decide +kernel
theorem dX12_chooses_1 : decode cX12_chooses 1 = .ok (.getfield 28, 3) := by decide +kernel
theorem dX12_chooses_4 : decode cX12_chooses 4 = .ok (.iload_n 1, 1) := by decide +kernel
theorem dX12_chooses_5 : decode cX12_chooses 5 = .ok (.iaload, 1) := by decide +kernel
theorem dX12_chooses_6 : decode cX12_chooses 6 = .ok (.iconst 4, 1) := by decide +kernel
theorem dX12_chooses_7 : decode cX12_chooses 7 = .ok (.if_icmp .eq 14, 3) := by decide +kernel
theorem dX12_chooses_10 : decode cX12_chooses 10 = .ok (.aload_n 0, 1) := by decide +kernel
theorem dX12_chooses_11 : decode cX12_chooses 11 = .ok (.getfield 28, 3) := by decide +kernel
theorem dX12_chooses_14 : decode cX12_chooses 14 = .ok (.iload_n 1, 1) := by decide +kernel
theorem dX12_chooses_15 : decode cX12_chooses 15 = .ok (.iaload, 1) := by decide +kernel
theorem dX12_chooses_16 : decode cX12_chooses 16 = .ok (.bipush 6, 2) := by decide +kernel
theorem dX12_chooses_18 : decode cX12_chooses 18 = .ok (.if_icmp .ne 13, 3) := by decide +kernel
theorem dX12_chooses_21 : decode cX12_chooses 21 = .ok (.aload_n 0, 1) := by decide +kernel
theorem dX12_chooses_22 : decode cX12_chooses 22 = .ok (.getfield 34, 3) := by decide +kernel
theorem dX12_chooses_25 : decode cX12_chooses 25 = .ok (.iload_n 1, 1) := by decide +kernel
theorem dX12_chooses_26 : decode cX12_chooses 26 = .ok (.iload_n 2, 1) := by decide +kernel
theorem dX12_chooses_27 : decode cX12_chooses 27 = .ok (.iastore, 1) := by decide +kernel
theorem dX12_chooses_28 : decode cX12_chooses 28 = .ok (.goto 10, 3) := by decide +kernel
theorem dX12_chooses_31 : decode cX12_chooses 31 = .ok (.aload_n 0, 1) := by decide +kernel
theorem dX12_chooses_32 : decode cX12_chooses 32 = .ok (.getfield 37, 3) := by decide +kernel
theorem dX12_chooses_35 : decode cX12_chooses 35 = .ok (.iload_n 1, 1) := by decide +kernel
theorem dX12_chooses_36 : decode cX12_chooses 36 = .ok (.iload_n 2, 1) := by decide +kernel
theorem dX12_chooses_37 : decode cX12_chooses 37 = .ok (.iastore, 1) := by decide +kernel
theorem dX12_chooses_38 : decode cX12_chooses 38 = .ok (.return_, 1) := by decide +kernel
set_option maxRecDepth 20000 in
theorem ggX12_mend_X12_isProgram : GoodIn wsX12_mend wsX12_isProgram := goodIn_r _ [10, 11, 12, 13, 9, 14, 246, 247, 248, 249, 250, 251, 252, 253, 254, 255, 256, 257, 258, 259, 260, 261, 262, 263, 264, 265, 266, 267, 268, 269, 270, 271, 272, 273, 274, 275, 276, 277, 278, 279, 280, 281, 282, 283, 284, 285, 286, 287, 288, 289, 290, 291, 292, 293, 294, 295, 296, 297] (by decide +kernel) (by decide +kernel)
set_option maxRecDepth 20000 in
theorem gX12_mend_X12_isProgram : GoodIn wsX12_mend (wsV RX12 172 RX12 yX12_isProgram wsX12_isProgram) := goodIn_app (goodIn_of _ (by decide +kernel)) ggX12_mend_X12_isProgram
set_option maxRecDepth 20000 in
theorem ggX12_mend_X12_in : GoodIn wsX12_mend wsX12_in := goodIn_r _ [14] (by decide +kernel) (by decide +kernel)
set_option maxRecDepth 20000 in
theorem gX12_mend_X12_in : GoodIn wsX12_mend (va_wsS RX12 159 yX12_in wsX12_in) := goodIn_app (goodIn_of _ (by decide +kernel)) ggX12_mend_X12_in
set_option maxRecDepth 20000 in
theorem ggX12_mend_X12_isSpan : GoodIn wsX12_mend wsX12_isSpan := goodIn_r _ [17, 18, 19, 12, 13, 9, 14] (by decide +kernel) (by decide +kernel)
set_option maxRecDepth 20000 in
theorem gX12_mend_X12_isSpan : GoodIn wsX12_mend (va_wsS RX12 354 yX12_isSpan wsX12_isSpan) := goodIn_app (goodIn_of _ (by decide +kernel)) ggX12_mend_X12_isSpan
set_option maxRecDepth 20000 in
theorem ggX12_mend_X12_leastOf : GoodIn wsX12_mend wsX12_leastOf := goodIn_r _ [23, 1, 24, 25, 26, 9, 27, 28, 29, 30, 31, 32, 33, 34, 35, 36, 37, 38, 39, 40, 41, 42, 43, 44, 45, 46, 47, 48, 49, 50, 2, 51, 52, 53, 54, 55, 56, 57, 58, 59, 60, 61, 62, 63, 64, 65, 4, 5, 3, 66, 67, 68, 69, 70, 71, 72, 73, 74, 75, 76, 77, 78, 79, 80, 81, 82, 83, 84, 85, 86, 87, 88, 89, 90, 91, 92, 93, 94, 95, 96, 97, 98, 99, 100, 101, 102, 103, 104, 105, 106, 107, 108, 109, 110, 111, 112, 113, 114, 115, 116, 117, 118, 119, 120, 121, 122, 123, 124, 125, 126, 127, 128, 129, 130, 131, 132, 133, 134, 135, 136, 137, 138, 139, 140, 141, 142, 143, 144, 145, 146, 147, 148, 149, 150, 151, 152, 153, 154, 155, 156, 157, 158, 159, 160, 161, 162, 163, 164, 165, 166, 167, 168, 169, 170, 171, 172, 173, 174, 175, 176, 177, 178, 179, 180, 181, 182, 183, 184, 185, 186, 187, 188, 189, 190, 191, 192, 193, 194, 195, 196, 197, 198, 199, 200, 201, 202, 203, 204, 205, 206, 207, 208, 209, 210, 211, 212, 213, 214, 215, 216, 217, 218, 219, 220, 221, 222, 223, 224, 225, 226, 227, 228, 229, 230, 231, 232, 233, 234, 235, 236, 237, 246, 247, 248, 249, 250, 251, 252, 253, 254, 255, 256, 257, 258, 259, 260, 261, 262, 263, 264, 265, 266, 267, 268, 269, 270, 271, 272, 273, 274, 275, 276, 277, 278, 279, 280, 281, 282, 283, 284, 285, 286, 287, 288, 289, 290, 291, 292, 293, 294, 295, 296, 297] (by decide +kernel) (by decide +kernel)
set_option maxRecDepth 20000 in
theorem gX12_mend_X12_leastOf : GoodIn wsX12_mend (wsV RX12 357 RX12 yX12_leastOf wsX12_leastOf) := goodIn_app (goodIn_of _ (by decide +kernel)) ggX12_mend_X12_leastOf
set_option maxRecDepth 20000 in
theorem ggX12_mend_X12_hasChoice : GoodIn wsX12_mend wsX12_hasChoice := goodIn_r _ [241] (by decide +kernel) (by decide +kernel)
set_option maxRecDepth 20000 in
theorem gX12_mend_X12_hasChoice : GoodIn wsX12_mend (wsV RX12 367 RX12 yX12_hasChoice wsX12_hasChoice) := goodIn_app (goodIn_of _ (by decide +kernel)) ggX12_mend_X12_hasChoice
set_option maxRecDepth 20000 in
theorem ggX12_mend_X12_chooses : GoodIn wsX12_mend wsX12_chooses := goodIn_r _ [245, 3, 4, 5, 246, 247, 248, 249, 250, 251, 252, 253, 254, 255, 256, 257, 258, 259, 260, 261, 262, 263, 264, 265, 266, 267, 268, 269, 270, 271, 272, 273, 274, 275, 276, 277, 278, 279, 280, 281, 282, 283, 284, 285, 286, 287, 288, 289, 290, 291, 292, 293, 294, 295, 296, 297] (by decide +kernel) (by decide +kernel)
set_option maxRecDepth 20000 in
theorem gX12_mend_X12_chooses : GoodIn wsX12_mend (wsV RX12 370 RX12 yX12_chooses wsX12_chooses) := goodIn_app (goodIn_of _ (by decide +kernel)) ggX12_mend_X12_chooses
theorem dX12_mend_0 : decode cX12_mend 0 = .ok (.aload_n 0, 1) := by decide +kernel
theorem dX12_mend_1 : decode cX12_mend 1 = .ok (.iload_n 1, 1) := by decide +kernel
theorem dX12_mend_2 : decode cX12_mend 2 = .ok (.invokevirtual 172, 3) := by decide +kernel
theorem dX12_mend_5 : decode cX12_mend 5 = .ok (.ifCond .eq 30, 3) := by decide +kernel
theorem dX12_mend_8 : decode cX12_mend 8 = .ok (.iload_n 2, 1) := by decide +kernel
theorem dX12_mend_9 : decode cX12_mend 9 = .ok (.iconst 0, 1) := by decide +kernel
theorem dX12_mend_10 : decode cX12_mend 10 = .ok (.bipush 6, 2) := by decide +kernel
theorem dX12_mend_12 : decode cX12_mend 12 = .ok (.invokestatic 159, 3) := by decide +kernel
theorem dX12_mend_15 : decode cX12_mend 15 = .ok (.ifCond .eq 20, 3) := by decide +kernel
theorem dX12_mend_18 : decode cX12_mend 18 = .ok (.iload_n 2, 1) := by decide +kernel
theorem dX12_mend_19 : decode cX12_mend 19 = .ok (.iconst 2, 1) := by decide +kernel
theorem dX12_mend_20 : decode cX12_mend 20 = .ok (.if_icmp .eq 15, 3) := by decide +kernel
theorem dX12_mend_23 : decode cX12_mend 23 = .ok (.iload_n 3, 1) := by decide +kernel
theorem dX12_mend_24 : decode cX12_mend 24 = .ok (.iload 4, 2) := by decide +kernel
theorem dX12_mend_26 : decode cX12_mend 26 = .ok (.sipush 300, 3) := by decide +kernel
theorem dX12_mend_29 : decode cX12_mend 29 = .ok (.invokestatic 354, 3) := by decide +kernel
theorem dX12_mend_32 : decode cX12_mend 32 = .ok (.ifCond .ne 5, 3) := by decide +kernel
theorem dX12_mend_35 : decode cX12_mend 35 = .ok (.iconst (-1), 1) := by decide +kernel
theorem dX12_mend_36 : decode cX12_mend 36 = .ok (.ireturn, 1) := by decide +kernel
theorem dX12_mend_37 : decode cX12_mend 37 = .ok (.aload_n 0, 1) := by decide +kernel
theorem dX12_mend_38 : decode cX12_mend 38 = .ok (.iload_n 1, 1) := by decide +kernel
theorem dX12_mend_39 : decode cX12_mend 39 = .ok (.iload_n 2, 1) := by decide +kernel
theorem dX12_mend_40 : decode cX12_mend 40 = .ok (.iconst (-1), 1) := by decide +kernel
theorem dX12_mend_41 : decode cX12_mend 41 = .ok (.iload_n 3, 1) := by decide +kernel
theorem dX12_mend_42 : decode cX12_mend 42 = .ok (.iload 4, 2) := by decide +kernel
theorem dX12_mend_44 : decode cX12_mend 44 = .ok (.invokevirtual 357, 3) := by decide +kernel
theorem dX12_mend_47 : decode cX12_mend 47 = .ok (.ldc_w 353, 3) := by decide +kernel
theorem dX12_mend_50 : decode cX12_mend 50 = .ok (.if_icmp .ne 7, 3) := by decide +kernel
theorem dX12_mend_53 : decode cX12_mend 53 = .ok (.ldc_w 353, 3) := by decide +kernel
theorem dX12_mend_56 : decode cX12_mend 56 = .ok (.ireturn, 1) := by decide +kernel
theorem dX12_mend_57 : decode cX12_mend 57 = .ok (.iconst 0, 1) := by decide +kernel
theorem dX12_mend_58 : decode cX12_mend 58 = .ok (.istore 5, 2) := by decide +kernel
theorem dX12_mend_60 : decode cX12_mend 60 = .ok (.iload 5, 2) := by decide +kernel
theorem dX12_mend_62 : decode cX12_mend 62 = .ok (.aload_n 0, 1) := by decide +kernel
theorem dX12_mend_63 : decode cX12_mend 63 = .ok (.getfield 25, 3) := by decide +kernel
theorem dX12_mend_66 : decode cX12_mend 66 = .ok (.iload_n 1, 1) := by decide +kernel
theorem dX12_mend_67 : decode cX12_mend 67 = .ok (.iaload, 1) := by decide +kernel
theorem dX12_mend_68 : decode cX12_mend 68 = .ok (.if_icmp .ge 166, 3) := by decide +kernel
theorem dX12_mend_71 : decode cX12_mend 71 = .ok (.bipush 20, 2) := by decide +kernel
theorem dX12_mend_73 : decode cX12_mend 73 = .ok (.iload_n 1, 1) := by decide +kernel
theorem dX12_mend_74 : decode cX12_mend 74 = .ok (.imul, 1) := by decide +kernel
theorem dX12_mend_75 : decode cX12_mend 75 = .ok (.iload 5, 2) := by decide +kernel
theorem dX12_mend_77 : decode cX12_mend 77 = .ok (.iadd, 1) := by decide +kernel
theorem dX12_mend_78 : decode cX12_mend 78 = .ok (.istore 6, 2) := by decide +kernel
theorem dX12_mend_80 : decode cX12_mend 80 = .ok (.aload_n 0, 1) := by decide +kernel
theorem dX12_mend_81 : decode cX12_mend 81 = .ok (.getfield 28, 3) := by decide +kernel
theorem dX12_mend_84 : decode cX12_mend 84 = .ok (.iload 6, 2) := by decide +kernel
theorem dX12_mend_86 : decode cX12_mend 86 = .ok (.iaload, 1) := by decide +kernel
theorem dX12_mend_87 : decode cX12_mend 87 = .ok (.iconst 4, 1) := by decide +kernel
theorem dX12_mend_88 : decode cX12_mend 88 = .ok (.if_icmp .eq 15, 3) := by decide +kernel
theorem dX12_mend_91 : decode cX12_mend 91 = .ok (.aload_n 0, 1) := by decide +kernel
theorem dX12_mend_92 : decode cX12_mend 92 = .ok (.getfield 28, 3) := by decide +kernel
theorem dX12_mend_95 : decode cX12_mend 95 = .ok (.iload 6, 2) := by decide +kernel
theorem dX12_mend_97 : decode cX12_mend 97 = .ok (.iaload, 1) := by decide +kernel
theorem dX12_mend_98 : decode cX12_mend 98 = .ok (.bipush 6, 2) := by decide +kernel
theorem dX12_mend_100 : decode cX12_mend 100 = .ok (.if_icmp .ne 13, 3) := by decide +kernel
theorem dX12_mend_103 : decode cX12_mend 103 = .ok (.aload_n 0, 1) := by decide +kernel
theorem dX12_mend_104 : decode cX12_mend 104 = .ok (.getfield 34, 3) := by decide +kernel
theorem dX12_mend_107 : decode cX12_mend 107 = .ok (.iload 6, 2) := by decide +kernel
theorem dX12_mend_109 : decode cX12_mend 109 = .ok (.iaload, 1) := by decide +kernel
theorem dX12_mend_110 : decode cX12_mend 110 = .ok (.goto 10, 3) := by decide +kernel
theorem dX12_mend_113 : decode cX12_mend 113 = .ok (.aload_n 0, 1) := by decide +kernel
theorem dX12_mend_114 : decode cX12_mend 114 = .ok (.getfield 37, 3) := by decide +kernel
theorem dX12_mend_117 : decode cX12_mend 117 = .ok (.iload 6, 2) := by decide +kernel
theorem dX12_mend_119 : decode cX12_mend 119 = .ok (.iaload, 1) := by decide +kernel
theorem dX12_mend_120 : decode cX12_mend 120 = .ok (.istore 7, 2) := by decide +kernel
theorem dX12_mend_122 : decode cX12_mend 122 = .ok (.iconst 0, 1) := by decide +kernel
theorem dX12_mend_123 : decode cX12_mend 123 = .ok (.istore 8, 2) := by decide +kernel
theorem dX12_mend_125 : decode cX12_mend 125 = .ok (.iload 8, 2) := by decide +kernel
theorem dX12_mend_127 : decode cX12_mend 127 = .ok (.aload_n 0, 1) := by decide +kernel
theorem dX12_mend_128 : decode cX12_mend 128 = .ok (.getfield 28, 3) := by decide +kernel
theorem dX12_mend_131 : decode cX12_mend 131 = .ok (.iload 6, 2) := by decide +kernel
theorem dX12_mend_133 : decode cX12_mend 133 = .ok (.iaload, 1) := by decide +kernel
theorem dX12_mend_134 : decode cX12_mend 134 = .ok (.bipush 6, 2) := by decide +kernel
theorem dX12_mend_136 : decode cX12_mend 136 = .ok (.if_icmp .ne 7, 3) := by decide +kernel
theorem dX12_mend_139 : decode cX12_mend 139 = .ok (.iconst 4, 1) := by decide +kernel
theorem dX12_mend_140 : decode cX12_mend 140 = .ok (.goto 5, 3) := by decide +kernel
theorem dX12_mend_143 : decode cX12_mend 143 = .ok (.bipush 6, 2) := by decide +kernel
theorem dX12_mend_145 : decode cX12_mend 145 = .ok (.if_icmp .ge 83, 3) := by decide +kernel
theorem dX12_mend_148 : decode cX12_mend 148 = .ok (.aload_n 0, 1) := by decide +kernel
theorem dX12_mend_149 : decode cX12_mend 149 = .ok (.aload_n 0, 1) := by decide +kernel
theorem dX12_mend_150 : decode cX12_mend 150 = .ok (.getfield 28, 3) := by decide +kernel
theorem dX12_mend_153 : decode cX12_mend 153 = .ok (.iload 6, 2) := by decide +kernel
theorem dX12_mend_155 : decode cX12_mend 155 = .ok (.iaload, 1) := by decide +kernel
theorem dX12_mend_156 : decode cX12_mend 156 = .ok (.invokevirtual 367, 3) := by decide +kernel
theorem dX12_mend_159 : decode cX12_mend 159 = .ok (.ifCond .eq 69, 3) := by decide +kernel
theorem dX12_mend_162 : decode cX12_mend 162 = .ok (.aload_n 0, 1) := by decide +kernel
theorem dX12_mend_163 : decode cX12_mend 163 = .ok (.iload 6, 2) := by decide +kernel
theorem dX12_mend_165 : decode cX12_mend 165 = .ok (.iload 8, 2) := by decide +kernel
theorem dX12_mend_167 : decode cX12_mend 167 = .ok (.invokevirtual 370, 3) := by decide +kernel
theorem dX12_mend_170 : decode cX12_mend 170 = .ok (.iload 8, 2) := by decide +kernel
theorem dX12_mend_172 : decode cX12_mend 172 = .ok (.iload 7, 2) := by decide +kernel
theorem dX12_mend_174 : decode cX12_mend 174 = .ok (.if_icmp .eq 23, 3) := by decide +kernel
theorem dX12_mend_177 : decode cX12_mend 177 = .ok (.aload_n 0, 1) := by decide +kernel
theorem dX12_mend_178 : decode cX12_mend 178 = .ok (.iload_n 1, 1) := by decide +kernel
theorem dX12_mend_179 : decode cX12_mend 179 = .ok (.iload_n 2, 1) := by decide +kernel
theorem dX12_mend_180 : decode cX12_mend 180 = .ok (.iconst (-1), 1) := by decide +kernel
theorem dX12_mend_181 : decode cX12_mend 181 = .ok (.iload_n 3, 1) := by decide +kernel
theorem dX12_mend_182 : decode cX12_mend 182 = .ok (.iload 4, 2) := by decide +kernel
theorem dX12_mend_184 : decode cX12_mend 184 = .ok (.invokevirtual 357, 3) := by decide +kernel
theorem dX12_mend_187 : decode cX12_mend 187 = .ok (.ldc_w 353, 3) := by decide +kernel
theorem dX12_mend_190 : decode cX12_mend 190 = .ok (.if_icmp .ne 7, 3) := by decide +kernel
theorem dX12_mend_193 : decode cX12_mend 193 = .ok (.iconst 1, 1) := by decide +kernel
theorem dX12_mend_194 : decode cX12_mend 194 = .ok (.goto 4, 3) := by decide +kernel
theorem dX12_mend_197 : decode cX12_mend 197 = .ok (.iconst 0, 1) := by decide +kernel
theorem dX12_mend_198 : decode cX12_mend 198 = .ok (.istore 9, 2) := by decide +kernel
theorem dX12_mend_200 : decode cX12_mend 200 = .ok (.aload_n 0, 1) := by decide +kernel
theorem dX12_mend_201 : decode cX12_mend 201 = .ok (.iload 6, 2) := by decide +kernel
theorem dX12_mend_203 : decode cX12_mend 203 = .ok (.iload 7, 2) := by decide +kernel
theorem dX12_mend_205 : decode cX12_mend 205 = .ok (.invokevirtual 370, 3) := by decide +kernel
theorem dX12_mend_208 : decode cX12_mend 208 = .ok (.iload 9, 2) := by decide +kernel
theorem dX12_mend_210 : decode cX12_mend 210 = .ok (.ifCond .eq 12, 3) := by decide +kernel
theorem dX12_mend_213 : decode cX12_mend 213 = .ok (.bipush 10, 2) := by decide +kernel
theorem dX12_mend_215 : decode cX12_mend 215 = .ok (.iload 5, 2) := by decide +kernel
theorem dX12_mend_217 : decode cX12_mend 217 = .ok (.imul, 1) := by decide +kernel
theorem dX12_mend_218 : decode cX12_mend 218 = .ok (.iload 8, 2) := by decide +kernel
theorem dX12_mend_220 : decode cX12_mend 220 = .ok (.iadd, 1) := by decide +kernel
theorem dX12_mend_221 : decode cX12_mend 221 = .ok (.ireturn, 1) := by decide +kernel
theorem dX12_mend_222 : decode cX12_mend 222 = .ok (.iinc 8 1, 3) := by decide +kernel
theorem dX12_mend_225 : decode cX12_mend 225 = .ok (.goto (-100), 3) := by decide +kernel
theorem dX12_mend_228 : decode cX12_mend 228 = .ok (.iinc 5 1, 3) := by decide +kernel
theorem dX12_mend_231 : decode cX12_mend 231 = .ok (.goto (-171), 3) := by decide +kernel
theorem dX12_mend_234 : decode cX12_mend 234 = .ok (.bipush (-3), 2) := by decide +kernel
theorem dX12_mend_236 : decode cX12_mend 236 = .ok (.ireturn, 1) := by decide +kernel
set_option maxRecDepth 20000 in
theorem ggX12_same_X12_isProgram : GoodIn wsX12_same wsX12_isProgram := goodIn_r _ [10, 11, 12, 13, 9, 14, 15, 16, 17, 18, 19, 20, 21, 22, 23, 24, 25, 26, 27, 28, 29, 30, 31, 32, 33, 34, 35, 36, 37, 38, 39, 40, 41, 42, 43, 44, 45, 46, 47, 48, 49, 50, 51, 52, 53, 54, 55, 56, 57, 58, 59, 60, 61, 62, 63, 64, 65, 66] (by decide +kernel) (by decide +kernel)
set_option maxRecDepth 20000 in
theorem gX12_same_X12_isProgram : GoodIn wsX12_same (wsV RX12 172 RX12 yX12_isProgram wsX12_isProgram) := goodIn_app (goodIn_of _ (by decide +kernel)) ggX12_same_X12_isProgram
theorem dX12_same_0 : decode cX12_same 0 = .ok (.aload_n 0, 1) := by decide +kernel
theorem dX12_same_1 : decode cX12_same 1 = .ok (.iload_n 1, 1) := by decide +kernel
theorem dX12_same_2 : decode cX12_same 2 = .ok (.invokevirtual 172, 3) := by decide +kernel
theorem dX12_same_5 : decode cX12_same 5 = .ok (.ifCond .eq 11, 3) := by decide +kernel
theorem dX12_same_8 : decode cX12_same 8 = .ok (.aload_n 0, 1) := by decide +kernel
theorem dX12_same_9 : decode cX12_same 9 = .ok (.iload_n 2, 1) := by decide +kernel
theorem dX12_same_10 : decode cX12_same 10 = .ok (.invokevirtual 172, 3) := by decide +kernel
theorem dX12_same_13 : decode cX12_same 13 = .ok (.ifCond .ne 5, 3) := by decide +kernel
theorem dX12_same_16 : decode cX12_same 16 = .ok (.iconst (-1), 1) := by decide +kernel
theorem dX12_same_17 : decode cX12_same 17 = .ok (.ireturn, 1) := by decide +kernel
theorem dX12_same_18 : decode cX12_same 18 = .ok (.aload_n 0, 1) := by decide +kernel
theorem dX12_same_19 : decode cX12_same 19 = .ok (.getfield 25, 3) := by decide +kernel
theorem dX12_same_22 : decode cX12_same 22 = .ok (.iload_n 1, 1) := by decide +kernel
theorem dX12_same_23 : decode cX12_same 23 = .ok (.iaload, 1) := by decide +kernel
theorem dX12_same_24 : decode cX12_same 24 = .ok (.aload_n 0, 1) := by decide +kernel
theorem dX12_same_25 : decode cX12_same 25 = .ok (.getfield 25, 3) := by decide +kernel
theorem dX12_same_28 : decode cX12_same 28 = .ok (.iload_n 2, 1) := by decide +kernel
theorem dX12_same_29 : decode cX12_same 29 = .ok (.iaload, 1) := by decide +kernel
theorem dX12_same_30 : decode cX12_same 30 = .ok (.if_icmp .ne 7, 3) := by decide +kernel
theorem dX12_same_33 : decode cX12_same 33 = .ok (.iconst 1, 1) := by decide +kernel
theorem dX12_same_34 : decode cX12_same 34 = .ok (.goto 4, 3) := by decide +kernel
theorem dX12_same_37 : decode cX12_same 37 = .ok (.iconst 0, 1) := by decide +kernel
theorem dX12_same_38 : decode cX12_same 38 = .ok (.istore_n 3, 1) := by decide +kernel
theorem dX12_same_39 : decode cX12_same 39 = .ok (.iconst 0, 1) := by decide +kernel
theorem dX12_same_40 : decode cX12_same 40 = .ok (.istore 4, 2) := by decide +kernel
theorem dX12_same_42 : decode cX12_same 42 = .ok (.iload 4, 2) := by decide +kernel
theorem dX12_same_44 : decode cX12_same 44 = .ok (.aload_n 0, 1) := by decide +kernel
theorem dX12_same_45 : decode cX12_same 45 = .ok (.getfield 25, 3) := by decide +kernel
theorem dX12_same_48 : decode cX12_same 48 = .ok (.iload_n 1, 1) := by decide +kernel
theorem dX12_same_49 : decode cX12_same 49 = .ok (.iaload, 1) := by decide +kernel
theorem dX12_same_50 : decode cX12_same 50 = .ok (.if_icmp .ge 105, 3) := by decide +kernel
theorem dX12_same_53 : decode cX12_same 53 = .ok (.iload_n 3, 1) := by decide +kernel
theorem dX12_same_54 : decode cX12_same 54 = .ok (.ifCond .eq 101, 3) := by decide +kernel
theorem dX12_same_57 : decode cX12_same 57 = .ok (.bipush 20, 2) := by decide +kernel
theorem dX12_same_59 : decode cX12_same 59 = .ok (.iload_n 1, 1) := by decide +kernel
theorem dX12_same_60 : decode cX12_same 60 = .ok (.imul, 1) := by decide +kernel
theorem dX12_same_61 : decode cX12_same 61 = .ok (.iload 4, 2) := by decide +kernel
theorem dX12_same_63 : decode cX12_same 63 = .ok (.iadd, 1) := by decide +kernel
theorem dX12_same_64 : decode cX12_same 64 = .ok (.istore 5, 2) := by decide +kernel
theorem dX12_same_66 : decode cX12_same 66 = .ok (.bipush 20, 2) := by decide +kernel
theorem dX12_same_68 : decode cX12_same 68 = .ok (.iload_n 2, 1) := by decide +kernel
theorem dX12_same_69 : decode cX12_same 69 = .ok (.imul, 1) := by decide +kernel
theorem dX12_same_70 : decode cX12_same 70 = .ok (.iload 4, 2) := by decide +kernel
theorem dX12_same_72 : decode cX12_same 72 = .ok (.iadd, 1) := by decide +kernel
theorem dX12_same_73 : decode cX12_same 73 = .ok (.istore 6, 2) := by decide +kernel
theorem dX12_same_75 : decode cX12_same 75 = .ok (.aload_n 0, 1) := by decide +kernel
theorem dX12_same_76 : decode cX12_same 76 = .ok (.getfield 28, 3) := by decide +kernel
theorem dX12_same_79 : decode cX12_same 79 = .ok (.iload 5, 2) := by decide +kernel
theorem dX12_same_81 : decode cX12_same 81 = .ok (.iaload, 1) := by decide +kernel
theorem dX12_same_82 : decode cX12_same 82 = .ok (.aload_n 0, 1) := by decide +kernel
theorem dX12_same_83 : decode cX12_same 83 = .ok (.getfield 28, 3) := by decide +kernel
theorem dX12_same_86 : decode cX12_same 86 = .ok (.iload 6, 2) := by decide +kernel
theorem dX12_same_88 : decode cX12_same 88 = .ok (.iaload, 1) := by decide +kernel
theorem dX12_same_89 : decode cX12_same 89 = .ok (.if_icmp .ne 58, 3) := by decide +kernel
theorem dX12_same_92 : decode cX12_same 92 = .ok (.aload_n 0, 1) := by decide +kernel
theorem dX12_same_93 : decode cX12_same 93 = .ok (.getfield 31, 3) := by decide +kernel
theorem dX12_same_96 : decode cX12_same 96 = .ok (.iload 5, 2) := by decide +kernel
theorem dX12_same_98 : decode cX12_same 98 = .ok (.iaload, 1) := by decide +kernel
theorem dX12_same_99 : decode cX12_same 99 = .ok (.aload_n 0, 1) := by decide +kernel
theorem dX12_same_100 : decode cX12_same 100 = .ok (.getfield 31, 3) := by decide +kernel
theorem dX12_same_103 : decode cX12_same 103 = .ok (.iload 6, 2) := by decide +kernel
theorem dX12_same_105 : decode cX12_same 105 = .ok (.iaload, 1) := by decide +kernel
theorem dX12_same_106 : decode cX12_same 106 = .ok (.if_icmp .ne 41, 3) := by decide +kernel
theorem dX12_same_109 : decode cX12_same 109 = .ok (.aload_n 0, 1) := by decide +kernel
theorem dX12_same_110 : decode cX12_same 110 = .ok (.getfield 34, 3) := by decide +kernel
theorem dX12_same_113 : decode cX12_same 113 = .ok (.iload 5, 2) := by decide +kernel
theorem dX12_same_115 : decode cX12_same 115 = .ok (.iaload, 1) := by decide +kernel
theorem dX12_same_116 : decode cX12_same 116 = .ok (.aload_n 0, 1) := by decide +kernel
theorem dX12_same_117 : decode cX12_same 117 = .ok (.getfield 34, 3) := by decide +kernel
theorem dX12_same_120 : decode cX12_same 120 = .ok (.iload 6, 2) := by decide +kernel
theorem dX12_same_122 : decode cX12_same 122 = .ok (.iaload, 1) := by decide +kernel
theorem dX12_same_123 : decode cX12_same 123 = .ok (.if_icmp .ne 24, 3) := by decide +kernel
theorem dX12_same_126 : decode cX12_same 126 = .ok (.aload_n 0, 1) := by decide +kernel
theorem dX12_same_127 : decode cX12_same 127 = .ok (.getfield 37, 3) := by decide +kernel
theorem dX12_same_130 : decode cX12_same 130 = .ok (.iload 5, 2) := by decide +kernel
theorem dX12_same_132 : decode cX12_same 132 = .ok (.iaload, 1) := by decide +kernel
theorem dX12_same_133 : decode cX12_same 133 = .ok (.aload_n 0, 1) := by decide +kernel
theorem dX12_same_134 : decode cX12_same 134 = .ok (.getfield 37, 3) := by decide +kernel
theorem dX12_same_137 : decode cX12_same 137 = .ok (.iload 6, 2) := by decide +kernel
theorem dX12_same_139 : decode cX12_same 139 = .ok (.iaload, 1) := by decide +kernel
theorem dX12_same_140 : decode cX12_same 140 = .ok (.if_icmp .ne 7, 3) := by decide +kernel
theorem dX12_same_143 : decode cX12_same 143 = .ok (.iconst 1, 1) := by decide +kernel
theorem dX12_same_144 : decode cX12_same 144 = .ok (.goto 4, 3) := by decide +kernel
theorem dX12_same_147 : decode cX12_same 147 = .ok (.iconst 0, 1) := by decide +kernel
theorem dX12_same_148 : decode cX12_same 148 = .ok (.istore_n 3, 1) := by decide +kernel
theorem dX12_same_149 : decode cX12_same 149 = .ok (.iinc 4 1, 3) := by decide +kernel
theorem dX12_same_152 : decode cX12_same 152 = .ok (.goto (-110), 3) := by decide +kernel
theorem dX12_same_155 : decode cX12_same 155 = .ok (.iload_n 3, 1) := by decide +kernel
theorem dX12_same_156 : decode cX12_same 156 = .ok (.ifCond .eq 7, 3) := by decide +kernel
theorem dX12_same_159 : decode cX12_same 159 = .ok (.iconst 1, 1) := by decide +kernel
theorem dX12_same_160 : decode cX12_same 160 = .ok (.goto 4, 3) := by decide +kernel
theorem dX12_same_163 : decode cX12_same 163 = .ok (.iconst 0, 1) := by decide +kernel
theorem dX12_same_164 : decode cX12_same 164 = .ok (.ireturn, 1) := by decide +kernel
set_option maxRecDepth 20000 in
theorem ggX12_rounded_X12_in : GoodIn wsX12_rounded wsX12_in := goodIn_r _ [7] (by decide +kernel) (by decide +kernel)
set_option maxRecDepth 20000 in
theorem gX12_rounded_X12_in : GoodIn wsX12_rounded (va_wsS RX12 159 yX12_in wsX12_in) := goodIn_app (goodIn_of _ (by decide +kernel)) ggX12_rounded_X12_in
set_option maxRecDepth 20000 in
theorem ggX12_rounded_X12_isRefused : GoodIn wsX12_rounded wsX12_isRefused := goodIn_r _ [11, 12, 20, 21, 22, 23, 24, 25, 26, 27, 28, 29, 30, 31, 32, 33, 34, 35, 36, 37, 38, 39, 40, 41, 42, 43, 44, 45, 46, 47, 48, 49, 50, 51, 52, 53, 54, 55, 56, 57, 58, 59, 60, 61, 62, 63, 64, 65, 66, 67, 68, 69, 70, 71] (by decide +kernel) (by decide +kernel)
set_option maxRecDepth 20000 in
theorem gX12_rounded_X12_isRefused : GoodIn wsX12_rounded (wsV RX12 283 RX12 yX12_isRefused wsX12_isRefused) := goodIn_app (goodIn_of _ (by decide +kernel)) ggX12_rounded_X12_isRefused
set_option maxRecDepth 20000 in
theorem ggX12_rounded_X12_times : GoodIn wsX12_rounded wsX12_times := goodIn_r _ [15, 16, 17, 18, 6, 19] (by decide +kernel) (by decide +kernel)
set_option maxRecDepth 20000 in
theorem gX12_rounded_X12_times : GoodIn wsX12_rounded (va_wsS RX12 212 yX12_times wsX12_times) := goodIn_app (goodIn_of _ (by decide +kernel)) ggX12_rounded_X12_times
theorem dX12_rounded_0 : decode cX12_rounded 0 = .ok (.iload_n 3, 1) := by decide +kernel
theorem dX12_rounded_1 : decode cX12_rounded 1 = .ok (.iconst 1, 1) := by decide +kernel
theorem dX12_rounded_2 : decode cX12_rounded 2 = .ok (.ldc 171, 2) := by decide +kernel
theorem dX12_rounded_4 : decode cX12_rounded 4 = .ok (.invokestatic 159, 3) := by decide +kernel
theorem dX12_rounded_7 : decode cX12_rounded 7 = .ok (.ifCond .eq 44, 3) := by decide +kernel
theorem dX12_rounded_10 : decode cX12_rounded 10 = .ok (.iload 4, 2) := by decide +kernel
theorem dX12_rounded_12 : decode cX12_rounded 12 = .ok (.iconst 1, 1) := by decide +kernel
theorem dX12_rounded_13 : decode cX12_rounded 13 = .ok (.ldc 171, 2) := by decide +kernel
theorem dX12_rounded_15 : decode cX12_rounded 15 = .ok (.invokestatic 159, 3) := by decide +kernel
theorem dX12_rounded_18 : decode cX12_rounded 18 = .ok (.ifCond .eq 33, 3) := by decide +kernel
theorem dX12_rounded_21 : decode cX12_rounded 21 = .ok (.lload_n 1, 1) := by decide +kernel
theorem dX12_rounded_22 : decode cX12_rounded 22 = .ok (.ldc2_w 373, 3) := by decide +kernel
theorem dX12_rounded_25 : decode cX12_rounded 25 = .ok (.lcmp, 1) := by decide +kernel
theorem dX12_rounded_26 : decode cX12_rounded 26 = .ok (.ifCond .lt 25, 3) := by decide +kernel
theorem dX12_rounded_29 : decode cX12_rounded 29 = .ok (.lload_n 1, 1) := by decide +kernel
theorem dX12_rounded_30 : decode cX12_rounded 30 = .ok (.ldc2_w 375, 3) := by decide +kernel
theorem dX12_rounded_33 : decode cX12_rounded 33 = .ok (.lcmp, 1) := by decide +kernel
theorem dX12_rounded_34 : decode cX12_rounded 34 = .ok (.ifCond .gt 17, 3) := by decide +kernel
theorem dX12_rounded_37 : decode cX12_rounded 37 = .ok (.iload 5, 2) := by decide +kernel
theorem dX12_rounded_39 : decode cX12_rounded 39 = .ok (.iconst 0, 1) := by decide +kernel
theorem dX12_rounded_40 : decode cX12_rounded 40 = .ok (.iconst 5, 1) := by decide +kernel
theorem dX12_rounded_41 : decode cX12_rounded 41 = .ok (.invokestatic 159, 3) := by decide +kernel
theorem dX12_rounded_44 : decode cX12_rounded 44 = .ok (.ifCond .eq 7, 3) := by decide +kernel
theorem dX12_rounded_47 : decode cX12_rounded 47 = .ok (.iconst 1, 1) := by decide +kernel
theorem dX12_rounded_48 : decode cX12_rounded 48 = .ok (.goto 4, 3) := by decide +kernel
theorem dX12_rounded_51 : decode cX12_rounded 51 = .ok (.iconst 0, 1) := by decide +kernel
theorem dX12_rounded_52 : decode cX12_rounded 52 = .ok (.istore 6, 2) := by decide +kernel
theorem dX12_rounded_54 : decode cX12_rounded 54 = .ok (.aload_n 0, 1) := by decide +kernel
theorem dX12_rounded_55 : decode cX12_rounded 55 = .ok (.iload 6, 2) := by decide +kernel
theorem dX12_rounded_57 : decode cX12_rounded 57 = .ok (.invokevirtual 283, 3) := by decide +kernel
theorem dX12_rounded_60 : decode cX12_rounded 60 = .ok (.ifCond .eq 7, 3) := by decide +kernel
theorem dX12_rounded_63 : decode cX12_rounded 63 = .ok (.lconst 0, 1) := by decide +kernel
theorem dX12_rounded_64 : decode cX12_rounded 64 = .ok (.goto 19, 3) := by decide +kernel
theorem dX12_rounded_67 : decode cX12_rounded 67 = .ok (.iload 4, 2) := by decide +kernel
theorem dX12_rounded_69 : decode cX12_rounded 69 = .ok (.i2l, 1) := by decide +kernel
theorem dX12_rounded_70 : decode cX12_rounded 70 = .ok (.lload_n 1, 1) := by decide +kernel
theorem dX12_rounded_71 : decode cX12_rounded 71 = .ok (.iload_n 3, 1) := by decide +kernel
theorem dX12_rounded_72 : decode cX12_rounded 72 = .ok (.i2l, 1) := by decide +kernel
theorem dX12_rounded_73 : decode cX12_rounded 73 = .ok (.iload 4, 2) := by decide +kernel
theorem dX12_rounded_75 : decode cX12_rounded 75 = .ok (.i2l, 1) := by decide +kernel
theorem dX12_rounded_76 : decode cX12_rounded 76 = .ok (.lmul, 1) := by decide +kernel
theorem dX12_rounded_77 : decode cX12_rounded 77 = .ok (.iload 5, 2) := by decide +kernel
theorem dX12_rounded_79 : decode cX12_rounded 79 = .ok (.invokestatic 212, 3) := by decide +kernel
theorem dX12_rounded_82 : decode cX12_rounded 82 = .ok (.lmul, 1) := by decide +kernel
theorem dX12_rounded_83 : decode cX12_rounded 83 = .ok (.lreturn, 1) := by decide +kernel
set_option maxRecDepth 20000 in
theorem ggX12_isTape_X12_in : GoodIn wsX12_isTape wsX12_in := goodIn_r _ [4] (by decide +kernel) (by decide +kernel)
set_option maxRecDepth 20000 in
theorem gX12_isTape_X12_in : GoodIn wsX12_isTape (va_wsS RX12 159 yX12_in wsX12_in) := goodIn_app (goodIn_of _ (by decide +kernel)) ggX12_isTape_X12_in
theorem dX12_isTape_0 : decode cX12_isTape 0 = .ok (.iload_n 0, 1) := by decide +kernel
theorem dX12_isTape_1 : decode cX12_isTape 1 = .ok (.iconst 0, 1) := by decide +kernel
theorem dX12_isTape_2 : decode cX12_isTape 2 = .ok (.iconst 5, 1) := by decide +kernel
theorem dX12_isTape_3 : decode cX12_isTape 3 = .ok (.invokestatic 159, 3) := by decide +kernel
theorem dX12_isTape_6 : decode cX12_isTape 6 = .ok (.ireturn, 1) := by decide +kernel
set_option maxRecDepth 20000 in
theorem ggX12_tape_X12_isTape : GoodIn wsX12_tape wsX12_isTape := goodIn_r _ [7, 8, 9, 6, 10] (by decide +kernel) (by decide +kernel)
set_option maxRecDepth 20000 in
theorem gX12_tape_X12_isTape : GoodIn wsX12_tape (va_wsS RX12 377 yX12_isTape wsX12_isTape) := goodIn_app (goodIn_of _ (by decide +kernel)) ggX12_tape_X12_isTape
set_option maxRecDepth 20000 in
theorem ggX12_tape_X12_in : GoodIn wsX12_tape wsX12_in := goodIn_r _ [10] (by decide +kernel) (by decide +kernel)
set_option maxRecDepth 20000 in
theorem gX12_tape_X12_in : GoodIn wsX12_tape (va_wsS RX12 159 yX12_in wsX12_in) := goodIn_app (goodIn_of _ (by decide +kernel)) ggX12_tape_X12_in
set_option maxRecDepth 20000 in
theorem ggX12_tape_X12_refuse : GoodIn wsX12_tape wsX12_refuse := goodIn_r _ [14, 15, 16, 17, 18, 19, 20, 21, 22, 23, 24, 25, 26, 27, 28, 29, 30, 31, 32, 33, 34, 35, 36, 37, 38, 39, 40, 41, 42, 43, 44, 45, 46, 47, 48, 49, 50, 51, 52, 53, 54, 55, 56, 57, 58, 59, 60, 61, 62, 63, 64, 65, 66, 67] (by decide +kernel) (by decide +kernel)
set_option maxRecDepth 20000 in
theorem gX12_tape_X12_refuse : GoodIn wsX12_tape (wsV RX12 380 RX12 yX12_refuse wsX12_refuse) := goodIn_app (goodIn_of _ (by decide +kernel)) ggX12_tape_X12_refuse
theorem dX12_tape_0 : decode cX12_tape 0 = .ok (.iload_n 1, 1) := by decide +kernel
theorem dX12_tape_1 : decode cX12_tape 1 = .ok (.invokestatic 377, 3) := by decide +kernel
theorem dX12_tape_4 : decode cX12_tape 4 = .ok (.ifCond .eq 18, 3) := by decide +kernel
theorem dX12_tape_7 : decode cX12_tape 7 = .ok (.iload_n 2, 1) := by decide +kernel
theorem dX12_tape_8 : decode cX12_tape 8 = .ok (.iconst 1, 1) := by decide +kernel
theorem dX12_tape_9 : decode cX12_tape 9 = .ok (.iconst 4, 1) := by decide +kernel
theorem dX12_tape_10 : decode cX12_tape 10 = .ok (.invokestatic 159, 3) := by decide +kernel
theorem dX12_tape_13 : decode cX12_tape 13 = .ok (.ifCond .eq 9, 3) := by decide +kernel
theorem dX12_tape_16 : decode cX12_tape 16 = .ok (.iload_n 3, 1) := by decide +kernel
theorem dX12_tape_17 : decode cX12_tape 17 = .ok (.bipush 64, 2) := by decide +kernel
theorem dX12_tape_19 : decode cX12_tape 19 = .ok (.if_icmp .le 5, 3) := by decide +kernel
theorem dX12_tape_22 : decode cX12_tape 22 = .ok (.iconst (-1), 1) := by decide +kernel
theorem dX12_tape_23 : decode cX12_tape 23 = .ok (.ireturn, 1) := by decide +kernel
theorem dX12_tape_24 : decode cX12_tape 24 = .ok (.iload_n 3, 1) := by decide +kernel
theorem dX12_tape_25 : decode cX12_tape 25 = .ok (.ifCond .ge 10, 3) := by decide +kernel
theorem dX12_tape_28 : decode cX12_tape 28 = .ok (.aload_n 0, 1) := by decide +kernel
theorem dX12_tape_29 : decode cX12_tape 29 = .ok (.bipush (-14), 2) := by decide +kernel
theorem dX12_tape_31 : decode cX12_tape 31 = .ok (.invokevirtual 380, 3) := by decide +kernel
theorem dX12_tape_34 : decode cX12_tape 34 = .ok (.ireturn, 1) := by decide +kernel
theorem dX12_tape_35 : decode cX12_tape 35 = .ok (.aload_n 0, 1) := by decide +kernel
theorem dX12_tape_36 : decode cX12_tape 36 = .ok (.getfield 73, 3) := by decide +kernel
theorem dX12_tape_39 : decode cX12_tape 39 = .ok (.iload_n 1, 1) := by decide +kernel
theorem dX12_tape_40 : decode cX12_tape 40 = .ok (.iload_n 2, 1) := by decide +kernel
theorem dX12_tape_41 : decode cX12_tape 41 = .ok (.iastore, 1) := by decide +kernel
theorem dX12_tape_42 : decode cX12_tape 42 = .ok (.aload_n 0, 1) := by decide +kernel
theorem dX12_tape_43 : decode cX12_tape 43 = .ok (.getfield 76, 3) := by decide +kernel
theorem dX12_tape_46 : decode cX12_tape 46 = .ok (.iload_n 1, 1) := by decide +kernel
theorem dX12_tape_47 : decode cX12_tape 47 = .ok (.iload_n 3, 1) := by decide +kernel
theorem dX12_tape_48 : decode cX12_tape 48 = .ok (.iastore, 1) := by decide +kernel
theorem dX12_tape_49 : decode cX12_tape 49 = .ok (.iconst 0, 1) := by decide +kernel
theorem dX12_tape_50 : decode cX12_tape 50 = .ok (.istore 4, 2) := by decide +kernel
theorem dX12_tape_52 : decode cX12_tape 52 = .ok (.iload 4, 2) := by decide +kernel
theorem dX12_tape_54 : decode cX12_tape 54 = .ok (.bipush 64, 2) := by decide +kernel
theorem dX12_tape_56 : decode cX12_tape 56 = .ok (.if_icmp .ge 22, 3) := by decide +kernel
theorem dX12_tape_59 : decode cX12_tape 59 = .ok (.aload_n 0, 1) := by decide +kernel
theorem dX12_tape_60 : decode cX12_tape 60 = .ok (.getfield 79, 3) := by decide +kernel
theorem dX12_tape_63 : decode cX12_tape 63 = .ok (.bipush 64, 2) := by decide +kernel
theorem dX12_tape_65 : decode cX12_tape 65 = .ok (.iload_n 1, 1) := by decide +kernel
theorem dX12_tape_66 : decode cX12_tape 66 = .ok (.imul, 1) := by decide +kernel
theorem dX12_tape_67 : decode cX12_tape 67 = .ok (.iload 4, 2) := by decide +kernel
theorem dX12_tape_69 : decode cX12_tape 69 = .ok (.iadd, 1) := by decide +kernel
theorem dX12_tape_70 : decode cX12_tape 70 = .ok (.lconst 0, 1) := by decide +kernel
theorem dX12_tape_71 : decode cX12_tape 71 = .ok (.lastore, 1) := by decide +kernel
theorem dX12_tape_72 : decode cX12_tape 72 = .ok (.iinc 4 1, 3) := by decide +kernel
theorem dX12_tape_75 : decode cX12_tape 75 = .ok (.goto (-23), 3) := by decide +kernel
theorem dX12_tape_78 : decode cX12_tape 78 = .ok (.iload_n 3, 1) := by decide +kernel
theorem dX12_tape_79 : decode cX12_tape 79 = .ok (.ireturn, 1) := by decide +kernel
set_option maxRecDepth 20000 in
theorem ggX12_image_X12_isTape : GoodIn wsX12_image wsX12_isTape := goodIn_r _ [15, 16, 17, 14, 18] (by decide +kernel) (by decide +kernel)
set_option maxRecDepth 20000 in
theorem gX12_image_X12_isTape : GoodIn wsX12_image (va_wsS RX12 377 yX12_isTape wsX12_isTape) := goodIn_app (goodIn_of _ (by decide +kernel)) ggX12_image_X12_isTape
theorem dX12_image_0 : decode cX12_image 0 = .ok (.iload_n 1, 1) := by decide +kernel
theorem dX12_image_1 : decode cX12_image 1 = .ok (.invokestatic 377, 3) := by decide +kernel
theorem dX12_image_4 : decode cX12_image 4 = .ok (.ifCond .ne 5, 3) := by decide +kernel
theorem dX12_image_7 : decode cX12_image 7 = .ok (.iconst (-1), 1) := by decide +kernel
theorem dX12_image_8 : decode cX12_image 8 = .ok (.ireturn, 1) := by decide +kernel
theorem dX12_image_9 : decode cX12_image 9 = .ok (.aload_n 0, 1) := by decide +kernel
theorem dX12_image_10 : decode cX12_image 10 = .ok (.getfield 73, 3) := by decide +kernel
theorem dX12_image_13 : decode cX12_image 13 = .ok (.iload_n 1, 1) := by decide +kernel
theorem dX12_image_14 : decode cX12_image 14 = .ok (.iconst 5, 1) := by decide +kernel
theorem dX12_image_15 : decode cX12_image 15 = .ok (.iastore, 1) := by decide +kernel
theorem dX12_image_16 : decode cX12_image 16 = .ok (.aload_n 0, 1) := by decide +kernel
theorem dX12_image_17 : decode cX12_image 17 = .ok (.getfield 82, 3) := by decide +kernel
theorem dX12_image_20 : decode cX12_image 20 = .ok (.iload_n 1, 1) := by decide +kernel
theorem dX12_image_21 : decode cX12_image 21 = .ok (.aload_n 0, 1) := by decide +kernel
theorem dX12_image_22 : decode cX12_image 22 = .ok (.getfield 140, 3) := by decide +kernel
theorem dX12_image_25 : decode cX12_image 25 = .ok (.iastore, 1) := by decide +kernel
theorem dX12_image_26 : decode cX12_image 26 = .ok (.aload_n 0, 1) := by decide +kernel
theorem dX12_image_27 : decode cX12_image 27 = .ok (.getfield 85, 3) := by decide +kernel
theorem dX12_image_30 : decode cX12_image 30 = .ok (.iload_n 1, 1) := by decide +kernel
theorem dX12_image_31 : decode cX12_image 31 = .ok (.aload_n 0, 1) := by decide +kernel
theorem dX12_image_32 : decode cX12_image 32 = .ok (.getfield 143, 3) := by decide +kernel
theorem dX12_image_35 : decode cX12_image 35 = .ok (.iastore, 1) := by decide +kernel
theorem dX12_image_36 : decode cX12_image 36 = .ok (.iconst 0, 1) := by decide +kernel
theorem dX12_image_37 : decode cX12_image 37 = .ok (.istore_n 2, 1) := by decide +kernel
theorem dX12_image_38 : decode cX12_image 38 = .ok (.iload_n 2, 1) := by decide +kernel
theorem dX12_image_39 : decode cX12_image 39 = .ok (.bipush 8, 2) := by decide +kernel
theorem dX12_image_41 : decode cX12_image 41 = .ok (.if_icmp .ge 26, 3) := by decide +kernel
theorem dX12_image_44 : decode cX12_image 44 = .ok (.aload_n 0, 1) := by decide +kernel
theorem dX12_image_45 : decode cX12_image 45 = .ok (.getfield 88, 3) := by decide +kernel
theorem dX12_image_48 : decode cX12_image 48 = .ok (.bipush 8, 2) := by decide +kernel
theorem dX12_image_50 : decode cX12_image 50 = .ok (.iload_n 1, 1) := by decide +kernel
theorem dX12_image_51 : decode cX12_image 51 = .ok (.imul, 1) := by decide +kernel
theorem dX12_image_52 : decode cX12_image 52 = .ok (.iload_n 2, 1) := by decide +kernel
theorem dX12_image_53 : decode cX12_image 53 = .ok (.iadd, 1) := by decide +kernel
theorem dX12_image_54 : decode cX12_image 54 = .ok (.aload_n 0, 1) := by decide +kernel
theorem dX12_image_55 : decode cX12_image 55 = .ok (.getfield 60, 3) := by decide +kernel
theorem dX12_image_58 : decode cX12_image 58 = .ok (.iload_n 2, 1) := by decide +kernel
theorem dX12_image_59 : decode cX12_image 59 = .ok (.laload, 1) := by decide +kernel
theorem dX12_image_60 : decode cX12_image 60 = .ok (.lastore, 1) := by decide +kernel
theorem dX12_image_61 : decode cX12_image 61 = .ok (.iinc 2 1, 3) := by decide +kernel
theorem dX12_image_64 : decode cX12_image 64 = .ok (.goto (-26), 3) := by decide +kernel
theorem dX12_image_67 : decode cX12_image 67 = .ok (.iconst 0, 1) := by decide +kernel
theorem dX12_image_68 : decode cX12_image 68 = .ok (.istore_n 2, 1) := by decide +kernel
theorem dX12_image_69 : decode cX12_image 69 = .ok (.iload_n 2, 1) := by decide +kernel
theorem dX12_image_70 : decode cX12_image 70 = .ok (.aload_n 0, 1) := by decide +kernel
theorem dX12_image_71 : decode cX12_image 71 = .ok (.getfield 140, 3) := by decide +kernel
theorem dX12_image_74 : decode cX12_image 74 = .ok (.if_icmp .ge 41, 3) := by decide +kernel
theorem dX12_image_77 : decode cX12_image 77 = .ok (.aload_n 0, 1) := by decide +kernel
theorem dX12_image_78 : decode cX12_image 78 = .ok (.getfield 91, 3) := by decide +kernel
theorem dX12_image_81 : decode cX12_image 81 = .ok (.iconst 4, 1) := by decide +kernel
theorem dX12_image_82 : decode cX12_image 82 = .ok (.iload_n 1, 1) := by decide +kernel
theorem dX12_image_83 : decode cX12_image 83 = .ok (.imul, 1) := by decide +kernel
theorem dX12_image_84 : decode cX12_image 84 = .ok (.iload_n 2, 1) := by decide +kernel
theorem dX12_image_85 : decode cX12_image 85 = .ok (.iadd, 1) := by decide +kernel
theorem dX12_image_86 : decode cX12_image 86 = .ok (.aload_n 0, 1) := by decide +kernel
theorem dX12_image_87 : decode cX12_image 87 = .ok (.getfield 63, 3) := by decide +kernel
theorem dX12_image_90 : decode cX12_image 90 = .ok (.iload_n 2, 1) := by decide +kernel
theorem dX12_image_91 : decode cX12_image 91 = .ok (.laload, 1) := by decide +kernel
theorem dX12_image_92 : decode cX12_image 92 = .ok (.lastore, 1) := by decide +kernel
theorem dX12_image_93 : decode cX12_image 93 = .ok (.aload_n 0, 1) := by decide +kernel
theorem dX12_image_94 : decode cX12_image 94 = .ok (.getfield 94, 3) := by decide +kernel
theorem dX12_image_97 : decode cX12_image 97 = .ok (.iconst 4, 1) := by decide +kernel
theorem dX12_image_98 : decode cX12_image 98 = .ok (.iload_n 1, 1) := by decide +kernel
theorem dX12_image_99 : decode cX12_image 99 = .ok (.imul, 1) := by decide +kernel
theorem dX12_image_100 : decode cX12_image 100 = .ok (.iload_n 2, 1) := by decide +kernel
theorem dX12_image_101 : decode cX12_image 101 = .ok (.iadd, 1) := by decide +kernel
theorem dX12_image_102 : decode cX12_image 102 = .ok (.aload_n 0, 1) := by decide +kernel
theorem dX12_image_103 : decode cX12_image 103 = .ok (.getfield 66, 3) := by decide +kernel
theorem dX12_image_106 : decode cX12_image 106 = .ok (.iload_n 2, 1) := by decide +kernel
theorem dX12_image_107 : decode cX12_image 107 = .ok (.laload, 1) := by decide +kernel
theorem dX12_image_108 : decode cX12_image 108 = .ok (.lastore, 1) := by decide +kernel
theorem dX12_image_109 : decode cX12_image 109 = .ok (.iinc 2 1, 3) := by decide +kernel
theorem dX12_image_112 : decode cX12_image 112 = .ok (.goto (-43), 3) := by decide +kernel
theorem dX12_image_115 : decode cX12_image 115 = .ok (.aload_n 0, 1) := by decide +kernel
theorem dX12_image_116 : decode cX12_image 116 = .ok (.getfield 140, 3) := by decide +kernel
theorem dX12_image_119 : decode cX12_image 119 = .ok (.ireturn, 1) := by decide +kernel
set_option maxRecDepth 20000 in
theorem ggX12_lacks_X12_isTape : GoodIn wsX12_lacks wsX12_isTape := goodIn_r _ [5, 6, 7, 4, 8] (by decide +kernel) (by decide +kernel)
set_option maxRecDepth 20000 in
theorem gX12_lacks_X12_isTape : GoodIn wsX12_lacks (va_wsS RX12 377 yX12_isTape wsX12_isTape) := goodIn_app (goodIn_of _ (by decide +kernel)) ggX12_lacks_X12_isTape
set_option maxRecDepth 20000 in
theorem ggX12_lacks_X12_refuse : GoodIn wsX12_lacks wsX12_refuse := goodIn_r _ [12, 13, 14, 15, 16, 17, 18, 19, 20, 21, 22, 23, 24, 25, 26, 27, 28, 29, 30, 31, 32, 33, 34, 35, 36, 37, 38, 39, 40, 41, 42, 43, 44, 45, 46, 47, 48, 49, 50, 51, 52, 53, 54, 55, 56, 57, 58, 59, 60, 61, 62, 63, 64, 65] (by decide +kernel) (by decide +kernel)
set_option maxRecDepth 20000 in
theorem gX12_lacks_X12_refuse : GoodIn wsX12_lacks (wsV RX12 380 RX12 yX12_refuse wsX12_refuse) := goodIn_app (goodIn_of _ (by decide +kernel)) ggX12_lacks_X12_refuse
theorem dX12_lacks_0 : decode cX12_lacks 0 = .ok (.iload_n 1, 1) := by decide +kernel
theorem dX12_lacks_1 : decode cX12_lacks 1 = .ok (.invokestatic 377, 3) := by decide +kernel
theorem dX12_lacks_4 : decode cX12_lacks 4 = .ok (.ifCond .ne 7, 3) := by decide +kernel
theorem dX12_lacks_7 : decode cX12_lacks 7 = .ok (.iconst (-1), 1) := by decide +kernel
theorem dX12_lacks_8 : decode cX12_lacks 8 = .ok (.goto 41, 3) := by decide +kernel
theorem dX12_lacks_11 : decode cX12_lacks 11 = .ok (.aload_n 0, 1) := by decide +kernel
theorem dX12_lacks_12 : decode cX12_lacks 12 = .ok (.getfield 73, 3) := by decide +kernel
theorem dX12_lacks_15 : decode cX12_lacks 15 = .ok (.iload_n 1, 1) := by decide +kernel
theorem dX12_lacks_16 : decode cX12_lacks 16 = .ok (.iaload, 1) := by decide +kernel
theorem dX12_lacks_17 : decode cX12_lacks 17 = .ok (.ifCond .ne 12, 3) := by decide +kernel
theorem dX12_lacks_20 : decode cX12_lacks 20 = .ok (.aload_n 0, 1) := by decide +kernel
theorem dX12_lacks_21 : decode cX12_lacks 21 = .ok (.bipush (-11), 2) := by decide +kernel
theorem dX12_lacks_23 : decode cX12_lacks 23 = .ok (.invokevirtual 380, 3) := by decide +kernel
theorem dX12_lacks_26 : decode cX12_lacks 26 = .ok (.goto 23, 3) := by decide +kernel
theorem dX12_lacks_29 : decode cX12_lacks 29 = .ok (.aload_n 0, 1) := by decide +kernel
theorem dX12_lacks_30 : decode cX12_lacks 30 = .ok (.getfield 73, 3) := by decide +kernel
theorem dX12_lacks_33 : decode cX12_lacks 33 = .ok (.iload_n 1, 1) := by decide +kernel
theorem dX12_lacks_34 : decode cX12_lacks 34 = .ok (.iaload, 1) := by decide +kernel
theorem dX12_lacks_35 : decode cX12_lacks 35 = .ok (.iconst 5, 1) := by decide +kernel
theorem dX12_lacks_36 : decode cX12_lacks 36 = .ok (.if_icmp .eq 12, 3) := by decide +kernel
theorem dX12_lacks_39 : decode cX12_lacks 39 = .ok (.aload_n 0, 1) := by decide +kernel
theorem dX12_lacks_40 : decode cX12_lacks 40 = .ok (.bipush (-12), 2) := by decide +kernel
theorem dX12_lacks_42 : decode cX12_lacks 42 = .ok (.invokevirtual 380, 3) := by decide +kernel
theorem dX12_lacks_45 : decode cX12_lacks 45 = .ok (.goto 4, 3) := by decide +kernel
theorem dX12_lacks_48 : decode cX12_lacks 48 = .ok (.iconst 0, 1) := by decide +kernel
theorem dX12_lacks_49 : decode cX12_lacks 49 = .ok (.ireturn, 1) := by decide +kernel
set_option maxRecDepth 20000 in
theorem ggX12_back_X12_lacks : GoodIn wsX12_back wsX12_lacks := goodIn_r _ [15, 16, 17, 18, 14, 19, 20, 21, 22, 23, 24, 25, 26, 27, 28, 29, 30, 31, 32, 33, 34, 35, 36, 37, 38, 39, 40, 41, 42, 43, 44, 45, 46, 47, 48, 49, 50, 51, 52, 53, 54, 55, 56, 57, 58, 59, 60, 61, 62, 63, 64, 65, 66, 67, 68, 69, 70, 71, 72, 73, 74, 75, 76, 77, 78, 79] (by decide +kernel) (by decide +kernel)
set_option maxRecDepth 20000 in
theorem gX12_back_X12_lacks : GoodIn wsX12_back (wsV RX12 383 RX12 yX12_lacks wsX12_lacks) := goodIn_app (goodIn_of _ (by decide +kernel)) ggX12_back_X12_lacks
theorem dX12_back_0 : decode cX12_back 0 = .ok (.aload_n 0, 1) := by decide +kernel
theorem dX12_back_1 : decode cX12_back 1 = .ok (.iload_n 1, 1) := by decide +kernel
theorem dX12_back_2 : decode cX12_back 2 = .ok (.invokevirtual 383, 3) := by decide +kernel
theorem dX12_back_5 : decode cX12_back 5 = .ok (.istore_n 2, 1) := by decide +kernel
theorem dX12_back_6 : decode cX12_back 6 = .ok (.iload_n 2, 1) := by decide +kernel
theorem dX12_back_7 : decode cX12_back 7 = .ok (.ifCond .eq 5, 3) := by decide +kernel
theorem dX12_back_10 : decode cX12_back 10 = .ok (.iload_n 2, 1) := by decide +kernel
theorem dX12_back_11 : decode cX12_back 11 = .ok (.ireturn, 1) := by decide +kernel
theorem dX12_back_12 : decode cX12_back 12 = .ok (.aload_n 0, 1) := by decide +kernel
theorem dX12_back_13 : decode cX12_back 13 = .ok (.getfield 82, 3) := by decide +kernel
theorem dX12_back_16 : decode cX12_back 16 = .ok (.iload_n 1, 1) := by decide +kernel
theorem dX12_back_17 : decode cX12_back 17 = .ok (.iaload, 1) := by decide +kernel
theorem dX12_back_18 : decode cX12_back 18 = .ok (.aload_n 0, 1) := by decide +kernel
theorem dX12_back_19 : decode cX12_back 19 = .ok (.getfield 140, 3) := by decide +kernel
theorem dX12_back_22 : decode cX12_back 22 = .ok (.if_icmp .le 6, 3) := by decide +kernel
theorem dX12_back_25 : decode cX12_back 25 = .ok (.bipush (-3), 2) := by decide +kernel
theorem dX12_back_27 : decode cX12_back 27 = .ok (.ireturn, 1) := by decide +kernel
theorem dX12_back_28 : decode cX12_back 28 = .ok (.aload_n 0, 1) := by decide +kernel
theorem dX12_back_29 : decode cX12_back 29 = .ok (.aload_n 0, 1) := by decide +kernel
theorem dX12_back_30 : decode cX12_back 30 = .ok (.getfield 85, 3) := by decide +kernel
theorem dX12_back_33 : decode cX12_back 33 = .ok (.iload_n 1, 1) := by decide +kernel
theorem dX12_back_34 : decode cX12_back 34 = .ok (.iaload, 1) := by decide +kernel
theorem dX12_back_35 : decode cX12_back 35 = .ok (.putfield 143, 3) := by decide +kernel
theorem dX12_back_38 : decode cX12_back 38 = .ok (.iconst 0, 1) := by decide +kernel
theorem dX12_back_39 : decode cX12_back 39 = .ok (.istore_n 3, 1) := by decide +kernel
theorem dX12_back_40 : decode cX12_back 40 = .ok (.iload_n 3, 1) := by decide +kernel
theorem dX12_back_41 : decode cX12_back 41 = .ok (.bipush 8, 2) := by decide +kernel
theorem dX12_back_43 : decode cX12_back 43 = .ok (.if_icmp .ge 26, 3) := by decide +kernel
theorem dX12_back_46 : decode cX12_back 46 = .ok (.aload_n 0, 1) := by decide +kernel
theorem dX12_back_47 : decode cX12_back 47 = .ok (.getfield 60, 3) := by decide +kernel
theorem dX12_back_50 : decode cX12_back 50 = .ok (.iload_n 3, 1) := by decide +kernel
theorem dX12_back_51 : decode cX12_back 51 = .ok (.aload_n 0, 1) := by decide +kernel
theorem dX12_back_52 : decode cX12_back 52 = .ok (.getfield 88, 3) := by decide +kernel
theorem dX12_back_55 : decode cX12_back 55 = .ok (.bipush 8, 2) := by decide +kernel
theorem dX12_back_57 : decode cX12_back 57 = .ok (.iload_n 1, 1) := by decide +kernel
theorem dX12_back_58 : decode cX12_back 58 = .ok (.imul, 1) := by decide +kernel
theorem dX12_back_59 : decode cX12_back 59 = .ok (.iload_n 3, 1) := by decide +kernel
theorem dX12_back_60 : decode cX12_back 60 = .ok (.iadd, 1) := by decide +kernel
theorem dX12_back_61 : decode cX12_back 61 = .ok (.laload, 1) := by decide +kernel
theorem dX12_back_62 : decode cX12_back 62 = .ok (.lastore, 1) := by decide +kernel
theorem dX12_back_63 : decode cX12_back 63 = .ok (.iinc 3 1, 3) := by decide +kernel
theorem dX12_back_66 : decode cX12_back 66 = .ok (.goto (-26), 3) := by decide +kernel
theorem dX12_back_69 : decode cX12_back 69 = .ok (.iconst 0, 1) := by decide +kernel
theorem dX12_back_70 : decode cX12_back 70 = .ok (.istore_n 3, 1) := by decide +kernel
theorem dX12_back_71 : decode cX12_back 71 = .ok (.iload_n 3, 1) := by decide +kernel
theorem dX12_back_72 : decode cX12_back 72 = .ok (.aload_n 0, 1) := by decide +kernel
theorem dX12_back_73 : decode cX12_back 73 = .ok (.getfield 140, 3) := by decide +kernel
theorem dX12_back_76 : decode cX12_back 76 = .ok (.if_icmp .ge 69, 3) := by decide +kernel
theorem dX12_back_79 : decode cX12_back 79 = .ok (.aload_n 0, 1) := by decide +kernel
theorem dX12_back_80 : decode cX12_back 80 = .ok (.getfield 63, 3) := by decide +kernel
theorem dX12_back_83 : decode cX12_back 83 = .ok (.iload_n 3, 1) := by decide +kernel
theorem dX12_back_84 : decode cX12_back 84 = .ok (.iload_n 3, 1) := by decide +kernel
theorem dX12_back_85 : decode cX12_back 85 = .ok (.aload_n 0, 1) := by decide +kernel
theorem dX12_back_86 : decode cX12_back 86 = .ok (.getfield 82, 3) := by decide +kernel
theorem dX12_back_89 : decode cX12_back 89 = .ok (.iload_n 1, 1) := by decide +kernel
theorem dX12_back_90 : decode cX12_back 90 = .ok (.iaload, 1) := by decide +kernel
theorem dX12_back_91 : decode cX12_back 91 = .ok (.if_icmp .ge 16, 3) := by decide +kernel
theorem dX12_back_94 : decode cX12_back 94 = .ok (.aload_n 0, 1) := by decide +kernel
theorem dX12_back_95 : decode cX12_back 95 = .ok (.getfield 91, 3) := by decide +kernel
theorem dX12_back_98 : decode cX12_back 98 = .ok (.iconst 4, 1) := by decide +kernel
theorem dX12_back_99 : decode cX12_back 99 = .ok (.iload_n 1, 1) := by decide +kernel
theorem dX12_back_100 : decode cX12_back 100 = .ok (.imul, 1) := by decide +kernel
theorem dX12_back_101 : decode cX12_back 101 = .ok (.iload_n 3, 1) := by decide +kernel
theorem dX12_back_102 : decode cX12_back 102 = .ok (.iadd, 1) := by decide +kernel
theorem dX12_back_103 : decode cX12_back 103 = .ok (.laload, 1) := by decide +kernel
theorem dX12_back_104 : decode cX12_back 104 = .ok (.goto 4, 3) := by decide +kernel
theorem dX12_back_107 : decode cX12_back 107 = .ok (.lconst 0, 1) := by decide +kernel
theorem dX12_back_108 : decode cX12_back 108 = .ok (.lastore, 1) := by decide +kernel
theorem dX12_back_109 : decode cX12_back 109 = .ok (.aload_n 0, 1) := by decide +kernel
theorem dX12_back_110 : decode cX12_back 110 = .ok (.getfield 66, 3) := by decide +kernel
theorem dX12_back_113 : decode cX12_back 113 = .ok (.iload_n 3, 1) := by decide +kernel
theorem dX12_back_114 : decode cX12_back 114 = .ok (.iload_n 3, 1) := by decide +kernel
theorem dX12_back_115 : decode cX12_back 115 = .ok (.aload_n 0, 1) := by decide +kernel
theorem dX12_back_116 : decode cX12_back 116 = .ok (.getfield 82, 3) := by decide +kernel
theorem dX12_back_119 : decode cX12_back 119 = .ok (.iload_n 1, 1) := by decide +kernel
theorem dX12_back_120 : decode cX12_back 120 = .ok (.iaload, 1) := by decide +kernel
theorem dX12_back_121 : decode cX12_back 121 = .ok (.if_icmp .ge 16, 3) := by decide +kernel
theorem dX12_back_124 : decode cX12_back 124 = .ok (.aload_n 0, 1) := by decide +kernel
theorem dX12_back_125 : decode cX12_back 125 = .ok (.getfield 94, 3) := by decide +kernel
theorem dX12_back_128 : decode cX12_back 128 = .ok (.iconst 4, 1) := by decide +kernel
theorem dX12_back_129 : decode cX12_back 129 = .ok (.iload_n 1, 1) := by decide +kernel
theorem dX12_back_130 : decode cX12_back 130 = .ok (.imul, 1) := by decide +kernel
theorem dX12_back_131 : decode cX12_back 131 = .ok (.iload_n 3, 1) := by decide +kernel
theorem dX12_back_132 : decode cX12_back 132 = .ok (.iadd, 1) := by decide +kernel
theorem dX12_back_133 : decode cX12_back 133 = .ok (.laload, 1) := by decide +kernel
theorem dX12_back_134 : decode cX12_back 134 = .ok (.goto 4, 3) := by decide +kernel
theorem dX12_back_137 : decode cX12_back 137 = .ok (.lconst 1, 1) := by decide +kernel
theorem dX12_back_138 : decode cX12_back 138 = .ok (.lastore, 1) := by decide +kernel
theorem dX12_back_139 : decode cX12_back 139 = .ok (.iinc 3 1, 3) := by decide +kernel
theorem dX12_back_142 : decode cX12_back 142 = .ok (.goto (-71), 3) := by decide +kernel
theorem dX12_back_145 : decode cX12_back 145 = .ok (.aload_n 0, 1) := by decide +kernel
theorem dX12_back_146 : decode cX12_back 146 = .ok (.getfield 143, 3) := by decide +kernel
theorem dX12_back_149 : decode cX12_back 149 = .ok (.ireturn, 1) := by decide +kernel
set_option maxRecDepth 20000 in
theorem ggX12_toss_X12_lacks : GoodIn wsX12_toss wsX12_lacks := goodIn_r _ [6, 7, 8, 9, 5, 10, 11, 12, 13, 14, 15, 16, 17, 18, 19, 20, 21, 22, 23, 24, 25, 26, 27, 28, 29, 30, 31, 32, 33, 34, 35, 36, 37, 38, 39, 40, 41, 42, 43, 44, 45, 46, 47, 48, 49, 50, 51, 52, 53, 54, 55, 56, 57, 58, 59, 60, 61, 62, 63, 64, 65, 66, 67, 68, 69, 70] (by decide +kernel) (by decide +kernel)
set_option maxRecDepth 20000 in
theorem gX12_toss_X12_lacks : GoodIn wsX12_toss (wsV RX12 383 RX12 yX12_lacks wsX12_lacks) := goodIn_app (goodIn_of _ (by decide +kernel)) ggX12_toss_X12_lacks
set_option maxRecDepth 20000 in
theorem ggX12_toss_X12_refuse : GoodIn wsX12_toss wsX12_refuse := goodIn_r _ [17, 18, 19, 20, 21, 22, 23, 24, 25, 26, 27, 28, 29, 30, 31, 32, 33, 34, 35, 36, 37, 38, 39, 40, 41, 42, 43, 44, 45, 46, 47, 48, 49, 50, 51, 52, 53, 54, 55, 56, 57, 58, 59, 60, 61, 62, 63, 64, 65, 66, 67, 68, 69, 70] (by decide +kernel) (by decide +kernel)
set_option maxRecDepth 20000 in
theorem gX12_toss_X12_refuse : GoodIn wsX12_toss (wsV RX12 380 RX12 yX12_refuse wsX12_refuse) := goodIn_app (goodIn_of _ (by decide +kernel)) ggX12_toss_X12_refuse
theorem dX12_toss_0 : decode cX12_toss 0 = .ok (.aload_n 0, 1) := by decide +kernel
theorem dX12_toss_1 : decode cX12_toss 1 = .ok (.iload_n 1, 1) := by decide +kernel
theorem dX12_toss_2 : decode cX12_toss 2 = .ok (.invokevirtual 383, 3) := by decide +kernel
theorem dX12_toss_5 : decode cX12_toss 5 = .ok (.istore_n 2, 1) := by decide +kernel
theorem dX12_toss_6 : decode cX12_toss 6 = .ok (.iload_n 2, 1) := by decide +kernel
theorem dX12_toss_7 : decode cX12_toss 7 = .ok (.ifCond .eq 5, 3) := by decide +kernel
theorem dX12_toss_10 : decode cX12_toss 10 = .ok (.iload_n 2, 1) := by decide +kernel
theorem dX12_toss_11 : decode cX12_toss 11 = .ok (.ireturn, 1) := by decide +kernel
theorem dX12_toss_12 : decode cX12_toss 12 = .ok (.aload_n 0, 1) := by decide +kernel
theorem dX12_toss_13 : decode cX12_toss 13 = .ok (.getfield 85, 3) := by decide +kernel
theorem dX12_toss_16 : decode cX12_toss 16 = .ok (.iload_n 1, 1) := by decide +kernel
theorem dX12_toss_17 : decode cX12_toss 17 = .ok (.iaload, 1) := by decide +kernel
theorem dX12_toss_18 : decode cX12_toss 18 = .ok (.ifCond .ne 12, 3) := by decide +kernel
theorem dX12_toss_21 : decode cX12_toss 21 = .ok (.aload_n 0, 1) := by decide +kernel
theorem dX12_toss_22 : decode cX12_toss 22 = .ok (.bipush (-15), 2) := by decide +kernel
theorem dX12_toss_24 : decode cX12_toss 24 = .ok (.invokevirtual 380, 3) := by decide +kernel
theorem dX12_toss_27 : decode cX12_toss 27 = .ok (.goto 9, 3) := by decide +kernel
theorem dX12_toss_30 : decode cX12_toss 30 = .ok (.aload_n 0, 1) := by decide +kernel
theorem dX12_toss_31 : decode cX12_toss 31 = .ok (.getfield 85, 3) := by decide +kernel
theorem dX12_toss_34 : decode cX12_toss 34 = .ok (.iload_n 1, 1) := by decide +kernel
theorem dX12_toss_35 : decode cX12_toss 35 = .ok (.iaload, 1) := by decide +kernel
theorem dX12_toss_36 : decode cX12_toss 36 = .ok (.ireturn, 1) := by decide +kernel
set_option maxRecDepth 20000 in
theorem ggX12_load_X12_isTape : GoodIn wsX12_load wsX12_isTape := goodIn_r _ [9, 10, 11, 8, 12] (by decide +kernel) (by decide +kernel)
set_option maxRecDepth 20000 in
theorem gX12_load_X12_isTape : GoodIn wsX12_load (va_wsS RX12 377 yX12_isTape wsX12_isTape) := goodIn_app (goodIn_of _ (by decide +kernel)) ggX12_load_X12_isTape
set_option maxRecDepth 20000 in
theorem ggX12_load_X12_in : GoodIn wsX12_load wsX12_in := goodIn_r _ [12] (by decide +kernel) (by decide +kernel)
set_option maxRecDepth 20000 in
theorem gX12_load_X12_in : GoodIn wsX12_load (va_wsS RX12 159 yX12_in wsX12_in) := goodIn_app (goodIn_of _ (by decide +kernel)) ggX12_load_X12_in
set_option maxRecDepth 20000 in
theorem ggX12_load_X12_refuse : GoodIn wsX12_load wsX12_refuse := goodIn_r _ [16, 17, 23, 24, 25, 26, 27, 28, 29, 30, 31, 32, 33, 34, 35, 36, 37, 38, 39, 40, 41, 42, 43, 44, 45, 46, 47, 48, 49, 50, 51, 52, 53, 54, 55, 56, 57, 58, 59, 60, 61, 62, 63, 64, 65, 66, 67, 68, 69, 70, 71, 72, 73, 74] (by decide +kernel) (by decide +kernel)
set_option maxRecDepth 20000 in
theorem gX12_load_X12_refuse : GoodIn wsX12_load (wsV RX12 380 RX12 yX12_refuse wsX12_refuse) := goodIn_app (goodIn_of _ (by decide +kernel)) ggX12_load_X12_refuse
set_option maxRecDepth 20000 in
theorem ggX12_load_X12_isLine : GoodIn wsX12_load wsX12_isLine := goodIn_r _ [20, 21, 22] (by decide +kernel) (by decide +kernel)
set_option maxRecDepth 20000 in
theorem gX12_load_X12_isLine : GoodIn wsX12_load (va_wsS RX12 167 yX12_isLine wsX12_isLine) := goodIn_app (goodIn_of _ (by decide +kernel)) ggX12_load_X12_isLine
theorem dX12_load_0 : decode cX12_load 0 = .ok (.iload_n 1, 1) := by decide +kernel
theorem dX12_load_1 : decode cX12_load 1 = .ok (.invokestatic 377, 3) := by decide +kernel
theorem dX12_load_4 : decode cX12_load 4 = .ok (.ifCond .eq 13, 3) := by decide +kernel
theorem dX12_load_7 : decode cX12_load 7 = .ok (.iload_n 3, 1) := by decide +kernel
theorem dX12_load_8 : decode cX12_load 8 = .ok (.iconst 0, 1) := by decide +kernel
theorem dX12_load_9 : decode cX12_load 9 = .ok (.bipush 12, 2) := by decide +kernel
theorem dX12_load_11 : decode cX12_load 11 = .ok (.invokestatic 159, 3) := by decide +kernel
theorem dX12_load_14 : decode cX12_load 14 = .ok (.ifCond .ne 5, 3) := by decide +kernel
theorem dX12_load_17 : decode cX12_load 17 = .ok (.iconst (-1), 1) := by decide +kernel
theorem dX12_load_18 : decode cX12_load 18 = .ok (.ireturn, 1) := by decide +kernel
theorem dX12_load_19 : decode cX12_load 19 = .ok (.aload_n 0, 1) := by decide +kernel
theorem dX12_load_20 : decode cX12_load 20 = .ok (.getfield 73, 3) := by decide +kernel
theorem dX12_load_23 : decode cX12_load 23 = .ok (.iload_n 1, 1) := by decide +kernel
theorem dX12_load_24 : decode cX12_load 24 = .ok (.iaload, 1) := by decide +kernel
theorem dX12_load_25 : decode cX12_load 25 = .ok (.ifCond .ne 10, 3) := by decide +kernel
theorem dX12_load_28 : decode cX12_load 28 = .ok (.aload_n 0, 1) := by decide +kernel
theorem dX12_load_29 : decode cX12_load 29 = .ok (.bipush (-11), 2) := by decide +kernel
theorem dX12_load_31 : decode cX12_load 31 = .ok (.invokevirtual 380, 3) := by decide +kernel
theorem dX12_load_34 : decode cX12_load 34 = .ok (.ireturn, 1) := by decide +kernel
theorem dX12_load_35 : decode cX12_load 35 = .ok (.aload_n 0, 1) := by decide +kernel
theorem dX12_load_36 : decode cX12_load 36 = .ok (.getfield 73, 3) := by decide +kernel
theorem dX12_load_39 : decode cX12_load 39 = .ok (.iload_n 1, 1) := by decide +kernel
theorem dX12_load_40 : decode cX12_load 40 = .ok (.iaload, 1) := by decide +kernel
theorem dX12_load_41 : decode cX12_load 41 = .ok (.iconst 1, 1) := by decide +kernel
theorem dX12_load_42 : decode cX12_load 42 = .ok (.if_icmp .eq 13, 3) := by decide +kernel
theorem dX12_load_45 : decode cX12_load 45 = .ok (.aload_n 0, 1) := by decide +kernel
theorem dX12_load_46 : decode cX12_load 46 = .ok (.getfield 73, 3) := by decide +kernel
theorem dX12_load_49 : decode cX12_load 49 = .ok (.iload_n 1, 1) := by decide +kernel
theorem dX12_load_50 : decode cX12_load 50 = .ok (.iaload, 1) := by decide +kernel
theorem dX12_load_51 : decode cX12_load 51 = .ok (.iconst 5, 1) := by decide +kernel
theorem dX12_load_52 : decode cX12_load 52 = .ok (.if_icmp .ne 10, 3) := by decide +kernel
theorem dX12_load_55 : decode cX12_load 55 = .ok (.aload_n 0, 1) := by decide +kernel
theorem dX12_load_56 : decode cX12_load 56 = .ok (.bipush (-12), 2) := by decide +kernel
theorem dX12_load_58 : decode cX12_load 58 = .ok (.invokevirtual 380, 3) := by decide +kernel
theorem dX12_load_61 : decode cX12_load 61 = .ok (.ireturn, 1) := by decide +kernel
theorem dX12_load_62 : decode cX12_load 62 = .ok (.iload_n 2, 1) := by decide +kernel
theorem dX12_load_63 : decode cX12_load 63 = .ok (.ifCond .lt 15, 3) := by decide +kernel
theorem dX12_load_66 : decode cX12_load 66 = .ok (.iload_n 3, 1) := by decide +kernel
theorem dX12_load_67 : decode cX12_load 67 = .ok (.aload_n 0, 1) := by decide +kernel
theorem dX12_load_68 : decode cX12_load 68 = .ok (.getfield 76, 3) := by decide +kernel
theorem dX12_load_71 : decode cX12_load 71 = .ok (.iload_n 1, 1) := by decide +kernel
theorem dX12_load_72 : decode cX12_load 72 = .ok (.iaload, 1) := by decide +kernel
theorem dX12_load_73 : decode cX12_load 73 = .ok (.iload_n 2, 1) := by decide +kernel
theorem dX12_load_74 : decode cX12_load 74 = .ok (.isub, 1) := by decide +kernel
theorem dX12_load_75 : decode cX12_load 75 = .ok (.if_icmp .le 10, 3) := by decide +kernel
theorem dX12_load_78 : decode cX12_load 78 = .ok (.aload_n 0, 1) := by decide +kernel
theorem dX12_load_79 : decode cX12_load 79 = .ok (.bipush (-13), 2) := by decide +kernel
theorem dX12_load_81 : decode cX12_load 81 = .ok (.invokevirtual 380, 3) := by decide +kernel
theorem dX12_load_84 : decode cX12_load 84 = .ok (.ireturn, 1) := by decide +kernel
theorem dX12_load_85 : decode cX12_load 85 = .ok (.iconst 0, 1) := by decide +kernel
theorem dX12_load_86 : decode cX12_load 86 = .ok (.istore 4, 2) := by decide +kernel
theorem dX12_load_88 : decode cX12_load 88 = .ok (.iload 4, 2) := by decide +kernel
theorem dX12_load_90 : decode cX12_load 90 = .ok (.iload_n 3, 1) := by decide +kernel
theorem dX12_load_91 : decode cX12_load 91 = .ok (.if_icmp .ge 32, 3) := by decide +kernel
theorem dX12_load_94 : decode cX12_load 94 = .ok (.aload_n 0, 1) := by decide +kernel
theorem dX12_load_95 : decode cX12_load 95 = .ok (.getfield 79, 3) := by decide +kernel
theorem dX12_load_98 : decode cX12_load 98 = .ok (.bipush 64, 2) := by decide +kernel
theorem dX12_load_100 : decode cX12_load 100 = .ok (.iload_n 1, 1) := by decide +kernel
theorem dX12_load_101 : decode cX12_load 101 = .ok (.imul, 1) := by decide +kernel
theorem dX12_load_102 : decode cX12_load 102 = .ok (.iload_n 2, 1) := by decide +kernel
theorem dX12_load_103 : decode cX12_load 103 = .ok (.iadd, 1) := by decide +kernel
theorem dX12_load_104 : decode cX12_load 104 = .ok (.iload 4, 2) := by decide +kernel
theorem dX12_load_106 : decode cX12_load 106 = .ok (.iadd, 1) := by decide +kernel
theorem dX12_load_107 : decode cX12_load 107 = .ok (.laload, 1) := by decide +kernel
theorem dX12_load_108 : decode cX12_load 108 = .ok (.invokestatic 167, 3) := by decide +kernel
theorem dX12_load_111 : decode cX12_load 111 = .ok (.ifCond .ne 6, 3) := by decide +kernel
theorem dX12_load_114 : decode cX12_load 114 = .ok (.bipush (-3), 2) := by decide +kernel
theorem dX12_load_116 : decode cX12_load 116 = .ok (.ireturn, 1) := by decide +kernel
theorem dX12_load_117 : decode cX12_load 117 = .ok (.iinc 4 1, 3) := by decide +kernel
theorem dX12_load_120 : decode cX12_load 120 = .ok (.goto (-32), 3) := by decide +kernel
theorem dX12_load_123 : decode cX12_load 123 = .ok (.iconst 0, 1) := by decide +kernel
theorem dX12_load_124 : decode cX12_load 124 = .ok (.istore 4, 2) := by decide +kernel
theorem dX12_load_126 : decode cX12_load 126 = .ok (.iload 4, 2) := by decide +kernel
theorem dX12_load_128 : decode cX12_load 128 = .ok (.iload_n 3, 1) := by decide +kernel
theorem dX12_load_129 : decode cX12_load 129 = .ok (.if_icmp .ge 31, 3) := by decide +kernel
theorem dX12_load_132 : decode cX12_load 132 = .ok (.aload_n 0, 1) := by decide +kernel
theorem dX12_load_133 : decode cX12_load 133 = .ok (.getfield 16, 3) := by decide +kernel
theorem dX12_load_136 : decode cX12_load 136 = .ok (.iload 4, 2) := by decide +kernel
theorem dX12_load_138 : decode cX12_load 138 = .ok (.aload_n 0, 1) := by decide +kernel
theorem dX12_load_139 : decode cX12_load 139 = .ok (.getfield 79, 3) := by decide +kernel
theorem dX12_load_142 : decode cX12_load 142 = .ok (.bipush 64, 2) := by decide +kernel
theorem dX12_load_144 : decode cX12_load 144 = .ok (.iload_n 1, 1) := by decide +kernel
theorem dX12_load_145 : decode cX12_load 145 = .ok (.imul, 1) := by decide +kernel
theorem dX12_load_146 : decode cX12_load 146 = .ok (.iload_n 2, 1) := by decide +kernel
theorem dX12_load_147 : decode cX12_load 147 = .ok (.iadd, 1) := by decide +kernel
theorem dX12_load_148 : decode cX12_load 148 = .ok (.iload 4, 2) := by decide +kernel
theorem dX12_load_150 : decode cX12_load 150 = .ok (.iadd, 1) := by decide +kernel
theorem dX12_load_151 : decode cX12_load 151 = .ok (.laload, 1) := by decide +kernel
theorem dX12_load_152 : decode cX12_load 152 = .ok (.l2i, 1) := by decide +kernel
theorem dX12_load_153 : decode cX12_load 153 = .ok (.iastore, 1) := by decide +kernel
theorem dX12_load_154 : decode cX12_load 154 = .ok (.iinc 4 1, 3) := by decide +kernel
theorem dX12_load_157 : decode cX12_load 157 = .ok (.goto (-31), 3) := by decide +kernel
theorem dX12_load_160 : decode cX12_load 160 = .ok (.aload_n 0, 1) := by decide +kernel
theorem dX12_load_161 : decode cX12_load 161 = .ok (.iload_n 3, 1) := by decide +kernel
theorem dX12_load_162 : decode cX12_load 162 = .ok (.putfield 137, 3) := by decide +kernel
theorem dX12_load_165 : decode cX12_load 165 = .ok (.iload_n 3, 1) := by decide +kernel
theorem dX12_load_166 : decode cX12_load 166 = .ok (.ireturn, 1) := by decide +kernel
set_option maxRecDepth 20000 in
theorem ggX12_clear_X12_isTape : GoodIn wsX12_clear wsX12_isTape := goodIn_r _ [5, 6, 7, 4, 8] (by decide +kernel) (by decide +kernel)
set_option maxRecDepth 20000 in
theorem gX12_clear_X12_isTape : GoodIn wsX12_clear (va_wsS RX12 377 yX12_isTape wsX12_isTape) := goodIn_app (goodIn_of _ (by decide +kernel)) ggX12_clear_X12_isTape
theorem dX12_clear_0 : decode cX12_clear 0 = .ok (.iload_n 1, 1) := by decide +kernel
theorem dX12_clear_1 : decode cX12_clear 1 = .ok (.invokestatic 377, 3) := by decide +kernel
theorem dX12_clear_4 : decode cX12_clear 4 = .ok (.ifCond .ne 5, 3) := by decide +kernel
theorem dX12_clear_7 : decode cX12_clear 7 = .ok (.iconst (-1), 1) := by decide +kernel
theorem dX12_clear_8 : decode cX12_clear 8 = .ok (.ireturn, 1) := by decide +kernel
theorem dX12_clear_9 : decode cX12_clear 9 = .ok (.aload_n 0, 1) := by decide +kernel
theorem dX12_clear_10 : decode cX12_clear 10 = .ok (.getfield 73, 3) := by decide +kernel
theorem dX12_clear_13 : decode cX12_clear 13 = .ok (.iload_n 1, 1) := by decide +kernel
theorem dX12_clear_14 : decode cX12_clear 14 = .ok (.iaload, 1) := by decide +kernel
theorem dX12_clear_15 : decode cX12_clear 15 = .ok (.istore_n 2, 1) := by decide +kernel
theorem dX12_clear_16 : decode cX12_clear 16 = .ok (.aload_n 0, 1) := by decide +kernel
theorem dX12_clear_17 : decode cX12_clear 17 = .ok (.getfield 73, 3) := by decide +kernel
theorem dX12_clear_20 : decode cX12_clear 20 = .ok (.iload_n 1, 1) := by decide +kernel
theorem dX12_clear_21 : decode cX12_clear 21 = .ok (.iconst 0, 1) := by decide +kernel
theorem dX12_clear_22 : decode cX12_clear 22 = .ok (.iastore, 1) := by decide +kernel
theorem dX12_clear_23 : decode cX12_clear 23 = .ok (.iload_n 2, 1) := by decide +kernel
theorem dX12_clear_24 : decode cX12_clear 24 = .ok (.ireturn, 1) := by decide +kernel
theorem dX12_narrowed_0 : decode cX12_narrowed 0 = .ok (.iload_n 0, 1) := by decide +kernel
theorem dX12_narrowed_1 : decode cX12_narrowed 1 = .ok (.iconst 1, 1) := by decide +kernel
theorem dX12_narrowed_2 : decode cX12_narrowed 2 = .ok (.if_icmp .ne 10, 3) := by decide +kernel
theorem dX12_narrowed_5 : decode cX12_narrowed 5 = .ok (.lload_n 1, 1) := by decide +kernel
theorem dX12_narrowed_6 : decode cX12_narrowed 6 = .ok (.l2i, 1) := by decide +kernel
theorem dX12_narrowed_7 : decode cX12_narrowed 7 = .ok (.i2b, 1) := by decide +kernel
theorem dX12_narrowed_8 : decode cX12_narrowed 8 = .ok (.i2l, 1) := by decide +kernel
theorem dX12_narrowed_9 : decode cX12_narrowed 9 = .ok (.goto 27, 3) := by decide +kernel
theorem dX12_narrowed_12 : decode cX12_narrowed 12 = .ok (.iload_n 0, 1) := by decide +kernel
theorem dX12_narrowed_13 : decode cX12_narrowed 13 = .ok (.iconst 2, 1) := by decide +kernel
theorem dX12_narrowed_14 : decode cX12_narrowed 14 = .ok (.if_icmp .ne 10, 3) := by decide +kernel
theorem dX12_narrowed_17 : decode cX12_narrowed 17 = .ok (.lload_n 1, 1) := by decide +kernel
theorem dX12_narrowed_18 : decode cX12_narrowed 18 = .ok (.l2i, 1) := by decide +kernel
theorem dX12_narrowed_19 : decode cX12_narrowed 19 = .ok (.i2s, 1) := by decide +kernel
theorem dX12_narrowed_20 : decode cX12_narrowed 20 = .ok (.i2l, 1) := by decide +kernel
theorem dX12_narrowed_21 : decode cX12_narrowed 21 = .ok (.goto 15, 3) := by decide +kernel
theorem dX12_narrowed_24 : decode cX12_narrowed 24 = .ok (.iload_n 0, 1) := by decide +kernel
theorem dX12_narrowed_25 : decode cX12_narrowed 25 = .ok (.iconst 3, 1) := by decide +kernel
theorem dX12_narrowed_26 : decode cX12_narrowed 26 = .ok (.if_icmp .ne 9, 3) := by decide +kernel
theorem dX12_narrowed_29 : decode cX12_narrowed 29 = .ok (.lload_n 1, 1) := by decide +kernel
theorem dX12_narrowed_30 : decode cX12_narrowed 30 = .ok (.l2i, 1) := by decide +kernel
theorem dX12_narrowed_31 : decode cX12_narrowed 31 = .ok (.i2l, 1) := by decide +kernel
theorem dX12_narrowed_32 : decode cX12_narrowed 32 = .ok (.goto 4, 3) := by decide +kernel
theorem dX12_narrowed_35 : decode cX12_narrowed 35 = .ok (.lload_n 1, 1) := by decide +kernel
theorem dX12_narrowed_36 : decode cX12_narrowed 36 = .ok (.lreturn, 1) := by decide +kernel
set_option maxRecDepth 20000 in
theorem ggX12_put_X12_isTape : GoodIn wsX12_put wsX12_isTape := goodIn_r _ [7, 8, 9, 6, 10] (by decide +kernel) (by decide +kernel)
set_option maxRecDepth 20000 in
theorem gX12_put_X12_isTape : GoodIn wsX12_put (va_wsS RX12 377 yX12_isTape wsX12_isTape) := goodIn_app (goodIn_of _ (by decide +kernel)) ggX12_put_X12_isTape
set_option maxRecDepth 20000 in
theorem ggX12_put_X12_refuse : GoodIn wsX12_put wsX12_refuse := goodIn_r _ [14, 15, 19, 20, 21, 22, 23, 24, 25, 26, 27, 28, 29, 30, 31, 32, 33, 34, 35, 36, 37, 38, 39, 40, 41, 42, 43, 44, 45, 46, 47, 48, 49, 50, 51, 52, 53, 54, 55, 56, 57, 58, 59, 60, 61, 62, 63, 64, 65, 66, 67, 68, 69, 70] (by decide +kernel) (by decide +kernel)
set_option maxRecDepth 20000 in
theorem gX12_put_X12_refuse : GoodIn wsX12_put (wsV RX12 380 RX12 yX12_refuse wsX12_refuse) := goodIn_app (goodIn_of _ (by decide +kernel)) ggX12_put_X12_refuse
set_option maxRecDepth 20000 in
theorem ggX12_put_X12_in : GoodIn wsX12_put wsX12_in := goodIn_r _ [10] (by decide +kernel) (by decide +kernel)
set_option maxRecDepth 20000 in
theorem gX12_put_X12_in : GoodIn wsX12_put (va_wsS RX12 159 yX12_in wsX12_in) := goodIn_app (goodIn_of _ (by decide +kernel)) ggX12_put_X12_in
set_option maxRecDepth 20000 in
theorem ggX12_put_X12_narrowed : GoodIn wsX12_put wsX12_narrowed := goodIn_r _ [18] (by decide +kernel) (by decide +kernel)
set_option maxRecDepth 20000 in
theorem gX12_put_X12_narrowed : GoodIn wsX12_put (va_wsS RX12 386 yX12_narrowed wsX12_narrowed) := goodIn_app (goodIn_of _ (by decide +kernel)) ggX12_put_X12_narrowed
theorem dX12_put_0 : decode cX12_put 0 = .ok (.iload_n 1, 1) := by decide +kernel
theorem dX12_put_1 : decode cX12_put 1 = .ok (.invokestatic 377, 3) := by decide +kernel
theorem dX12_put_4 : decode cX12_put 4 = .ok (.ifCond .ne 5, 3) := by decide +kernel
theorem dX12_put_7 : decode cX12_put 7 = .ok (.iconst (-1), 1) := by decide +kernel
theorem dX12_put_8 : decode cX12_put 8 = .ok (.ireturn, 1) := by decide +kernel
theorem dX12_put_9 : decode cX12_put 9 = .ok (.aload_n 0, 1) := by decide +kernel
theorem dX12_put_10 : decode cX12_put 10 = .ok (.getfield 73, 3) := by decide +kernel
theorem dX12_put_13 : decode cX12_put 13 = .ok (.iload_n 1, 1) := by decide +kernel
theorem dX12_put_14 : decode cX12_put 14 = .ok (.iaload, 1) := by decide +kernel
theorem dX12_put_15 : decode cX12_put 15 = .ok (.ifCond .ne 10, 3) := by decide +kernel
theorem dX12_put_18 : decode cX12_put 18 = .ok (.aload_n 0, 1) := by decide +kernel
theorem dX12_put_19 : decode cX12_put 19 = .ok (.bipush (-11), 2) := by decide +kernel
theorem dX12_put_21 : decode cX12_put 21 = .ok (.invokevirtual 380, 3) := by decide +kernel
theorem dX12_put_24 : decode cX12_put 24 = .ok (.ireturn, 1) := by decide +kernel
theorem dX12_put_25 : decode cX12_put 25 = .ok (.aload_n 0, 1) := by decide +kernel
theorem dX12_put_26 : decode cX12_put 26 = .ok (.getfield 73, 3) := by decide +kernel
theorem dX12_put_29 : decode cX12_put 29 = .ok (.iload_n 1, 1) := by decide +kernel
theorem dX12_put_30 : decode cX12_put 30 = .ok (.iaload, 1) := by decide +kernel
theorem dX12_put_31 : decode cX12_put 31 = .ok (.iconst 5, 1) := by decide +kernel
theorem dX12_put_32 : decode cX12_put 32 = .ok (.if_icmp .ne 10, 3) := by decide +kernel
theorem dX12_put_35 : decode cX12_put 35 = .ok (.aload_n 0, 1) := by decide +kernel
theorem dX12_put_36 : decode cX12_put 36 = .ok (.bipush (-12), 2) := by decide +kernel
theorem dX12_put_38 : decode cX12_put 38 = .ok (.invokevirtual 380, 3) := by decide +kernel
theorem dX12_put_41 : decode cX12_put 41 = .ok (.ireturn, 1) := by decide +kernel
theorem dX12_put_42 : decode cX12_put 42 = .ok (.iload_n 2, 1) := by decide +kernel
theorem dX12_put_43 : decode cX12_put 43 = .ok (.iconst 0, 1) := by decide +kernel
theorem dX12_put_44 : decode cX12_put 44 = .ok (.aload_n 0, 1) := by decide +kernel
theorem dX12_put_45 : decode cX12_put 45 = .ok (.getfield 76, 3) := by decide +kernel
theorem dX12_put_48 : decode cX12_put 48 = .ok (.iload_n 1, 1) := by decide +kernel
theorem dX12_put_49 : decode cX12_put 49 = .ok (.iaload, 1) := by decide +kernel
theorem dX12_put_50 : decode cX12_put 50 = .ok (.iconst 1, 1) := by decide +kernel
theorem dX12_put_51 : decode cX12_put 51 = .ok (.isub, 1) := by decide +kernel
theorem dX12_put_52 : decode cX12_put 52 = .ok (.invokestatic 159, 3) := by decide +kernel
theorem dX12_put_55 : decode cX12_put 55 = .ok (.ifCond .ne 10, 3) := by decide +kernel
theorem dX12_put_58 : decode cX12_put 58 = .ok (.aload_n 0, 1) := by decide +kernel
theorem dX12_put_59 : decode cX12_put 59 = .ok (.bipush (-13), 2) := by decide +kernel
theorem dX12_put_61 : decode cX12_put 61 = .ok (.invokevirtual 380, 3) := by decide +kernel
theorem dX12_put_64 : decode cX12_put 64 = .ok (.ireturn, 1) := by decide +kernel
theorem dX12_put_65 : decode cX12_put 65 = .ok (.aload_n 0, 1) := by decide +kernel
theorem dX12_put_66 : decode cX12_put 66 = .ok (.getfield 79, 3) := by decide +kernel
theorem dX12_put_69 : decode cX12_put 69 = .ok (.bipush 64, 2) := by decide +kernel
theorem dX12_put_71 : decode cX12_put 71 = .ok (.iload_n 1, 1) := by decide +kernel
theorem dX12_put_72 : decode cX12_put 72 = .ok (.imul, 1) := by decide +kernel
theorem dX12_put_73 : decode cX12_put 73 = .ok (.iload_n 2, 1) := by decide +kernel
theorem dX12_put_74 : decode cX12_put 74 = .ok (.iadd, 1) := by decide +kernel
theorem dX12_put_75 : decode cX12_put 75 = .ok (.aload_n 0, 1) := by decide +kernel
theorem dX12_put_76 : decode cX12_put 76 = .ok (.getfield 73, 3) := by decide +kernel
theorem dX12_put_79 : decode cX12_put 79 = .ok (.iload_n 1, 1) := by decide +kernel
theorem dX12_put_80 : decode cX12_put 80 = .ok (.iaload, 1) := by decide +kernel
theorem dX12_put_81 : decode cX12_put 81 = .ok (.lload_n 3, 1) := by decide +kernel
theorem dX12_put_82 : decode cX12_put 82 = .ok (.invokestatic 386, 3) := by decide +kernel
theorem dX12_put_85 : decode cX12_put 85 = .ok (.lastore, 1) := by decide +kernel
theorem dX12_put_86 : decode cX12_put 86 = .ok (.iconst 1, 1) := by decide +kernel
theorem dX12_put_87 : decode cX12_put 87 = .ok (.ireturn, 1) := by decide +kernel
set_option maxRecDepth 20000 in
theorem ggX12_at_X12_isTape : GoodIn wsX12_at wsX12_isTape := goodIn_r _ [8, 9, 10, 7, 11] (by decide +kernel) (by decide +kernel)
set_option maxRecDepth 20000 in
theorem gX12_at_X12_isTape : GoodIn wsX12_at (va_wsS RX12 377 yX12_isTape wsX12_isTape) := goodIn_app (goodIn_of _ (by decide +kernel)) ggX12_at_X12_isTape
set_option maxRecDepth 20000 in
theorem ggX12_at_X12_in : GoodIn wsX12_at wsX12_in := goodIn_r _ [11] (by decide +kernel) (by decide +kernel)
set_option maxRecDepth 20000 in
theorem gX12_at_X12_in : GoodIn wsX12_at (va_wsS RX12 159 yX12_in wsX12_in) := goodIn_app (goodIn_of _ (by decide +kernel)) ggX12_at_X12_in
theorem dX12_at_0 : decode cX12_at 0 = .ok (.aload_n 0, 1) := by decide +kernel
theorem dX12_at_1 : decode cX12_at 1 = .ok (.iload_n 1, 1) := by decide +kernel
theorem dX12_at_2 : decode cX12_at 2 = .ok (.invokestatic 377, 3) := by decide +kernel
theorem dX12_at_5 : decode cX12_at 5 = .ok (.ifCond .ne 7, 3) := by decide +kernel
theorem dX12_at_8 : decode cX12_at 8 = .ok (.iconst 1, 1) := by decide +kernel
theorem dX12_at_9 : decode cX12_at 9 = .ok (.goto 43, 3) := by decide +kernel
theorem dX12_at_12 : decode cX12_at 12 = .ok (.aload_n 0, 1) := by decide +kernel
theorem dX12_at_13 : decode cX12_at 13 = .ok (.getfield 73, 3) := by decide +kernel
theorem dX12_at_16 : decode cX12_at 16 = .ok (.iload_n 1, 1) := by decide +kernel
theorem dX12_at_17 : decode cX12_at 17 = .ok (.iaload, 1) := by decide +kernel
theorem dX12_at_18 : decode cX12_at 18 = .ok (.ifCond .eq 29, 3) := by decide +kernel
theorem dX12_at_21 : decode cX12_at 21 = .ok (.aload_n 0, 1) := by decide +kernel
theorem dX12_at_22 : decode cX12_at 22 = .ok (.getfield 73, 3) := by decide +kernel
theorem dX12_at_25 : decode cX12_at 25 = .ok (.iload_n 1, 1) := by decide +kernel
theorem dX12_at_26 : decode cX12_at 26 = .ok (.iaload, 1) := by decide +kernel
theorem dX12_at_27 : decode cX12_at 27 = .ok (.iconst 5, 1) := by decide +kernel
theorem dX12_at_28 : decode cX12_at 28 = .ok (.if_icmp .eq 19, 3) := by decide +kernel
theorem dX12_at_31 : decode cX12_at 31 = .ok (.iload_n 2, 1) := by decide +kernel
theorem dX12_at_32 : decode cX12_at 32 = .ok (.iconst 0, 1) := by decide +kernel
theorem dX12_at_33 : decode cX12_at 33 = .ok (.aload_n 0, 1) := by decide +kernel
theorem dX12_at_34 : decode cX12_at 34 = .ok (.getfield 76, 3) := by decide +kernel
theorem dX12_at_37 : decode cX12_at 37 = .ok (.iload_n 1, 1) := by decide +kernel
theorem dX12_at_38 : decode cX12_at 38 = .ok (.iaload, 1) := by decide +kernel
theorem dX12_at_39 : decode cX12_at 39 = .ok (.iconst 1, 1) := by decide +kernel
theorem dX12_at_40 : decode cX12_at 40 = .ok (.isub, 1) := by decide +kernel
theorem dX12_at_41 : decode cX12_at 41 = .ok (.invokestatic 159, 3) := by decide +kernel
theorem dX12_at_44 : decode cX12_at 44 = .ok (.ifCond .ne 7, 3) := by decide +kernel
theorem dX12_at_47 : decode cX12_at 47 = .ok (.iconst 2, 1) := by decide +kernel
theorem dX12_at_48 : decode cX12_at 48 = .ok (.goto 4, 3) := by decide +kernel
theorem dX12_at_51 : decode cX12_at 51 = .ok (.iconst 0, 1) := by decide +kernel
theorem dX12_at_52 : decode cX12_at 52 = .ok (.putfield 131, 3) := by decide +kernel
theorem dX12_at_55 : decode cX12_at 55 = .ok (.aload_n 0, 1) := by decide +kernel
theorem dX12_at_56 : decode cX12_at 56 = .ok (.getfield 131, 3) := by decide +kernel
theorem dX12_at_59 : decode cX12_at 59 = .ok (.ifCond .ne 17, 3) := by decide +kernel
theorem dX12_at_62 : decode cX12_at 62 = .ok (.aload_n 0, 1) := by decide +kernel
theorem dX12_at_63 : decode cX12_at 63 = .ok (.getfield 79, 3) := by decide +kernel
theorem dX12_at_66 : decode cX12_at 66 = .ok (.bipush 64, 2) := by decide +kernel
theorem dX12_at_68 : decode cX12_at 68 = .ok (.iload_n 1, 1) := by decide +kernel
theorem dX12_at_69 : decode cX12_at 69 = .ok (.imul, 1) := by decide +kernel
theorem dX12_at_70 : decode cX12_at 70 = .ok (.iload_n 2, 1) := by decide +kernel
theorem dX12_at_71 : decode cX12_at 71 = .ok (.iadd, 1) := by decide +kernel
theorem dX12_at_72 : decode cX12_at 72 = .ok (.laload, 1) := by decide +kernel
theorem dX12_at_73 : decode cX12_at 73 = .ok (.goto 4, 3) := by decide +kernel
theorem dX12_at_76 : decode cX12_at 76 = .ok (.lconst 0, 1) := by decide +kernel
theorem dX12_at_77 : decode cX12_at 77 = .ok (.lreturn, 1) := by decide +kernel
set_option maxRecDepth 20000 in
theorem ggX12_copy_X12_isTape : GoodIn wsX12_copy wsX12_isTape := goodIn_r _ [8, 9, 10, 7, 11] (by decide +kernel) (by decide +kernel)
set_option maxRecDepth 20000 in
theorem gX12_copy_X12_isTape : GoodIn wsX12_copy (va_wsS RX12 377 yX12_isTape wsX12_isTape) := goodIn_app (goodIn_of _ (by decide +kernel)) ggX12_copy_X12_isTape
set_option maxRecDepth 20000 in
theorem ggX12_copy_X12_refuse : GoodIn wsX12_copy wsX12_refuse := goodIn_r _ [15, 16, 17, 18, 19, 20, 21, 22, 23, 24, 25, 26, 27, 28, 29, 30, 31, 32, 33, 34, 35, 36, 37, 38, 39, 40, 41, 42, 43, 44, 45, 46, 47, 48, 49, 50, 51, 52, 53, 54, 55, 56, 57, 58, 59, 60, 61, 62, 63, 64, 65, 66, 67, 68] (by decide +kernel) (by decide +kernel)
set_option maxRecDepth 20000 in
theorem gX12_copy_X12_refuse : GoodIn wsX12_copy (wsV RX12 380 RX12 yX12_refuse wsX12_refuse) := goodIn_app (goodIn_of _ (by decide +kernel)) ggX12_copy_X12_refuse
theorem dX12_copy_0 : decode cX12_copy 0 = .ok (.iload_n 1, 1) := by decide +kernel
theorem dX12_copy_1 : decode cX12_copy 1 = .ok (.invokestatic 377, 3) := by decide +kernel
theorem dX12_copy_4 : decode cX12_copy 4 = .ok (.ifCond .eq 10, 3) := by decide +kernel
theorem dX12_copy_7 : decode cX12_copy 7 = .ok (.iload_n 3, 1) := by decide +kernel
theorem dX12_copy_8 : decode cX12_copy 8 = .ok (.invokestatic 377, 3) := by decide +kernel
theorem dX12_copy_11 : decode cX12_copy 11 = .ok (.ifCond .ne 5, 3) := by decide +kernel
theorem dX12_copy_14 : decode cX12_copy 14 = .ok (.iconst (-1), 1) := by decide +kernel
theorem dX12_copy_15 : decode cX12_copy 15 = .ok (.ireturn, 1) := by decide +kernel
theorem dX12_copy_16 : decode cX12_copy 16 = .ok (.aload_n 0, 1) := by decide +kernel
theorem dX12_copy_17 : decode cX12_copy 17 = .ok (.getfield 73, 3) := by decide +kernel
theorem dX12_copy_20 : decode cX12_copy 20 = .ok (.iload_n 1, 1) := by decide +kernel
theorem dX12_copy_21 : decode cX12_copy 21 = .ok (.iaload, 1) := by decide +kernel
theorem dX12_copy_22 : decode cX12_copy 22 = .ok (.ifCond .eq 12, 3) := by decide +kernel
theorem dX12_copy_25 : decode cX12_copy 25 = .ok (.aload_n 0, 1) := by decide +kernel
theorem dX12_copy_26 : decode cX12_copy 26 = .ok (.getfield 73, 3) := by decide +kernel
theorem dX12_copy_29 : decode cX12_copy 29 = .ok (.iload_n 3, 1) := by decide +kernel
theorem dX12_copy_30 : decode cX12_copy 30 = .ok (.iaload, 1) := by decide +kernel
theorem dX12_copy_31 : decode cX12_copy 31 = .ok (.ifCond .ne 10, 3) := by decide +kernel
theorem dX12_copy_34 : decode cX12_copy 34 = .ok (.aload_n 0, 1) := by decide +kernel
theorem dX12_copy_35 : decode cX12_copy 35 = .ok (.bipush (-11), 2) := by decide +kernel
theorem dX12_copy_37 : decode cX12_copy 37 = .ok (.invokevirtual 380, 3) := by decide +kernel
theorem dX12_copy_40 : decode cX12_copy 40 = .ok (.ireturn, 1) := by decide +kernel
theorem dX12_copy_41 : decode cX12_copy 41 = .ok (.aload_n 0, 1) := by decide +kernel
theorem dX12_copy_42 : decode cX12_copy 42 = .ok (.getfield 73, 3) := by decide +kernel
theorem dX12_copy_45 : decode cX12_copy 45 = .ok (.iload_n 1, 1) := by decide +kernel
theorem dX12_copy_46 : decode cX12_copy 46 = .ok (.iaload, 1) := by decide +kernel
theorem dX12_copy_47 : decode cX12_copy 47 = .ok (.iconst 5, 1) := by decide +kernel
theorem dX12_copy_48 : decode cX12_copy 48 = .ok (.if_icmp .eq 18, 3) := by decide +kernel
theorem dX12_copy_51 : decode cX12_copy 51 = .ok (.aload_n 0, 1) := by decide +kernel
theorem dX12_copy_52 : decode cX12_copy 52 = .ok (.getfield 73, 3) := by decide +kernel
theorem dX12_copy_55 : decode cX12_copy 55 = .ok (.iload_n 1, 1) := by decide +kernel
theorem dX12_copy_56 : decode cX12_copy 56 = .ok (.iaload, 1) := by decide +kernel
theorem dX12_copy_57 : decode cX12_copy 57 = .ok (.aload_n 0, 1) := by decide +kernel
theorem dX12_copy_58 : decode cX12_copy 58 = .ok (.getfield 73, 3) := by decide +kernel
theorem dX12_copy_61 : decode cX12_copy 61 = .ok (.iload_n 3, 1) := by decide +kernel
theorem dX12_copy_62 : decode cX12_copy 62 = .ok (.iaload, 1) := by decide +kernel
theorem dX12_copy_63 : decode cX12_copy 63 = .ok (.if_icmp .eq 10, 3) := by decide +kernel
theorem dX12_copy_66 : decode cX12_copy 66 = .ok (.aload_n 0, 1) := by decide +kernel
theorem dX12_copy_67 : decode cX12_copy 67 = .ok (.bipush (-12), 2) := by decide +kernel
theorem dX12_copy_69 : decode cX12_copy 69 = .ok (.invokevirtual 380, 3) := by decide +kernel
theorem dX12_copy_72 : decode cX12_copy 72 = .ok (.ireturn, 1) := by decide +kernel
theorem dX12_copy_73 : decode cX12_copy 73 = .ok (.iload 5, 2) := by decide +kernel
theorem dX12_copy_75 : decode cX12_copy 75 = .ok (.ifCond .lt 39, 3) := by decide +kernel
theorem dX12_copy_78 : decode cX12_copy 78 = .ok (.iload_n 2, 1) := by decide +kernel
theorem dX12_copy_79 : decode cX12_copy 79 = .ok (.ifCond .lt 35, 3) := by decide +kernel
theorem dX12_copy_82 : decode cX12_copy 82 = .ok (.iload 4, 2) := by decide +kernel
theorem dX12_copy_84 : decode cX12_copy 84 = .ok (.ifCond .lt 30, 3) := by decide +kernel
theorem dX12_copy_87 : decode cX12_copy 87 = .ok (.iload 5, 2) := by decide +kernel
theorem dX12_copy_89 : decode cX12_copy 89 = .ok (.aload_n 0, 1) := by decide +kernel
theorem dX12_copy_90 : decode cX12_copy 90 = .ok (.getfield 76, 3) := by decide +kernel
theorem dX12_copy_93 : decode cX12_copy 93 = .ok (.iload_n 1, 1) := by decide +kernel
theorem dX12_copy_94 : decode cX12_copy 94 = .ok (.iaload, 1) := by decide +kernel
theorem dX12_copy_95 : decode cX12_copy 95 = .ok (.iload_n 2, 1) := by decide +kernel
theorem dX12_copy_96 : decode cX12_copy 96 = .ok (.isub, 1) := by decide +kernel
theorem dX12_copy_97 : decode cX12_copy 97 = .ok (.if_icmp .gt 17, 3) := by decide +kernel
theorem dX12_copy_100 : decode cX12_copy 100 = .ok (.iload 5, 2) := by decide +kernel
theorem dX12_copy_102 : decode cX12_copy 102 = .ok (.aload_n 0, 1) := by decide +kernel
theorem dX12_copy_103 : decode cX12_copy 103 = .ok (.getfield 76, 3) := by decide +kernel
theorem dX12_copy_106 : decode cX12_copy 106 = .ok (.iload_n 3, 1) := by decide +kernel
theorem dX12_copy_107 : decode cX12_copy 107 = .ok (.iaload, 1) := by decide +kernel
theorem dX12_copy_108 : decode cX12_copy 108 = .ok (.iload 4, 2) := by decide +kernel
theorem dX12_copy_110 : decode cX12_copy 110 = .ok (.isub, 1) := by decide +kernel
theorem dX12_copy_111 : decode cX12_copy 111 = .ok (.if_icmp .le 10, 3) := by decide +kernel
theorem dX12_copy_114 : decode cX12_copy 114 = .ok (.aload_n 0, 1) := by decide +kernel
theorem dX12_copy_115 : decode cX12_copy 115 = .ok (.bipush (-13), 2) := by decide +kernel
theorem dX12_copy_117 : decode cX12_copy 117 = .ok (.invokevirtual 380, 3) := by decide +kernel
theorem dX12_copy_120 : decode cX12_copy 120 = .ok (.ireturn, 1) := by decide +kernel
theorem dX12_copy_121 : decode cX12_copy 121 = .ok (.iconst 0, 1) := by decide +kernel
theorem dX12_copy_122 : decode cX12_copy 122 = .ok (.istore 6, 2) := by decide +kernel
theorem dX12_copy_124 : decode cX12_copy 124 = .ok (.iload 6, 2) := by decide +kernel
theorem dX12_copy_126 : decode cX12_copy 126 = .ok (.iload 5, 2) := by decide +kernel
theorem dX12_copy_128 : decode cX12_copy 128 = .ok (.if_icmp .ge 30, 3) := by decide +kernel
theorem dX12_copy_131 : decode cX12_copy 131 = .ok (.aload_n 0, 1) := by decide +kernel
theorem dX12_copy_132 : decode cX12_copy 132 = .ok (.getfield 125, 3) := by decide +kernel
theorem dX12_copy_135 : decode cX12_copy 135 = .ok (.iload 6, 2) := by decide +kernel
theorem dX12_copy_137 : decode cX12_copy 137 = .ok (.aload_n 0, 1) := by decide +kernel
theorem dX12_copy_138 : decode cX12_copy 138 = .ok (.getfield 79, 3) := by decide +kernel
theorem dX12_copy_141 : decode cX12_copy 141 = .ok (.bipush 64, 2) := by decide +kernel
theorem dX12_copy_143 : decode cX12_copy 143 = .ok (.iload_n 1, 1) := by decide +kernel
theorem dX12_copy_144 : decode cX12_copy 144 = .ok (.imul, 1) := by decide +kernel
theorem dX12_copy_145 : decode cX12_copy 145 = .ok (.iload_n 2, 1) := by decide +kernel
theorem dX12_copy_146 : decode cX12_copy 146 = .ok (.iadd, 1) := by decide +kernel
theorem dX12_copy_147 : decode cX12_copy 147 = .ok (.iload 6, 2) := by decide +kernel
theorem dX12_copy_149 : decode cX12_copy 149 = .ok (.iadd, 1) := by decide +kernel
theorem dX12_copy_150 : decode cX12_copy 150 = .ok (.laload, 1) := by decide +kernel
theorem dX12_copy_151 : decode cX12_copy 151 = .ok (.lastore, 1) := by decide +kernel
theorem dX12_copy_152 : decode cX12_copy 152 = .ok (.iinc 6 1, 3) := by decide +kernel
theorem dX12_copy_155 : decode cX12_copy 155 = .ok (.goto (-31), 3) := by decide +kernel
theorem dX12_copy_158 : decode cX12_copy 158 = .ok (.iconst 0, 1) := by decide +kernel
theorem dX12_copy_159 : decode cX12_copy 159 = .ok (.istore 6, 2) := by decide +kernel
theorem dX12_copy_161 : decode cX12_copy 161 = .ok (.iload 6, 2) := by decide +kernel
theorem dX12_copy_163 : decode cX12_copy 163 = .ok (.iload 5, 2) := by decide +kernel
theorem dX12_copy_165 : decode cX12_copy 165 = .ok (.if_icmp .ge 31, 3) := by decide +kernel
theorem dX12_copy_168 : decode cX12_copy 168 = .ok (.aload_n 0, 1) := by decide +kernel
theorem dX12_copy_169 : decode cX12_copy 169 = .ok (.getfield 79, 3) := by decide +kernel
theorem dX12_copy_172 : decode cX12_copy 172 = .ok (.bipush 64, 2) := by decide +kernel
theorem dX12_copy_174 : decode cX12_copy 174 = .ok (.iload_n 3, 1) := by decide +kernel
theorem dX12_copy_175 : decode cX12_copy 175 = .ok (.imul, 1) := by decide +kernel
theorem dX12_copy_176 : decode cX12_copy 176 = .ok (.iload 4, 2) := by decide +kernel
theorem dX12_copy_178 : decode cX12_copy 178 = .ok (.iadd, 1) := by decide +kernel
theorem dX12_copy_179 : decode cX12_copy 179 = .ok (.iload 6, 2) := by decide +kernel
theorem dX12_copy_181 : decode cX12_copy 181 = .ok (.iadd, 1) := by decide +kernel
theorem dX12_copy_182 : decode cX12_copy 182 = .ok (.aload_n 0, 1) := by decide +kernel
theorem dX12_copy_183 : decode cX12_copy 183 = .ok (.getfield 125, 3) := by decide +kernel
theorem dX12_copy_186 : decode cX12_copy 186 = .ok (.iload 6, 2) := by decide +kernel
theorem dX12_copy_188 : decode cX12_copy 188 = .ok (.laload, 1) := by decide +kernel
theorem dX12_copy_189 : decode cX12_copy 189 = .ok (.lastore, 1) := by decide +kernel
theorem dX12_copy_190 : decode cX12_copy 190 = .ok (.iinc 6 1, 3) := by decide +kernel
theorem dX12_copy_193 : decode cX12_copy 193 = .ok (.goto (-32), 3) := by decide +kernel
theorem dX12_copy_196 : decode cX12_copy 196 = .ok (.iload 5, 2) := by decide +kernel
theorem dX12_copy_198 : decode cX12_copy 198 = .ok (.ireturn, 1) := by decide +kernel
set_option maxRecDepth 20000 in
theorem ggX12_count_X12_isProgram : GoodIn wsX12_count wsX12_isProgram := goodIn_r _ [11, 2, 12, 13, 10, 14, 15, 16, 17, 18, 19, 20, 21, 22, 23, 24, 25, 26, 27, 28, 29, 30, 31, 32, 33, 34, 35, 36, 37, 38, 39, 40, 41, 42, 43, 44, 45, 46, 47, 48, 49, 50, 51, 52, 53, 54, 55, 56, 57, 58, 59, 60, 61, 62, 63, 64, 65, 66] (by decide +kernel) (by decide +kernel)
set_option maxRecDepth 20000 in
theorem gX12_count_X12_isProgram : GoodIn wsX12_count (wsV RX12 172 RX12 yX12_isProgram wsX12_isProgram) := goodIn_app (goodIn_of _ (by decide +kernel)) ggX12_count_X12_isProgram
set_option maxRecDepth 20000 in
theorem ggX12_count_X12_in : GoodIn wsX12_count wsX12_in := goodIn_r _ [14] (by decide +kernel) (by decide +kernel)
set_option maxRecDepth 20000 in
theorem gX12_count_X12_in : GoodIn wsX12_count (va_wsS RX12 159 yX12_in wsX12_in) := goodIn_app (goodIn_of _ (by decide +kernel)) ggX12_count_X12_in
theorem dX12_count_0 : decode cX12_count 0 = .ok (.iload_n 1, 1) := by decide +kernel
theorem dX12_count_1 : decode cX12_count 1 = .ok (.tableswitch 51 0 3 #[31, 36, 41, 46], 31) := by decide +kernel
theorem dX12_count_32 : decode cX12_count 32 = .ok (.aload_n 0, 1) := by decide +kernel
theorem dX12_count_33 : decode cX12_count 33 = .ok (.getfield 137, 3) := by decide +kernel
theorem dX12_count_36 : decode cX12_count 36 = .ok (.ireturn, 1) := by decide +kernel
theorem dX12_count_37 : decode cX12_count 37 = .ok (.aload_n 0, 1) := by decide +kernel
theorem dX12_count_38 : decode cX12_count 38 = .ok (.getfield 140, 3) := by decide +kernel
theorem dX12_count_41 : decode cX12_count 41 = .ok (.ireturn, 1) := by decide +kernel
theorem dX12_count_42 : decode cX12_count 42 = .ok (.aload_n 0, 1) := by decide +kernel
theorem dX12_count_43 : decode cX12_count 43 = .ok (.getfield 143, 3) := by decide +kernel
theorem dX12_count_46 : decode cX12_count 46 = .ok (.ireturn, 1) := by decide +kernel
theorem dX12_count_47 : decode cX12_count 47 = .ok (.aload_n 0, 1) := by decide +kernel
theorem dX12_count_48 : decode cX12_count 48 = .ok (.getfield 134, 3) := by decide +kernel
theorem dX12_count_51 : decode cX12_count 51 = .ok (.ireturn, 1) := by decide +kernel
theorem dX12_count_52 : decode cX12_count 52 = .ok (.aload_n 0, 1) := by decide +kernel
theorem dX12_count_53 : decode cX12_count 53 = .ok (.iload_n 1, 1) := by decide +kernel
theorem dX12_count_54 : decode cX12_count 54 = .ok (.bipush 10, 2) := by decide +kernel
theorem dX12_count_56 : decode cX12_count 56 = .ok (.isub, 1) := by decide +kernel
theorem dX12_count_57 : decode cX12_count 57 = .ok (.invokevirtual 172, 3) := by decide +kernel
theorem dX12_count_60 : decode cX12_count 60 = .ok (.ifCond .eq 15, 3) := by decide +kernel
theorem dX12_count_63 : decode cX12_count 63 = .ok (.aload_n 0, 1) := by decide +kernel
theorem dX12_count_64 : decode cX12_count 64 = .ok (.getfield 25, 3) := by decide +kernel
theorem dX12_count_67 : decode cX12_count 67 = .ok (.iload_n 1, 1) := by decide +kernel
theorem dX12_count_68 : decode cX12_count 68 = .ok (.bipush 10, 2) := by decide +kernel
theorem dX12_count_70 : decode cX12_count 70 = .ok (.isub, 1) := by decide +kernel
theorem dX12_count_71 : decode cX12_count 71 = .ok (.iaload, 1) := by decide +kernel
theorem dX12_count_72 : decode cX12_count 72 = .ok (.goto 27, 3) := by decide +kernel
theorem dX12_count_75 : decode cX12_count 75 = .ok (.iload_n 1, 1) := by decide +kernel
theorem dX12_count_76 : decode cX12_count 76 = .ok (.bipush 20, 2) := by decide +kernel
theorem dX12_count_78 : decode cX12_count 78 = .ok (.bipush 23, 2) := by decide +kernel
theorem dX12_count_80 : decode cX12_count 80 = .ok (.invokestatic 159, 3) := by decide +kernel
theorem dX12_count_83 : decode cX12_count 83 = .ok (.ifCond .eq 15, 3) := by decide +kernel
theorem dX12_count_86 : decode cX12_count 86 = .ok (.aload_n 0, 1) := by decide +kernel
theorem dX12_count_87 : decode cX12_count 87 = .ok (.getfield 19, 3) := by decide +kernel
theorem dX12_count_90 : decode cX12_count 90 = .ok (.iload_n 1, 1) := by decide +kernel
theorem dX12_count_91 : decode cX12_count 91 = .ok (.bipush 20, 2) := by decide +kernel
theorem dX12_count_93 : decode cX12_count 93 = .ok (.isub, 1) := by decide +kernel
theorem dX12_count_94 : decode cX12_count 94 = .ok (.iaload, 1) := by decide +kernel
theorem dX12_count_95 : decode cX12_count 95 = .ok (.goto 4, 3) := by decide +kernel
theorem dX12_count_98 : decode cX12_count 98 = .ok (.iconst (-1), 1) := by decide +kernel
theorem dX12_count_99 : decode cX12_count 99 = .ok (.ireturn, 1) := by decide +kernel
set_option maxRecDepth 20000 in
theorem ggJ6_highestOneBit_0f7a4_J6_numberOfLeadingZeros_0f7a4 : GoodIn wsJ6_highestOneBit_0f7a4 wsJ6_numberOfLeadingZeros_0f7a4 := goodIn_r _ [5, 6] (by decide +kernel) (by decide +kernel)
set_option maxRecDepth 20000 in
theorem gJ6_highestOneBit_0f7a4_J6_numberOfLeadingZeros_0f7a4 : GoodIn wsJ6_highestOneBit_0f7a4 (va_wsS RJ6 51 yJ6_numberOfLeadingZeros_0f7a4 wsJ6_numberOfLeadingZeros_0f7a4) := goodIn_app (goodIn_of _ (by decide +kernel)) ggJ6_highestOneBit_0f7a4_J6_numberOfLeadingZeros_0f7a4
theorem dJ6_highestOneBit_0f7a4_0 : decode cJ6_highestOneBit_0f7a4 0 = .ok (.iload_n 0, 1) := by decide +kernel
theorem dJ6_highestOneBit_0f7a4_1 : decode cJ6_highestOneBit_0f7a4 1 = .ok (.ldc 127, 2) := by decide +kernel
theorem dJ6_highestOneBit_0f7a4_3 : decode cJ6_highestOneBit_0f7a4 3 = .ok (.iload_n 0, 1) := by decide +kernel
theorem dJ6_highestOneBit_0f7a4_4 : decode cJ6_highestOneBit_0f7a4 4 = .ok (.invokestatic 51, 3) := by decide +kernel
theorem dJ6_highestOneBit_0f7a4_7 : decode cJ6_highestOneBit_0f7a4 7 = .ok (.iushr, 1) := by decide +kernel
theorem dJ6_highestOneBit_0f7a4_8 : decode cJ6_highestOneBit_0f7a4 8 = .ok (.iand, 1) := by decide +kernel
theorem dJ6_highestOneBit_0f7a4_9 : decode cJ6_highestOneBit_0f7a4 9 = .ok (.ireturn, 1) := by decide +kernel
theorem dJ6_numberOfLeadingZeros_0f7a4_0 : decode cJ6_numberOfLeadingZeros_0f7a4 0 = .ok (.iload_n 0, 1) := by decide +kernel
theorem dJ6_numberOfLeadingZeros_0f7a4_1 : decode cJ6_numberOfLeadingZeros_0f7a4 1 = .ok (.ifCond .gt 14, 3) := by decide +kernel
theorem dJ6_numberOfLeadingZeros_0f7a4_4 : decode cJ6_numberOfLeadingZeros_0f7a4 4 = .ok (.iload_n 0, 1) := by decide +kernel
theorem dJ6_numberOfLeadingZeros_0f7a4_5 : decode cJ6_numberOfLeadingZeros_0f7a4 5 = .ok (.ifCond .ne 8, 3) := by decide +kernel
theorem dJ6_numberOfLeadingZeros_0f7a4_8 : decode cJ6_numberOfLeadingZeros_0f7a4 8 = .ok (.bipush 32, 2) := by decide +kernel
theorem dJ6_numberOfLeadingZeros_0f7a4_10 : decode cJ6_numberOfLeadingZeros_0f7a4 10 = .ok (.goto 4, 3) := by decide +kernel
theorem dJ6_numberOfLeadingZeros_0f7a4_13 : decode cJ6_numberOfLeadingZeros_0f7a4 13 = .ok (.iconst 0, 1) := by decide +kernel
theorem dJ6_numberOfLeadingZeros_0f7a4_14 : decode cJ6_numberOfLeadingZeros_0f7a4 14 = .ok (.ireturn, 1) := by decide +kernel
theorem dJ6_numberOfLeadingZeros_0f7a4_15 : decode cJ6_numberOfLeadingZeros_0f7a4 15 = .ok (.bipush 31, 2) := by decide +kernel
theorem dJ6_numberOfLeadingZeros_0f7a4_17 : decode cJ6_numberOfLeadingZeros_0f7a4 17 = .ok (.istore_n 1, 1) := by decide +kernel
theorem dJ6_numberOfLeadingZeros_0f7a4_18 : decode cJ6_numberOfLeadingZeros_0f7a4 18 = .ok (.iload_n 0, 1) := by decide +kernel
theorem dJ6_numberOfLeadingZeros_0f7a4_19 : decode cJ6_numberOfLeadingZeros_0f7a4 19 = .ok (.ldc_w 264, 3) := by decide +kernel
theorem dJ6_numberOfLeadingZeros_0f7a4_22 : decode cJ6_numberOfLeadingZeros_0f7a4 22 = .ok (.if_icmp .lt 11, 3) := by decide +kernel
theorem dJ6_numberOfLeadingZeros_0f7a4_25 : decode cJ6_numberOfLeadingZeros_0f7a4 25 = .ok (.iinc 1 (-16), 3) := by decide +kernel
theorem dJ6_numberOfLeadingZeros_0f7a4_28 : decode cJ6_numberOfLeadingZeros_0f7a4 28 = .ok (.iload_n 0, 1) := by decide +kernel
theorem dJ6_numberOfLeadingZeros_0f7a4_29 : decode cJ6_numberOfLeadingZeros_0f7a4 29 = .ok (.bipush 16, 2) := by decide +kernel
theorem dJ6_numberOfLeadingZeros_0f7a4_31 : decode cJ6_numberOfLeadingZeros_0f7a4 31 = .ok (.iushr, 1) := by decide +kernel
theorem dJ6_numberOfLeadingZeros_0f7a4_32 : decode cJ6_numberOfLeadingZeros_0f7a4 32 = .ok (.istore_n 0, 1) := by decide +kernel
theorem dJ6_numberOfLeadingZeros_0f7a4_33 : decode cJ6_numberOfLeadingZeros_0f7a4 33 = .ok (.iload_n 0, 1) := by decide +kernel
theorem dJ6_numberOfLeadingZeros_0f7a4_34 : decode cJ6_numberOfLeadingZeros_0f7a4 34 = .ok (.sipush 256, 3) := by decide +kernel
theorem dJ6_numberOfLeadingZeros_0f7a4_37 : decode cJ6_numberOfLeadingZeros_0f7a4 37 = .ok (.if_icmp .lt 11, 3) := by decide +kernel
theorem dJ6_numberOfLeadingZeros_0f7a4_40 : decode cJ6_numberOfLeadingZeros_0f7a4 40 = .ok (.iinc 1 (-8), 3) := by decide +kernel
theorem dJ6_numberOfLeadingZeros_0f7a4_43 : decode cJ6_numberOfLeadingZeros_0f7a4 43 = .ok (.iload_n 0, 1) := by decide +kernel
theorem dJ6_numberOfLeadingZeros_0f7a4_44 : decode cJ6_numberOfLeadingZeros_0f7a4 44 = .ok (.bipush 8, 2) := by decide +kernel
theorem dJ6_numberOfLeadingZeros_0f7a4_46 : decode cJ6_numberOfLeadingZeros_0f7a4 46 = .ok (.iushr, 1) := by decide +kernel
theorem dJ6_numberOfLeadingZeros_0f7a4_47 : decode cJ6_numberOfLeadingZeros_0f7a4 47 = .ok (.istore_n 0, 1) := by decide +kernel
theorem dJ6_numberOfLeadingZeros_0f7a4_48 : decode cJ6_numberOfLeadingZeros_0f7a4 48 = .ok (.iload_n 0, 1) := by decide +kernel
theorem dJ6_numberOfLeadingZeros_0f7a4_49 : decode cJ6_numberOfLeadingZeros_0f7a4 49 = .ok (.bipush 16, 2) := by decide +kernel
theorem dJ6_numberOfLeadingZeros_0f7a4_51 : decode cJ6_numberOfLeadingZeros_0f7a4 51 = .ok (.if_icmp .lt 10, 3) := by decide +kernel
theorem dJ6_numberOfLeadingZeros_0f7a4_54 : decode cJ6_numberOfLeadingZeros_0f7a4 54 = .ok (.iinc 1 (-4), 3) := by decide +kernel
theorem dJ6_numberOfLeadingZeros_0f7a4_57 : decode cJ6_numberOfLeadingZeros_0f7a4 57 = .ok (.iload_n 0, 1) := by decide +kernel
theorem dJ6_numberOfLeadingZeros_0f7a4_58 : decode cJ6_numberOfLeadingZeros_0f7a4 58 = .ok (.iconst 4, 1) := by decide +kernel
theorem dJ6_numberOfLeadingZeros_0f7a4_59 : decode cJ6_numberOfLeadingZeros_0f7a4 59 = .ok (.iushr, 1) := by decide +kernel
theorem dJ6_numberOfLeadingZeros_0f7a4_60 : decode cJ6_numberOfLeadingZeros_0f7a4 60 = .ok (.istore_n 0, 1) := by decide +kernel
theorem dJ6_numberOfLeadingZeros_0f7a4_61 : decode cJ6_numberOfLeadingZeros_0f7a4 61 = .ok (.iload_n 0, 1) := by decide +kernel
theorem dJ6_numberOfLeadingZeros_0f7a4_62 : decode cJ6_numberOfLeadingZeros_0f7a4 62 = .ok (.iconst 4, 1) := by decide +kernel
theorem dJ6_numberOfLeadingZeros_0f7a4_63 : decode cJ6_numberOfLeadingZeros_0f7a4 63 = .ok (.if_icmp .lt 10, 3) := by decide +kernel
theorem dJ6_numberOfLeadingZeros_0f7a4_66 : decode cJ6_numberOfLeadingZeros_0f7a4 66 = .ok (.iinc 1 (-2), 3) := by decide +kernel
theorem dJ6_numberOfLeadingZeros_0f7a4_69 : decode cJ6_numberOfLeadingZeros_0f7a4 69 = .ok (.iload_n 0, 1) := by decide +kernel
theorem dJ6_numberOfLeadingZeros_0f7a4_70 : decode cJ6_numberOfLeadingZeros_0f7a4 70 = .ok (.iconst 2, 1) := by decide +kernel
theorem dJ6_numberOfLeadingZeros_0f7a4_71 : decode cJ6_numberOfLeadingZeros_0f7a4 71 = .ok (.iushr, 1) := by decide +kernel
theorem dJ6_numberOfLeadingZeros_0f7a4_72 : decode cJ6_numberOfLeadingZeros_0f7a4 72 = .ok (.istore_n 0, 1) := by decide +kernel
theorem dJ6_numberOfLeadingZeros_0f7a4_73 : decode cJ6_numberOfLeadingZeros_0f7a4 73 = .ok (.iload_n 1, 1) := by decide +kernel
theorem dJ6_numberOfLeadingZeros_0f7a4_74 : decode cJ6_numberOfLeadingZeros_0f7a4 74 = .ok (.iload_n 0, 1) := by decide +kernel
theorem dJ6_numberOfLeadingZeros_0f7a4_75 : decode cJ6_numberOfLeadingZeros_0f7a4 75 = .ok (.iconst 1, 1) := by decide +kernel
theorem dJ6_numberOfLeadingZeros_0f7a4_76 : decode cJ6_numberOfLeadingZeros_0f7a4 76 = .ok (.iushr, 1) := by decide +kernel
theorem dJ6_numberOfLeadingZeros_0f7a4_77 : decode cJ6_numberOfLeadingZeros_0f7a4 77 = .ok (.isub, 1) := by decide +kernel
theorem dJ6_numberOfLeadingZeros_0f7a4_78 : decode cJ6_numberOfLeadingZeros_0f7a4 78 = .ok (.ireturn, 1) := by decide +kernel
set_option maxRecDepth 20000 in
theorem ggJ9_ceil_294c1_Jxfc994_ceil_294c1 : GoodIn wsJ9_ceil_294c1 wsJxfc994_ceil_294c1 := goodIn_r _ [4, 5, 6, 7, 3, 8, 9, 10, 11, 12, 13, 14, 15, 16, 17, 18, 19, 20, 21, 22, 23, 24, 25] (by decide +kernel) (by decide +kernel)
set_option maxRecDepth 20000 in
theorem gJ9_ceil_294c1_Jxfc994_ceil_294c1 : GoodIn wsJ9_ceil_294c1 (va_wsS RJ9 53 yJxfc994_ceil_294c1 wsJxfc994_ceil_294c1) := goodIn_app (goodIn_of _ (by decide +kernel)) ggJ9_ceil_294c1_Jxfc994_ceil_294c1
theorem dJ9_ceil_294c1_0 : decode cJ9_ceil_294c1 0 = .ok (.dload_n 0, 1) := by decide +kernel
theorem dJ9_ceil_294c1_1 : decode cJ9_ceil_294c1 1 = .ok (.invokestatic 53, 3) := by decide +kernel
theorem dJ9_ceil_294c1_4 : decode cJ9_ceil_294c1 4 = .ok (.dreturn, 1) := by decide +kernel
set_option maxRecDepth 20000 in
theorem ggJ9_floor_294c1_Jxfc994_floor_294c1 : GoodIn wsJ9_floor_294c1 wsJxfc994_floor_294c1 := goodIn_r _ [4, 5, 6, 7, 3, 8, 9, 10, 11, 12, 13, 14, 15, 16, 17, 18, 19, 20, 21, 22, 23, 24, 25] (by decide +kernel) (by decide +kernel)
set_option maxRecDepth 20000 in
theorem gJ9_floor_294c1_Jxfc994_floor_294c1 : GoodIn wsJ9_floor_294c1 (va_wsS RJ9 56 yJxfc994_floor_294c1 wsJxfc994_floor_294c1) := goodIn_app (goodIn_of _ (by decide +kernel)) ggJ9_floor_294c1_Jxfc994_floor_294c1
theorem dJ9_floor_294c1_0 : decode cJ9_floor_294c1 0 = .ok (.dload_n 0, 1) := by decide +kernel
theorem dJ9_floor_294c1_1 : decode cJ9_floor_294c1 1 = .ok (.invokestatic 56, 3) := by decide +kernel
theorem dJ9_floor_294c1_4 : decode cJ9_floor_294c1 4 = .ok (.dreturn, 1) := by decide +kernel
set_option maxRecDepth 20000 in
theorem ggJ9_rint_294c1_Jxfc994_rint_294c1 : GoodIn wsJ9_rint_294c1 wsJxfc994_rint_294c1 := goodIn_r _ [4, 5, 6, 7, 8, 9, 10, 11, 12, 13, 14, 15, 16, 17, 18, 19, 20, 21] (by decide +kernel) (by decide +kernel)
set_option maxRecDepth 20000 in
theorem gJ9_rint_294c1_Jxfc994_rint_294c1 : GoodIn wsJ9_rint_294c1 (va_wsS RJ9 59 yJxfc994_rint_294c1 wsJxfc994_rint_294c1) := goodIn_app (goodIn_of _ (by decide +kernel)) ggJ9_rint_294c1_Jxfc994_rint_294c1
theorem dJ9_rint_294c1_0 : decode cJ9_rint_294c1 0 = .ok (.dload_n 0, 1) := by decide +kernel
theorem dJ9_rint_294c1_1 : decode cJ9_rint_294c1 1 = .ok (.invokestatic 59, 3) := by decide +kernel
theorem dJ9_rint_294c1_4 : decode cJ9_rint_294c1 4 = .ok (.dreturn, 1) := by decide +kernel
theorem dJ9_abs_294c1_0 : decode cJ9_abs_294c1 0 = .ok (.dload_n 0, 1) := by decide +kernel
theorem dJ9_abs_294c1_1 : decode cJ9_abs_294c1 1 = .ok (.invokestatic 79, 3) := by decide +kernel
theorem dJ9_abs_294c1_4 : decode cJ9_abs_294c1 4 = .ok (.ldc2_w 135, 3) := by decide +kernel
theorem dJ9_abs_294c1_7 : decode cJ9_abs_294c1 7 = .ok (.land, 1) := by decide +kernel
theorem dJ9_abs_294c1_8 : decode cJ9_abs_294c1 8 = .ok (.invokestatic 166, 3) := by decide +kernel
theorem dJ9_abs_294c1_11 : decode cJ9_abs_294c1 11 = .ok (.dreturn, 1) := by decide +kernel
theorem dJ9_max_7cf53_0 : decode cJ9_max_7cf53 0 = .ok (.iload_n 0, 1) := by decide +kernel
theorem dJ9_max_7cf53_1 : decode cJ9_max_7cf53 1 = .ok (.iload_n 1, 1) := by decide +kernel
theorem dJ9_max_7cf53_2 : decode cJ9_max_7cf53 2 = .ok (.if_icmp .lt 7, 3) := by decide +kernel
theorem dJ9_max_7cf53_5 : decode cJ9_max_7cf53 5 = .ok (.iload_n 0, 1) := by decide +kernel
theorem dJ9_max_7cf53_6 : decode cJ9_max_7cf53 6 = .ok (.goto 4, 3) := by decide +kernel
theorem dJ9_max_7cf53_9 : decode cJ9_max_7cf53 9 = .ok (.iload_n 1, 1) := by decide +kernel
theorem dJ9_max_7cf53_10 : decode cJ9_max_7cf53 10 = .ok (.ireturn, 1) := by decide +kernel
theorem dJ9_copySign_eb370_0 : decode cJ9_copySign_eb370 0 = .ok (.dload_n 2, 1) := by decide +kernel
theorem dJ9_copySign_eb370_1 : decode cJ9_copySign_eb370 1 = .ok (.invokestatic 79, 3) := by decide +kernel
theorem dJ9_copySign_eb370_4 : decode cJ9_copySign_eb370 4 = .ok (.ldc2_w 128, 3) := by decide +kernel
theorem dJ9_copySign_eb370_7 : decode cJ9_copySign_eb370 7 = .ok (.land, 1) := by decide +kernel
theorem dJ9_copySign_eb370_8 : decode cJ9_copySign_eb370 8 = .ok (.dload_n 0, 1) := by decide +kernel
theorem dJ9_copySign_eb370_9 : decode cJ9_copySign_eb370 9 = .ok (.invokestatic 79, 3) := by decide +kernel
theorem dJ9_copySign_eb370_12 : decode cJ9_copySign_eb370 12 = .ok (.ldc2_w 135, 3) := by decide +kernel
theorem dJ9_copySign_eb370_15 : decode cJ9_copySign_eb370 15 = .ok (.land, 1) := by decide +kernel
theorem dJ9_copySign_eb370_16 : decode cJ9_copySign_eb370 16 = .ok (.lor, 1) := by decide +kernel
theorem dJ9_copySign_eb370_17 : decode cJ9_copySign_eb370 17 = .ok (.invokestatic 166, 3) := by decide +kernel
theorem dJ9_copySign_eb370_20 : decode cJ9_copySign_eb370 20 = .ok (.dreturn, 1) := by decide +kernel
theorem dJ9_getExponent_b4643_0 : decode cJ9_getExponent_b4643 0 = .ok (.dload_n 0, 1) := by decide +kernel
theorem dJ9_getExponent_b4643_1 : decode cJ9_getExponent_b4643 1 = .ok (.invokestatic 79, 3) := by decide +kernel
theorem dJ9_getExponent_b4643_4 : decode cJ9_getExponent_b4643 4 = .ok (.ldc2_w 87, 3) := by decide +kernel
theorem dJ9_getExponent_b4643_7 : decode cJ9_getExponent_b4643 7 = .ok (.land, 1) := by decide +kernel
theorem dJ9_getExponent_b4643_8 : decode cJ9_getExponent_b4643 8 = .ok (.bipush 52, 2) := by decide +kernel
theorem dJ9_getExponent_b4643_10 : decode cJ9_getExponent_b4643 10 = .ok (.lshr, 1) := by decide +kernel
theorem dJ9_getExponent_b4643_11 : decode cJ9_getExponent_b4643 11 = .ok (.ldc2_w 322, 3) := by decide +kernel
theorem dJ9_getExponent_b4643_14 : decode cJ9_getExponent_b4643 14 = .ok (.lsub, 1) := by decide +kernel
theorem dJ9_getExponent_b4643_15 : decode cJ9_getExponent_b4643 15 = .ok (.l2i, 1) := by decide +kernel
theorem dJ9_getExponent_b4643_16 : decode cJ9_getExponent_b4643 16 = .ok (.ireturn, 1) := by decide +kernel
set_option maxRecDepth 20000 in
theorem ggJxfc994_ceil_294c1_Jxfc994_floorOrCeil_f4a47 : GoodIn wsJxfc994_ceil_294c1 wsJxfc994_floorOrCeil_f4a47 := goodIn_r _ [5, 6, 7, 8, 9, 10, 11, 12, 13, 14, 15, 16, 17, 18, 19, 20, 21, 22] (by decide +kernel) (by decide +kernel)
set_option maxRecDepth 20000 in
theorem gJxfc994_ceil_294c1_Jxfc994_floorOrCeil_f4a47 : GoodIn wsJxfc994_ceil_294c1 (va_wsS RJxfc994 60 yJxfc994_floorOrCeil_f4a47 wsJxfc994_floorOrCeil_f4a47) := goodIn_app (goodIn_of _ (by decide +kernel)) ggJxfc994_ceil_294c1_Jxfc994_floorOrCeil_f4a47
theorem dJxfc994_ceil_294c1_0 : decode cJxfc994_ceil_294c1 0 = .ok (.dload_n 0, 1) := by decide +kernel
theorem dJxfc994_ceil_294c1_1 : decode cJxfc994_ceil_294c1 1 = .ok (.ldc2_w 58, 3) := by decide +kernel
theorem dJxfc994_ceil_294c1_4 : decode cJxfc994_ceil_294c1 4 = .ok (.dconst 1, 1) := by decide +kernel
theorem dJxfc994_ceil_294c1_5 : decode cJxfc994_ceil_294c1 5 = .ok (.dconst 1, 1) := by decide +kernel
theorem dJxfc994_ceil_294c1_6 : decode cJxfc994_ceil_294c1 6 = .ok (.invokestatic 60, 3) := by decide +kernel
theorem dJxfc994_ceil_294c1_9 : decode cJxfc994_ceil_294c1 9 = .ok (.dreturn, 1) := by decide +kernel
set_option maxRecDepth 20000 in
theorem ggJxfc994_floor_294c1_Jxfc994_floorOrCeil_f4a47 : GoodIn wsJxfc994_floor_294c1 wsJxfc994_floorOrCeil_f4a47 := goodIn_r _ [5, 6, 7, 8, 9, 10, 11, 12, 13, 14, 15, 16, 17, 18, 19, 20, 21, 22] (by decide +kernel) (by decide +kernel)
set_option maxRecDepth 20000 in
theorem gJxfc994_floor_294c1_Jxfc994_floorOrCeil_f4a47 : GoodIn wsJxfc994_floor_294c1 (va_wsS RJxfc994 60 yJxfc994_floorOrCeil_f4a47 wsJxfc994_floorOrCeil_f4a47) := goodIn_app (goodIn_of _ (by decide +kernel)) ggJxfc994_floor_294c1_Jxfc994_floorOrCeil_f4a47
theorem dJxfc994_floor_294c1_0 : decode cJxfc994_floor_294c1 0 = .ok (.dload_n 0, 1) := by decide +kernel
theorem dJxfc994_floor_294c1_1 : decode cJxfc994_floor_294c1 1 = .ok (.ldc2_w 64, 3) := by decide +kernel
theorem dJxfc994_floor_294c1_4 : decode cJxfc994_floor_294c1 4 = .ok (.dconst 0, 1) := by decide +kernel
theorem dJxfc994_floor_294c1_5 : decode cJxfc994_floor_294c1 5 = .ok (.ldc2_w 64, 3) := by decide +kernel
theorem dJxfc994_floor_294c1_8 : decode cJxfc994_floor_294c1 8 = .ok (.invokestatic 60, 3) := by decide +kernel
theorem dJxfc994_floor_294c1_11 : decode cJxfc994_floor_294c1 11 = .ok (.dreturn, 1) := by decide +kernel
set_option maxRecDepth 20000 in
theorem ggJxfc994_floorOrCeil_f4a47_J9_getExponent_b4643 : GoodIn wsJxfc994_floorOrCeil_f4a47 wsJ9_getExponent_b4643 := goodIn_r _ [14, 15, 3, 4, 5, 16, 17] (by decide +kernel) (by decide +kernel)
set_option maxRecDepth 20000 in
theorem gJxfc994_floorOrCeil_f4a47_J9_getExponent_b4643 : GoodIn wsJxfc994_floorOrCeil_f4a47 (va_wsS RJxfc994 66 yJ9_getExponent_b4643 wsJ9_getExponent_b4643) := goodIn_app (goodIn_of _ (by decide +kernel)) ggJxfc994_floorOrCeil_f4a47_J9_getExponent_b4643
theorem dJxfc994_floorOrCeil_f4a47_0 : decode cJxfc994_floorOrCeil_f4a47 0 = .ok (.dload_n 0, 1) := by decide +kernel
theorem dJxfc994_floorOrCeil_f4a47_1 : decode cJxfc994_floorOrCeil_f4a47 1 = .ok (.invokestatic 66, 3) := by decide +kernel
theorem dJxfc994_floorOrCeil_f4a47_4 : decode cJxfc994_floorOrCeil_f4a47 4 = .ok (.istore 8, 2) := by decide +kernel
theorem dJxfc994_floorOrCeil_f4a47_6 : decode cJxfc994_floorOrCeil_f4a47 6 = .ok (.iload 8, 2) := by decide +kernel
theorem dJxfc994_floorOrCeil_f4a47_8 : decode cJxfc994_floorOrCeil_f4a47 8 = .ok (.ifCond .ge 26, 3) := by decide +kernel
theorem dJxfc994_floorOrCeil_f4a47_11 : decode cJxfc994_floorOrCeil_f4a47 11 = .ok (.dload_n 0, 1) := by decide +kernel
theorem dJxfc994_floorOrCeil_f4a47_12 : decode cJxfc994_floorOrCeil_f4a47 12 = .ok (.dconst 0, 1) := by decide +kernel
theorem dJxfc994_floorOrCeil_f4a47_13 : decode cJxfc994_floorOrCeil_f4a47 13 = .ok (.dcmp .l, 1) := by decide +kernel
theorem dJxfc994_floorOrCeil_f4a47_14 : decode cJxfc994_floorOrCeil_f4a47 14 = .ok (.ifCond .ne 7, 3) := by decide +kernel
theorem dJxfc994_floorOrCeil_f4a47_17 : decode cJxfc994_floorOrCeil_f4a47 17 = .ok (.dload_n 0, 1) := by decide +kernel
theorem dJxfc994_floorOrCeil_f4a47_18 : decode cJxfc994_floorOrCeil_f4a47 18 = .ok (.goto 15, 3) := by decide +kernel
theorem dJxfc994_floorOrCeil_f4a47_21 : decode cJxfc994_floorOrCeil_f4a47 21 = .ok (.dload_n 0, 1) := by decide +kernel
theorem dJxfc994_floorOrCeil_f4a47_22 : decode cJxfc994_floorOrCeil_f4a47 22 = .ok (.dconst 0, 1) := by decide +kernel
theorem dJxfc994_floorOrCeil_f4a47_23 : decode cJxfc994_floorOrCeil_f4a47 23 = .ok (.dcmp .g, 1) := by decide +kernel
theorem dJxfc994_floorOrCeil_f4a47_24 : decode cJxfc994_floorOrCeil_f4a47 24 = .ok (.ifCond .ge 7, 3) := by decide +kernel
theorem dJxfc994_floorOrCeil_f4a47_27 : decode cJxfc994_floorOrCeil_f4a47 27 = .ok (.dload_n 2, 1) := by decide +kernel
theorem dJxfc994_floorOrCeil_f4a47_28 : decode cJxfc994_floorOrCeil_f4a47 28 = .ok (.goto 5, 3) := by decide +kernel
theorem dJxfc994_floorOrCeil_f4a47_31 : decode cJxfc994_floorOrCeil_f4a47 31 = .ok (.dload 4, 2) := by decide +kernel
theorem dJxfc994_floorOrCeil_f4a47_33 : decode cJxfc994_floorOrCeil_f4a47 33 = .ok (.dreturn, 1) := by decide +kernel
theorem dJxfc994_floorOrCeil_f4a47_34 : decode cJxfc994_floorOrCeil_f4a47 34 = .ok (.iload 8, 2) := by decide +kernel
theorem dJxfc994_floorOrCeil_f4a47_36 : decode cJxfc994_floorOrCeil_f4a47 36 = .ok (.bipush 52, 2) := by decide +kernel
theorem dJxfc994_floorOrCeil_f4a47_38 : decode cJxfc994_floorOrCeil_f4a47 38 = .ok (.if_icmp .lt 5, 3) := by decide +kernel
theorem dJxfc994_floorOrCeil_f4a47_41 : decode cJxfc994_floorOrCeil_f4a47 41 = .ok (.dload_n 0, 1) := by decide +kernel
theorem dJxfc994_floorOrCeil_f4a47_42 : decode cJxfc994_floorOrCeil_f4a47 42 = .ok (.dreturn, 1) := by decide +kernel
theorem dJxfc994_floorOrCeil_f4a47_43 : decode cJxfc994_floorOrCeil_f4a47 43 = .ok (.getstatic 70, 3) := by decide +kernel
theorem dJxfc994_floorOrCeil_f4a47_46 : decode cJxfc994_floorOrCeil_f4a47 46 = .ok (.ifCond .ne 23, 3) := by decide +kernel
theorem dJxfc994_floorOrCeil_f4a47_49 : decode cJxfc994_floorOrCeil_f4a47 49 = .ok (.iload 8, 2) := by decide +kernel
theorem dJxfc994_floorOrCeil_f4a47_51 : decode cJxfc994_floorOrCeil_f4a47 51 = .ok (.ifCond .lt 10, 3) := by decide +kernel
theorem dJxfc994_floorOrCeil_f4a47_54 : decode cJxfc994_floorOrCeil_f4a47 54 = .ok (.iload 8, 2) := by decide +kernel
theorem dJxfc994_floorOrCeil_f4a47_56 : decode cJxfc994_floorOrCeil_f4a47 56 = .ok (.bipush 51, 2) := by decide +kernel
theorem dJxfc994_floorOrCeil_f4a47_58 : decode cJxfc994_floorOrCeil_f4a47 58 = .ok (.if_icmp .le 11, 3) := by decide +kernel
theorem dJxfc994_floorOrCeil_f4a47_61 : decode cJxfc994_floorOrCeil_f4a47 61 = .ok (.new 74, 3) := by decide +kernel
theorem dJxfc994_floorOrCeil_f4a47_64 : decode cJxfc994_floorOrCeil_f4a47 64 = .ok (.dup, 1) := by decide +kernel
theorem dJxfc994_floorOrCeil_f4a47_65 : decode cJxfc994_floorOrCeil_f4a47 65 = .ok (.invokespecial 76, 3) := by decide +kernel
theorem dJxfc994_floorOrCeil_f4a47_68 : decode cJxfc994_floorOrCeil_f4a47 68 = .ok (.athrow, 1) := by decide +kernel
theorem dJxfc994_floorOrCeil_f4a47_69 : decode cJxfc994_floorOrCeil_f4a47 69 = .ok (.dload_n 0, 1) := by decide +kernel
theorem dJxfc994_floorOrCeil_f4a47_70 : decode cJxfc994_floorOrCeil_f4a47 70 = .ok (.invokestatic 77, 3) := by decide +kernel
theorem dJxfc994_floorOrCeil_f4a47_73 : decode cJxfc994_floorOrCeil_f4a47 73 = .ok (.lstore 9, 2) := by decide +kernel
theorem dJxfc994_floorOrCeil_f4a47_75 : decode cJxfc994_floorOrCeil_f4a47 75 = .ok (.ldc2_w 85, 3) := by decide +kernel
theorem dJxfc994_floorOrCeil_f4a47_78 : decode cJxfc994_floorOrCeil_f4a47 78 = .ok (.iload 8, 2) := by decide +kernel
theorem dJxfc994_floorOrCeil_f4a47_80 : decode cJxfc994_floorOrCeil_f4a47 80 = .ok (.lshr, 1) := by decide +kernel
theorem dJxfc994_floorOrCeil_f4a47_81 : decode cJxfc994_floorOrCeil_f4a47 81 = .ok (.lstore 11, 2) := by decide +kernel
theorem dJxfc994_floorOrCeil_f4a47_83 : decode cJxfc994_floorOrCeil_f4a47 83 = .ok (.lload 11, 2) := by decide +kernel
theorem dJxfc994_floorOrCeil_f4a47_85 : decode cJxfc994_floorOrCeil_f4a47 85 = .ok (.lload 9, 2) := by decide +kernel
theorem dJxfc994_floorOrCeil_f4a47_87 : decode cJxfc994_floorOrCeil_f4a47 87 = .ok (.land, 1) := by decide +kernel
theorem dJxfc994_floorOrCeil_f4a47_88 : decode cJxfc994_floorOrCeil_f4a47 88 = .ok (.lconst 0, 1) := by decide +kernel
theorem dJxfc994_floorOrCeil_f4a47_89 : decode cJxfc994_floorOrCeil_f4a47 89 = .ok (.lcmp, 1) := by decide +kernel
theorem dJxfc994_floorOrCeil_f4a47_90 : decode cJxfc994_floorOrCeil_f4a47 90 = .ok (.ifCond .ne 5, 3) := by decide +kernel
theorem dJxfc994_floorOrCeil_f4a47_93 : decode cJxfc994_floorOrCeil_f4a47 93 = .ok (.dload_n 0, 1) := by decide +kernel
theorem dJxfc994_floorOrCeil_f4a47_94 : decode cJxfc994_floorOrCeil_f4a47 94 = .ok (.dreturn, 1) := by decide +kernel
theorem dJxfc994_floorOrCeil_f4a47_95 : decode cJxfc994_floorOrCeil_f4a47 95 = .ok (.lload 9, 2) := by decide +kernel
theorem dJxfc994_floorOrCeil_f4a47_97 : decode cJxfc994_floorOrCeil_f4a47 97 = .ok (.lload 11, 2) := by decide +kernel
theorem dJxfc994_floorOrCeil_f4a47_99 : decode cJxfc994_floorOrCeil_f4a47 99 = .ok (.ldc2_w 87, 3) := by decide +kernel
theorem dJxfc994_floorOrCeil_f4a47_102 : decode cJxfc994_floorOrCeil_f4a47 102 = .ok (.lxor, 1) := by decide +kernel
theorem dJxfc994_floorOrCeil_f4a47_103 : decode cJxfc994_floorOrCeil_f4a47 103 = .ok (.land, 1) := by decide +kernel
theorem dJxfc994_floorOrCeil_f4a47_104 : decode cJxfc994_floorOrCeil_f4a47 104 = .ok (.invokestatic 89, 3) := by decide +kernel
theorem dJxfc994_floorOrCeil_f4a47_107 : decode cJxfc994_floorOrCeil_f4a47 107 = .ok (.dstore 13, 2) := by decide +kernel
theorem dJxfc994_floorOrCeil_f4a47_109 : decode cJxfc994_floorOrCeil_f4a47 109 = .ok (.dload 6, 2) := by decide +kernel
theorem dJxfc994_floorOrCeil_f4a47_111 : decode cJxfc994_floorOrCeil_f4a47 111 = .ok (.dload_n 0, 1) := by decide +kernel
theorem dJxfc994_floorOrCeil_f4a47_112 : decode cJxfc994_floorOrCeil_f4a47 112 = .ok (.dmul, 1) := by decide +kernel
theorem dJxfc994_floorOrCeil_f4a47_113 : decode cJxfc994_floorOrCeil_f4a47 113 = .ok (.dconst 0, 1) := by decide +kernel
theorem dJxfc994_floorOrCeil_f4a47_114 : decode cJxfc994_floorOrCeil_f4a47 114 = .ok (.dcmp .l, 1) := by decide +kernel
theorem dJxfc994_floorOrCeil_f4a47_115 : decode cJxfc994_floorOrCeil_f4a47 115 = .ok (.ifCond .le 10, 3) := by decide +kernel
theorem dJxfc994_floorOrCeil_f4a47_118 : decode cJxfc994_floorOrCeil_f4a47 118 = .ok (.dload 13, 2) := by decide +kernel
theorem dJxfc994_floorOrCeil_f4a47_120 : decode cJxfc994_floorOrCeil_f4a47 120 = .ok (.dload 6, 2) := by decide +kernel
theorem dJxfc994_floorOrCeil_f4a47_122 : decode cJxfc994_floorOrCeil_f4a47 122 = .ok (.dadd, 1) := by decide +kernel
theorem dJxfc994_floorOrCeil_f4a47_123 : decode cJxfc994_floorOrCeil_f4a47 123 = .ok (.dstore 13, 2) := by decide +kernel
theorem dJxfc994_floorOrCeil_f4a47_125 : decode cJxfc994_floorOrCeil_f4a47 125 = .ok (.dload 13, 2) := by decide +kernel
theorem dJxfc994_floorOrCeil_f4a47_127 : decode cJxfc994_floorOrCeil_f4a47 127 = .ok (.dreturn, 1) := by decide +kernel
set_option maxRecDepth 20000 in
theorem ggJxfc994_rint_294c1_J9_copySign_eb370 : GoodIn wsJxfc994_rint_294c1 wsJ9_copySign_eb370 := goodIn_r _ [5, 6, 7, 8, 9, 10, 11, 12, 13, 14] (by decide +kernel) (by decide +kernel)
set_option maxRecDepth 20000 in
theorem gJxfc994_rint_294c1_J9_copySign_eb370 : GoodIn wsJxfc994_rint_294c1 (va_wsS RJxfc994 95 yJ9_copySign_eb370 wsJ9_copySign_eb370) := goodIn_app (goodIn_of _ (by decide +kernel)) ggJxfc994_rint_294c1_J9_copySign_eb370
set_option maxRecDepth 20000 in
theorem ggJxfc994_rint_294c1_J9_abs_294c1 : GoodIn wsJxfc994_rint_294c1 wsJ9_abs_294c1 := goodIn_r _ [17, 6, 7, 8, 9, 11, 12, 13, 14] (by decide +kernel) (by decide +kernel)
set_option maxRecDepth 20000 in
theorem gJxfc994_rint_294c1_J9_abs_294c1 : GoodIn wsJxfc994_rint_294c1 (va_wsS RJxfc994 98 yJ9_abs_294c1 wsJ9_abs_294c1) := goodIn_app (goodIn_of _ (by decide +kernel)) ggJxfc994_rint_294c1_J9_abs_294c1
theorem dJxfc994_rint_294c1_0 : decode cJxfc994_rint_294c1 0 = .ok (.ldc2_w 93, 3) := by decide +kernel
theorem dJxfc994_rint_294c1_3 : decode cJxfc994_rint_294c1 3 = .ok (.dstore_n 2, 1) := by decide +kernel
theorem dJxfc994_rint_294c1_4 : decode cJxfc994_rint_294c1 4 = .ok (.dconst 1, 1) := by decide +kernel
theorem dJxfc994_rint_294c1_5 : decode cJxfc994_rint_294c1 5 = .ok (.dload_n 0, 1) := by decide +kernel
theorem dJxfc994_rint_294c1_6 : decode cJxfc994_rint_294c1 6 = .ok (.invokestatic 95, 3) := by decide +kernel
theorem dJxfc994_rint_294c1_9 : decode cJxfc994_rint_294c1 9 = .ok (.dstore 4, 2) := by decide +kernel
theorem dJxfc994_rint_294c1_11 : decode cJxfc994_rint_294c1 11 = .ok (.dload_n 0, 1) := by decide +kernel
theorem dJxfc994_rint_294c1_12 : decode cJxfc994_rint_294c1 12 = .ok (.invokestatic 98, 3) := by decide +kernel
theorem dJxfc994_rint_294c1_15 : decode cJxfc994_rint_294c1 15 = .ok (.dstore_n 0, 1) := by decide +kernel
theorem dJxfc994_rint_294c1_16 : decode cJxfc994_rint_294c1 16 = .ok (.dload_n 0, 1) := by decide +kernel
theorem dJxfc994_rint_294c1_17 : decode cJxfc994_rint_294c1 17 = .ok (.dload_n 2, 1) := by decide +kernel
theorem dJxfc994_rint_294c1_18 : decode cJxfc994_rint_294c1 18 = .ok (.dcmp .g, 1) := by decide +kernel
theorem dJxfc994_rint_294c1_19 : decode cJxfc994_rint_294c1 19 = .ok (.ifCond .ge 9, 3) := by decide +kernel
theorem dJxfc994_rint_294c1_22 : decode cJxfc994_rint_294c1 22 = .ok (.dload_n 2, 1) := by decide +kernel
theorem dJxfc994_rint_294c1_23 : decode cJxfc994_rint_294c1 23 = .ok (.dload_n 0, 1) := by decide +kernel
theorem dJxfc994_rint_294c1_24 : decode cJxfc994_rint_294c1 24 = .ok (.dadd, 1) := by decide +kernel
theorem dJxfc994_rint_294c1_25 : decode cJxfc994_rint_294c1 25 = .ok (.dload_n 2, 1) := by decide +kernel
theorem dJxfc994_rint_294c1_26 : decode cJxfc994_rint_294c1 26 = .ok (.dsub, 1) := by decide +kernel
theorem dJxfc994_rint_294c1_27 : decode cJxfc994_rint_294c1 27 = .ok (.dstore_n 0, 1) := by decide +kernel
theorem dJxfc994_rint_294c1_28 : decode cJxfc994_rint_294c1 28 = .ok (.dload 4, 2) := by decide +kernel
theorem dJxfc994_rint_294c1_30 : decode cJxfc994_rint_294c1 30 = .ok (.dload_n 0, 1) := by decide +kernel
theorem dJxfc994_rint_294c1_31 : decode cJxfc994_rint_294c1 31 = .ok (.dmul, 1) := by decide +kernel
theorem dJxfc994_rint_294c1_32 : decode cJxfc994_rint_294c1 32 = .ok (.dreturn, 1) := by decide +kernel
set_option maxRecDepth 20000 in
theorem ggL_account_X11_account : GoodIn wsL_account wsX11_account := goodIn_ca (goodIn_r _ [6, 7, 8, 9, 10, 11, 12, 13, 14, 15, 16, 17, 18, 19, 20, 21, 22] (by decide +kernel) (by decide +kernel)) (goodIn_sub (fun _ h => List.mem_cons_of_mem _ (List.mem_append_right _ h)) (by decide +kernel))
set_option maxRecDepth 20000 in
theorem gL_account_X11_account : GoodIn wsL_account (wsV RL 7 RX11 yX11_account wsX11_account) := goodIn_app (goodIn_of _ (by decide +kernel)) ggL_account_X11_account
theorem dL_account_0 : decode cL_account 0 = .ok (.aload_n 2, 1) := by decide +kernel
theorem dL_account_1 : decode cL_account 1 = .ok (.iconst 0, 1) := by decide +kernel
theorem dL_account_2 : decode cL_account 2 = .ok (.aload_n 0, 1) := by decide +kernel
theorem dL_account_3 : decode cL_account 3 = .ok (.iload_n 1, 1) := by decide +kernel
theorem dL_account_4 : decode cL_account 4 = .ok (.invokevirtual 7, 3) := by decide +kernel
theorem dL_account_7 : decode cL_account 7 = .ok (.lastore, 1) := by decide +kernel
theorem dL_account_8 : decode cL_account 8 = .ok (.goto 6, 3) := by decide +kernel
theorem dL_account_11 : decode cL_account 11 = .ok (.astore_n 3, 1) := by decide +kernel
theorem dL_account_12 : decode cL_account 12 = .ok (.iconst 1, 1) := by decide +kernel
theorem dL_account_13 : decode cL_account 13 = .ok (.ireturn, 1) := by decide +kernel
theorem dL_account_14 : decode cL_account 14 = .ok (.iconst 0, 1) := by decide +kernel
theorem dL_account_15 : decode cL_account 15 = .ok (.ireturn, 1) := by decide +kernel
set_option maxRecDepth 20000 in
theorem ggL_slot_X11_slot : GoodIn wsL_slot wsX11_slot := goodIn_ca (goodIn_r _ [6, 7, 8, 9, 10, 11, 12, 13, 14, 5, 15, 16, 17, 18, 19, 20, 21, 22, 23, 24, 25, 26, 27, 28, 29, 30, 31, 32, 33, 34, 35, 36] (by decide +kernel) (by decide +kernel)) (goodIn_sub (fun _ h => List.mem_cons_of_mem _ (List.mem_append_right _ h)) (by decide +kernel))
set_option maxRecDepth 20000 in
theorem gL_slot_X11_slot : GoodIn wsL_slot (wsV RL 15 RX11 yX11_slot wsX11_slot) := goodIn_app (goodIn_of _ (by decide +kernel)) ggL_slot_X11_slot
theorem dL_slot_0 : decode cL_slot 0 = .ok (.aload_n 3, 1) := by decide +kernel
theorem dL_slot_1 : decode cL_slot 1 = .ok (.iconst 0, 1) := by decide +kernel
theorem dL_slot_2 : decode cL_slot 2 = .ok (.aload_n 0, 1) := by decide +kernel
theorem dL_slot_3 : decode cL_slot 3 = .ok (.iload_n 1, 1) := by decide +kernel
theorem dL_slot_4 : decode cL_slot 4 = .ok (.iload_n 2, 1) := by decide +kernel
theorem dL_slot_5 : decode cL_slot 5 = .ok (.invokevirtual 15, 3) := by decide +kernel
theorem dL_slot_8 : decode cL_slot 8 = .ok (.lastore, 1) := by decide +kernel
theorem dL_slot_9 : decode cL_slot 9 = .ok (.goto 7, 3) := by decide +kernel
theorem dL_slot_12 : decode cL_slot 12 = .ok (.astore 4, 2) := by decide +kernel
theorem dL_slot_14 : decode cL_slot 14 = .ok (.iconst 1, 1) := by decide +kernel
theorem dL_slot_15 : decode cL_slot 15 = .ok (.ireturn, 1) := by decide +kernel
theorem dL_slot_16 : decode cL_slot 16 = .ok (.iconst 0, 1) := by decide +kernel
theorem dL_slot_17 : decode cL_slot 17 = .ok (.ireturn, 1) := by decide +kernel
set_option maxRecDepth 20000 in
theorem ggL_part_X11_part : GoodIn wsL_part wsX11_part := goodIn_ca (goodIn_r _ [6, 7, 8, 9, 10, 11, 12, 13, 14, 15, 16, 17, 18, 19, 20, 21, 22, 23, 24, 25, 26, 27, 28, 29, 30, 31, 32, 33, 34, 35, 36, 37, 38, 39] (by decide +kernel) (by decide +kernel)) (goodIn_sub (fun _ h => List.mem_cons_of_mem _ (List.mem_append_right _ h)) (by decide +kernel))
set_option maxRecDepth 20000 in
theorem gL_part_X11_part : GoodIn wsL_part (wsV RL 19 RX11 yX11_part wsX11_part) := goodIn_app (goodIn_of _ (by decide +kernel)) ggL_part_X11_part
theorem dL_part_0 : decode cL_part 0 = .ok (.aload_n 2, 1) := by decide +kernel
theorem dL_part_1 : decode cL_part 1 = .ok (.iconst 0, 1) := by decide +kernel
theorem dL_part_2 : decode cL_part 2 = .ok (.aload_n 0, 1) := by decide +kernel
theorem dL_part_3 : decode cL_part 3 = .ok (.iload_n 1, 1) := by decide +kernel
theorem dL_part_4 : decode cL_part 4 = .ok (.invokevirtual 19, 3) := by decide +kernel
theorem dL_part_7 : decode cL_part 7 = .ok (.lastore, 1) := by decide +kernel
theorem dL_part_8 : decode cL_part 8 = .ok (.goto 6, 3) := by decide +kernel
theorem dL_part_11 : decode cL_part 11 = .ok (.astore_n 3, 1) := by decide +kernel
theorem dL_part_12 : decode cL_part 12 = .ok (.iconst 1, 1) := by decide +kernel
theorem dL_part_13 : decode cL_part 13 = .ok (.ireturn, 1) := by decide +kernel
theorem dL_part_14 : decode cL_part 14 = .ok (.iconst 0, 1) := by decide +kernel
theorem dL_part_15 : decode cL_part 15 = .ok (.ireturn, 1) := by decide +kernel
set_option maxRecDepth 20000 in
theorem ggL_got_X11_got : GoodIn wsL_got wsX11_got := goodIn_ca (goodIn_r _ [6, 7, 8, 9, 10, 11, 12, 13, 14, 15, 16, 17, 18, 19, 20, 21, 22, 23, 24, 25, 26, 27, 28, 29, 30, 31] (by decide +kernel) (by decide +kernel)) (goodIn_sub (fun _ h => List.mem_cons_of_mem _ (List.mem_append_right _ h)) (by decide +kernel))
set_option maxRecDepth 20000 in
theorem gL_got_X11_got : GoodIn wsL_got (wsV RL 22 RX11 yX11_got wsX11_got) := goodIn_app (goodIn_of _ (by decide +kernel)) ggL_got_X11_got
theorem dL_got_0 : decode cL_got 0 = .ok (.aload_n 2, 1) := by decide +kernel
theorem dL_got_1 : decode cL_got 1 = .ok (.iconst 0, 1) := by decide +kernel
theorem dL_got_2 : decode cL_got 2 = .ok (.aload_n 0, 1) := by decide +kernel
theorem dL_got_3 : decode cL_got 3 = .ok (.iload_n 1, 1) := by decide +kernel
theorem dL_got_4 : decode cL_got 4 = .ok (.invokevirtual 22, 3) := by decide +kernel
theorem dL_got_7 : decode cL_got 7 = .ok (.lastore, 1) := by decide +kernel
theorem dL_got_8 : decode cL_got 8 = .ok (.goto 6, 3) := by decide +kernel
theorem dL_got_11 : decode cL_got 11 = .ok (.astore_n 3, 1) := by decide +kernel
theorem dL_got_12 : decode cL_got 12 = .ok (.iconst 1, 1) := by decide +kernel
theorem dL_got_13 : decode cL_got 13 = .ok (.ireturn, 1) := by decide +kernel
theorem dL_got_14 : decode cL_got 14 = .ok (.iconst 0, 1) := by decide +kernel
theorem dL_got_15 : decode cL_got 15 = .ok (.ireturn, 1) := by decide +kernel
set_option maxRecDepth 20000 in
theorem ggL_carried_X11_carried : GoodIn wsL_carried wsX11_carried := goodIn_ca (goodIn_r _ [6, 7, 8, 9, 10, 11, 12, 13, 14, 5, 15, 16, 17, 18, 19, 20, 21, 22, 23, 24, 25, 26, 27, 28, 29, 30, 31, 32, 33] (by decide +kernel) (by decide +kernel)) (goodIn_sub (fun _ h => List.mem_cons_of_mem _ (List.mem_append_right _ h)) (by decide +kernel))
set_option maxRecDepth 20000 in
theorem gL_carried_X11_carried : GoodIn wsL_carried (wsV RL 25 RX11 yX11_carried wsX11_carried) := goodIn_app (goodIn_of _ (by decide +kernel)) ggL_carried_X11_carried
theorem dL_carried_0 : decode cL_carried 0 = .ok (.aload_n 3, 1) := by decide +kernel
theorem dL_carried_1 : decode cL_carried 1 = .ok (.iconst 0, 1) := by decide +kernel
theorem dL_carried_2 : decode cL_carried 2 = .ok (.aload_n 0, 1) := by decide +kernel
theorem dL_carried_3 : decode cL_carried 3 = .ok (.iload_n 1, 1) := by decide +kernel
theorem dL_carried_4 : decode cL_carried 4 = .ok (.iload_n 2, 1) := by decide +kernel
theorem dL_carried_5 : decode cL_carried 5 = .ok (.invokevirtual 25, 3) := by decide +kernel
theorem dL_carried_8 : decode cL_carried 8 = .ok (.lastore, 1) := by decide +kernel
theorem dL_carried_9 : decode cL_carried 9 = .ok (.goto 7, 3) := by decide +kernel
theorem dL_carried_12 : decode cL_carried 12 = .ok (.astore 4, 2) := by decide +kernel
theorem dL_carried_14 : decode cL_carried 14 = .ok (.iconst 1, 1) := by decide +kernel
theorem dL_carried_15 : decode cL_carried 15 = .ok (.ireturn, 1) := by decide +kernel
theorem dL_carried_16 : decode cL_carried 16 = .ok (.iconst 0, 1) := by decide +kernel
theorem dL_carried_17 : decode cL_carried 17 = .ok (.ireturn, 1) := by decide +kernel
set_option maxRecDepth 20000 in
theorem ggL_drift_X11_drift : GoodIn wsL_drift wsX11_drift := goodIn_ca (goodIn_r _ [6, 7, 8, 9, 10, 11, 12, 13, 14, 5, 15, 16, 17, 18, 19, 20, 21, 22, 23, 24, 25, 26, 27, 28, 29, 30, 31, 32, 33, 34, 35, 36, 37, 38, 39, 40, 41, 42, 43, 44, 45, 46, 47, 48, 49, 50, 51, 52, 53, 54, 55, 56, 57, 58, 59, 60, 61, 62, 63, 64, 65, 66, 67, 68, 69, 70, 71, 72, 73, 74, 75, 76, 77, 78, 79, 80, 81, 82, 83, 84] (by decide +kernel) (by decide +kernel)) (goodIn_sub (fun _ h => List.mem_cons_of_mem _ (List.mem_append_right _ h)) (by decide +kernel))
set_option maxRecDepth 20000 in
theorem gL_drift_X11_drift : GoodIn wsL_drift (wsV RL 28 RX11 yX11_drift wsX11_drift) := goodIn_app (goodIn_of _ (by decide +kernel)) ggL_drift_X11_drift
theorem dL_drift_0 : decode cL_drift 0 = .ok (.aload 6, 2) := by decide +kernel
theorem dL_drift_2 : decode cL_drift 2 = .ok (.iconst 0, 1) := by decide +kernel
theorem dL_drift_3 : decode cL_drift 3 = .ok (.aload_n 0, 1) := by decide +kernel
theorem dL_drift_4 : decode cL_drift 4 = .ok (.iload_n 1, 1) := by decide +kernel
theorem dL_drift_5 : decode cL_drift 5 = .ok (.iload_n 2, 1) := by decide +kernel
theorem dL_drift_6 : decode cL_drift 6 = .ok (.iload_n 3, 1) := by decide +kernel
theorem dL_drift_7 : decode cL_drift 7 = .ok (.iload 4, 2) := by decide +kernel
theorem dL_drift_9 : decode cL_drift 9 = .ok (.iload 5, 2) := by decide +kernel
theorem dL_drift_11 : decode cL_drift 11 = .ok (.invokevirtual 28, 3) := by decide +kernel
theorem dL_drift_14 : decode cL_drift 14 = .ok (.i2l, 1) := by decide +kernel
theorem dL_drift_15 : decode cL_drift 15 = .ok (.lastore, 1) := by decide +kernel
theorem dL_drift_16 : decode cL_drift 16 = .ok (.goto 7, 3) := by decide +kernel
theorem dL_drift_19 : decode cL_drift 19 = .ok (.astore 7, 2) := by decide +kernel
theorem dL_drift_21 : decode cL_drift 21 = .ok (.iconst 1, 1) := by decide +kernel
theorem dL_drift_22 : decode cL_drift 22 = .ok (.ireturn, 1) := by decide +kernel
theorem dL_drift_23 : decode cL_drift 23 = .ok (.iconst 0, 1) := by decide +kernel
theorem dL_drift_24 : decode cL_drift 24 = .ok (.ireturn, 1) := by decide +kernel
set_option maxRecDepth 20000 in
theorem ggL_rounded_X11_rounded : GoodIn wsL_rounded wsX11_rounded := goodIn_ca (goodIn_r _ [6, 7, 8, 9, 10, 11, 12, 13, 5, 14, 15, 16, 17, 18, 19] (by decide +kernel) (by decide +kernel)) (goodIn_sub (fun _ h => List.mem_cons_of_mem _ (List.mem_append_right _ h)) (by decide +kernel))
set_option maxRecDepth 20000 in
theorem gL_rounded_X11_rounded : GoodIn wsL_rounded (wsV RL 32 RX11 yX11_rounded wsX11_rounded) := goodIn_app (goodIn_of _ (by decide +kernel)) ggL_rounded_X11_rounded
theorem dL_rounded_0 : decode cL_rounded 0 = .ok (.aload 6, 2) := by decide +kernel
theorem dL_rounded_2 : decode cL_rounded 2 = .ok (.iconst 0, 1) := by decide +kernel
theorem dL_rounded_3 : decode cL_rounded 3 = .ok (.aload_n 0, 1) := by decide +kernel
theorem dL_rounded_4 : decode cL_rounded 4 = .ok (.lload_n 1, 1) := by decide +kernel
theorem dL_rounded_5 : decode cL_rounded 5 = .ok (.iload_n 3, 1) := by decide +kernel
theorem dL_rounded_6 : decode cL_rounded 6 = .ok (.iload 4, 2) := by decide +kernel
theorem dL_rounded_8 : decode cL_rounded 8 = .ok (.iload 5, 2) := by decide +kernel
theorem dL_rounded_10 : decode cL_rounded 10 = .ok (.invokevirtual 32, 3) := by decide +kernel
theorem dL_rounded_13 : decode cL_rounded 13 = .ok (.lastore, 1) := by decide +kernel
theorem dL_rounded_14 : decode cL_rounded 14 = .ok (.goto 7, 3) := by decide +kernel
theorem dL_rounded_17 : decode cL_rounded 17 = .ok (.astore 7, 2) := by decide +kernel
theorem dL_rounded_19 : decode cL_rounded 19 = .ok (.iconst 1, 1) := by decide +kernel
theorem dL_rounded_20 : decode cL_rounded 20 = .ok (.ireturn, 1) := by decide +kernel
theorem dL_rounded_21 : decode cL_rounded 21 = .ok (.iconst 0, 1) := by decide +kernel
theorem dL_rounded_22 : decode cL_rounded 22 = .ok (.ireturn, 1) := by decide +kernel
set_option maxRecDepth 20000 in
theorem ggL_at_X11_at : GoodIn wsL_at wsX11_at := goodIn_ca (goodIn_ca (goodIn_r _ [7, 8, 9, 10, 11, 12, 13, 14, 15, 6, 16, 17, 18, 19, 20, 21, 22, 23, 24, 25, 26, 27, 28, 29, 30, 31, 32, 33, 34, 35, 36, 37, 38, 39, 40, 41, 42, 43, 44] (by decide +kernel) (by decide +kernel)) (goodIn_sub (fun _ h => List.mem_cons_of_mem _ (List.mem_append_left _ (List.mem_append_right _ h))) (by decide +kernel))) (goodIn_sub (fun _ h => List.mem_cons_of_mem _ (List.mem_append_right _ h)) (by decide +kernel))
set_option maxRecDepth 20000 in
theorem gL_at_X11_at : GoodIn wsL_at (wsV RL 36 RX11 yX11_at wsX11_at) := goodIn_app (goodIn_of _ (by decide +kernel)) ggL_at_X11_at
theorem dL_at_0 : decode cL_at 0 = .ok (.aload_n 3, 1) := by decide +kernel
theorem dL_at_1 : decode cL_at 1 = .ok (.iconst 0, 1) := by decide +kernel
theorem dL_at_2 : decode cL_at 2 = .ok (.aload_n 0, 1) := by decide +kernel
theorem dL_at_3 : decode cL_at 3 = .ok (.iload_n 1, 1) := by decide +kernel
theorem dL_at_4 : decode cL_at 4 = .ok (.iload_n 2, 1) := by decide +kernel
theorem dL_at_5 : decode cL_at 5 = .ok (.invokevirtual 36, 3) := by decide +kernel
theorem dL_at_8 : decode cL_at 8 = .ok (.lastore, 1) := by decide +kernel
theorem dL_at_9 : decode cL_at 9 = .ok (.goto 11, 3) := by decide +kernel
theorem dL_at_12 : decode cL_at 12 = .ok (.astore 4, 2) := by decide +kernel
theorem dL_at_14 : decode cL_at 14 = .ok (.iconst 1, 1) := by decide +kernel
theorem dL_at_15 : decode cL_at 15 = .ok (.ireturn, 1) := by decide +kernel
theorem dL_at_16 : decode cL_at 16 = .ok (.astore 4, 2) := by decide +kernel
theorem dL_at_18 : decode cL_at 18 = .ok (.iconst 2, 1) := by decide +kernel
theorem dL_at_19 : decode cL_at 19 = .ok (.ireturn, 1) := by decide +kernel
theorem dL_at_20 : decode cL_at 20 = .ok (.iconst 0, 1) := by decide +kernel
theorem dL_at_21 : decode cL_at 21 = .ok (.ireturn, 1) := by decide +kernel
set_option maxRecDepth 20000 in
theorem ggL_law_X11_init : GoodIn wsL_law wsX11_init := goodIn_r _ [10, 11, 12, 13, 14, 15, 16, 17, 18, 19, 20, 21, 22, 23, 24, 25, 26, 27, 28, 29, 30, 31, 32, 33, 34, 35, 36, 37, 38, 39, 40, 41, 42, 43, 44, 45, 46, 47, 48, 49, 50, 51, 52, 53, 54, 55, 56, 57, 58, 59, 60, 61, 62, 63, 64, 65, 66, 6, 67, 68, 69, 70, 71, 72, 73, 74, 75, 76, 77, 78, 79, 80, 81, 82, 83, 84, 85, 86, 87, 88, 89, 90, 91, 92, 93, 94, 95, 96, 97, 98, 99, 100, 101, 102, 103, 104, 105, 106, 107, 108, 109, 110, 111, 112, 113, 114, 115, 116, 117, 118, 119, 120, 121, 122, 123, 124, 125, 126, 127, 128, 129, 130, 131, 132, 133, 134, 135, 136, 137, 138, 139, 140, 141, 142, 143, 144, 145, 146, 147, 148, 1224, 1225, 1226, 1227, 1162, 1163, 1164, 1165, 1166, 1167, 1168, 1169, 1170, 1171, 1228, 1229, 1230, 1231, 1232, 1233, 1234, 1235, 1236, 1237, 1238, 1239, 1240, 1241, 1242, 1243, 1244, 1245, 1246, 1247, 1248, 1249, 1250, 1251, 1252, 1253, 1254, 1255, 1256, 1257, 1258, 1259, 1260, 1261, 1262, 1263, 1264, 1265, 1266, 1267, 1268, 1269, 1270, 1271, 1272, 1273, 1274, 1275, 1276, 1277] (by decide +kernel) (by decide +kernel)
set_option maxRecDepth 20000 in
theorem gL_law_X11_init : GoodIn wsL_law (wsX11_init) := ggL_law_X11_init
set_option maxRecDepth 20000 in
theorem ggL_law_X12_init : GoodIn wsL_law wsX12_init := goodIn_r _ [151, 152, 12, 13, 50, 153, 154, 155, 156, 157, 158, 159, 160, 161, 162, 163, 164, 6, 165, 166, 167, 168, 169, 170, 171, 82, 172, 173, 174, 175, 176, 177, 178, 179, 180, 181, 182, 122, 183, 184, 185, 186, 187, 188, 189, 190, 191, 192, 193, 5, 194, 195, 196, 197, 198, 199, 200, 201, 202, 203, 204, 205, 1172, 1173, 1174, 1175, 1176, 1177, 1178, 1179, 1180, 1181, 1182, 1183, 1184, 1185, 1186, 1187, 1188, 1189, 1190, 1191, 1192, 1193, 1194, 1195, 1196, 1197, 1198, 1199, 1200, 1201, 1202, 1203, 1204, 1205, 1206, 1207, 1208, 1209, 1210, 1211, 1212, 1213, 1214, 1215, 1216, 1217, 1218, 1219, 1220, 1221, 1222, 1223] (by decide +kernel) (by decide +kernel)
set_option maxRecDepth 20000 in
theorem gL_law_X12_init : GoodIn wsL_law (wsX12_init) := ggL_law_X12_init
set_option maxRecDepth 20000 in
theorem ggL_law_X11_begin : GoodIn wsL_law wsX11_begin := goodIn_r _ [209, 210, 211, 21, 212, 17, 25, 33, 213, 57, 58, 16, 59, 51, 52, 54, 55, 214, 215, 216, 24, 217, 67, 218, 219, 93, 94, 32, 95, 80, 81, 83, 84, 79, 96, 97, 98, 99, 100, 78, 101, 89, 102, 1162, 1163, 1164, 1165, 1166, 1167, 1168, 1169, 1170, 1171, 1228, 1229, 1224, 1225, 1226, 1227, 1230, 1231, 1232, 1233, 1234, 1235, 1236, 1237, 1238, 1239, 1240, 1241, 1242, 1267, 1268, 1269, 1270, 1271, 1272, 1273] (by decide +kernel) (by decide +kernel)
set_option maxRecDepth 20000 in
theorem gL_law_X11_begin : GoodIn wsL_law (wsV RL 45 RX11 yX11_begin wsX11_begin) := goodIn_app (goodIn_of _ (by decide +kernel)) ggL_law_X11_begin
set_option maxRecDepth 20000 in
theorem ggL_law_X12_begin : GoodIn wsL_law wsX12_begin := goodIn_r _ [223, 191, 192, 193, 5, 194, 153, 154, 156, 157, 169, 195, 196, 197, 163, 198, 199, 168, 200, 201, 202, 203, 165, 166, 172, 167, 204, 205, 1172, 1173, 1174, 1175, 1176, 1177, 1178, 1179, 1180, 1181, 1182, 1183, 1184, 1185, 1186, 1187, 1188, 1189, 1190, 1191, 1192, 1193, 1194, 1195, 1196, 1197, 1198, 1199, 1200, 1201, 1202, 1203, 1204, 1205, 1206, 1207, 1208, 1209, 1210, 1211, 1212, 1213, 1214, 1215, 1216, 1217, 1218, 1219, 1220, 1221, 1222, 1223] (by decide +kernel) (by decide +kernel)
set_option maxRecDepth 20000 in
theorem gL_law_X12_begin : GoodIn wsL_law (wsV RL 49 RX12 yX12_begin wsX12_begin) := goodIn_app (goodIn_of _ (by decide +kernel)) ggL_law_X12_begin
set_option maxRecDepth 20000 in
theorem ggL_law_X11_rate : GoodIn wsL_law wsX11_rate := goodIn_r _ [227, 17, 228, 229, 230, 231, 2, 232, 1162, 1163, 1164, 1165, 1166, 1167, 1168, 1169, 1170, 1171, 1224, 1225, 1226, 1227] (by decide +kernel) (by decide +kernel)
set_option maxRecDepth 20000 in
theorem gL_law_X11_rate : GoodIn wsL_law (wsV RL 50 RX11 yX11_rate wsX11_rate) := goodIn_app (goodIn_of _ (by decide +kernel)) ggL_law_X11_rate
set_option maxRecDepth 20000 in
theorem ggL_law_X12_rate : GoodIn wsL_law wsX12_rate := goodIn_r _ [236, 153, 154, 237, 238, 5, 239, 1172, 1173, 1174, 1175, 1176, 1177, 1178, 1179, 1180, 1181, 1182, 1183, 1184, 1185, 1186, 1187, 1188, 1189, 1190, 1191, 1192, 1193, 1194, 1195, 1196, 1197, 1198, 1199, 1200, 1201, 1202, 1203, 1204, 1205, 1206, 1207, 1208, 1209, 1210, 1211, 1212, 1213, 1214, 1215, 1216, 1217, 1218, 1219, 1220, 1221, 1222, 1223] (by decide +kernel) (by decide +kernel)
set_option maxRecDepth 20000 in
theorem gL_law_X12_rate : GoodIn wsL_law (wsV RL 54 RX12 yX12_rate wsX12_rate) := goodIn_app (goodIn_of _ (by decide +kernel)) ggL_law_X12_rate
set_option maxRecDepth 20000 in
theorem ggL_law_X11_line : GoodIn wsL_law wsX11_line := goodIn_r _ [243, 21, 212, 244, 245, 246, 2, 247, 248, 249, 1162, 1163, 1164, 1165, 1166, 1167, 1168, 1169, 1170, 1171, 1228, 1229] (by decide +kernel) (by decide +kernel)
set_option maxRecDepth 20000 in
theorem gL_law_X11_line : GoodIn wsL_law (wsV RL 55 RX11 yX11_line wsX11_line) := goodIn_app (goodIn_of _ (by decide +kernel)) ggL_law_X11_line
set_option maxRecDepth 20000 in
theorem ggL_law_X12_line : GoodIn wsL_law wsX12_line := goodIn_r _ [253, 195, 155, 254, 255, 5, 256, 257, 258, 1172, 1173, 1174, 1175, 1176, 1177, 1178, 1179, 1180, 1181, 1182, 1183, 1184, 1185, 1186, 1187, 1188, 1189, 1190, 1191, 1192, 1193, 1194, 1195, 1196, 1197, 1198, 1199, 1200, 1201, 1202, 1203, 1204, 1205, 1206, 1207, 1208, 1209, 1210, 1211, 1212, 1213, 1214, 1215, 1216, 1217, 1218, 1219, 1220, 1221, 1222, 1223] (by decide +kernel) (by decide +kernel)
set_option maxRecDepth 20000 in
theorem gL_law_X12_line : GoodIn wsL_law (wsV RL 59 RX12 yX12_line wsX12_line) := goodIn_app (goodIn_of _ (by decide +kernel)) ggL_law_X12_line
set_option maxRecDepth 20000 in
theorem ggL_law_X11_bare : GoodIn wsL_law wsX11_bare := goodIn_r _ [262, 21, 212, 1162, 1163, 1164, 1165, 1166, 1167, 1168, 1169, 1170, 1171, 1228, 1229] (by decide +kernel) (by decide +kernel)
set_option maxRecDepth 20000 in
theorem gL_law_X11_bare : GoodIn wsL_law (wsV RL 60 RX11 yX11_bare wsX11_bare) := goodIn_app (goodIn_of _ (by decide +kernel)) ggL_law_X11_bare
set_option maxRecDepth 20000 in
theorem ggL_law_X12_bare : GoodIn wsL_law wsX12_bare := goodIn_r _ [266, 195, 1172, 1173, 1174, 1175, 1176, 1177, 1178, 1179, 1180, 1181, 1182, 1183, 1184, 1185, 1186, 1187, 1188, 1189, 1190, 1191, 1192, 1193, 1194, 1195, 1196, 1197, 1198, 1199, 1200, 1201, 1202, 1203, 1204, 1205, 1206, 1207, 1208, 1209, 1210, 1211, 1212, 1213, 1214, 1215, 1216, 1217, 1218, 1219, 1220, 1221, 1222, 1223] (by decide +kernel) (by decide +kernel)
set_option maxRecDepth 20000 in
theorem gL_law_X12_bare : GoodIn wsL_law (wsV RL 63 RX12 yX12_bare wsX12_bare) := goodIn_app (goodIn_of _ (by decide +kernel)) ggL_law_X12_bare
set_option maxRecDepth 20000 in
theorem ggL_law_X11_weight : GoodIn wsL_law wsX11_weight := goodIn_r _ [270, 17, 271, 272, 1162, 1163, 1164, 1165, 1166, 1167, 1168, 1169, 1170, 1171, 1224, 1225, 1226, 1227] (by decide +kernel) (by decide +kernel)
set_option maxRecDepth 20000 in
theorem gL_law_X11_weight : GoodIn wsL_law (wsV RL 64 RX11 yX11_weight wsX11_weight) := goodIn_app (goodIn_of _ (by decide +kernel)) ggL_law_X11_weight
set_option maxRecDepth 20000 in
theorem ggL_law_X12_weight : GoodIn wsL_law wsX12_weight := goodIn_r _ [276, 156, 157, 237, 238, 5, 239, 1172, 1173, 1174, 1175, 1176, 1177, 1178, 1179, 1180, 1181, 1182, 1183, 1184, 1185, 1186, 1187, 1188, 1189, 1190, 1191, 1192, 1193, 1194, 1195, 1196, 1197, 1198, 1199, 1200, 1201, 1202, 1203, 1204, 1205, 1206, 1207, 1208, 1209, 1210, 1211, 1212, 1213, 1214, 1215, 1216, 1217, 1218, 1219, 1220, 1221, 1222, 1223] (by decide +kernel) (by decide +kernel)
set_option maxRecDepth 20000 in
theorem gL_law_X12_weight : GoodIn wsL_law (wsV RL 68 RX12 yX12_weight wsX12_weight) := goodIn_app (goodIn_of _ (by decide +kernel)) ggL_law_X12_weight
set_option maxRecDepth 20000 in
theorem ggL_law_X11_program : GoodIn wsL_law wsX11_program := goodIn_r _ [280, 210, 27, 281, 282, 283, 43, 284, 285, 286, 140, 1162, 1163, 1164, 1165, 1166, 1167, 1168, 1169, 1170, 1171, 1253, 1254, 1255, 1256, 1257, 1258, 1259] (by decide +kernel) (by decide +kernel)
set_option maxRecDepth 20000 in
theorem gL_law_X11_program : GoodIn wsL_law (wsV RL 69 RX11 yX11_program wsX11_program) := goodIn_app (goodIn_of _ (by decide +kernel)) ggL_law_X11_program
set_option maxRecDepth 20000 in
theorem ggL_law_X12_program : GoodIn wsL_law wsX12_program := goodIn_r _ [290, 196, 158, 170, 171, 1172, 1173, 1174, 1175, 1176, 1177, 1178, 1179, 1180, 1181, 1182, 1183, 1184, 1185, 1186, 1187, 1188, 1189, 1190, 1191, 1192, 1193, 1194, 1195, 1196, 1197, 1198, 1199, 1200, 1201, 1202, 1203, 1204, 1205, 1206, 1207, 1208, 1209, 1210, 1211, 1212, 1213, 1214, 1215, 1216, 1217, 1218, 1219, 1220, 1221, 1222, 1223] (by decide +kernel) (by decide +kernel)
set_option maxRecDepth 20000 in
theorem gL_law_X12_program : GoodIn wsL_law (wsV RL 72 RX12 yX12_program wsX12_program) := goodIn_app (goodIn_of _ (by decide +kernel)) ggL_law_X12_program
set_option maxRecDepth 20000 in
theorem ggL_law_X11_act : GoodIn wsL_law wsX11_act := goodIn_r _ [294, 27, 295, 296, 297, 298, 299, 300, 301, 302, 2, 303, 210, 304, 305, 306, 307, 308, 309, 310, 311, 312, 1162, 1163, 1164, 1165, 1166, 1167, 1168, 1169, 1170, 1171, 1253, 1254, 1255, 1256, 1257, 1258, 1259] (by decide +kernel) (by decide +kernel)
set_option maxRecDepth 20000 in
theorem gL_law_X11_act : GoodIn wsL_law (wsV RL 73 RX11 yX11_act wsX11_act) := goodIn_app (goodIn_of _ (by decide +kernel)) ggL_law_X11_act
set_option maxRecDepth 20000 in
theorem ggL_law_X12_act : GoodIn wsL_law wsX12_act := goodIn_r _ [316, 158, 159, 160, 161, 162, 317, 318, 319, 5, 320, 196, 237, 238, 239, 321, 322, 323, 324, 1172, 1173, 1174, 1175, 1176, 1177, 1178, 1179, 1180, 1181, 1182, 1183, 1184, 1185, 1186, 1187, 1188, 1189, 1190, 1191, 1192, 1193, 1194, 1195, 1196, 1197, 1198, 1199, 1200, 1201, 1202, 1203, 1204, 1205, 1206, 1207, 1208, 1209, 1210, 1211, 1212, 1213, 1214, 1215, 1216, 1217, 1218, 1219, 1220, 1221, 1222, 1223] (by decide +kernel) (by decide +kernel)
set_option maxRecDepth 20000 in
theorem gL_law_X12_act : GoodIn wsL_law (wsV RL 76 RX12 yX12_act wsX12_act) := goodIn_app (goodIn_of _ (by decide +kernel)) ggL_law_X12_act
set_option maxRecDepth 20000 in
theorem ggL_law_X11_set : GoodIn wsL_law wsX11_set := goodIn_r _ [328, 27, 296, 298, 299, 329, 330, 331, 2, 332, 295, 300, 301, 302, 303, 210, 307, 308, 309, 310, 311, 312, 1162, 1163, 1164, 1165, 1166, 1167, 1168, 1169, 1170, 1171, 1253, 1254, 1255, 1256, 1257, 1258, 1259] (by decide +kernel) (by decide +kernel)
set_option maxRecDepth 20000 in
theorem gL_law_X11_set : GoodIn wsL_law (wsV RL 77 RX11 yX11_set wsX11_set) := goodIn_app (goodIn_of _ (by decide +kernel)) ggL_law_X11_set
set_option maxRecDepth 20000 in
theorem ggL_law_X12_set : GoodIn wsL_law wsX12_set := goodIn_r _ [336, 159, 161, 162, 337, 338, 339, 5, 340, 158, 317, 318, 319, 320, 196, 237, 238, 239, 321, 322, 323, 324, 1172, 1173, 1174, 1175, 1176, 1177, 1178, 1179, 1180, 1181, 1182, 1183, 1184, 1185, 1186, 1187, 1188, 1189, 1190, 1191, 1192, 1193, 1194, 1195, 1196, 1197, 1198, 1199, 1200, 1201, 1202, 1203, 1204, 1205, 1206, 1207, 1208, 1209, 1210, 1211, 1212, 1213, 1214, 1215, 1216, 1217, 1218, 1219, 1220, 1221, 1222, 1223] (by decide +kernel) (by decide +kernel)
set_option maxRecDepth 20000 in
theorem gL_law_X12_set : GoodIn wsL_law (wsV RL 81 RX12 yX12_set wsX12_set) := goodIn_app (goodIn_of _ (by decide +kernel)) ggL_law_X12_set
set_option maxRecDepth 20000 in
theorem ggL_law_X11_told : GoodIn wsL_law wsX11_told := goodIn_r _ [344, 27, 296, 297, 298, 299, 329, 330, 331, 2, 332, 295, 300, 301, 302, 303, 210, 1162, 1163, 1164, 1165, 1166, 1167, 1168, 1169, 1170, 1171, 1253, 1254, 1255, 1256, 1257, 1258, 1259] (by decide +kernel) (by decide +kernel)
set_option maxRecDepth 20000 in
theorem gL_law_X11_told : GoodIn wsL_law (wsV RL 82 RX11 yX11_told wsX11_told) := goodIn_app (goodIn_of _ (by decide +kernel)) ggL_law_X11_told
set_option maxRecDepth 20000 in
theorem ggL_law_X12_told : GoodIn wsL_law wsX12_told := goodIn_r _ [348, 159, 160, 161, 162, 337, 338, 339, 5, 340, 158, 317, 318, 319, 320, 196, 237, 238, 239, 1172, 1173, 1174, 1175, 1176, 1177, 1178, 1179, 1180, 1181, 1182, 1183, 1184, 1185, 1186, 1187, 1188, 1189, 1190, 1191, 1192, 1193, 1194, 1195, 1196, 1197, 1198, 1199, 1200, 1201, 1202, 1203, 1204, 1205, 1206, 1207, 1208, 1209, 1210, 1211, 1212, 1213, 1214, 1215, 1216, 1217, 1218, 1219, 1220, 1221, 1222, 1223] (by decide +kernel) (by decide +kernel)
set_option maxRecDepth 20000 in
theorem gL_law_X12_told : GoodIn wsL_law (wsV RL 85 RX12 yX12_told wsX12_told) := goodIn_app (goodIn_of _ (by decide +kernel)) ggL_law_X12_told
set_option maxRecDepth 20000 in
theorem ggL_law_X11_run : GoodIn wsL_law wsX11_run := goodIn_r _ [352, 27, 295, 300, 301, 302, 2, 303, 210, 353, 354, 355, 356, 33, 357, 21, 358, 25, 359, 360, 361, 362, 17, 363, 364, 365, 20, 366, 367, 63, 368, 369, 370, 24, 371, 67, 218, 372, 373, 374, 32, 375, 376, 97, 92, 93, 94, 95, 80, 81, 83, 84, 79, 96, 98, 99, 100, 78, 101, 89, 102, 377, 378, 379, 380, 381, 382, 383, 384, 385, 386, 387, 388, 389, 390, 391, 392, 393, 73, 394, 395, 396, 397, 398, 399, 400, 401, 402, 403, 404, 405, 406, 407, 408, 409, 410, 411, 412, 413, 414, 415, 416, 417, 418, 419, 420, 421, 422, 423, 424, 425, 426, 427, 428, 429, 430, 431, 90, 432, 433, 434, 435, 436, 437, 438, 439, 440, 441, 442, 443, 91, 444, 445, 446, 447, 448, 449, 450, 451, 452, 453, 85, 454, 455, 456, 457, 458, 459, 460, 461, 75, 462, 463, 464, 465, 466, 467, 1162, 1163, 1164, 1165, 1166, 1167, 1168, 1169, 1170, 1171, 1253, 1254, 1255, 1256, 1257, 1258, 1259, 1232, 1233, 1234, 1235, 1236, 1237, 1238, 1239, 1240, 1241, 1242, 1228, 1229, 1230, 1231, 1267, 1268, 1269, 1270, 1271, 1272, 1273, 1224, 1225, 1226, 1227] (by decide +kernel) (by decide +kernel)
set_option maxRecDepth 20000 in
theorem gL_law_X11_run : GoodIn wsL_law (wsV RL 86 RX11 yX11_run wsX11_run) := goodIn_app (goodIn_of _ (by decide +kernel)) ggL_law_X11_run
set_option maxRecDepth 20000 in
theorem ggL_law_X12_run : GoodIn wsL_law wsX12_run := goodIn_r _ [471, 158, 472, 317, 318, 319, 5, 320, 196, 237, 238, 239, 473, 474, 475, 476, 199, 195, 477, 164, 155, 163, 197, 478, 479, 480, 481, 482, 170, 171, 181, 169, 168, 200, 201, 202, 203, 165, 166, 172, 167, 204, 205, 483, 484, 485, 486, 160, 161, 162, 159, 487, 488, 489, 490, 491, 492, 493, 494, 495, 496, 497, 498, 499, 500, 501, 502, 503, 504, 505, 506, 507, 508, 509, 510, 153, 154, 511, 512, 513, 514, 515, 516, 517, 518, 519, 520, 521, 522, 523, 524, 525, 526, 527, 528, 529, 530, 531, 532, 533, 156, 534, 535, 536, 537, 157, 538, 539, 540, 541, 542, 543, 544, 545, 546, 547, 548, 549, 550, 551, 552, 553, 554, 555, 556, 557, 558, 559, 560, 561, 1172, 1173, 1174, 1175, 1176, 1177, 1178, 1179, 1180, 1181, 1182, 1183, 1184, 1185, 1186, 1187, 1188, 1189, 1190, 1191, 1192, 1193, 1194, 1195, 1196, 1197, 1198, 1199, 1200, 1201, 1202, 1203, 1204, 1205, 1206, 1207, 1208, 1209, 1210, 1211, 1212, 1213, 1214, 1215, 1216, 1217, 1218, 1219, 1220, 1221, 1222, 1223] (by decide +kernel) (by decide +kernel)
set_option maxRecDepth 20000 in
theorem gL_law_X12_run : GoodIn wsL_law (wsV RL 89 RX12 yX12_run wsX12_run) := goodIn_app (goodIn_of _ (by decide +kernel)) ggL_law_X12_run
set_option maxRecDepth 20000 in
theorem ggL_law_X11_years : GoodIn wsL_law wsX11_years := goodIn_r _ [565, 27, 300, 301, 302, 2, 303, 210, 353, 354, 355, 356, 33, 357, 21, 358, 25, 359, 360, 361, 362, 17, 363, 364, 365, 20, 366, 367, 63, 368, 369, 370, 24, 371, 67, 218, 372, 373, 374, 32, 375, 376, 97, 92, 93, 94, 95, 80, 81, 83, 84, 79, 96, 98, 99, 100, 78, 101, 89, 102, 377, 378, 379, 380, 381, 382, 383, 384, 385, 386, 387, 388, 389, 390, 391, 392, 393, 73, 394, 395, 396, 397, 398, 399, 400, 401, 402, 403, 404, 405, 406, 407, 408, 409, 410, 411, 412, 413, 414, 415, 416, 417, 418, 419, 420, 421, 422, 423, 424, 425, 426, 427, 428, 429, 430, 431, 90, 432, 433, 434, 435, 436, 437, 438, 439, 440, 441, 442, 443, 91, 444, 445, 446, 447, 448, 449, 450, 451, 452, 453, 85, 454, 455, 456, 457, 458, 459, 460, 461, 75, 462, 463, 464, 465, 466, 467, 1162, 1163, 1164, 1165, 1166, 1167, 1168, 1169, 1170, 1171, 1232, 1233, 1234, 1235, 1236, 1237, 1238, 1239, 1240, 1241, 1242, 1253, 1254, 1255, 1256, 1257, 1258, 1259, 1228, 1229, 1230, 1231, 1267, 1268, 1269, 1270, 1271, 1272, 1273, 1224, 1225, 1226, 1227] (by decide +kernel) (by decide +kernel)
set_option maxRecDepth 20000 in
theorem gL_law_X11_years : GoodIn wsL_law (wsV RL 90 RX11 yX11_years wsX11_years) := goodIn_app (goodIn_of _ (by decide +kernel)) ggL_law_X11_years
set_option maxRecDepth 20000 in
theorem ggL_law_X12_years : GoodIn wsL_law wsX12_years := goodIn_r _ [569, 317, 318, 319, 5, 320, 196, 237, 238, 239, 473, 474, 475, 476, 199, 195, 477, 164, 155, 163, 197, 478, 479, 480, 481, 482, 170, 171, 181, 169, 168, 472, 158, 200, 201, 202, 203, 165, 166, 172, 167, 204, 205, 483, 484, 485, 486, 160, 161, 162, 159, 487, 488, 489, 490, 491, 492, 493, 494, 495, 496, 497, 498, 499, 500, 501, 502, 503, 504, 505, 506, 507, 508, 509, 510, 153, 154, 511, 512, 513, 514, 515, 516, 517, 518, 519, 520, 521, 522, 523, 524, 525, 526, 527, 528, 529, 530, 531, 532, 533, 156, 534, 535, 536, 537, 157, 538, 539, 540, 541, 542, 543, 544, 545, 546, 547, 548, 549, 550, 551, 552, 553, 554, 555, 556, 557, 558, 559, 560, 561, 1172, 1173, 1174, 1175, 1176, 1177, 1178, 1179, 1180, 1181, 1182, 1183, 1184, 1185, 1186, 1187, 1188, 1189, 1190, 1191, 1192, 1193, 1194, 1195, 1196, 1197, 1198, 1199, 1200, 1201, 1202, 1203, 1204, 1205, 1206, 1207, 1208, 1209, 1210, 1211, 1212, 1213, 1214, 1215, 1216, 1217, 1218, 1219, 1220, 1221, 1222, 1223] (by decide +kernel) (by decide +kernel)
set_option maxRecDepth 20000 in
theorem gL_law_X12_years : GoodIn wsL_law (wsV RL 93 RX12 yX12_years wsX12_years) := goodIn_app (goodIn_of _ (by decide +kernel)) ggL_law_X12_years
set_option maxRecDepth 20000 in
theorem ggL_law_X11_failed : GoodIn wsL_law wsX11_failed := goodIn_r _ [573, 33, 574, 1162, 1163, 1164, 1165, 1166, 1167, 1168, 1169, 1170, 1171, 1232, 1233, 1234, 1235, 1236, 1237, 1238, 1239, 1240, 1241, 1242] (by decide +kernel) (by decide +kernel)
set_option maxRecDepth 20000 in
theorem gL_law_X11_failed : GoodIn wsL_law (wsV RL 94 RX11 yX11_failed wsX11_failed) := goodIn_app (goodIn_of _ (by decide +kernel)) ggL_law_X11_failed
set_option maxRecDepth 20000 in
theorem ggL_law_X12_failed : GoodIn wsL_law wsX12_failed := goodIn_r _ [578, 163, 1172, 1173, 1174, 1175, 1176, 1177, 1178, 1179, 1180, 1181, 1182, 1183, 1184, 1185, 1186, 1187, 1188, 1189, 1190, 1191, 1192, 1193, 1194, 1195, 1196, 1197, 1198, 1199, 1200, 1201, 1202, 1203, 1204, 1205, 1206, 1207, 1208, 1209, 1210, 1211, 1212, 1213, 1214, 1215, 1216, 1217, 1218, 1219, 1220, 1221, 1222, 1223] (by decide +kernel) (by decide +kernel)
set_option maxRecDepth 20000 in
theorem gL_law_X12_failed : GoodIn wsL_law (wsV RL 97 RX12 yX12_failed wsX12_failed) := goodIn_app (goodIn_of _ (by decide +kernel)) ggL_law_X12_failed
set_option maxRecDepth 20000 in
theorem ggL_law_L_account : GoodIn wsL_law wsL_account := goodIn_ca (goodIn_r _ [582, 583, 584, 585, 586, 2, 587, 588, 589, 25, 590, 1162, 1163, 1164, 1165, 1166, 1167, 1168, 1169, 1170, 1171, 1230, 1231] (by decide +kernel) (by decide +kernel)) (goodIn_sub (fun _ h => List.mem_append_left _ (List.mem_append_right _ h)) (by decide +kernel))
set_option maxRecDepth 20000 in
theorem gL_law_L_account : GoodIn wsL_law (va_wsS RL 98 yL_account wsL_account) := goodIn_app (goodIn_of _ (by decide +kernel)) ggL_law_L_account
set_option maxRecDepth 20000 in
theorem ggL_law_X12_account : GoodIn wsL_law wsX12_account := goodIn_r _ [594, 169, 237, 238, 5, 239, 595, 596, 597, 598, 599, 1172, 1173, 1174, 1175, 1176, 1177, 1178, 1179, 1180, 1181, 1182, 1183, 1184, 1185, 1186, 1187, 1188, 1189, 1190, 1191, 1192, 1193, 1194, 1195, 1196, 1197, 1198, 1199, 1200, 1201, 1202, 1203, 1204, 1205, 1206, 1207, 1208, 1209, 1210, 1211, 1212, 1213, 1214, 1215, 1216, 1217, 1218, 1219, 1220, 1221, 1222, 1223] (by decide +kernel) (by decide +kernel)
set_option maxRecDepth 20000 in
theorem gL_law_X12_account : GoodIn wsL_law (wsV RL 103 RX12 yX12_account wsX12_account) := goodIn_app (goodIn_of _ (by decide +kernel)) ggL_law_X12_account
set_option maxRecDepth 20000 in
theorem ggL_law_X12_thrown : GoodIn wsL_law wsX12_thrown := goodIn_r _ [603, 599, 1172, 1173, 1174, 1175, 1176, 1177, 1178, 1179, 1180, 1181, 1182, 1183, 1184, 1185, 1186, 1187, 1188, 1189, 1190, 1191, 1192, 1193, 1194, 1195, 1196, 1197, 1198, 1199, 1200, 1201, 1202, 1203, 1204, 1205, 1206, 1207, 1208, 1209, 1210, 1211, 1212, 1213, 1214, 1215, 1216, 1217, 1218, 1219, 1220, 1221, 1222, 1223] (by decide +kernel) (by decide +kernel)
set_option maxRecDepth 20000 in
theorem gL_law_X12_thrown : GoodIn wsL_law (wsV RL 104 RX12 yX12_thrown wsX12_thrown) := goodIn_app (goodIn_of _ (by decide +kernel)) ggL_law_X12_thrown
set_option maxRecDepth 20000 in
theorem ggL_law_L_slot : GoodIn wsL_law wsL_slot := goodIn_ca (goodIn_r _ [606, 583, 607, 608, 609, 2, 610, 588, 589, 33, 611, 612, 613, 304, 305, 306, 1162, 1163, 1164, 1165, 1166, 1167, 1168, 1169, 1170, 1171, 1232, 1233, 1234, 1235, 1236, 1237, 1238, 1239, 1240, 1241, 1242] (by decide +kernel) (by decide +kernel)) (goodIn_sub (fun _ h => List.mem_append_left _ (List.mem_append_right _ h)) (by decide +kernel))
set_option maxRecDepth 20000 in
theorem gL_law_L_slot : GoodIn wsL_law (va_wsS RL 107 yL_slot wsL_slot) := goodIn_app (goodIn_of _ (by decide +kernel)) ggL_law_L_slot
set_option maxRecDepth 20000 in
theorem ggL_law_X12_slot : GoodIn wsL_law wsX12_slot := goodIn_r _ [617, 165, 166, 172, 237, 238, 5, 239, 595, 596, 597, 598, 599, 1172, 1173, 1174, 1175, 1176, 1177, 1178, 1179, 1180, 1181, 1182, 1183, 1184, 1185, 1186, 1187, 1188, 1189, 1190, 1191, 1192, 1193, 1194, 1195, 1196, 1197, 1198, 1199, 1200, 1201, 1202, 1203, 1204, 1205, 1206, 1207, 1208, 1209, 1210, 1211, 1212, 1213, 1214, 1215, 1216, 1217, 1218, 1219, 1220, 1221, 1222, 1223] (by decide +kernel) (by decide +kernel)
set_option maxRecDepth 20000 in
theorem gL_law_X12_slot : GoodIn wsL_law (wsV RL 110 RX12 yX12_slot wsX12_slot) := goodIn_app (goodIn_of _ (by decide +kernel)) ggL_law_X12_slot
set_option maxRecDepth 20000 in
theorem ggL_law_L_part : GoodIn wsL_law wsL_part := goodIn_ca (goodIn_r _ [620, 583, 621, 622, 623, 2, 624, 588, 589, 33, 625, 626, 1162, 1163, 1164, 1165, 1166, 1167, 1168, 1169, 1170, 1171, 1232, 1233, 1234, 1235, 1236, 1237, 1238, 1239, 1240, 1241, 1242, 1267, 1268, 1269, 1270, 1271, 1272, 1273] (by decide +kernel) (by decide +kernel)) (goodIn_sub (fun _ h => List.mem_append_left _ (List.mem_append_right _ h)) (by decide +kernel))
set_option maxRecDepth 20000 in
theorem gL_law_L_part : GoodIn wsL_law (va_wsS RL 111 yL_part wsL_part) := goodIn_app (goodIn_of _ (by decide +kernel)) ggL_law_L_part
set_option maxRecDepth 20000 in
theorem ggL_law_X12_part : GoodIn wsL_law wsX12_part := goodIn_r _ [630, 167, 237, 238, 5, 239, 595, 596, 597, 598, 599, 1172, 1173, 1174, 1175, 1176, 1177, 1178, 1179, 1180, 1181, 1182, 1183, 1184, 1185, 1186, 1187, 1188, 1189, 1190, 1191, 1192, 1193, 1194, 1195, 1196, 1197, 1198, 1199, 1200, 1201, 1202, 1203, 1204, 1205, 1206, 1207, 1208, 1209, 1210, 1211, 1212, 1213, 1214, 1215, 1216, 1217, 1218, 1219, 1220, 1221, 1222, 1223] (by decide +kernel) (by decide +kernel)
set_option maxRecDepth 20000 in
theorem gL_law_X12_part : GoodIn wsL_law (wsV RL 113 RX12 yX12_part wsX12_part) := goodIn_app (goodIn_of _ (by decide +kernel)) ggL_law_X12_part
set_option maxRecDepth 20000 in
theorem ggL_law_L_got : GoodIn wsL_law wsL_got := goodIn_ca (goodIn_r _ [633, 583, 634, 635, 636, 2, 637, 588, 589, 33, 638, 1162, 1163, 1164, 1165, 1166, 1167, 1168, 1169, 1170, 1171, 1232, 1233, 1234, 1235, 1236, 1237, 1238, 1239, 1240, 1241, 1242] (by decide +kernel) (by decide +kernel)) (goodIn_sub (fun _ h => List.mem_append_left _ (List.mem_append_right _ h)) (by decide +kernel))
set_option maxRecDepth 20000 in
theorem gL_law_L_got : GoodIn wsL_law (va_wsS RL 114 yL_got wsL_got) := goodIn_app (goodIn_of _ (by decide +kernel)) ggL_law_L_got
set_option maxRecDepth 20000 in
theorem ggL_law_X12_got : GoodIn wsL_law wsX12_got := goodIn_r _ [642, 168, 237, 238, 5, 239, 595, 596, 597, 598, 599, 1172, 1173, 1174, 1175, 1176, 1177, 1178, 1179, 1180, 1181, 1182, 1183, 1184, 1185, 1186, 1187, 1188, 1189, 1190, 1191, 1192, 1193, 1194, 1195, 1196, 1197, 1198, 1199, 1200, 1201, 1202, 1203, 1204, 1205, 1206, 1207, 1208, 1209, 1210, 1211, 1212, 1213, 1214, 1215, 1216, 1217, 1218, 1219, 1220, 1221, 1222, 1223] (by decide +kernel) (by decide +kernel)
set_option maxRecDepth 20000 in
theorem gL_law_X12_got : GoodIn wsL_law (wsV RL 116 RX12 yX12_got wsX12_got) := goodIn_app (goodIn_of _ (by decide +kernel)) ggL_law_X12_got
set_option maxRecDepth 20000 in
theorem ggL_law_L_carried : GoodIn wsL_law wsL_carried := goodIn_ca (goodIn_r _ [645, 583, 646, 647, 648, 2, 649, 588, 589, 27, 359, 361, 300, 301, 302, 303, 210, 1162, 1163, 1164, 1165, 1166, 1167, 1168, 1169, 1170, 1171, 1253, 1254, 1255, 1256, 1257, 1258, 1259] (by decide +kernel) (by decide +kernel)) (goodIn_sub (fun _ h => List.mem_append_left _ (List.mem_append_right _ h)) (by decide +kernel))
set_option maxRecDepth 20000 in
theorem gL_law_L_carried : GoodIn wsL_law (va_wsS RL 117 yL_carried wsL_carried) := goodIn_app (goodIn_of _ (by decide +kernel)) ggL_law_L_carried
set_option maxRecDepth 20000 in
theorem ggL_law_X12_carried : GoodIn wsL_law wsX12_carried := goodIn_r _ [653, 170, 171, 317, 318, 319, 5, 320, 196, 237, 238, 239, 595, 596, 597, 598, 599, 1172, 1173, 1174, 1175, 1176, 1177, 1178, 1179, 1180, 1181, 1182, 1183, 1184, 1185, 1186, 1187, 1188, 1189, 1190, 1191, 1192, 1193, 1194, 1195, 1196, 1197, 1198, 1199, 1200, 1201, 1202, 1203, 1204, 1205, 1206, 1207, 1208, 1209, 1210, 1211, 1212, 1213, 1214, 1215, 1216, 1217, 1218, 1219, 1220, 1221, 1222, 1223] (by decide +kernel) (by decide +kernel)
set_option maxRecDepth 20000 in
theorem gL_law_X12_carried : GoodIn wsL_law (wsV RL 119 RX12 yX12_carried wsX12_carried) := goodIn_app (goodIn_of _ (by decide +kernel)) ggL_law_X12_carried
set_option maxRecDepth 20000 in
theorem ggL_law_X11_least : GoodIn wsL_law wsX11_least := goodIn_r _ [657, 27, 37, 17, 300, 301, 302, 2, 303, 210, 658, 659, 660, 661, 662, 663, 245, 246, 247, 248, 249, 664, 665, 666, 36, 667, 668, 669, 670, 671, 672, 107, 673, 674, 108, 675, 676, 677, 112, 678, 679, 680, 681, 20, 682, 63, 367, 683, 684, 685, 32, 686, 75, 453, 85, 687, 215, 216, 24, 217, 67, 218, 688, 373, 374, 375, 376, 97, 92, 93, 94, 95, 80, 81, 83, 84, 79, 96, 98, 99, 100, 78, 101, 89, 102, 377, 378, 379, 380, 381, 382, 383, 384, 385, 386, 387, 388, 389, 390, 391, 392, 393, 73, 394, 395, 396, 397, 398, 399, 400, 401, 402, 403, 404, 405, 406, 407, 408, 409, 410, 411, 412, 413, 414, 415, 416, 417, 418, 419, 420, 421, 422, 423, 424, 425, 426, 427, 428, 429, 430, 431, 90, 432, 433, 434, 435, 436, 437, 438, 439, 440, 441, 442, 443, 91, 444, 445, 446, 447, 448, 449, 450, 451, 452, 454, 455, 456, 457, 458, 459, 460, 461, 462, 463, 464, 465, 466, 467, 689, 690, 691, 692, 693, 694, 695, 696, 697, 698, 699, 700, 701, 702, 703, 704, 705, 706, 707, 111, 708, 119, 121, 709, 123, 710, 711, 712, 713, 714, 715, 716, 717, 718, 719, 720, 721, 722, 723, 724, 725, 726, 727, 728, 729, 730, 731, 732, 733, 734, 735, 736, 737, 738, 739, 740, 741, 742, 743, 744, 745, 746, 747, 748, 749, 750, 751, 752, 753, 754, 755, 756, 757, 758, 759, 760, 761, 762, 763, 764, 1162, 1163, 1164, 1165, 1166, 1167, 1168, 1169, 1170, 1171, 1243, 1244, 1245, 1246, 1232, 1233, 1234, 1235, 1236, 1237, 1238, 1239, 1240, 1241, 1242, 1267, 1268, 1269, 1270, 1271, 1272, 1273, 1230, 1231, 1274, 1275, 1276, 1277, 1228, 1229, 1253, 1254, 1255, 1256, 1257, 1258, 1259, 1224, 1225, 1226, 1227] (by decide +kernel) (by decide +kernel)
set_option maxRecDepth 20000 in
theorem gL_law_X11_least : GoodIn wsL_law (wsV RL 120 RX11 yX11_least wsX11_least) := goodIn_app (goodIn_of _ (by decide +kernel)) ggL_law_X11_least
set_option maxRecDepth 20000 in
theorem ggL_law_X12_least : GoodIn wsL_law wsX12_least := goodIn_r _ [768, 317, 318, 319, 5, 320, 196, 237, 238, 239, 769, 770, 771, 772, 324, 773, 774, 775, 776, 777, 778, 779, 780, 781, 169, 782, 478, 783, 784, 785, 786, 477, 164, 787, 788, 789, 790, 199, 170, 171, 479, 480, 481, 482, 181, 168, 472, 158, 200, 201, 202, 203, 165, 166, 172, 167, 204, 205, 483, 484, 485, 486, 160, 161, 162, 159, 487, 488, 489, 490, 491, 492, 493, 494, 495, 496, 497, 498, 499, 500, 501, 502, 503, 504, 505, 506, 507, 508, 509, 510, 153, 154, 511, 512, 513, 514, 515, 516, 517, 518, 519, 520, 521, 522, 523, 524, 525, 526, 527, 528, 529, 530, 531, 532, 533, 156, 534, 535, 536, 537, 157, 538, 539, 540, 541, 542, 543, 544, 545, 546, 547, 548, 549, 550, 551, 552, 553, 554, 555, 556, 557, 558, 559, 560, 561, 791, 792, 793, 794, 182, 795, 796, 797, 798, 799, 800, 801, 802, 803, 804, 805, 806, 807, 183, 184, 808, 809, 810, 811, 812, 813, 814, 815, 816, 817, 818, 819, 820, 821, 822, 823, 824, 825, 826, 827, 828, 829, 830, 831, 832, 833, 834, 835, 836, 837, 838, 839, 840, 841, 842, 843, 844, 845, 846, 847, 848, 849, 850, 851, 852, 853, 854, 855, 856, 857, 858, 859, 860, 861, 862, 863, 864, 865, 866, 867, 868, 869, 870, 871, 872, 873, 874, 875, 876, 877, 878, 879, 880, 1172, 1173, 1174, 1175, 1176, 1177, 1178, 1179, 1180, 1181, 1182, 1183, 1184, 1185, 1186, 1187, 1188, 1189, 1190, 1191, 1192, 1193, 1194, 1195, 1196, 1197, 1198, 1199, 1200, 1201, 1202, 1203, 1204, 1205, 1206, 1207, 1208, 1209, 1210, 1211, 1212, 1213, 1214, 1215, 1216, 1217, 1218, 1219, 1220, 1221, 1222, 1223] (by decide +kernel) (by decide +kernel)
set_option maxRecDepth 20000 in
theorem gL_law_X12_least : GoodIn wsL_law (wsV RL 123 RX12 yX12_least wsX12_least) := goodIn_app (goodIn_of _ (by decide +kernel)) ggL_law_X12_least
set_option maxRecDepth 20000 in
theorem ggL_law_X11_order : GoodIn wsL_law wsX11_order := goodIn_r _ [884, 21, 212, 37, 17, 27, 300, 301, 302, 2, 303, 210, 885, 886, 887, 36, 888, 889, 113, 107, 673, 108, 890, 668, 891, 364, 365, 20, 366, 367, 63, 683, 684, 685, 32, 686, 75, 453, 85, 687, 215, 216, 24, 217, 67, 218, 688, 373, 374, 375, 376, 97, 92, 93, 94, 95, 80, 81, 83, 84, 79, 96, 98, 99, 100, 78, 101, 89, 102, 377, 378, 379, 380, 381, 382, 383, 384, 385, 386, 387, 388, 389, 390, 391, 392, 393, 73, 394, 395, 396, 397, 398, 399, 400, 401, 402, 403, 404, 405, 406, 407, 408, 409, 410, 411, 412, 413, 414, 415, 416, 417, 418, 419, 420, 421, 422, 423, 424, 425, 426, 427, 428, 429, 430, 431, 90, 432, 433, 434, 435, 436, 437, 438, 439, 440, 441, 442, 443, 91, 444, 445, 446, 447, 448, 449, 450, 451, 452, 454, 455, 456, 457, 458, 459, 460, 461, 462, 463, 464, 465, 466, 467, 892, 893, 894, 895, 896, 897, 898, 899, 693, 694, 695, 696, 674, 697, 698, 699, 700, 900, 901, 902, 903, 904, 1162, 1163, 1164, 1165, 1166, 1167, 1168, 1169, 1170, 1171, 1228, 1229, 1243, 1244, 1245, 1246, 1232, 1233, 1234, 1235, 1236, 1237, 1238, 1239, 1240, 1241, 1242, 1230, 1231, 1253, 1254, 1255, 1256, 1257, 1258, 1259, 1267, 1268, 1269, 1270, 1271, 1272, 1273, 1224, 1225, 1226, 1227] (by decide +kernel) (by decide +kernel)
set_option maxRecDepth 20000 in
theorem gL_law_X11_order : GoodIn wsL_law (wsV RL 124 RX11 yX11_order wsX11_order) := goodIn_app (goodIn_of _ (by decide +kernel)) ggL_law_X11_order
set_option maxRecDepth 20000 in
theorem ggL_law_X12_order : GoodIn wsL_law wsX12_order := goodIn_r _ [908, 195, 185, 186, 168, 777, 317, 318, 319, 5, 320, 196, 237, 238, 239, 909, 910, 911, 912, 477, 164, 155, 787, 788, 789, 790, 199, 169, 170, 171, 479, 480, 481, 482, 181, 478, 472, 158, 200, 201, 202, 203, 165, 166, 172, 167, 204, 205, 483, 484, 485, 486, 160, 161, 162, 159, 487, 488, 489, 490, 491, 492, 493, 494, 495, 496, 497, 498, 499, 500, 501, 502, 503, 504, 505, 506, 507, 508, 509, 510, 153, 154, 511, 512, 513, 514, 515, 516, 517, 518, 519, 520, 521, 522, 523, 524, 525, 526, 527, 528, 529, 530, 531, 532, 533, 156, 534, 535, 536, 537, 157, 538, 539, 540, 541, 542, 543, 544, 545, 546, 547, 548, 549, 550, 551, 552, 553, 554, 555, 556, 557, 558, 559, 560, 561, 791, 792, 793, 794, 182, 913, 914, 915, 916, 795, 796, 797, 798, 1172, 1173, 1174, 1175, 1176, 1177, 1178, 1179, 1180, 1181, 1182, 1183, 1184, 1185, 1186, 1187, 1188, 1189, 1190, 1191, 1192, 1193, 1194, 1195, 1196, 1197, 1198, 1199, 1200, 1201, 1202, 1203, 1204, 1205, 1206, 1207, 1208, 1209, 1210, 1211, 1212, 1213, 1214, 1215, 1216, 1217, 1218, 1219, 1220, 1221, 1222, 1223] (by decide +kernel) (by decide +kernel)
set_option maxRecDepth 20000 in
theorem gL_law_X12_order : GoodIn wsL_law (wsV RL 127 RX12 yX12_order wsX12_order) := goodIn_app (goodIn_of _ (by decide +kernel)) ggL_law_X12_order
set_option maxRecDepth 20000 in
theorem ggL_law_L_drift : GoodIn wsL_law wsL_drift := goodIn_ca (goodIn_r _ [919, 583, 920, 921, 922, 2, 923, 588, 589, 17, 229, 41, 228, 230, 231, 232, 924, 925, 926, 927, 928, 929, 40, 930, 132, 131, 127, 128, 931, 932, 412, 402, 413, 414, 933, 934, 935, 936, 129, 937, 938, 939, 940, 941, 942, 943, 944, 945, 946, 947, 948, 949, 950, 951, 952, 953, 954, 955, 956, 957, 130, 958, 959, 960, 961, 1162, 1163, 1164, 1165, 1166, 1167, 1168, 1169, 1170, 1171, 1224, 1225, 1226, 1227, 1247, 1248, 1249, 1250, 1251, 1252] (by decide +kernel) (by decide +kernel)) (goodIn_sub (fun _ h => List.mem_append_left _ (List.mem_append_right _ h)) (by decide +kernel))
set_option maxRecDepth 20000 in
theorem gL_law_L_drift : GoodIn wsL_law (va_wsS RL 128 yL_drift wsL_drift) := goodIn_app (goodIn_of _ (by decide +kernel)) ggL_law_L_drift
set_option maxRecDepth 20000 in
theorem ggL_law_X12_drift : GoodIn wsL_law wsX12_drift := goodIn_r _ [965, 154, 153, 782, 189, 187, 502, 188, 237, 238, 5, 239, 595, 596, 597, 598, 599, 511, 512, 513, 514, 515, 516, 517, 1172, 1173, 1174, 1175, 1176, 1177, 1178, 1179, 1180, 1181, 1182, 1183, 1184, 1185, 1186, 1187, 1188, 1189, 1190, 1191, 1192, 1193, 1194, 1195, 1196, 1197, 1198, 1199, 1200, 1201, 1202, 1203, 1204, 1205, 1206, 1207, 1208, 1209, 1210, 1211, 1212, 1213, 1214, 1215, 1216, 1217, 1218, 1219, 1220, 1221, 1222, 1223] (by decide +kernel) (by decide +kernel)
set_option maxRecDepth 20000 in
theorem gL_law_X12_drift : GoodIn wsL_law (wsV RL 131 RX12 yX12_drift wsX12_drift) := goodIn_app (goodIn_of _ (by decide +kernel)) ggL_law_X12_drift
set_option maxRecDepth 20000 in
theorem ggL_law_X11_mend : GoodIn wsL_law wsX11_mend := goodIn_r _ [969, 27, 37, 17, 970, 295, 300, 301, 302, 2, 303, 210, 658, 659, 660, 661, 662, 663, 245, 246, 247, 248, 249, 664, 665, 666, 36, 667, 668, 669, 670, 671, 672, 107, 673, 674, 108, 675, 676, 677, 112, 678, 679, 680, 681, 20, 682, 63, 367, 683, 684, 685, 32, 686, 75, 453, 85, 687, 215, 216, 24, 217, 67, 218, 688, 373, 374, 375, 376, 97, 92, 93, 94, 95, 80, 81, 83, 84, 79, 96, 98, 99, 100, 78, 101, 89, 102, 377, 378, 379, 380, 381, 382, 383, 384, 385, 386, 387, 388, 389, 390, 391, 392, 393, 73, 394, 395, 396, 397, 398, 399, 400, 401, 402, 403, 404, 405, 406, 407, 408, 409, 410, 411, 412, 413, 414, 415, 416, 417, 418, 419, 420, 421, 422, 423, 424, 425, 426, 427, 428, 429, 430, 431, 90, 432, 433, 434, 435, 436, 437, 438, 439, 440, 441, 442, 443, 91, 444, 445, 446, 447, 448, 449, 450, 451, 452, 454, 455, 456, 457, 458, 459, 460, 461, 462, 463, 464, 465, 466, 467, 689, 690, 691, 692, 693, 694, 695, 696, 697, 698, 699, 700, 701, 702, 703, 704, 705, 706, 707, 111, 708, 119, 121, 709, 123, 710, 711, 712, 713, 714, 715, 716, 717, 718, 719, 720, 721, 722, 723, 724, 725, 726, 727, 728, 729, 730, 731, 732, 733, 734, 735, 736, 737, 738, 739, 740, 741, 742, 743, 744, 745, 746, 747, 748, 749, 750, 751, 752, 753, 754, 755, 756, 757, 758, 759, 760, 761, 762, 763, 764, 971, 972, 973, 43, 974, 138, 139, 975, 976, 977, 978, 136, 979, 980, 981, 982, 983, 984, 985, 986, 987, 1162, 1163, 1164, 1165, 1166, 1167, 1168, 1169, 1170, 1171, 1253, 1254, 1255, 1256, 1257, 1258, 1259, 1243, 1244, 1245, 1246, 1232, 1233, 1234, 1235, 1236, 1237, 1238, 1239, 1240, 1241, 1242, 1267, 1268, 1269, 1270, 1271, 1272, 1273, 1230, 1231, 1274, 1275, 1276, 1277, 1228, 1229, 1224, 1225, 1226, 1227] (by decide +kernel) (by decide +kernel)
set_option maxRecDepth 20000 in
theorem gL_law_X11_mend : GoodIn wsL_law (wsV RL 132 RX11 yX11_mend wsX11_mend) := goodIn_app (goodIn_of _ (by decide +kernel)) ggL_law_X11_mend
set_option maxRecDepth 20000 in
theorem ggL_law_X12_mend : GoodIn wsL_law wsX12_mend := goodIn_r _ [991, 777, 158, 159, 161, 162, 317, 318, 319, 5, 320, 196, 237, 238, 239, 769, 770, 771, 772, 324, 773, 774, 775, 776, 778, 779, 780, 781, 169, 782, 478, 783, 784, 785, 786, 477, 164, 787, 788, 789, 790, 199, 170, 171, 479, 480, 481, 482, 181, 168, 472, 200, 201, 202, 203, 165, 166, 172, 167, 204, 205, 483, 484, 485, 486, 160, 487, 488, 489, 490, 491, 492, 493, 494, 495, 496, 497, 498, 499, 500, 501, 502, 503, 504, 505, 506, 507, 508, 509, 510, 153, 154, 511, 512, 513, 514, 515, 516, 517, 518, 519, 520, 521, 522, 523, 524, 525, 526, 527, 528, 529, 530, 531, 532, 533, 156, 534, 535, 536, 537, 157, 538, 539, 540, 541, 542, 543, 544, 545, 546, 547, 548, 549, 550, 551, 552, 553, 554, 555, 556, 557, 558, 559, 560, 561, 791, 792, 793, 794, 182, 795, 796, 797, 798, 799, 800, 801, 802, 803, 804, 805, 806, 807, 183, 184, 808, 809, 810, 811, 812, 813, 814, 815, 816, 817, 818, 819, 820, 821, 822, 823, 824, 825, 826, 827, 828, 829, 830, 831, 832, 833, 834, 835, 836, 837, 838, 839, 840, 841, 842, 843, 844, 845, 846, 847, 848, 849, 850, 851, 852, 853, 854, 855, 856, 857, 858, 859, 860, 861, 862, 863, 864, 865, 866, 867, 868, 869, 870, 871, 872, 873, 874, 875, 876, 877, 878, 879, 880, 992, 993, 994, 995, 996, 997, 998, 999, 1172, 1173, 1174, 1175, 1176, 1177, 1178, 1179, 1180, 1181, 1182, 1183, 1184, 1185, 1186, 1187, 1188, 1189, 1190, 1191, 1192, 1193, 1194, 1195, 1196, 1197, 1198, 1199, 1200, 1201, 1202, 1203, 1204, 1205, 1206, 1207, 1208, 1209, 1210, 1211, 1212, 1213, 1214, 1215, 1216, 1217, 1218, 1219, 1220, 1221, 1222, 1223] (by decide +kernel) (by decide +kernel)
set_option maxRecDepth 20000 in
theorem gL_law_X12_mend : GoodIn wsL_law (wsV RL 135 RX12 yX12_mend wsX12_mend) := goodIn_app (goodIn_of _ (by decide +kernel)) ggL_law_X12_mend
set_option maxRecDepth 20000 in
theorem ggL_law_X11_same : GoodIn wsL_law wsX11_same := goodIn_r _ [1003, 27, 300, 301, 302, 2, 303, 210, 1004, 1005, 1006, 43, 1007, 285, 136, 137, 138, 139, 1162, 1163, 1164, 1165, 1166, 1167, 1168, 1169, 1170, 1171, 1253, 1254, 1255, 1256, 1257, 1258, 1259] (by decide +kernel) (by decide +kernel)
set_option maxRecDepth 20000 in
theorem gL_law_X11_same : GoodIn wsL_law (wsV RL 136 RX11 yX11_same wsX11_same) := goodIn_app (goodIn_of _ (by decide +kernel)) ggL_law_X11_same
set_option maxRecDepth 20000 in
theorem ggL_law_X12_same : GoodIn wsL_law wsX12_same := goodIn_r _ [1011, 158, 159, 160, 161, 162, 317, 318, 319, 5, 320, 196, 237, 238, 239, 1172, 1173, 1174, 1175, 1176, 1177, 1178, 1179, 1180, 1181, 1182, 1183, 1184, 1185, 1186, 1187, 1188, 1189, 1190, 1191, 1192, 1193, 1194, 1195, 1196, 1197, 1198, 1199, 1200, 1201, 1202, 1203, 1204, 1205, 1206, 1207, 1208, 1209, 1210, 1211, 1212, 1213, 1214, 1215, 1216, 1217, 1218, 1219, 1220, 1221, 1222, 1223] (by decide +kernel) (by decide +kernel)
set_option maxRecDepth 20000 in
theorem gL_law_X12_same : GoodIn wsL_law (wsV RL 139 RX12 yX12_same wsX12_same) := goodIn_app (goodIn_of _ (by decide +kernel)) ggL_law_X12_same
set_option maxRecDepth 20000 in
theorem ggL_law_L_rounded : GoodIn wsL_law wsL_rounded := goodIn_ca (goodIn_r _ [1014, 583, 1015, 1016, 1017, 2, 1018, 588, 589, 1019, 1020, 1021, 924, 925, 926, 1022, 412, 402, 413, 414] (by decide +kernel) (by decide +kernel)) (goodIn_sub (fun _ h => List.mem_append_left _ (List.mem_append_right _ h)) (by decide +kernel))
set_option maxRecDepth 20000 in
theorem gL_law_L_rounded : GoodIn wsL_law (va_wsS RL 142 yL_rounded wsL_rounded) := goodIn_app (goodIn_of _ (by decide +kernel)) ggL_law_L_rounded
set_option maxRecDepth 20000 in
theorem ggL_law_X12_rounded : GoodIn wsL_law wsX12_rounded := goodIn_r _ [1026, 324, 1027, 1028, 237, 238, 5, 239, 595, 596, 597, 598, 599, 511, 512, 513, 514, 515, 516, 517, 1172, 1173, 1174, 1175, 1176, 1177, 1178, 1179, 1180, 1181, 1182, 1183, 1184, 1185, 1186, 1187, 1188, 1189, 1190, 1191, 1192, 1193, 1194, 1195, 1196, 1197, 1198, 1199, 1200, 1201, 1202, 1203, 1204, 1205, 1206, 1207, 1208, 1209, 1210, 1211, 1212, 1213, 1214, 1215, 1216, 1217, 1218, 1219, 1220, 1221, 1222, 1223] (by decide +kernel) (by decide +kernel)
set_option maxRecDepth 20000 in
theorem gL_law_X12_rounded : GoodIn wsL_law (wsV RL 145 RX12 yX12_rounded wsX12_rounded) := goodIn_app (goodIn_of _ (by decide +kernel)) ggL_law_X12_rounded
set_option maxRecDepth 20000 in
theorem ggL_law_X11_tape : GoodIn wsL_law wsX11_tape := goodIn_r _ [1032, 29, 1033, 1034, 2, 1035, 1036, 1037, 1038, 1039, 211, 1040, 1041, 1042, 45, 1043, 1044, 1045, 144, 1162, 1163, 1164, 1165, 1166, 1167, 1168, 1169, 1170, 1171, 1260, 1261, 1262, 1263, 1264, 1265, 1266] (by decide +kernel) (by decide +kernel)
set_option maxRecDepth 20000 in
theorem gL_law_X11_tape : GoodIn wsL_law (wsV RL 146 RX11 yX11_tape wsX11_tape) := goodIn_app (goodIn_of _ (by decide +kernel)) ggL_law_X11_tape
set_option maxRecDepth 20000 in
theorem ggL_law_X12_tape : GoodIn wsL_law wsX12_tape := goodIn_r _ [1049, 173, 174, 175, 1050, 1051, 5, 1052, 237, 238, 239, 1053, 1054, 1055, 1056, 198, 1172, 1173, 1174, 1175, 1176, 1177, 1178, 1179, 1180, 1181, 1182, 1183, 1184, 1185, 1186, 1187, 1188, 1189, 1190, 1191, 1192, 1193, 1194, 1195, 1196, 1197, 1198, 1199, 1200, 1201, 1202, 1203, 1204, 1205, 1206, 1207, 1208, 1209, 1210, 1211, 1212, 1213, 1214, 1215, 1216, 1217, 1218, 1219, 1220, 1221, 1222, 1223] (by decide +kernel) (by decide +kernel)
set_option maxRecDepth 20000 in
theorem gL_law_X12_tape : GoodIn wsL_law (wsV RL 149 RX12 yX12_tape wsX12_tape) := goodIn_app (goodIn_of _ (by decide +kernel)) ggL_law_X12_tape
set_option maxRecDepth 20000 in
theorem ggL_law_X11_image : GoodIn wsL_law wsX11_image := goodIn_r _ [1060, 29, 1061, 210, 1062, 1063, 25, 1064, 27, 359, 1065, 361, 1033, 1034, 2, 1035, 368, 369, 370, 24, 371, 67, 218, 1162, 1163, 1164, 1165, 1166, 1167, 1168, 1169, 1170, 1171, 1260, 1261, 1262, 1263, 1264, 1265, 1266, 1253, 1254, 1255, 1256, 1257, 1258, 1259, 1230, 1231] (by decide +kernel) (by decide +kernel)
set_option maxRecDepth 20000 in
theorem gL_law_X11_image : GoodIn wsL_law (wsV RL 150 RX11 yX11_image wsX11_image) := goodIn_app (goodIn_of _ (by decide +kernel)) ggL_law_X11_image
set_option maxRecDepth 20000 in
theorem ggL_law_X12_image : GoodIn wsL_law wsX12_image := goodIn_r _ [1069, 173, 176, 196, 177, 197, 178, 169, 179, 170, 180, 171, 1050, 1051, 5, 1052, 237, 238, 239, 1172, 1173, 1174, 1175, 1176, 1177, 1178, 1179, 1180, 1181, 1182, 1183, 1184, 1185, 1186, 1187, 1188, 1189, 1190, 1191, 1192, 1193, 1194, 1195, 1196, 1197, 1198, 1199, 1200, 1201, 1202, 1203, 1204, 1205, 1206, 1207, 1208, 1209, 1210, 1211, 1212, 1213, 1214, 1215, 1216, 1217, 1218, 1219, 1220, 1221, 1222, 1223] (by decide +kernel) (by decide +kernel)
set_option maxRecDepth 20000 in
theorem gL_law_X12_image : GoodIn wsL_law (wsV RL 153 RX12 yX12_image wsX12_image) := goodIn_app (goodIn_of _ (by decide +kernel)) ggL_law_X12_image
set_option maxRecDepth 20000 in
theorem ggL_law_X11_back : GoodIn wsL_law wsX11_back := goodIn_r _ [1073, 29, 1061, 1062, 210, 25, 1063, 27, 1064, 359, 1065, 361, 1074, 1033, 1034, 2, 1035, 1036, 1037, 1038, 1039, 211, 368, 369, 370, 24, 371, 67, 218, 1162, 1163, 1164, 1165, 1166, 1167, 1168, 1169, 1170, 1171, 1260, 1261, 1262, 1263, 1264, 1265, 1266, 1253, 1254, 1255, 1256, 1257, 1258, 1259, 1230, 1231] (by decide +kernel) (by decide +kernel)
set_option maxRecDepth 20000 in
theorem gL_law_X11_back : GoodIn wsL_law (wsV RL 154 RX11 yX11_back wsX11_back) := goodIn_app (goodIn_of _ (by decide +kernel)) ggL_law_X11_back
set_option maxRecDepth 20000 in
theorem ggL_law_X12_back : GoodIn wsL_law wsX12_back := goodIn_r _ [1078, 176, 196, 177, 197, 169, 178, 170, 179, 171, 180, 1079, 1080, 1081, 5, 1082, 173, 1050, 1051, 1052, 237, 238, 239, 1053, 1054, 1055, 1056, 198, 1172, 1173, 1174, 1175, 1176, 1177, 1178, 1179, 1180, 1181, 1182, 1183, 1184, 1185, 1186, 1187, 1188, 1189, 1190, 1191, 1192, 1193, 1194, 1195, 1196, 1197, 1198, 1199, 1200, 1201, 1202, 1203, 1204, 1205, 1206, 1207, 1208, 1209, 1210, 1211, 1212, 1213, 1214, 1215, 1216, 1217, 1218, 1219, 1220, 1221, 1222, 1223] (by decide +kernel) (by decide +kernel)
set_option maxRecDepth 20000 in
theorem gL_law_X12_back : GoodIn wsL_law (wsV RL 157 RX12 yX12_back wsX12_back) := goodIn_app (goodIn_of _ (by decide +kernel)) ggL_law_X12_back
set_option maxRecDepth 20000 in
theorem ggL_law_X11_toss : GoodIn wsL_law wsX11_toss := goodIn_r _ [1086, 29, 1061, 1063, 1074, 1033, 1034, 2, 1035, 1036, 1037, 1038, 1039, 211, 1162, 1163, 1164, 1165, 1166, 1167, 1168, 1169, 1170, 1171, 1260, 1261, 1262, 1263, 1264, 1265, 1266, 1230, 1231] (by decide +kernel) (by decide +kernel)
set_option maxRecDepth 20000 in
theorem gL_law_X11_toss : GoodIn wsL_law (wsV RL 158 RX11 yX11_toss wsX11_toss) := goodIn_app (goodIn_of _ (by decide +kernel)) ggL_law_X11_toss
set_option maxRecDepth 20000 in
theorem ggL_law_X12_toss : GoodIn wsL_law wsX12_toss := goodIn_r _ [1090, 177, 1079, 1080, 1081, 5, 1082, 173, 1050, 1051, 1052, 237, 238, 239, 1053, 1054, 1055, 1056, 198, 1172, 1173, 1174, 1175, 1176, 1177, 1178, 1179, 1180, 1181, 1182, 1183, 1184, 1185, 1186, 1187, 1188, 1189, 1190, 1191, 1192, 1193, 1194, 1195, 1196, 1197, 1198, 1199, 1200, 1201, 1202, 1203, 1204, 1205, 1206, 1207, 1208, 1209, 1210, 1211, 1212, 1213, 1214, 1215, 1216, 1217, 1218, 1219, 1220, 1221, 1222, 1223] (by decide +kernel) (by decide +kernel)
set_option maxRecDepth 20000 in
theorem gL_law_X12_toss : GoodIn wsL_law (wsV RL 161 RX12 yX12_toss wsX12_toss) := goodIn_app (goodIn_of _ (by decide +kernel)) ggL_law_X12_toss
set_option maxRecDepth 20000 in
theorem ggL_law_X11_load : GoodIn wsL_law wsX11_load := goodIn_r _ [1094, 29, 1061, 1095, 21, 244, 212, 1033, 1034, 2, 1035, 1036, 1037, 1038, 1039, 211, 1096, 1097, 1098, 45, 1099, 1045, 245, 246, 247, 248, 249, 1162, 1163, 1164, 1165, 1166, 1167, 1168, 1169, 1170, 1171, 1260, 1261, 1262, 1263, 1264, 1265, 1266, 1228, 1229] (by decide +kernel) (by decide +kernel)
set_option maxRecDepth 20000 in
theorem gL_law_X11_load : GoodIn wsL_law (wsV RL 162 RX11 yX11_load wsX11_load) := goodIn_app (goodIn_of _ (by decide +kernel)) ggL_law_X11_load
set_option maxRecDepth 20000 in
theorem ggL_law_X12_load : GoodIn wsL_law wsX12_load := goodIn_r _ [1103, 173, 174, 175, 155, 195, 1050, 1051, 5, 1052, 237, 238, 239, 1053, 1054, 1055, 1056, 198, 254, 255, 256, 257, 258, 1172, 1173, 1174, 1175, 1176, 1177, 1178, 1179, 1180, 1181, 1182, 1183, 1184, 1185, 1186, 1187, 1188, 1189, 1190, 1191, 1192, 1193, 1194, 1195, 1196, 1197, 1198, 1199, 1200, 1201, 1202, 1203, 1204, 1205, 1206, 1207, 1208, 1209, 1210, 1211, 1212, 1213, 1214, 1215, 1216, 1217, 1218, 1219, 1220, 1221, 1222, 1223] (by decide +kernel) (by decide +kernel)
set_option maxRecDepth 20000 in
theorem gL_law_X12_load : GoodIn wsL_law (wsV RL 165 RX12 yX12_load wsX12_load) := goodIn_app (goodIn_of _ (by decide +kernel)) ggL_law_X12_load
set_option maxRecDepth 20000 in
theorem ggL_law_X11_clear : GoodIn wsL_law wsX11_clear := goodIn_r _ [1107, 29, 1061, 1033, 1034, 2, 1035, 1162, 1163, 1164, 1165, 1166, 1167, 1168, 1169, 1170, 1171, 1260, 1261, 1262, 1263, 1264, 1265, 1266] (by decide +kernel) (by decide +kernel)
set_option maxRecDepth 20000 in
theorem gL_law_X11_clear : GoodIn wsL_law (wsV RL 166 RX11 yX11_clear wsX11_clear) := goodIn_app (goodIn_of _ (by decide +kernel)) ggL_law_X11_clear
set_option maxRecDepth 20000 in
theorem ggL_law_X12_clear : GoodIn wsL_law wsX12_clear := goodIn_r _ [1111, 173, 1050, 1051, 5, 1052, 237, 238, 239, 1172, 1173, 1174, 1175, 1176, 1177, 1178, 1179, 1180, 1181, 1182, 1183, 1184, 1185, 1186, 1187, 1188, 1189, 1190, 1191, 1192, 1193, 1194, 1195, 1196, 1197, 1198, 1199, 1200, 1201, 1202, 1203, 1204, 1205, 1206, 1207, 1208, 1209, 1210, 1211, 1212, 1213, 1214, 1215, 1216, 1217, 1218, 1219, 1220, 1221, 1222, 1223] (by decide +kernel) (by decide +kernel)
set_option maxRecDepth 20000 in
theorem gL_law_X12_clear : GoodIn wsL_law (wsV RL 169 RX12 yX12_clear wsX12_clear) := goodIn_app (goodIn_of _ (by decide +kernel)) ggL_law_X12_clear
set_option maxRecDepth 20000 in
theorem ggL_law_X11_put : GoodIn wsL_law wsX11_put := goodIn_r _ [1115, 29, 1061, 1095, 1033, 1034, 2, 1035, 1036, 1037, 1038, 1039, 211, 1096, 1097, 1098, 45, 1099, 1045, 1116, 1117, 1118, 1119, 1044, 1162, 1163, 1164, 1165, 1166, 1167, 1168, 1169, 1170, 1171, 1260, 1261, 1262, 1263, 1264, 1265, 1266] (by decide +kernel) (by decide +kernel)
set_option maxRecDepth 20000 in
theorem gL_law_X11_put : GoodIn wsL_law (wsV RL 170 RX11 yX11_put wsX11_put) := goodIn_app (goodIn_of _ (by decide +kernel)) ggL_law_X11_put
set_option maxRecDepth 20000 in
theorem ggL_law_X12_put : GoodIn wsL_law wsX12_put := goodIn_r _ [1123, 173, 174, 175, 1050, 1051, 5, 1052, 237, 238, 239, 1053, 1054, 1055, 1056, 198, 1124, 1125, 1126, 1172, 1173, 1174, 1175, 1176, 1177, 1178, 1179, 1180, 1181, 1182, 1183, 1184, 1185, 1186, 1187, 1188, 1189, 1190, 1191, 1192, 1193, 1194, 1195, 1196, 1197, 1198, 1199, 1200, 1201, 1202, 1203, 1204, 1205, 1206, 1207, 1208, 1209, 1210, 1211, 1212, 1213, 1214, 1215, 1216, 1217, 1218, 1219, 1220, 1221, 1222, 1223] (by decide +kernel) (by decide +kernel)
set_option maxRecDepth 20000 in
theorem gL_law_X12_put : GoodIn wsL_law (wsV RL 174 RX12 yX12_put wsX12_put) := goodIn_app (goodIn_of _ (by decide +kernel)) ggL_law_X12_put
set_option maxRecDepth 20000 in
theorem ggL_law_L_at : GoodIn wsL_law wsL_at := goodIn_ca (goodIn_ca (goodIn_r _ [1129, 583, 1130, 1131, 1132, 1133, 2, 1134, 588, 589, 1135, 1136, 29, 1095, 1033, 1034, 1035, 1137, 1138, 1139, 45, 1140, 1044, 1096, 1097, 1098, 1099, 1045, 1162, 1163, 1164, 1165, 1166, 1167, 1168, 1169, 1170, 1171, 1260, 1261, 1262, 1263, 1264, 1265, 1266] (by decide +kernel) (by decide +kernel)) (goodIn_sub (fun _ h => List.mem_append_left _ (List.mem_append_right _ h)) (by decide +kernel))) (goodIn_sub (fun _ h => List.mem_append_right _ h) (by decide +kernel))
set_option maxRecDepth 20000 in
theorem gL_law_L_at : GoodIn wsL_law (va_wsS RL 175 yL_at wsL_at) := goodIn_app (goodIn_of _ (by decide +kernel)) ggL_law_L_at
set_option maxRecDepth 20000 in
theorem ggL_law_X12_at : GoodIn wsL_law wsX12_at := goodIn_r _ [1144, 173, 174, 599, 175, 1050, 1051, 5, 1052, 237, 238, 239, 1172, 1173, 1174, 1175, 1176, 1177, 1178, 1179, 1180, 1181, 1182, 1183, 1184, 1185, 1186, 1187, 1188, 1189, 1190, 1191, 1192, 1193, 1194, 1195, 1196, 1197, 1198, 1199, 1200, 1201, 1202, 1203, 1204, 1205, 1206, 1207, 1208, 1209, 1210, 1211, 1212, 1213, 1214, 1215, 1216, 1217, 1218, 1219, 1220, 1221, 1222, 1223] (by decide +kernel) (by decide +kernel)
set_option maxRecDepth 20000 in
theorem gL_law_X12_at : GoodIn wsL_law (wsV RL 177 RX12 yX12_at wsX12_at) := goodIn_app (goodIn_of _ (by decide +kernel)) ggL_law_X12_at
set_option maxRecDepth 20000 in
theorem ggL_law_X11_copy : GoodIn wsL_law wsX11_copy := goodIn_r _ [1148, 29, 1061, 1095, 1149, 938, 939, 940, 1033, 1034, 2, 1035, 1036, 1037, 1038, 1039, 211, 1096, 1097, 1098, 45, 1099, 1045, 1162, 1163, 1164, 1165, 1166, 1167, 1168, 1169, 1170, 1171, 1260, 1261, 1262, 1263, 1264, 1265, 1266] (by decide +kernel) (by decide +kernel)
set_option maxRecDepth 20000 in
theorem gL_law_X11_copy : GoodIn wsL_law (wsV RL 178 RX11 yX11_copy wsX11_copy) := goodIn_app (goodIn_of _ (by decide +kernel)) ggL_law_X11_copy
set_option maxRecDepth 20000 in
theorem ggL_law_X12_copy : GoodIn wsL_law wsX12_copy := goodIn_r _ [1153, 173, 174, 190, 175, 1050, 1051, 5, 1052, 237, 238, 239, 1053, 1054, 1055, 1056, 198, 1172, 1173, 1174, 1175, 1176, 1177, 1178, 1179, 1180, 1181, 1182, 1183, 1184, 1185, 1186, 1187, 1188, 1189, 1190, 1191, 1192, 1193, 1194, 1195, 1196, 1197, 1198, 1199, 1200, 1201, 1202, 1203, 1204, 1205, 1206, 1207, 1208, 1209, 1210, 1211, 1212, 1213, 1214, 1215, 1216, 1217, 1218, 1219, 1220, 1221, 1222, 1223] (by decide +kernel) (by decide +kernel)
set_option maxRecDepth 20000 in
theorem gL_law_X12_copy : GoodIn wsL_law (wsV RL 181 RX12 yX12_copy wsX12_copy) := goodIn_app (goodIn_of _ (by decide +kernel)) ggL_law_X12_copy
set_option maxRecDepth 20000 in
theorem ggL_law_X11_count : GoodIn wsL_law wsX11_count := goodIn_r _ [1157, 210, 27, 295, 17, 271, 21, 212, 25, 1074, 211, 1162, 1163, 1164, 1165, 1166, 1167, 1168, 1169, 1170, 1171, 1253, 1254, 1255, 1256, 1257, 1258, 1259, 1224, 1225, 1226, 1227, 1228, 1229, 1230, 1231] (by decide +kernel) (by decide +kernel)
set_option maxRecDepth 20000 in
theorem gL_law_X11_count : GoodIn wsL_law (wsV RL 182 RX11 yX11_count wsX11_count) := goodIn_app (goodIn_of _ (by decide +kernel)) ggL_law_X11_count
set_option maxRecDepth 20000 in
theorem ggL_law_X12_count : GoodIn wsL_law wsX12_count := goodIn_r _ [1161, 195, 196, 197, 198, 158, 156, 317, 318, 319, 5, 320, 237, 238, 239, 1172, 1173, 1174, 1175, 1176, 1177, 1178, 1179, 1180, 1181, 1182, 1183, 1184, 1185, 1186, 1187, 1188, 1189, 1190, 1191, 1192, 1193, 1194, 1195, 1196, 1197, 1198, 1199, 1200, 1201, 1202, 1203, 1204, 1205, 1206, 1207, 1208, 1209, 1210, 1211, 1212, 1213, 1214, 1215, 1216, 1217, 1218, 1219, 1220, 1221, 1222, 1223] (by decide +kernel) (by decide +kernel)
set_option maxRecDepth 20000 in
theorem gL_law_X12_count : GoodIn wsL_law (wsV RL 185 RX12 yX12_count wsX12_count) := goodIn_app (goodIn_of _ (by decide +kernel)) ggL_law_X12_count
theorem dL_law_0 : decode cL_law 0 = .ok (.new 8, 3) := by decide +kernel
theorem dL_law_3 : decode cL_law 3 = .ok (.dup, 1) := by decide +kernel
theorem dL_law_4 : decode cL_law 4 = .ok (.invokespecial 41, 3) := by decide +kernel
theorem dL_law_7 : decode cL_law 7 = .ok (.astore_n 1, 1) := by decide +kernel
theorem dL_law_8 : decode cL_law 8 = .ok (.new 42, 3) := by decide +kernel
theorem dL_law_11 : decode cL_law 11 = .ok (.dup, 1) := by decide +kernel
theorem dL_law_12 : decode cL_law 12 = .ok (.invokespecial 44, 3) := by decide +kernel
theorem dL_law_15 : decode cL_law 15 = .ok (.astore_n 2, 1) := by decide +kernel
theorem dL_law_16 : decode cL_law 16 = .ok (.iconst 1, 1) := by decide +kernel
theorem dL_law_17 : decode cL_law 17 = .ok (.newarray .long, 2) := by decide +kernel
theorem dL_law_19 : decode cL_law 19 = .ok (.astore_n 3, 1) := by decide +kernel
theorem dL_law_20 : decode cL_law 20 = .ok (.iconst 0, 1) := by decide +kernel
theorem dL_law_21 : decode cL_law 21 = .ok (.istore 4, 2) := by decide +kernel
theorem dL_law_23 : decode cL_law 23 = .ok (.iload 4, 2) := by decide +kernel
theorem dL_law_25 : decode cL_law 25 = .ok (.aload_n 0, 1) := by decide +kernel
theorem dL_law_26 : decode cL_law 26 = .ok (.arraylength, 1) := by decide +kernel
theorem dL_law_27 : decode cL_law 27 = .ok (.bipush 6, 2) := by decide +kernel
theorem dL_law_29 : decode cL_law 29 = .ok (.isub, 1) := by decide +kernel
theorem dL_law_30 : decode cL_law 30 = .ok (.if_icmp .gt 1738, 3) := by decide +kernel
theorem dL_law_33 : decode cL_law 33 = .ok (.aload_n 0, 1) := by decide +kernel
theorem dL_law_34 : decode cL_law 34 = .ok (.iload 4, 2) := by decide +kernel
theorem dL_law_36 : decode cL_law 36 = .ok (.iaload, 1) := by decide +kernel
theorem dL_law_37 : decode cL_law 37 = .ok (.bipush 63, 2) := by decide +kernel
theorem dL_law_39 : decode cL_law 39 = .ok (.iand, 1) := by decide +kernel
theorem dL_law_40 : decode cL_law 40 = .ok (.tableswitch 1722 0 32 #[148, 161, 210, 235, 248, 285, 298, 371, 432, 481, 506, 543, 556, 611, 678, 733, 788, 855, 928, 953, 1057, 1118, 1155, 1278, 1327, 1352, 1377, 1402, 1451, 1476, 1557, 1624, 1697], 148) := by decide +kernel
theorem dL_law_188 : decode cL_law 188 = .ok (.aload_n 1, 1) := by decide +kernel
theorem dL_law_189 : decode cL_law 189 = .ok (.invokevirtual 45, 3) := by decide +kernel
theorem dL_law_192 : decode cL_law 192 = .ok (.aload_n 2, 1) := by decide +kernel
theorem dL_law_193 : decode cL_law 193 = .ok (.invokevirtual 49, 3) := by decide +kernel
theorem dL_law_196 : decode cL_law 196 = .ok (.if_icmp .eq 1566, 3) := by decide +kernel
theorem dL_law_199 : decode cL_law 199 = .ok (.iconst 0, 1) := by decide +kernel
theorem dL_law_200 : decode cL_law 200 = .ok (.ireturn, 1) := by decide +kernel
theorem dL_law_201 : decode cL_law 201 = .ok (.aload_n 1, 1) := by decide +kernel
theorem dL_law_202 : decode cL_law 202 = .ok (.aload_n 0, 1) := by decide +kernel
theorem dL_law_203 : decode cL_law 203 = .ok (.iload 4, 2) := by decide +kernel
theorem dL_law_205 : decode cL_law 205 = .ok (.iconst 1, 1) := by decide +kernel
theorem dL_law_206 : decode cL_law 206 = .ok (.iadd, 1) := by decide +kernel
theorem dL_law_207 : decode cL_law 207 = .ok (.iaload, 1) := by decide +kernel
theorem dL_law_208 : decode cL_law 208 = .ok (.aload_n 0, 1) := by decide +kernel
theorem dL_law_209 : decode cL_law 209 = .ok (.iload 4, 2) := by decide +kernel
theorem dL_law_211 : decode cL_law 211 = .ok (.iconst 2, 1) := by decide +kernel
theorem dL_law_212 : decode cL_law 212 = .ok (.iadd, 1) := by decide +kernel
theorem dL_law_213 : decode cL_law 213 = .ok (.iaload, 1) := by decide +kernel
theorem dL_law_214 : decode cL_law 214 = .ok (.aload_n 0, 1) := by decide +kernel
theorem dL_law_215 : decode cL_law 215 = .ok (.iload 4, 2) := by decide +kernel
theorem dL_law_217 : decode cL_law 217 = .ok (.iconst 3, 1) := by decide +kernel
theorem dL_law_218 : decode cL_law 218 = .ok (.iadd, 1) := by decide +kernel
theorem dL_law_219 : decode cL_law 219 = .ok (.iaload, 1) := by decide +kernel
theorem dL_law_220 : decode cL_law 220 = .ok (.invokevirtual 50, 3) := by decide +kernel
theorem dL_law_223 : decode cL_law 223 = .ok (.aload_n 2, 1) := by decide +kernel
theorem dL_law_224 : decode cL_law 224 = .ok (.aload_n 0, 1) := by decide +kernel
theorem dL_law_225 : decode cL_law 225 = .ok (.iload 4, 2) := by decide +kernel
theorem dL_law_227 : decode cL_law 227 = .ok (.iconst 1, 1) := by decide +kernel
theorem dL_law_228 : decode cL_law 228 = .ok (.iadd, 1) := by decide +kernel
theorem dL_law_229 : decode cL_law 229 = .ok (.iaload, 1) := by decide +kernel
theorem dL_law_230 : decode cL_law 230 = .ok (.aload_n 0, 1) := by decide +kernel
theorem dL_law_231 : decode cL_law 231 = .ok (.iload 4, 2) := by decide +kernel
theorem dL_law_233 : decode cL_law 233 = .ok (.iconst 2, 1) := by decide +kernel
theorem dL_law_234 : decode cL_law 234 = .ok (.iadd, 1) := by decide +kernel
theorem dL_law_235 : decode cL_law 235 = .ok (.iaload, 1) := by decide +kernel
theorem dL_law_236 : decode cL_law 236 = .ok (.aload_n 0, 1) := by decide +kernel
theorem dL_law_237 : decode cL_law 237 = .ok (.iload 4, 2) := by decide +kernel
theorem dL_law_239 : decode cL_law 239 = .ok (.iconst 3, 1) := by decide +kernel
theorem dL_law_240 : decode cL_law 240 = .ok (.iadd, 1) := by decide +kernel
theorem dL_law_241 : decode cL_law 241 = .ok (.iaload, 1) := by decide +kernel
theorem dL_law_242 : decode cL_law 242 = .ok (.invokevirtual 54, 3) := by decide +kernel
theorem dL_law_245 : decode cL_law 245 = .ok (.if_icmp .eq 1517, 3) := by decide +kernel
theorem dL_law_248 : decode cL_law 248 = .ok (.iconst 0, 1) := by decide +kernel
theorem dL_law_249 : decode cL_law 249 = .ok (.ireturn, 1) := by decide +kernel
theorem dL_law_250 : decode cL_law 250 = .ok (.aload_n 1, 1) := by decide +kernel
theorem dL_law_251 : decode cL_law 251 = .ok (.aload_n 0, 1) := by decide +kernel
theorem dL_law_252 : decode cL_law 252 = .ok (.iload 4, 2) := by decide +kernel
theorem dL_law_254 : decode cL_law 254 = .ok (.iconst 1, 1) := by decide +kernel
theorem dL_law_255 : decode cL_law 255 = .ok (.iadd, 1) := by decide +kernel
theorem dL_law_256 : decode cL_law 256 = .ok (.iaload, 1) := by decide +kernel
theorem dL_law_257 : decode cL_law 257 = .ok (.invokevirtual 55, 3) := by decide +kernel
theorem dL_law_260 : decode cL_law 260 = .ok (.aload_n 2, 1) := by decide +kernel
theorem dL_law_261 : decode cL_law 261 = .ok (.aload_n 0, 1) := by decide +kernel
theorem dL_law_262 : decode cL_law 262 = .ok (.iload 4, 2) := by decide +kernel
theorem dL_law_264 : decode cL_law 264 = .ok (.iconst 1, 1) := by decide +kernel
theorem dL_law_265 : decode cL_law 265 = .ok (.iadd, 1) := by decide +kernel
theorem dL_law_266 : decode cL_law 266 = .ok (.iaload, 1) := by decide +kernel
theorem dL_law_267 : decode cL_law 267 = .ok (.invokevirtual 59, 3) := by decide +kernel
theorem dL_law_270 : decode cL_law 270 = .ok (.if_icmp .eq 1492, 3) := by decide +kernel
theorem dL_law_273 : decode cL_law 273 = .ok (.iconst 0, 1) := by decide +kernel
theorem dL_law_274 : decode cL_law 274 = .ok (.ireturn, 1) := by decide +kernel
theorem dL_law_275 : decode cL_law 275 = .ok (.aload_n 1, 1) := by decide +kernel
theorem dL_law_276 : decode cL_law 276 = .ok (.invokevirtual 60, 3) := by decide +kernel
theorem dL_law_279 : decode cL_law 279 = .ok (.aload_n 2, 1) := by decide +kernel
theorem dL_law_280 : decode cL_law 280 = .ok (.invokevirtual 63, 3) := by decide +kernel
theorem dL_law_283 : decode cL_law 283 = .ok (.if_icmp .eq 1479, 3) := by decide +kernel
theorem dL_law_286 : decode cL_law 286 = .ok (.iconst 0, 1) := by decide +kernel
theorem dL_law_287 : decode cL_law 287 = .ok (.ireturn, 1) := by decide +kernel
theorem dL_law_288 : decode cL_law 288 = .ok (.aload_n 1, 1) := by decide +kernel
theorem dL_law_289 : decode cL_law 289 = .ok (.aload_n 0, 1) := by decide +kernel
theorem dL_law_290 : decode cL_law 290 = .ok (.iload 4, 2) := by decide +kernel
theorem dL_law_292 : decode cL_law 292 = .ok (.iconst 1, 1) := by decide +kernel
theorem dL_law_293 : decode cL_law 293 = .ok (.iadd, 1) := by decide +kernel
theorem dL_law_294 : decode cL_law 294 = .ok (.iaload, 1) := by decide +kernel
theorem dL_law_295 : decode cL_law 295 = .ok (.aload_n 0, 1) := by decide +kernel
theorem dL_law_296 : decode cL_law 296 = .ok (.iload 4, 2) := by decide +kernel
theorem dL_law_298 : decode cL_law 298 = .ok (.iconst 2, 1) := by decide +kernel
theorem dL_law_299 : decode cL_law 299 = .ok (.iadd, 1) := by decide +kernel
theorem dL_law_300 : decode cL_law 300 = .ok (.iaload, 1) := by decide +kernel
theorem dL_law_301 : decode cL_law 301 = .ok (.invokevirtual 64, 3) := by decide +kernel
theorem dL_law_304 : decode cL_law 304 = .ok (.aload_n 2, 1) := by decide +kernel
theorem dL_law_305 : decode cL_law 305 = .ok (.aload_n 0, 1) := by decide +kernel
theorem dL_law_306 : decode cL_law 306 = .ok (.iload 4, 2) := by decide +kernel
theorem dL_law_308 : decode cL_law 308 = .ok (.iconst 1, 1) := by decide +kernel
theorem dL_law_309 : decode cL_law 309 = .ok (.iadd, 1) := by decide +kernel
theorem dL_law_310 : decode cL_law 310 = .ok (.iaload, 1) := by decide +kernel
theorem dL_law_311 : decode cL_law 311 = .ok (.aload_n 0, 1) := by decide +kernel
theorem dL_law_312 : decode cL_law 312 = .ok (.iload 4, 2) := by decide +kernel
theorem dL_law_314 : decode cL_law 314 = .ok (.iconst 2, 1) := by decide +kernel
theorem dL_law_315 : decode cL_law 315 = .ok (.iadd, 1) := by decide +kernel
theorem dL_law_316 : decode cL_law 316 = .ok (.iaload, 1) := by decide +kernel
theorem dL_law_317 : decode cL_law 317 = .ok (.invokevirtual 68, 3) := by decide +kernel
theorem dL_law_320 : decode cL_law 320 = .ok (.if_icmp .eq 1442, 3) := by decide +kernel
theorem dL_law_323 : decode cL_law 323 = .ok (.iconst 0, 1) := by decide +kernel
theorem dL_law_324 : decode cL_law 324 = .ok (.ireturn, 1) := by decide +kernel
theorem dL_law_325 : decode cL_law 325 = .ok (.aload_n 1, 1) := by decide +kernel
theorem dL_law_326 : decode cL_law 326 = .ok (.invokevirtual 69, 3) := by decide +kernel
theorem dL_law_329 : decode cL_law 329 = .ok (.aload_n 2, 1) := by decide +kernel
theorem dL_law_330 : decode cL_law 330 = .ok (.invokevirtual 72, 3) := by decide +kernel
theorem dL_law_333 : decode cL_law 333 = .ok (.if_icmp .eq 1429, 3) := by decide +kernel
theorem dL_law_336 : decode cL_law 336 = .ok (.iconst 0, 1) := by decide +kernel
theorem dL_law_337 : decode cL_law 337 = .ok (.ireturn, 1) := by decide +kernel
theorem dL_law_338 : decode cL_law 338 = .ok (.aload_n 1, 1) := by decide +kernel
theorem dL_law_339 : decode cL_law 339 = .ok (.aload_n 0, 1) := by decide +kernel
theorem dL_law_340 : decode cL_law 340 = .ok (.iload 4, 2) := by decide +kernel
theorem dL_law_342 : decode cL_law 342 = .ok (.iconst 1, 1) := by decide +kernel
theorem dL_law_343 : decode cL_law 343 = .ok (.iadd, 1) := by decide +kernel
theorem dL_law_344 : decode cL_law 344 = .ok (.iaload, 1) := by decide +kernel
theorem dL_law_345 : decode cL_law 345 = .ok (.aload_n 0, 1) := by decide +kernel
theorem dL_law_346 : decode cL_law 346 = .ok (.iload 4, 2) := by decide +kernel
theorem dL_law_348 : decode cL_law 348 = .ok (.iconst 2, 1) := by decide +kernel
theorem dL_law_349 : decode cL_law 349 = .ok (.iadd, 1) := by decide +kernel
theorem dL_law_350 : decode cL_law 350 = .ok (.iaload, 1) := by decide +kernel
theorem dL_law_351 : decode cL_law 351 = .ok (.aload_n 0, 1) := by decide +kernel
theorem dL_law_352 : decode cL_law 352 = .ok (.iload 4, 2) := by decide +kernel
theorem dL_law_354 : decode cL_law 354 = .ok (.iconst 3, 1) := by decide +kernel
theorem dL_law_355 : decode cL_law 355 = .ok (.iadd, 1) := by decide +kernel
theorem dL_law_356 : decode cL_law 356 = .ok (.iaload, 1) := by decide +kernel
theorem dL_law_357 : decode cL_law 357 = .ok (.aload_n 0, 1) := by decide +kernel
theorem dL_law_358 : decode cL_law 358 = .ok (.iload 4, 2) := by decide +kernel
theorem dL_law_360 : decode cL_law 360 = .ok (.iconst 4, 1) := by decide +kernel
theorem dL_law_361 : decode cL_law 361 = .ok (.iadd, 1) := by decide +kernel
theorem dL_law_362 : decode cL_law 362 = .ok (.iaload, 1) := by decide +kernel
theorem dL_law_363 : decode cL_law 363 = .ok (.aload_n 0, 1) := by decide +kernel
theorem dL_law_364 : decode cL_law 364 = .ok (.iload 4, 2) := by decide +kernel
theorem dL_law_366 : decode cL_law 366 = .ok (.iconst 5, 1) := by decide +kernel
theorem dL_law_367 : decode cL_law 367 = .ok (.iadd, 1) := by decide +kernel
theorem dL_law_368 : decode cL_law 368 = .ok (.iaload, 1) := by decide +kernel
theorem dL_law_369 : decode cL_law 369 = .ok (.invokevirtual 73, 3) := by decide +kernel
theorem dL_law_372 : decode cL_law 372 = .ok (.aload_n 2, 1) := by decide +kernel
theorem dL_law_373 : decode cL_law 373 = .ok (.aload_n 0, 1) := by decide +kernel
theorem dL_law_374 : decode cL_law 374 = .ok (.iload 4, 2) := by decide +kernel
theorem dL_law_376 : decode cL_law 376 = .ok (.iconst 1, 1) := by decide +kernel
theorem dL_law_377 : decode cL_law 377 = .ok (.iadd, 1) := by decide +kernel
theorem dL_law_378 : decode cL_law 378 = .ok (.iaload, 1) := by decide +kernel
theorem dL_law_379 : decode cL_law 379 = .ok (.aload_n 0, 1) := by decide +kernel
theorem dL_law_380 : decode cL_law 380 = .ok (.iload 4, 2) := by decide +kernel
theorem dL_law_382 : decode cL_law 382 = .ok (.iconst 2, 1) := by decide +kernel
theorem dL_law_383 : decode cL_law 383 = .ok (.iadd, 1) := by decide +kernel
theorem dL_law_384 : decode cL_law 384 = .ok (.iaload, 1) := by decide +kernel
theorem dL_law_385 : decode cL_law 385 = .ok (.aload_n 0, 1) := by decide +kernel
theorem dL_law_386 : decode cL_law 386 = .ok (.iload 4, 2) := by decide +kernel
theorem dL_law_388 : decode cL_law 388 = .ok (.iconst 3, 1) := by decide +kernel
theorem dL_law_389 : decode cL_law 389 = .ok (.iadd, 1) := by decide +kernel
theorem dL_law_390 : decode cL_law 390 = .ok (.iaload, 1) := by decide +kernel
theorem dL_law_391 : decode cL_law 391 = .ok (.aload_n 0, 1) := by decide +kernel
theorem dL_law_392 : decode cL_law 392 = .ok (.iload 4, 2) := by decide +kernel
theorem dL_law_394 : decode cL_law 394 = .ok (.iconst 4, 1) := by decide +kernel
theorem dL_law_395 : decode cL_law 395 = .ok (.iadd, 1) := by decide +kernel
theorem dL_law_396 : decode cL_law 396 = .ok (.iaload, 1) := by decide +kernel
theorem dL_law_397 : decode cL_law 397 = .ok (.aload_n 0, 1) := by decide +kernel
theorem dL_law_398 : decode cL_law 398 = .ok (.iload 4, 2) := by decide +kernel
theorem dL_law_400 : decode cL_law 400 = .ok (.iconst 5, 1) := by decide +kernel
theorem dL_law_401 : decode cL_law 401 = .ok (.iadd, 1) := by decide +kernel
theorem dL_law_402 : decode cL_law 402 = .ok (.iaload, 1) := by decide +kernel
theorem dL_law_403 : decode cL_law 403 = .ok (.invokevirtual 76, 3) := by decide +kernel
theorem dL_law_406 : decode cL_law 406 = .ok (.if_icmp .eq 1356, 3) := by decide +kernel
theorem dL_law_409 : decode cL_law 409 = .ok (.iconst 0, 1) := by decide +kernel
theorem dL_law_410 : decode cL_law 410 = .ok (.ireturn, 1) := by decide +kernel
theorem dL_law_411 : decode cL_law 411 = .ok (.aload_n 1, 1) := by decide +kernel
theorem dL_law_412 : decode cL_law 412 = .ok (.aload_n 0, 1) := by decide +kernel
theorem dL_law_413 : decode cL_law 413 = .ok (.iload 4, 2) := by decide +kernel
theorem dL_law_415 : decode cL_law 415 = .ok (.iconst 1, 1) := by decide +kernel
theorem dL_law_416 : decode cL_law 416 = .ok (.iadd, 1) := by decide +kernel
theorem dL_law_417 : decode cL_law 417 = .ok (.iaload, 1) := by decide +kernel
theorem dL_law_418 : decode cL_law 418 = .ok (.aload_n 0, 1) := by decide +kernel
theorem dL_law_419 : decode cL_law 419 = .ok (.iload 4, 2) := by decide +kernel
theorem dL_law_421 : decode cL_law 421 = .ok (.iconst 2, 1) := by decide +kernel
theorem dL_law_422 : decode cL_law 422 = .ok (.iadd, 1) := by decide +kernel
theorem dL_law_423 : decode cL_law 423 = .ok (.iaload, 1) := by decide +kernel
theorem dL_law_424 : decode cL_law 424 = .ok (.aload_n 0, 1) := by decide +kernel
theorem dL_law_425 : decode cL_law 425 = .ok (.iload 4, 2) := by decide +kernel
theorem dL_law_427 : decode cL_law 427 = .ok (.iconst 3, 1) := by decide +kernel
theorem dL_law_428 : decode cL_law 428 = .ok (.iadd, 1) := by decide +kernel
theorem dL_law_429 : decode cL_law 429 = .ok (.iaload, 1) := by decide +kernel
theorem dL_law_430 : decode cL_law 430 = .ok (.aload_n 0, 1) := by decide +kernel
theorem dL_law_431 : decode cL_law 431 = .ok (.iload 4, 2) := by decide +kernel
theorem dL_law_433 : decode cL_law 433 = .ok (.iconst 4, 1) := by decide +kernel
theorem dL_law_434 : decode cL_law 434 = .ok (.iadd, 1) := by decide +kernel
theorem dL_law_435 : decode cL_law 435 = .ok (.iaload, 1) := by decide +kernel
theorem dL_law_436 : decode cL_law 436 = .ok (.invokevirtual 77, 3) := by decide +kernel
theorem dL_law_439 : decode cL_law 439 = .ok (.aload_n 2, 1) := by decide +kernel
theorem dL_law_440 : decode cL_law 440 = .ok (.aload_n 0, 1) := by decide +kernel
theorem dL_law_441 : decode cL_law 441 = .ok (.iload 4, 2) := by decide +kernel
theorem dL_law_443 : decode cL_law 443 = .ok (.iconst 1, 1) := by decide +kernel
theorem dL_law_444 : decode cL_law 444 = .ok (.iadd, 1) := by decide +kernel
theorem dL_law_445 : decode cL_law 445 = .ok (.iaload, 1) := by decide +kernel
theorem dL_law_446 : decode cL_law 446 = .ok (.aload_n 0, 1) := by decide +kernel
theorem dL_law_447 : decode cL_law 447 = .ok (.iload 4, 2) := by decide +kernel
theorem dL_law_449 : decode cL_law 449 = .ok (.iconst 2, 1) := by decide +kernel
theorem dL_law_450 : decode cL_law 450 = .ok (.iadd, 1) := by decide +kernel
theorem dL_law_451 : decode cL_law 451 = .ok (.iaload, 1) := by decide +kernel
theorem dL_law_452 : decode cL_law 452 = .ok (.aload_n 0, 1) := by decide +kernel
theorem dL_law_453 : decode cL_law 453 = .ok (.iload 4, 2) := by decide +kernel
theorem dL_law_455 : decode cL_law 455 = .ok (.iconst 3, 1) := by decide +kernel
theorem dL_law_456 : decode cL_law 456 = .ok (.iadd, 1) := by decide +kernel
theorem dL_law_457 : decode cL_law 457 = .ok (.iaload, 1) := by decide +kernel
theorem dL_law_458 : decode cL_law 458 = .ok (.aload_n 0, 1) := by decide +kernel
theorem dL_law_459 : decode cL_law 459 = .ok (.iload 4, 2) := by decide +kernel
theorem dL_law_461 : decode cL_law 461 = .ok (.iconst 4, 1) := by decide +kernel
theorem dL_law_462 : decode cL_law 462 = .ok (.iadd, 1) := by decide +kernel
theorem dL_law_463 : decode cL_law 463 = .ok (.iaload, 1) := by decide +kernel
theorem dL_law_464 : decode cL_law 464 = .ok (.invokevirtual 81, 3) := by decide +kernel
theorem dL_law_467 : decode cL_law 467 = .ok (.if_icmp .eq 1295, 3) := by decide +kernel
theorem dL_law_470 : decode cL_law 470 = .ok (.iconst 0, 1) := by decide +kernel
theorem dL_law_471 : decode cL_law 471 = .ok (.ireturn, 1) := by decide +kernel
theorem dL_law_472 : decode cL_law 472 = .ok (.aload_n 1, 1) := by decide +kernel
theorem dL_law_473 : decode cL_law 473 = .ok (.aload_n 0, 1) := by decide +kernel
theorem dL_law_474 : decode cL_law 474 = .ok (.iload 4, 2) := by decide +kernel
theorem dL_law_476 : decode cL_law 476 = .ok (.iconst 1, 1) := by decide +kernel
theorem dL_law_477 : decode cL_law 477 = .ok (.iadd, 1) := by decide +kernel
theorem dL_law_478 : decode cL_law 478 = .ok (.iaload, 1) := by decide +kernel
theorem dL_law_479 : decode cL_law 479 = .ok (.aload_n 0, 1) := by decide +kernel
theorem dL_law_480 : decode cL_law 480 = .ok (.iload 4, 2) := by decide +kernel
theorem dL_law_482 : decode cL_law 482 = .ok (.iconst 2, 1) := by decide +kernel
theorem dL_law_483 : decode cL_law 483 = .ok (.iadd, 1) := by decide +kernel
theorem dL_law_484 : decode cL_law 484 = .ok (.iaload, 1) := by decide +kernel
theorem dL_law_485 : decode cL_law 485 = .ok (.aload_n 0, 1) := by decide +kernel
theorem dL_law_486 : decode cL_law 486 = .ok (.iload 4, 2) := by decide +kernel
theorem dL_law_488 : decode cL_law 488 = .ok (.iconst 3, 1) := by decide +kernel
theorem dL_law_489 : decode cL_law 489 = .ok (.iadd, 1) := by decide +kernel
theorem dL_law_490 : decode cL_law 490 = .ok (.iaload, 1) := by decide +kernel
theorem dL_law_491 : decode cL_law 491 = .ok (.invokevirtual 82, 3) := by decide +kernel
theorem dL_law_494 : decode cL_law 494 = .ok (.aload_n 2, 1) := by decide +kernel
theorem dL_law_495 : decode cL_law 495 = .ok (.aload_n 0, 1) := by decide +kernel
theorem dL_law_496 : decode cL_law 496 = .ok (.iload 4, 2) := by decide +kernel
theorem dL_law_498 : decode cL_law 498 = .ok (.iconst 1, 1) := by decide +kernel
theorem dL_law_499 : decode cL_law 499 = .ok (.iadd, 1) := by decide +kernel
theorem dL_law_500 : decode cL_law 500 = .ok (.iaload, 1) := by decide +kernel
theorem dL_law_501 : decode cL_law 501 = .ok (.aload_n 0, 1) := by decide +kernel
theorem dL_law_502 : decode cL_law 502 = .ok (.iload 4, 2) := by decide +kernel
theorem dL_law_504 : decode cL_law 504 = .ok (.iconst 2, 1) := by decide +kernel
theorem dL_law_505 : decode cL_law 505 = .ok (.iadd, 1) := by decide +kernel
theorem dL_law_506 : decode cL_law 506 = .ok (.iaload, 1) := by decide +kernel
theorem dL_law_507 : decode cL_law 507 = .ok (.aload_n 0, 1) := by decide +kernel
theorem dL_law_508 : decode cL_law 508 = .ok (.iload 4, 2) := by decide +kernel
theorem dL_law_510 : decode cL_law 510 = .ok (.iconst 3, 1) := by decide +kernel
theorem dL_law_511 : decode cL_law 511 = .ok (.iadd, 1) := by decide +kernel
theorem dL_law_512 : decode cL_law 512 = .ok (.iaload, 1) := by decide +kernel
theorem dL_law_513 : decode cL_law 513 = .ok (.invokevirtual 85, 3) := by decide +kernel
theorem dL_law_516 : decode cL_law 516 = .ok (.if_icmp .eq 1246, 3) := by decide +kernel
theorem dL_law_519 : decode cL_law 519 = .ok (.iconst 0, 1) := by decide +kernel
theorem dL_law_520 : decode cL_law 520 = .ok (.ireturn, 1) := by decide +kernel
theorem dL_law_521 : decode cL_law 521 = .ok (.aload_n 1, 1) := by decide +kernel
theorem dL_law_522 : decode cL_law 522 = .ok (.aload_n 0, 1) := by decide +kernel
theorem dL_law_523 : decode cL_law 523 = .ok (.iload 4, 2) := by decide +kernel
theorem dL_law_525 : decode cL_law 525 = .ok (.iconst 1, 1) := by decide +kernel
theorem dL_law_526 : decode cL_law 526 = .ok (.iadd, 1) := by decide +kernel
theorem dL_law_527 : decode cL_law 527 = .ok (.iaload, 1) := by decide +kernel
theorem dL_law_528 : decode cL_law 528 = .ok (.invokevirtual 86, 3) := by decide +kernel
theorem dL_law_531 : decode cL_law 531 = .ok (.aload_n 2, 1) := by decide +kernel
theorem dL_law_532 : decode cL_law 532 = .ok (.aload_n 0, 1) := by decide +kernel
theorem dL_law_533 : decode cL_law 533 = .ok (.iload 4, 2) := by decide +kernel
theorem dL_law_535 : decode cL_law 535 = .ok (.iconst 1, 1) := by decide +kernel
theorem dL_law_536 : decode cL_law 536 = .ok (.iadd, 1) := by decide +kernel
theorem dL_law_537 : decode cL_law 537 = .ok (.iaload, 1) := by decide +kernel
theorem dL_law_538 : decode cL_law 538 = .ok (.invokevirtual 89, 3) := by decide +kernel
theorem dL_law_541 : decode cL_law 541 = .ok (.if_icmp .eq 1221, 3) := by decide +kernel
theorem dL_law_544 : decode cL_law 544 = .ok (.iconst 0, 1) := by decide +kernel
theorem dL_law_545 : decode cL_law 545 = .ok (.ireturn, 1) := by decide +kernel
theorem dL_law_546 : decode cL_law 546 = .ok (.aload_n 1, 1) := by decide +kernel
theorem dL_law_547 : decode cL_law 547 = .ok (.aload_n 0, 1) := by decide +kernel
theorem dL_law_548 : decode cL_law 548 = .ok (.iload 4, 2) := by decide +kernel
theorem dL_law_550 : decode cL_law 550 = .ok (.iconst 1, 1) := by decide +kernel
theorem dL_law_551 : decode cL_law 551 = .ok (.iadd, 1) := by decide +kernel
theorem dL_law_552 : decode cL_law 552 = .ok (.iaload, 1) := by decide +kernel
theorem dL_law_553 : decode cL_law 553 = .ok (.aload_n 0, 1) := by decide +kernel
theorem dL_law_554 : decode cL_law 554 = .ok (.iload 4, 2) := by decide +kernel
theorem dL_law_556 : decode cL_law 556 = .ok (.iconst 2, 1) := by decide +kernel
theorem dL_law_557 : decode cL_law 557 = .ok (.iadd, 1) := by decide +kernel
theorem dL_law_558 : decode cL_law 558 = .ok (.iaload, 1) := by decide +kernel
theorem dL_law_559 : decode cL_law 559 = .ok (.invokevirtual 90, 3) := by decide +kernel
theorem dL_law_562 : decode cL_law 562 = .ok (.aload_n 2, 1) := by decide +kernel
theorem dL_law_563 : decode cL_law 563 = .ok (.aload_n 0, 1) := by decide +kernel
theorem dL_law_564 : decode cL_law 564 = .ok (.iload 4, 2) := by decide +kernel
theorem dL_law_566 : decode cL_law 566 = .ok (.iconst 1, 1) := by decide +kernel
theorem dL_law_567 : decode cL_law 567 = .ok (.iadd, 1) := by decide +kernel
theorem dL_law_568 : decode cL_law 568 = .ok (.iaload, 1) := by decide +kernel
theorem dL_law_569 : decode cL_law 569 = .ok (.aload_n 0, 1) := by decide +kernel
theorem dL_law_570 : decode cL_law 570 = .ok (.iload 4, 2) := by decide +kernel
theorem dL_law_572 : decode cL_law 572 = .ok (.iconst 2, 1) := by decide +kernel
theorem dL_law_573 : decode cL_law 573 = .ok (.iadd, 1) := by decide +kernel
theorem dL_law_574 : decode cL_law 574 = .ok (.iaload, 1) := by decide +kernel
theorem dL_law_575 : decode cL_law 575 = .ok (.invokevirtual 93, 3) := by decide +kernel
theorem dL_law_578 : decode cL_law 578 = .ok (.if_icmp .eq 1184, 3) := by decide +kernel
theorem dL_law_581 : decode cL_law 581 = .ok (.iconst 0, 1) := by decide +kernel
theorem dL_law_582 : decode cL_law 582 = .ok (.ireturn, 1) := by decide +kernel
theorem dL_law_583 : decode cL_law 583 = .ok (.aload_n 1, 1) := by decide +kernel
theorem dL_law_584 : decode cL_law 584 = .ok (.invokevirtual 94, 3) := by decide +kernel
theorem dL_law_587 : decode cL_law 587 = .ok (.aload_n 2, 1) := by decide +kernel
theorem dL_law_588 : decode cL_law 588 = .ok (.invokevirtual 97, 3) := by decide +kernel
theorem dL_law_591 : decode cL_law 591 = .ok (.if_icmp .eq 1171, 3) := by decide +kernel
theorem dL_law_594 : decode cL_law 594 = .ok (.iconst 0, 1) := by decide +kernel
theorem dL_law_595 : decode cL_law 595 = .ok (.ireturn, 1) := by decide +kernel
theorem dL_law_596 : decode cL_law 596 = .ok (.aload_n 1, 1) := by decide +kernel
theorem dL_law_597 : decode cL_law 597 = .ok (.aload_n 0, 1) := by decide +kernel
theorem dL_law_598 : decode cL_law 598 = .ok (.iload 4, 2) := by decide +kernel
theorem dL_law_600 : decode cL_law 600 = .ok (.iconst 1, 1) := by decide +kernel
theorem dL_law_601 : decode cL_law 601 = .ok (.iadd, 1) := by decide +kernel
theorem dL_law_602 : decode cL_law 602 = .ok (.iaload, 1) := by decide +kernel
theorem dL_law_603 : decode cL_law 603 = .ok (.aload_n 3, 1) := by decide +kernel
theorem dL_law_604 : decode cL_law 604 = .ok (.invokestatic 98, 3) := by decide +kernel
theorem dL_law_607 : decode cL_law 607 = .ok (.istore 5, 2) := by decide +kernel
theorem dL_law_609 : decode cL_law 609 = .ok (.aload_n 2, 1) := by decide +kernel
theorem dL_law_610 : decode cL_law 610 = .ok (.aload_n 0, 1) := by decide +kernel
theorem dL_law_611 : decode cL_law 611 = .ok (.iload 4, 2) := by decide +kernel
theorem dL_law_613 : decode cL_law 613 = .ok (.iconst 1, 1) := by decide +kernel
theorem dL_law_614 : decode cL_law 614 = .ok (.iadd, 1) := by decide +kernel
theorem dL_law_615 : decode cL_law 615 = .ok (.iaload, 1) := by decide +kernel
theorem dL_law_616 : decode cL_law 616 = .ok (.invokevirtual 103, 3) := by decide +kernel
theorem dL_law_619 : decode cL_law 619 = .ok (.lstore 6, 2) := by decide +kernel
theorem dL_law_621 : decode cL_law 621 = .ok (.aload_n 2, 1) := by decide +kernel
theorem dL_law_622 : decode cL_law 622 = .ok (.invokevirtual 104, 3) := by decide +kernel
theorem dL_law_625 : decode cL_law 625 = .ok (.iload 5, 2) := by decide +kernel
theorem dL_law_627 : decode cL_law 627 = .ok (.if_icmp .eq 5, 3) := by decide +kernel
theorem dL_law_630 : decode cL_law 630 = .ok (.iconst 0, 1) := by decide +kernel
theorem dL_law_631 : decode cL_law 631 = .ok (.ireturn, 1) := by decide +kernel
theorem dL_law_632 : decode cL_law 632 = .ok (.iload 5, 2) := by decide +kernel
theorem dL_law_634 : decode cL_law 634 = .ok (.ifCond .ne 14, 3) := by decide +kernel
theorem dL_law_637 : decode cL_law 637 = .ok (.aload_n 3, 1) := by decide +kernel
theorem dL_law_638 : decode cL_law 638 = .ok (.iconst 0, 1) := by decide +kernel
theorem dL_law_639 : decode cL_law 639 = .ok (.laload, 1) := by decide +kernel
theorem dL_law_640 : decode cL_law 640 = .ok (.lload 6, 2) := by decide +kernel
theorem dL_law_642 : decode cL_law 642 = .ok (.lcmp, 1) := by decide +kernel
theorem dL_law_643 : decode cL_law 643 = .ok (.ifCond .eq 5, 3) := by decide +kernel
theorem dL_law_646 : decode cL_law 646 = .ok (.iconst 0, 1) := by decide +kernel
theorem dL_law_647 : decode cL_law 647 = .ok (.ireturn, 1) := by decide +kernel
theorem dL_law_648 : decode cL_law 648 = .ok (.goto 1114, 3) := by decide +kernel
theorem dL_law_651 : decode cL_law 651 = .ok (.aload_n 1, 1) := by decide +kernel
theorem dL_law_652 : decode cL_law 652 = .ok (.aload_n 0, 1) := by decide +kernel
theorem dL_law_653 : decode cL_law 653 = .ok (.iload 4, 2) := by decide +kernel
theorem dL_law_655 : decode cL_law 655 = .ok (.iconst 1, 1) := by decide +kernel
theorem dL_law_656 : decode cL_law 656 = .ok (.iadd, 1) := by decide +kernel
theorem dL_law_657 : decode cL_law 657 = .ok (.iaload, 1) := by decide +kernel
theorem dL_law_658 : decode cL_law 658 = .ok (.aload_n 0, 1) := by decide +kernel
theorem dL_law_659 : decode cL_law 659 = .ok (.iload 4, 2) := by decide +kernel
theorem dL_law_661 : decode cL_law 661 = .ok (.iconst 2, 1) := by decide +kernel
theorem dL_law_662 : decode cL_law 662 = .ok (.iadd, 1) := by decide +kernel
theorem dL_law_663 : decode cL_law 663 = .ok (.iaload, 1) := by decide +kernel
theorem dL_law_664 : decode cL_law 664 = .ok (.aload_n 3, 1) := by decide +kernel
theorem dL_law_665 : decode cL_law 665 = .ok (.invokestatic 107, 3) := by decide +kernel
theorem dL_law_668 : decode cL_law 668 = .ok (.istore 5, 2) := by decide +kernel
theorem dL_law_670 : decode cL_law 670 = .ok (.aload_n 2, 1) := by decide +kernel
theorem dL_law_671 : decode cL_law 671 = .ok (.aload_n 0, 1) := by decide +kernel
theorem dL_law_672 : decode cL_law 672 = .ok (.iload 4, 2) := by decide +kernel
theorem dL_law_674 : decode cL_law 674 = .ok (.iconst 1, 1) := by decide +kernel
theorem dL_law_675 : decode cL_law 675 = .ok (.iadd, 1) := by decide +kernel
theorem dL_law_676 : decode cL_law 676 = .ok (.iaload, 1) := by decide +kernel
theorem dL_law_677 : decode cL_law 677 = .ok (.aload_n 0, 1) := by decide +kernel
theorem dL_law_678 : decode cL_law 678 = .ok (.iload 4, 2) := by decide +kernel
theorem dL_law_680 : decode cL_law 680 = .ok (.iconst 2, 1) := by decide +kernel
theorem dL_law_681 : decode cL_law 681 = .ok (.iadd, 1) := by decide +kernel
theorem dL_law_682 : decode cL_law 682 = .ok (.iaload, 1) := by decide +kernel
theorem dL_law_683 : decode cL_law 683 = .ok (.invokevirtual 110, 3) := by decide +kernel
theorem dL_law_686 : decode cL_law 686 = .ok (.lstore 6, 2) := by decide +kernel
theorem dL_law_688 : decode cL_law 688 = .ok (.aload_n 2, 1) := by decide +kernel
theorem dL_law_689 : decode cL_law 689 = .ok (.invokevirtual 104, 3) := by decide +kernel
theorem dL_law_692 : decode cL_law 692 = .ok (.iload 5, 2) := by decide +kernel
theorem dL_law_694 : decode cL_law 694 = .ok (.if_icmp .eq 5, 3) := by decide +kernel
theorem dL_law_697 : decode cL_law 697 = .ok (.iconst 0, 1) := by decide +kernel
theorem dL_law_698 : decode cL_law 698 = .ok (.ireturn, 1) := by decide +kernel
theorem dL_law_699 : decode cL_law 699 = .ok (.iload 5, 2) := by decide +kernel
theorem dL_law_701 : decode cL_law 701 = .ok (.ifCond .ne 14, 3) := by decide +kernel
theorem dL_law_704 : decode cL_law 704 = .ok (.aload_n 3, 1) := by decide +kernel
theorem dL_law_705 : decode cL_law 705 = .ok (.iconst 0, 1) := by decide +kernel
theorem dL_law_706 : decode cL_law 706 = .ok (.laload, 1) := by decide +kernel
theorem dL_law_707 : decode cL_law 707 = .ok (.lload 6, 2) := by decide +kernel
theorem dL_law_709 : decode cL_law 709 = .ok (.lcmp, 1) := by decide +kernel
theorem dL_law_710 : decode cL_law 710 = .ok (.ifCond .eq 5, 3) := by decide +kernel
theorem dL_law_713 : decode cL_law 713 = .ok (.iconst 0, 1) := by decide +kernel
theorem dL_law_714 : decode cL_law 714 = .ok (.ireturn, 1) := by decide +kernel
theorem dL_law_715 : decode cL_law 715 = .ok (.goto 1047, 3) := by decide +kernel
theorem dL_law_718 : decode cL_law 718 = .ok (.aload_n 1, 1) := by decide +kernel
theorem dL_law_719 : decode cL_law 719 = .ok (.aload_n 0, 1) := by decide +kernel
theorem dL_law_720 : decode cL_law 720 = .ok (.iload 4, 2) := by decide +kernel
theorem dL_law_722 : decode cL_law 722 = .ok (.iconst 1, 1) := by decide +kernel
theorem dL_law_723 : decode cL_law 723 = .ok (.iadd, 1) := by decide +kernel
theorem dL_law_724 : decode cL_law 724 = .ok (.iaload, 1) := by decide +kernel
theorem dL_law_725 : decode cL_law 725 = .ok (.aload_n 3, 1) := by decide +kernel
theorem dL_law_726 : decode cL_law 726 = .ok (.invokestatic 111, 3) := by decide +kernel
theorem dL_law_729 : decode cL_law 729 = .ok (.istore 5, 2) := by decide +kernel
theorem dL_law_731 : decode cL_law 731 = .ok (.aload_n 2, 1) := by decide +kernel
theorem dL_law_732 : decode cL_law 732 = .ok (.aload_n 0, 1) := by decide +kernel
theorem dL_law_733 : decode cL_law 733 = .ok (.iload 4, 2) := by decide +kernel
theorem dL_law_735 : decode cL_law 735 = .ok (.iconst 1, 1) := by decide +kernel
theorem dL_law_736 : decode cL_law 736 = .ok (.iadd, 1) := by decide +kernel
theorem dL_law_737 : decode cL_law 737 = .ok (.iaload, 1) := by decide +kernel
theorem dL_law_738 : decode cL_law 738 = .ok (.invokevirtual 113, 3) := by decide +kernel
theorem dL_law_741 : decode cL_law 741 = .ok (.lstore 6, 2) := by decide +kernel
theorem dL_law_743 : decode cL_law 743 = .ok (.aload_n 2, 1) := by decide +kernel
theorem dL_law_744 : decode cL_law 744 = .ok (.invokevirtual 104, 3) := by decide +kernel
theorem dL_law_747 : decode cL_law 747 = .ok (.iload 5, 2) := by decide +kernel
theorem dL_law_749 : decode cL_law 749 = .ok (.if_icmp .eq 5, 3) := by decide +kernel
theorem dL_law_752 : decode cL_law 752 = .ok (.iconst 0, 1) := by decide +kernel
theorem dL_law_753 : decode cL_law 753 = .ok (.ireturn, 1) := by decide +kernel
theorem dL_law_754 : decode cL_law 754 = .ok (.iload 5, 2) := by decide +kernel
theorem dL_law_756 : decode cL_law 756 = .ok (.ifCond .ne 14, 3) := by decide +kernel
theorem dL_law_759 : decode cL_law 759 = .ok (.aload_n 3, 1) := by decide +kernel
theorem dL_law_760 : decode cL_law 760 = .ok (.iconst 0, 1) := by decide +kernel
theorem dL_law_761 : decode cL_law 761 = .ok (.laload, 1) := by decide +kernel
theorem dL_law_762 : decode cL_law 762 = .ok (.lload 6, 2) := by decide +kernel
theorem dL_law_764 : decode cL_law 764 = .ok (.lcmp, 1) := by decide +kernel
theorem dL_law_765 : decode cL_law 765 = .ok (.ifCond .eq 5, 3) := by decide +kernel
theorem dL_law_768 : decode cL_law 768 = .ok (.iconst 0, 1) := by decide +kernel
theorem dL_law_769 : decode cL_law 769 = .ok (.ireturn, 1) := by decide +kernel
theorem dL_law_770 : decode cL_law 770 = .ok (.goto 992, 3) := by decide +kernel
theorem dL_law_773 : decode cL_law 773 = .ok (.aload_n 1, 1) := by decide +kernel
theorem dL_law_774 : decode cL_law 774 = .ok (.aload_n 0, 1) := by decide +kernel
theorem dL_law_775 : decode cL_law 775 = .ok (.iload 4, 2) := by decide +kernel
theorem dL_law_777 : decode cL_law 777 = .ok (.iconst 1, 1) := by decide +kernel
theorem dL_law_778 : decode cL_law 778 = .ok (.iadd, 1) := by decide +kernel
theorem dL_law_779 : decode cL_law 779 = .ok (.iaload, 1) := by decide +kernel
theorem dL_law_780 : decode cL_law 780 = .ok (.aload_n 3, 1) := by decide +kernel
theorem dL_law_781 : decode cL_law 781 = .ok (.invokestatic 114, 3) := by decide +kernel
theorem dL_law_784 : decode cL_law 784 = .ok (.istore 5, 2) := by decide +kernel
theorem dL_law_786 : decode cL_law 786 = .ok (.aload_n 2, 1) := by decide +kernel
theorem dL_law_787 : decode cL_law 787 = .ok (.aload_n 0, 1) := by decide +kernel
theorem dL_law_788 : decode cL_law 788 = .ok (.iload 4, 2) := by decide +kernel
theorem dL_law_790 : decode cL_law 790 = .ok (.iconst 1, 1) := by decide +kernel
theorem dL_law_791 : decode cL_law 791 = .ok (.iadd, 1) := by decide +kernel
theorem dL_law_792 : decode cL_law 792 = .ok (.iaload, 1) := by decide +kernel
theorem dL_law_793 : decode cL_law 793 = .ok (.invokevirtual 116, 3) := by decide +kernel
theorem dL_law_796 : decode cL_law 796 = .ok (.lstore 6, 2) := by decide +kernel
theorem dL_law_798 : decode cL_law 798 = .ok (.aload_n 2, 1) := by decide +kernel
theorem dL_law_799 : decode cL_law 799 = .ok (.invokevirtual 104, 3) := by decide +kernel
theorem dL_law_802 : decode cL_law 802 = .ok (.iload 5, 2) := by decide +kernel
theorem dL_law_804 : decode cL_law 804 = .ok (.if_icmp .eq 5, 3) := by decide +kernel
theorem dL_law_807 : decode cL_law 807 = .ok (.iconst 0, 1) := by decide +kernel
theorem dL_law_808 : decode cL_law 808 = .ok (.ireturn, 1) := by decide +kernel
theorem dL_law_809 : decode cL_law 809 = .ok (.iload 5, 2) := by decide +kernel
theorem dL_law_811 : decode cL_law 811 = .ok (.ifCond .ne 14, 3) := by decide +kernel
theorem dL_law_814 : decode cL_law 814 = .ok (.aload_n 3, 1) := by decide +kernel
theorem dL_law_815 : decode cL_law 815 = .ok (.iconst 0, 1) := by decide +kernel
theorem dL_law_816 : decode cL_law 816 = .ok (.laload, 1) := by decide +kernel
theorem dL_law_817 : decode cL_law 817 = .ok (.lload 6, 2) := by decide +kernel
theorem dL_law_819 : decode cL_law 819 = .ok (.lcmp, 1) := by decide +kernel
theorem dL_law_820 : decode cL_law 820 = .ok (.ifCond .eq 5, 3) := by decide +kernel
theorem dL_law_823 : decode cL_law 823 = .ok (.iconst 0, 1) := by decide +kernel
theorem dL_law_824 : decode cL_law 824 = .ok (.ireturn, 1) := by decide +kernel
theorem dL_law_825 : decode cL_law 825 = .ok (.goto 937, 3) := by decide +kernel
theorem dL_law_828 : decode cL_law 828 = .ok (.aload_n 1, 1) := by decide +kernel
theorem dL_law_829 : decode cL_law 829 = .ok (.aload_n 0, 1) := by decide +kernel
theorem dL_law_830 : decode cL_law 830 = .ok (.iload 4, 2) := by decide +kernel
theorem dL_law_832 : decode cL_law 832 = .ok (.iconst 1, 1) := by decide +kernel
theorem dL_law_833 : decode cL_law 833 = .ok (.iadd, 1) := by decide +kernel
theorem dL_law_834 : decode cL_law 834 = .ok (.iaload, 1) := by decide +kernel
theorem dL_law_835 : decode cL_law 835 = .ok (.aload_n 0, 1) := by decide +kernel
theorem dL_law_836 : decode cL_law 836 = .ok (.iload 4, 2) := by decide +kernel
theorem dL_law_838 : decode cL_law 838 = .ok (.iconst 2, 1) := by decide +kernel
theorem dL_law_839 : decode cL_law 839 = .ok (.iadd, 1) := by decide +kernel
theorem dL_law_840 : decode cL_law 840 = .ok (.iaload, 1) := by decide +kernel
theorem dL_law_841 : decode cL_law 841 = .ok (.aload_n 3, 1) := by decide +kernel
theorem dL_law_842 : decode cL_law 842 = .ok (.invokestatic 117, 3) := by decide +kernel
theorem dL_law_845 : decode cL_law 845 = .ok (.istore 5, 2) := by decide +kernel
theorem dL_law_847 : decode cL_law 847 = .ok (.aload_n 2, 1) := by decide +kernel
theorem dL_law_848 : decode cL_law 848 = .ok (.aload_n 0, 1) := by decide +kernel
theorem dL_law_849 : decode cL_law 849 = .ok (.iload 4, 2) := by decide +kernel
theorem dL_law_851 : decode cL_law 851 = .ok (.iconst 1, 1) := by decide +kernel
theorem dL_law_852 : decode cL_law 852 = .ok (.iadd, 1) := by decide +kernel
theorem dL_law_853 : decode cL_law 853 = .ok (.iaload, 1) := by decide +kernel
theorem dL_law_854 : decode cL_law 854 = .ok (.aload_n 0, 1) := by decide +kernel
theorem dL_law_855 : decode cL_law 855 = .ok (.iload 4, 2) := by decide +kernel
theorem dL_law_857 : decode cL_law 857 = .ok (.iconst 2, 1) := by decide +kernel
theorem dL_law_858 : decode cL_law 858 = .ok (.iadd, 1) := by decide +kernel
theorem dL_law_859 : decode cL_law 859 = .ok (.iaload, 1) := by decide +kernel
theorem dL_law_860 : decode cL_law 860 = .ok (.invokevirtual 119, 3) := by decide +kernel
theorem dL_law_863 : decode cL_law 863 = .ok (.lstore 6, 2) := by decide +kernel
theorem dL_law_865 : decode cL_law 865 = .ok (.aload_n 2, 1) := by decide +kernel
theorem dL_law_866 : decode cL_law 866 = .ok (.invokevirtual 104, 3) := by decide +kernel
theorem dL_law_869 : decode cL_law 869 = .ok (.iload 5, 2) := by decide +kernel
theorem dL_law_871 : decode cL_law 871 = .ok (.if_icmp .eq 5, 3) := by decide +kernel
theorem dL_law_874 : decode cL_law 874 = .ok (.iconst 0, 1) := by decide +kernel
theorem dL_law_875 : decode cL_law 875 = .ok (.ireturn, 1) := by decide +kernel
theorem dL_law_876 : decode cL_law 876 = .ok (.iload 5, 2) := by decide +kernel
theorem dL_law_878 : decode cL_law 878 = .ok (.ifCond .ne 14, 3) := by decide +kernel
theorem dL_law_881 : decode cL_law 881 = .ok (.aload_n 3, 1) := by decide +kernel
theorem dL_law_882 : decode cL_law 882 = .ok (.iconst 0, 1) := by decide +kernel
theorem dL_law_883 : decode cL_law 883 = .ok (.laload, 1) := by decide +kernel
theorem dL_law_884 : decode cL_law 884 = .ok (.lload 6, 2) := by decide +kernel
theorem dL_law_886 : decode cL_law 886 = .ok (.lcmp, 1) := by decide +kernel
theorem dL_law_887 : decode cL_law 887 = .ok (.ifCond .eq 5, 3) := by decide +kernel
theorem dL_law_890 : decode cL_law 890 = .ok (.iconst 0, 1) := by decide +kernel
theorem dL_law_891 : decode cL_law 891 = .ok (.ireturn, 1) := by decide +kernel
theorem dL_law_892 : decode cL_law 892 = .ok (.goto 870, 3) := by decide +kernel
theorem dL_law_895 : decode cL_law 895 = .ok (.aload_n 1, 1) := by decide +kernel
theorem dL_law_896 : decode cL_law 896 = .ok (.aload_n 0, 1) := by decide +kernel
theorem dL_law_897 : decode cL_law 897 = .ok (.iload 4, 2) := by decide +kernel
theorem dL_law_899 : decode cL_law 899 = .ok (.iconst 1, 1) := by decide +kernel
theorem dL_law_900 : decode cL_law 900 = .ok (.iadd, 1) := by decide +kernel
theorem dL_law_901 : decode cL_law 901 = .ok (.iaload, 1) := by decide +kernel
theorem dL_law_902 : decode cL_law 902 = .ok (.aload_n 0, 1) := by decide +kernel
theorem dL_law_903 : decode cL_law 903 = .ok (.iload 4, 2) := by decide +kernel
theorem dL_law_905 : decode cL_law 905 = .ok (.iconst 2, 1) := by decide +kernel
theorem dL_law_906 : decode cL_law 906 = .ok (.iadd, 1) := by decide +kernel
theorem dL_law_907 : decode cL_law 907 = .ok (.iaload, 1) := by decide +kernel
theorem dL_law_908 : decode cL_law 908 = .ok (.aload_n 0, 1) := by decide +kernel
theorem dL_law_909 : decode cL_law 909 = .ok (.iload 4, 2) := by decide +kernel
theorem dL_law_911 : decode cL_law 911 = .ok (.iconst 3, 1) := by decide +kernel
theorem dL_law_912 : decode cL_law 912 = .ok (.iadd, 1) := by decide +kernel
theorem dL_law_913 : decode cL_law 913 = .ok (.iaload, 1) := by decide +kernel
theorem dL_law_914 : decode cL_law 914 = .ok (.aload_n 0, 1) := by decide +kernel
theorem dL_law_915 : decode cL_law 915 = .ok (.iload 4, 2) := by decide +kernel
theorem dL_law_917 : decode cL_law 917 = .ok (.iconst 4, 1) := by decide +kernel
theorem dL_law_918 : decode cL_law 918 = .ok (.iadd, 1) := by decide +kernel
theorem dL_law_919 : decode cL_law 919 = .ok (.iaload, 1) := by decide +kernel
theorem dL_law_920 : decode cL_law 920 = .ok (.aload_n 0, 1) := by decide +kernel
theorem dL_law_921 : decode cL_law 921 = .ok (.iload 4, 2) := by decide +kernel
theorem dL_law_923 : decode cL_law 923 = .ok (.iconst 5, 1) := by decide +kernel
theorem dL_law_924 : decode cL_law 924 = .ok (.iadd, 1) := by decide +kernel
theorem dL_law_925 : decode cL_law 925 = .ok (.iaload, 1) := by decide +kernel
theorem dL_law_926 : decode cL_law 926 = .ok (.invokevirtual 120, 3) := by decide +kernel
theorem dL_law_929 : decode cL_law 929 = .ok (.aload_n 2, 1) := by decide +kernel
theorem dL_law_930 : decode cL_law 930 = .ok (.aload_n 0, 1) := by decide +kernel
theorem dL_law_931 : decode cL_law 931 = .ok (.iload 4, 2) := by decide +kernel
theorem dL_law_933 : decode cL_law 933 = .ok (.iconst 1, 1) := by decide +kernel
theorem dL_law_934 : decode cL_law 934 = .ok (.iadd, 1) := by decide +kernel
theorem dL_law_935 : decode cL_law 935 = .ok (.iaload, 1) := by decide +kernel
theorem dL_law_936 : decode cL_law 936 = .ok (.aload_n 0, 1) := by decide +kernel
theorem dL_law_937 : decode cL_law 937 = .ok (.iload 4, 2) := by decide +kernel
theorem dL_law_939 : decode cL_law 939 = .ok (.iconst 2, 1) := by decide +kernel
theorem dL_law_940 : decode cL_law 940 = .ok (.iadd, 1) := by decide +kernel
theorem dL_law_941 : decode cL_law 941 = .ok (.iaload, 1) := by decide +kernel
theorem dL_law_942 : decode cL_law 942 = .ok (.aload_n 0, 1) := by decide +kernel
theorem dL_law_943 : decode cL_law 943 = .ok (.iload 4, 2) := by decide +kernel
theorem dL_law_945 : decode cL_law 945 = .ok (.iconst 3, 1) := by decide +kernel
theorem dL_law_946 : decode cL_law 946 = .ok (.iadd, 1) := by decide +kernel
theorem dL_law_947 : decode cL_law 947 = .ok (.iaload, 1) := by decide +kernel
theorem dL_law_948 : decode cL_law 948 = .ok (.aload_n 0, 1) := by decide +kernel
theorem dL_law_949 : decode cL_law 949 = .ok (.iload 4, 2) := by decide +kernel
theorem dL_law_951 : decode cL_law 951 = .ok (.iconst 4, 1) := by decide +kernel
theorem dL_law_952 : decode cL_law 952 = .ok (.iadd, 1) := by decide +kernel
theorem dL_law_953 : decode cL_law 953 = .ok (.iaload, 1) := by decide +kernel
theorem dL_law_954 : decode cL_law 954 = .ok (.aload_n 0, 1) := by decide +kernel
theorem dL_law_955 : decode cL_law 955 = .ok (.iload 4, 2) := by decide +kernel
theorem dL_law_957 : decode cL_law 957 = .ok (.iconst 5, 1) := by decide +kernel
theorem dL_law_958 : decode cL_law 958 = .ok (.iadd, 1) := by decide +kernel
theorem dL_law_959 : decode cL_law 959 = .ok (.iaload, 1) := by decide +kernel
theorem dL_law_960 : decode cL_law 960 = .ok (.invokevirtual 123, 3) := by decide +kernel
theorem dL_law_963 : decode cL_law 963 = .ok (.if_icmp .eq 799, 3) := by decide +kernel
theorem dL_law_966 : decode cL_law 966 = .ok (.iconst 0, 1) := by decide +kernel
theorem dL_law_967 : decode cL_law 967 = .ok (.ireturn, 1) := by decide +kernel
theorem dL_law_968 : decode cL_law 968 = .ok (.aload_n 1, 1) := by decide +kernel
theorem dL_law_969 : decode cL_law 969 = .ok (.aload_n 0, 1) := by decide +kernel
theorem dL_law_970 : decode cL_law 970 = .ok (.iload 4, 2) := by decide +kernel
theorem dL_law_972 : decode cL_law 972 = .ok (.iconst 1, 1) := by decide +kernel
theorem dL_law_973 : decode cL_law 973 = .ok (.iadd, 1) := by decide +kernel
theorem dL_law_974 : decode cL_law 974 = .ok (.iaload, 1) := by decide +kernel
theorem dL_law_975 : decode cL_law 975 = .ok (.invokevirtual 124, 3) := by decide +kernel
theorem dL_law_978 : decode cL_law 978 = .ok (.aload_n 2, 1) := by decide +kernel
theorem dL_law_979 : decode cL_law 979 = .ok (.aload_n 0, 1) := by decide +kernel
theorem dL_law_980 : decode cL_law 980 = .ok (.iload 4, 2) := by decide +kernel
theorem dL_law_982 : decode cL_law 982 = .ok (.iconst 1, 1) := by decide +kernel
theorem dL_law_983 : decode cL_law 983 = .ok (.iadd, 1) := by decide +kernel
theorem dL_law_984 : decode cL_law 984 = .ok (.iaload, 1) := by decide +kernel
theorem dL_law_985 : decode cL_law 985 = .ok (.invokevirtual 127, 3) := by decide +kernel
theorem dL_law_988 : decode cL_law 988 = .ok (.if_icmp .eq 774, 3) := by decide +kernel
theorem dL_law_991 : decode cL_law 991 = .ok (.iconst 0, 1) := by decide +kernel
theorem dL_law_992 : decode cL_law 992 = .ok (.ireturn, 1) := by decide +kernel
theorem dL_law_993 : decode cL_law 993 = .ok (.aload_n 1, 1) := by decide +kernel
theorem dL_law_994 : decode cL_law 994 = .ok (.aload_n 0, 1) := by decide +kernel
theorem dL_law_995 : decode cL_law 995 = .ok (.iload 4, 2) := by decide +kernel
theorem dL_law_997 : decode cL_law 997 = .ok (.iconst 1, 1) := by decide +kernel
theorem dL_law_998 : decode cL_law 998 = .ok (.iadd, 1) := by decide +kernel
theorem dL_law_999 : decode cL_law 999 = .ok (.iaload, 1) := by decide +kernel
theorem dL_law_1000 : decode cL_law 1000 = .ok (.aload_n 0, 1) := by decide +kernel
theorem dL_law_1001 : decode cL_law 1001 = .ok (.iload 4, 2) := by decide +kernel
theorem dL_law_1003 : decode cL_law 1003 = .ok (.iconst 2, 1) := by decide +kernel
theorem dL_law_1004 : decode cL_law 1004 = .ok (.iadd, 1) := by decide +kernel
theorem dL_law_1005 : decode cL_law 1005 = .ok (.iaload, 1) := by decide +kernel
theorem dL_law_1006 : decode cL_law 1006 = .ok (.aload_n 0, 1) := by decide +kernel
theorem dL_law_1007 : decode cL_law 1007 = .ok (.iload 4, 2) := by decide +kernel
theorem dL_law_1009 : decode cL_law 1009 = .ok (.iconst 3, 1) := by decide +kernel
theorem dL_law_1010 : decode cL_law 1010 = .ok (.iadd, 1) := by decide +kernel
theorem dL_law_1011 : decode cL_law 1011 = .ok (.iaload, 1) := by decide +kernel
theorem dL_law_1012 : decode cL_law 1012 = .ok (.aload_n 0, 1) := by decide +kernel
theorem dL_law_1013 : decode cL_law 1013 = .ok (.iload 4, 2) := by decide +kernel
theorem dL_law_1015 : decode cL_law 1015 = .ok (.iconst 4, 1) := by decide +kernel
theorem dL_law_1016 : decode cL_law 1016 = .ok (.iadd, 1) := by decide +kernel
theorem dL_law_1017 : decode cL_law 1017 = .ok (.iaload, 1) := by decide +kernel
theorem dL_law_1018 : decode cL_law 1018 = .ok (.aload_n 0, 1) := by decide +kernel
theorem dL_law_1019 : decode cL_law 1019 = .ok (.iload 4, 2) := by decide +kernel
theorem dL_law_1021 : decode cL_law 1021 = .ok (.iconst 5, 1) := by decide +kernel
theorem dL_law_1022 : decode cL_law 1022 = .ok (.iadd, 1) := by decide +kernel
theorem dL_law_1023 : decode cL_law 1023 = .ok (.iaload, 1) := by decide +kernel
theorem dL_law_1024 : decode cL_law 1024 = .ok (.aload_n 3, 1) := by decide +kernel
theorem dL_law_1025 : decode cL_law 1025 = .ok (.invokestatic 128, 3) := by decide +kernel
theorem dL_law_1028 : decode cL_law 1028 = .ok (.istore 5, 2) := by decide +kernel
theorem dL_law_1030 : decode cL_law 1030 = .ok (.aload_n 2, 1) := by decide +kernel
theorem dL_law_1031 : decode cL_law 1031 = .ok (.aload_n 0, 1) := by decide +kernel
theorem dL_law_1032 : decode cL_law 1032 = .ok (.iload 4, 2) := by decide +kernel
theorem dL_law_1034 : decode cL_law 1034 = .ok (.iconst 1, 1) := by decide +kernel
theorem dL_law_1035 : decode cL_law 1035 = .ok (.iadd, 1) := by decide +kernel
theorem dL_law_1036 : decode cL_law 1036 = .ok (.iaload, 1) := by decide +kernel
theorem dL_law_1037 : decode cL_law 1037 = .ok (.aload_n 0, 1) := by decide +kernel
theorem dL_law_1038 : decode cL_law 1038 = .ok (.iload 4, 2) := by decide +kernel
theorem dL_law_1040 : decode cL_law 1040 = .ok (.iconst 2, 1) := by decide +kernel
theorem dL_law_1041 : decode cL_law 1041 = .ok (.iadd, 1) := by decide +kernel
theorem dL_law_1042 : decode cL_law 1042 = .ok (.iaload, 1) := by decide +kernel
theorem dL_law_1043 : decode cL_law 1043 = .ok (.aload_n 0, 1) := by decide +kernel
theorem dL_law_1044 : decode cL_law 1044 = .ok (.iload 4, 2) := by decide +kernel
theorem dL_law_1046 : decode cL_law 1046 = .ok (.iconst 3, 1) := by decide +kernel
theorem dL_law_1047 : decode cL_law 1047 = .ok (.iadd, 1) := by decide +kernel
theorem dL_law_1048 : decode cL_law 1048 = .ok (.iaload, 1) := by decide +kernel
theorem dL_law_1049 : decode cL_law 1049 = .ok (.aload_n 0, 1) := by decide +kernel
theorem dL_law_1050 : decode cL_law 1050 = .ok (.iload 4, 2) := by decide +kernel
theorem dL_law_1052 : decode cL_law 1052 = .ok (.iconst 4, 1) := by decide +kernel
theorem dL_law_1053 : decode cL_law 1053 = .ok (.iadd, 1) := by decide +kernel
theorem dL_law_1054 : decode cL_law 1054 = .ok (.iaload, 1) := by decide +kernel
theorem dL_law_1055 : decode cL_law 1055 = .ok (.aload_n 0, 1) := by decide +kernel
theorem dL_law_1056 : decode cL_law 1056 = .ok (.iload 4, 2) := by decide +kernel
theorem dL_law_1058 : decode cL_law 1058 = .ok (.iconst 5, 1) := by decide +kernel
theorem dL_law_1059 : decode cL_law 1059 = .ok (.iadd, 1) := by decide +kernel
theorem dL_law_1060 : decode cL_law 1060 = .ok (.iaload, 1) := by decide +kernel
theorem dL_law_1061 : decode cL_law 1061 = .ok (.invokevirtual 131, 3) := by decide +kernel
theorem dL_law_1064 : decode cL_law 1064 = .ok (.istore 6, 2) := by decide +kernel
theorem dL_law_1066 : decode cL_law 1066 = .ok (.aload_n 2, 1) := by decide +kernel
theorem dL_law_1067 : decode cL_law 1067 = .ok (.invokevirtual 104, 3) := by decide +kernel
theorem dL_law_1070 : decode cL_law 1070 = .ok (.iload 5, 2) := by decide +kernel
theorem dL_law_1072 : decode cL_law 1072 = .ok (.if_icmp .eq 5, 3) := by decide +kernel
theorem dL_law_1075 : decode cL_law 1075 = .ok (.iconst 0, 1) := by decide +kernel
theorem dL_law_1076 : decode cL_law 1076 = .ok (.ireturn, 1) := by decide +kernel
theorem dL_law_1077 : decode cL_law 1077 = .ok (.iload 5, 2) := by decide +kernel
theorem dL_law_1079 : decode cL_law 1079 = .ok (.ifCond .ne 15, 3) := by decide +kernel
theorem dL_law_1082 : decode cL_law 1082 = .ok (.aload_n 3, 1) := by decide +kernel
theorem dL_law_1083 : decode cL_law 1083 = .ok (.iconst 0, 1) := by decide +kernel
theorem dL_law_1084 : decode cL_law 1084 = .ok (.laload, 1) := by decide +kernel
theorem dL_law_1085 : decode cL_law 1085 = .ok (.iload 6, 2) := by decide +kernel
theorem dL_law_1087 : decode cL_law 1087 = .ok (.i2l, 1) := by decide +kernel
theorem dL_law_1088 : decode cL_law 1088 = .ok (.lcmp, 1) := by decide +kernel
theorem dL_law_1089 : decode cL_law 1089 = .ok (.ifCond .eq 5, 3) := by decide +kernel
theorem dL_law_1092 : decode cL_law 1092 = .ok (.iconst 0, 1) := by decide +kernel
theorem dL_law_1093 : decode cL_law 1093 = .ok (.ireturn, 1) := by decide +kernel
theorem dL_law_1094 : decode cL_law 1094 = .ok (.goto 668, 3) := by decide +kernel
theorem dL_law_1097 : decode cL_law 1097 = .ok (.aload_n 1, 1) := by decide +kernel
theorem dL_law_1098 : decode cL_law 1098 = .ok (.aload_n 0, 1) := by decide +kernel
theorem dL_law_1099 : decode cL_law 1099 = .ok (.iload 4, 2) := by decide +kernel
theorem dL_law_1101 : decode cL_law 1101 = .ok (.iconst 1, 1) := by decide +kernel
theorem dL_law_1102 : decode cL_law 1102 = .ok (.iadd, 1) := by decide +kernel
theorem dL_law_1103 : decode cL_law 1103 = .ok (.iaload, 1) := by decide +kernel
theorem dL_law_1104 : decode cL_law 1104 = .ok (.aload_n 0, 1) := by decide +kernel
theorem dL_law_1105 : decode cL_law 1105 = .ok (.iload 4, 2) := by decide +kernel
theorem dL_law_1107 : decode cL_law 1107 = .ok (.iconst 2, 1) := by decide +kernel
theorem dL_law_1108 : decode cL_law 1108 = .ok (.iadd, 1) := by decide +kernel
theorem dL_law_1109 : decode cL_law 1109 = .ok (.iaload, 1) := by decide +kernel
theorem dL_law_1110 : decode cL_law 1110 = .ok (.aload_n 0, 1) := by decide +kernel
theorem dL_law_1111 : decode cL_law 1111 = .ok (.iload 4, 2) := by decide +kernel
theorem dL_law_1113 : decode cL_law 1113 = .ok (.iconst 3, 1) := by decide +kernel
theorem dL_law_1114 : decode cL_law 1114 = .ok (.iadd, 1) := by decide +kernel
theorem dL_law_1115 : decode cL_law 1115 = .ok (.iaload, 1) := by decide +kernel
theorem dL_law_1116 : decode cL_law 1116 = .ok (.aload_n 0, 1) := by decide +kernel
theorem dL_law_1117 : decode cL_law 1117 = .ok (.iload 4, 2) := by decide +kernel
theorem dL_law_1119 : decode cL_law 1119 = .ok (.iconst 4, 1) := by decide +kernel
theorem dL_law_1120 : decode cL_law 1120 = .ok (.iadd, 1) := by decide +kernel
theorem dL_law_1121 : decode cL_law 1121 = .ok (.iaload, 1) := by decide +kernel
theorem dL_law_1122 : decode cL_law 1122 = .ok (.invokevirtual 132, 3) := by decide +kernel
theorem dL_law_1125 : decode cL_law 1125 = .ok (.aload_n 2, 1) := by decide +kernel
theorem dL_law_1126 : decode cL_law 1126 = .ok (.aload_n 0, 1) := by decide +kernel
theorem dL_law_1127 : decode cL_law 1127 = .ok (.iload 4, 2) := by decide +kernel
theorem dL_law_1129 : decode cL_law 1129 = .ok (.iconst 1, 1) := by decide +kernel
theorem dL_law_1130 : decode cL_law 1130 = .ok (.iadd, 1) := by decide +kernel
theorem dL_law_1131 : decode cL_law 1131 = .ok (.iaload, 1) := by decide +kernel
theorem dL_law_1132 : decode cL_law 1132 = .ok (.aload_n 0, 1) := by decide +kernel
theorem dL_law_1133 : decode cL_law 1133 = .ok (.iload 4, 2) := by decide +kernel
theorem dL_law_1135 : decode cL_law 1135 = .ok (.iconst 2, 1) := by decide +kernel
theorem dL_law_1136 : decode cL_law 1136 = .ok (.iadd, 1) := by decide +kernel
theorem dL_law_1137 : decode cL_law 1137 = .ok (.iaload, 1) := by decide +kernel
theorem dL_law_1138 : decode cL_law 1138 = .ok (.aload_n 0, 1) := by decide +kernel
theorem dL_law_1139 : decode cL_law 1139 = .ok (.iload 4, 2) := by decide +kernel
theorem dL_law_1141 : decode cL_law 1141 = .ok (.iconst 3, 1) := by decide +kernel
theorem dL_law_1142 : decode cL_law 1142 = .ok (.iadd, 1) := by decide +kernel
theorem dL_law_1143 : decode cL_law 1143 = .ok (.iaload, 1) := by decide +kernel
theorem dL_law_1144 : decode cL_law 1144 = .ok (.aload_n 0, 1) := by decide +kernel
theorem dL_law_1145 : decode cL_law 1145 = .ok (.iload 4, 2) := by decide +kernel
theorem dL_law_1147 : decode cL_law 1147 = .ok (.iconst 4, 1) := by decide +kernel
theorem dL_law_1148 : decode cL_law 1148 = .ok (.iadd, 1) := by decide +kernel
theorem dL_law_1149 : decode cL_law 1149 = .ok (.iaload, 1) := by decide +kernel
theorem dL_law_1150 : decode cL_law 1150 = .ok (.invokevirtual 135, 3) := by decide +kernel
theorem dL_law_1153 : decode cL_law 1153 = .ok (.if_icmp .eq 609, 3) := by decide +kernel
theorem dL_law_1156 : decode cL_law 1156 = .ok (.iconst 0, 1) := by decide +kernel
theorem dL_law_1157 : decode cL_law 1157 = .ok (.ireturn, 1) := by decide +kernel
theorem dL_law_1158 : decode cL_law 1158 = .ok (.aload_n 1, 1) := by decide +kernel
theorem dL_law_1159 : decode cL_law 1159 = .ok (.aload_n 0, 1) := by decide +kernel
theorem dL_law_1160 : decode cL_law 1160 = .ok (.iload 4, 2) := by decide +kernel
theorem dL_law_1162 : decode cL_law 1162 = .ok (.iconst 1, 1) := by decide +kernel
theorem dL_law_1163 : decode cL_law 1163 = .ok (.iadd, 1) := by decide +kernel
theorem dL_law_1164 : decode cL_law 1164 = .ok (.iaload, 1) := by decide +kernel
theorem dL_law_1165 : decode cL_law 1165 = .ok (.aload_n 0, 1) := by decide +kernel
theorem dL_law_1166 : decode cL_law 1166 = .ok (.iload 4, 2) := by decide +kernel
theorem dL_law_1168 : decode cL_law 1168 = .ok (.iconst 2, 1) := by decide +kernel
theorem dL_law_1169 : decode cL_law 1169 = .ok (.iadd, 1) := by decide +kernel
theorem dL_law_1170 : decode cL_law 1170 = .ok (.iaload, 1) := by decide +kernel
theorem dL_law_1171 : decode cL_law 1171 = .ok (.invokevirtual 136, 3) := by decide +kernel
theorem dL_law_1174 : decode cL_law 1174 = .ok (.aload_n 2, 1) := by decide +kernel
theorem dL_law_1175 : decode cL_law 1175 = .ok (.aload_n 0, 1) := by decide +kernel
theorem dL_law_1176 : decode cL_law 1176 = .ok (.iload 4, 2) := by decide +kernel
theorem dL_law_1178 : decode cL_law 1178 = .ok (.iconst 1, 1) := by decide +kernel
theorem dL_law_1179 : decode cL_law 1179 = .ok (.iadd, 1) := by decide +kernel
theorem dL_law_1180 : decode cL_law 1180 = .ok (.iaload, 1) := by decide +kernel
theorem dL_law_1181 : decode cL_law 1181 = .ok (.aload_n 0, 1) := by decide +kernel
theorem dL_law_1182 : decode cL_law 1182 = .ok (.iload 4, 2) := by decide +kernel
theorem dL_law_1184 : decode cL_law 1184 = .ok (.iconst 2, 1) := by decide +kernel
theorem dL_law_1185 : decode cL_law 1185 = .ok (.iadd, 1) := by decide +kernel
theorem dL_law_1186 : decode cL_law 1186 = .ok (.iaload, 1) := by decide +kernel
theorem dL_law_1187 : decode cL_law 1187 = .ok (.invokevirtual 139, 3) := by decide +kernel
theorem dL_law_1190 : decode cL_law 1190 = .ok (.if_icmp .eq 572, 3) := by decide +kernel
theorem dL_law_1193 : decode cL_law 1193 = .ok (.iconst 0, 1) := by decide +kernel
theorem dL_law_1194 : decode cL_law 1194 = .ok (.ireturn, 1) := by decide +kernel
theorem dL_law_1195 : decode cL_law 1195 = .ok (.aload_n 1, 1) := by decide +kernel
theorem dL_law_1196 : decode cL_law 1196 = .ok (.aload_n 0, 1) := by decide +kernel
theorem dL_law_1197 : decode cL_law 1197 = .ok (.iload 4, 2) := by decide +kernel
theorem dL_law_1199 : decode cL_law 1199 = .ok (.iconst 1, 1) := by decide +kernel
theorem dL_law_1200 : decode cL_law 1200 = .ok (.iadd, 1) := by decide +kernel
theorem dL_law_1201 : decode cL_law 1201 = .ok (.iaload, 1) := by decide +kernel
theorem dL_law_1202 : decode cL_law 1202 = .ok (.i2l, 1) := by decide +kernel
theorem dL_law_1203 : decode cL_law 1203 = .ok (.bipush 32, 2) := by decide +kernel
theorem dL_law_1205 : decode cL_law 1205 = .ok (.lshl, 1) := by decide +kernel
theorem dL_law_1206 : decode cL_law 1206 = .ok (.aload_n 0, 1) := by decide +kernel
theorem dL_law_1207 : decode cL_law 1207 = .ok (.iload 4, 2) := by decide +kernel
theorem dL_law_1209 : decode cL_law 1209 = .ok (.iconst 2, 1) := by decide +kernel
theorem dL_law_1210 : decode cL_law 1210 = .ok (.iadd, 1) := by decide +kernel
theorem dL_law_1211 : decode cL_law 1211 = .ok (.iaload, 1) := by decide +kernel
theorem dL_law_1212 : decode cL_law 1212 = .ok (.i2l, 1) := by decide +kernel
theorem dL_law_1213 : decode cL_law 1213 = .ok (.ldc2_w 140, 3) := by decide +kernel
theorem dL_law_1216 : decode cL_law 1216 = .ok (.land, 1) := by decide +kernel
theorem dL_law_1217 : decode cL_law 1217 = .ok (.lor, 1) := by decide +kernel
theorem dL_law_1218 : decode cL_law 1218 = .ok (.aload_n 0, 1) := by decide +kernel
theorem dL_law_1219 : decode cL_law 1219 = .ok (.iload 4, 2) := by decide +kernel
theorem dL_law_1221 : decode cL_law 1221 = .ok (.iconst 3, 1) := by decide +kernel
theorem dL_law_1222 : decode cL_law 1222 = .ok (.iadd, 1) := by decide +kernel
theorem dL_law_1223 : decode cL_law 1223 = .ok (.iaload, 1) := by decide +kernel
theorem dL_law_1224 : decode cL_law 1224 = .ok (.aload_n 0, 1) := by decide +kernel
theorem dL_law_1225 : decode cL_law 1225 = .ok (.iload 4, 2) := by decide +kernel
theorem dL_law_1227 : decode cL_law 1227 = .ok (.iconst 4, 1) := by decide +kernel
theorem dL_law_1228 : decode cL_law 1228 = .ok (.iadd, 1) := by decide +kernel
theorem dL_law_1229 : decode cL_law 1229 = .ok (.iaload, 1) := by decide +kernel
theorem dL_law_1230 : decode cL_law 1230 = .ok (.aload_n 0, 1) := by decide +kernel
theorem dL_law_1231 : decode cL_law 1231 = .ok (.iload 4, 2) := by decide +kernel
theorem dL_law_1233 : decode cL_law 1233 = .ok (.iconst 5, 1) := by decide +kernel
theorem dL_law_1234 : decode cL_law 1234 = .ok (.iadd, 1) := by decide +kernel
theorem dL_law_1235 : decode cL_law 1235 = .ok (.iaload, 1) := by decide +kernel
theorem dL_law_1236 : decode cL_law 1236 = .ok (.aload_n 3, 1) := by decide +kernel
theorem dL_law_1237 : decode cL_law 1237 = .ok (.invokestatic 142, 3) := by decide +kernel
theorem dL_law_1240 : decode cL_law 1240 = .ok (.istore 5, 2) := by decide +kernel
theorem dL_law_1242 : decode cL_law 1242 = .ok (.aload_n 2, 1) := by decide +kernel
theorem dL_law_1243 : decode cL_law 1243 = .ok (.aload_n 0, 1) := by decide +kernel
theorem dL_law_1244 : decode cL_law 1244 = .ok (.iload 4, 2) := by decide +kernel
theorem dL_law_1246 : decode cL_law 1246 = .ok (.iconst 1, 1) := by decide +kernel
theorem dL_law_1247 : decode cL_law 1247 = .ok (.iadd, 1) := by decide +kernel
theorem dL_law_1248 : decode cL_law 1248 = .ok (.iaload, 1) := by decide +kernel
theorem dL_law_1249 : decode cL_law 1249 = .ok (.i2l, 1) := by decide +kernel
theorem dL_law_1250 : decode cL_law 1250 = .ok (.bipush 32, 2) := by decide +kernel
theorem dL_law_1252 : decode cL_law 1252 = .ok (.lshl, 1) := by decide +kernel
theorem dL_law_1253 : decode cL_law 1253 = .ok (.aload_n 0, 1) := by decide +kernel
theorem dL_law_1254 : decode cL_law 1254 = .ok (.iload 4, 2) := by decide +kernel
theorem dL_law_1256 : decode cL_law 1256 = .ok (.iconst 2, 1) := by decide +kernel
theorem dL_law_1257 : decode cL_law 1257 = .ok (.iadd, 1) := by decide +kernel
theorem dL_law_1258 : decode cL_law 1258 = .ok (.iaload, 1) := by decide +kernel
theorem dL_law_1259 : decode cL_law 1259 = .ok (.i2l, 1) := by decide +kernel
theorem dL_law_1260 : decode cL_law 1260 = .ok (.ldc2_w 140, 3) := by decide +kernel
theorem dL_law_1263 : decode cL_law 1263 = .ok (.land, 1) := by decide +kernel
theorem dL_law_1264 : decode cL_law 1264 = .ok (.lor, 1) := by decide +kernel
theorem dL_law_1265 : decode cL_law 1265 = .ok (.aload_n 0, 1) := by decide +kernel
theorem dL_law_1266 : decode cL_law 1266 = .ok (.iload 4, 2) := by decide +kernel
theorem dL_law_1268 : decode cL_law 1268 = .ok (.iconst 3, 1) := by decide +kernel
theorem dL_law_1269 : decode cL_law 1269 = .ok (.iadd, 1) := by decide +kernel
theorem dL_law_1270 : decode cL_law 1270 = .ok (.iaload, 1) := by decide +kernel
theorem dL_law_1271 : decode cL_law 1271 = .ok (.aload_n 0, 1) := by decide +kernel
theorem dL_law_1272 : decode cL_law 1272 = .ok (.iload 4, 2) := by decide +kernel
theorem dL_law_1274 : decode cL_law 1274 = .ok (.iconst 4, 1) := by decide +kernel
theorem dL_law_1275 : decode cL_law 1275 = .ok (.iadd, 1) := by decide +kernel
theorem dL_law_1276 : decode cL_law 1276 = .ok (.iaload, 1) := by decide +kernel
theorem dL_law_1277 : decode cL_law 1277 = .ok (.aload_n 0, 1) := by decide +kernel
theorem dL_law_1278 : decode cL_law 1278 = .ok (.iload 4, 2) := by decide +kernel
theorem dL_law_1280 : decode cL_law 1280 = .ok (.iconst 5, 1) := by decide +kernel
theorem dL_law_1281 : decode cL_law 1281 = .ok (.iadd, 1) := by decide +kernel
theorem dL_law_1282 : decode cL_law 1282 = .ok (.iaload, 1) := by decide +kernel
theorem dL_law_1283 : decode cL_law 1283 = .ok (.invokevirtual 145, 3) := by decide +kernel
theorem dL_law_1286 : decode cL_law 1286 = .ok (.lstore 6, 2) := by decide +kernel
theorem dL_law_1288 : decode cL_law 1288 = .ok (.aload_n 2, 1) := by decide +kernel
theorem dL_law_1289 : decode cL_law 1289 = .ok (.invokevirtual 104, 3) := by decide +kernel
theorem dL_law_1292 : decode cL_law 1292 = .ok (.iload 5, 2) := by decide +kernel
theorem dL_law_1294 : decode cL_law 1294 = .ok (.if_icmp .eq 5, 3) := by decide +kernel
theorem dL_law_1297 : decode cL_law 1297 = .ok (.iconst 0, 1) := by decide +kernel
theorem dL_law_1298 : decode cL_law 1298 = .ok (.ireturn, 1) := by decide +kernel
theorem dL_law_1299 : decode cL_law 1299 = .ok (.iload 5, 2) := by decide +kernel
theorem dL_law_1301 : decode cL_law 1301 = .ok (.ifCond .ne 14, 3) := by decide +kernel
theorem dL_law_1304 : decode cL_law 1304 = .ok (.aload_n 3, 1) := by decide +kernel
theorem dL_law_1305 : decode cL_law 1305 = .ok (.iconst 0, 1) := by decide +kernel
theorem dL_law_1306 : decode cL_law 1306 = .ok (.laload, 1) := by decide +kernel
theorem dL_law_1307 : decode cL_law 1307 = .ok (.lload 6, 2) := by decide +kernel
theorem dL_law_1309 : decode cL_law 1309 = .ok (.lcmp, 1) := by decide +kernel
theorem dL_law_1310 : decode cL_law 1310 = .ok (.ifCond .eq 5, 3) := by decide +kernel
theorem dL_law_1313 : decode cL_law 1313 = .ok (.iconst 0, 1) := by decide +kernel
theorem dL_law_1314 : decode cL_law 1314 = .ok (.ireturn, 1) := by decide +kernel
theorem dL_law_1315 : decode cL_law 1315 = .ok (.goto 447, 3) := by decide +kernel
theorem dL_law_1318 : decode cL_law 1318 = .ok (.aload_n 1, 1) := by decide +kernel
theorem dL_law_1319 : decode cL_law 1319 = .ok (.aload_n 0, 1) := by decide +kernel
theorem dL_law_1320 : decode cL_law 1320 = .ok (.iload 4, 2) := by decide +kernel
theorem dL_law_1322 : decode cL_law 1322 = .ok (.iconst 1, 1) := by decide +kernel
theorem dL_law_1323 : decode cL_law 1323 = .ok (.iadd, 1) := by decide +kernel
theorem dL_law_1324 : decode cL_law 1324 = .ok (.iaload, 1) := by decide +kernel
theorem dL_law_1325 : decode cL_law 1325 = .ok (.aload_n 0, 1) := by decide +kernel
theorem dL_law_1326 : decode cL_law 1326 = .ok (.iload 4, 2) := by decide +kernel
theorem dL_law_1328 : decode cL_law 1328 = .ok (.iconst 2, 1) := by decide +kernel
theorem dL_law_1329 : decode cL_law 1329 = .ok (.iadd, 1) := by decide +kernel
theorem dL_law_1330 : decode cL_law 1330 = .ok (.iaload, 1) := by decide +kernel
theorem dL_law_1331 : decode cL_law 1331 = .ok (.aload_n 0, 1) := by decide +kernel
theorem dL_law_1332 : decode cL_law 1332 = .ok (.iload 4, 2) := by decide +kernel
theorem dL_law_1334 : decode cL_law 1334 = .ok (.iconst 3, 1) := by decide +kernel
theorem dL_law_1335 : decode cL_law 1335 = .ok (.iadd, 1) := by decide +kernel
theorem dL_law_1336 : decode cL_law 1336 = .ok (.iaload, 1) := by decide +kernel
theorem dL_law_1337 : decode cL_law 1337 = .ok (.invokevirtual 146, 3) := by decide +kernel
theorem dL_law_1340 : decode cL_law 1340 = .ok (.aload_n 2, 1) := by decide +kernel
theorem dL_law_1341 : decode cL_law 1341 = .ok (.aload_n 0, 1) := by decide +kernel
theorem dL_law_1342 : decode cL_law 1342 = .ok (.iload 4, 2) := by decide +kernel
theorem dL_law_1344 : decode cL_law 1344 = .ok (.iconst 1, 1) := by decide +kernel
theorem dL_law_1345 : decode cL_law 1345 = .ok (.iadd, 1) := by decide +kernel
theorem dL_law_1346 : decode cL_law 1346 = .ok (.iaload, 1) := by decide +kernel
theorem dL_law_1347 : decode cL_law 1347 = .ok (.aload_n 0, 1) := by decide +kernel
theorem dL_law_1348 : decode cL_law 1348 = .ok (.iload 4, 2) := by decide +kernel
theorem dL_law_1350 : decode cL_law 1350 = .ok (.iconst 2, 1) := by decide +kernel
theorem dL_law_1351 : decode cL_law 1351 = .ok (.iadd, 1) := by decide +kernel
theorem dL_law_1352 : decode cL_law 1352 = .ok (.iaload, 1) := by decide +kernel
theorem dL_law_1353 : decode cL_law 1353 = .ok (.aload_n 0, 1) := by decide +kernel
theorem dL_law_1354 : decode cL_law 1354 = .ok (.iload 4, 2) := by decide +kernel
theorem dL_law_1356 : decode cL_law 1356 = .ok (.iconst 3, 1) := by decide +kernel
theorem dL_law_1357 : decode cL_law 1357 = .ok (.iadd, 1) := by decide +kernel
theorem dL_law_1358 : decode cL_law 1358 = .ok (.iaload, 1) := by decide +kernel
theorem dL_law_1359 : decode cL_law 1359 = .ok (.invokevirtual 149, 3) := by decide +kernel
theorem dL_law_1362 : decode cL_law 1362 = .ok (.if_icmp .eq 400, 3) := by decide +kernel
theorem dL_law_1365 : decode cL_law 1365 = .ok (.iconst 0, 1) := by decide +kernel
theorem dL_law_1366 : decode cL_law 1366 = .ok (.ireturn, 1) := by decide +kernel
theorem dL_law_1367 : decode cL_law 1367 = .ok (.aload_n 1, 1) := by decide +kernel
theorem dL_law_1368 : decode cL_law 1368 = .ok (.aload_n 0, 1) := by decide +kernel
theorem dL_law_1369 : decode cL_law 1369 = .ok (.iload 4, 2) := by decide +kernel
theorem dL_law_1371 : decode cL_law 1371 = .ok (.iconst 1, 1) := by decide +kernel
theorem dL_law_1372 : decode cL_law 1372 = .ok (.iadd, 1) := by decide +kernel
theorem dL_law_1373 : decode cL_law 1373 = .ok (.iaload, 1) := by decide +kernel
theorem dL_law_1374 : decode cL_law 1374 = .ok (.invokevirtual 150, 3) := by decide +kernel
theorem dL_law_1377 : decode cL_law 1377 = .ok (.aload_n 2, 1) := by decide +kernel
theorem dL_law_1378 : decode cL_law 1378 = .ok (.aload_n 0, 1) := by decide +kernel
theorem dL_law_1379 : decode cL_law 1379 = .ok (.iload 4, 2) := by decide +kernel
theorem dL_law_1381 : decode cL_law 1381 = .ok (.iconst 1, 1) := by decide +kernel
theorem dL_law_1382 : decode cL_law 1382 = .ok (.iadd, 1) := by decide +kernel
theorem dL_law_1383 : decode cL_law 1383 = .ok (.iaload, 1) := by decide +kernel
theorem dL_law_1384 : decode cL_law 1384 = .ok (.invokevirtual 153, 3) := by decide +kernel
theorem dL_law_1387 : decode cL_law 1387 = .ok (.if_icmp .eq 375, 3) := by decide +kernel
theorem dL_law_1390 : decode cL_law 1390 = .ok (.iconst 0, 1) := by decide +kernel
theorem dL_law_1391 : decode cL_law 1391 = .ok (.ireturn, 1) := by decide +kernel
theorem dL_law_1392 : decode cL_law 1392 = .ok (.aload_n 1, 1) := by decide +kernel
theorem dL_law_1393 : decode cL_law 1393 = .ok (.aload_n 0, 1) := by decide +kernel
theorem dL_law_1394 : decode cL_law 1394 = .ok (.iload 4, 2) := by decide +kernel
theorem dL_law_1396 : decode cL_law 1396 = .ok (.iconst 1, 1) := by decide +kernel
theorem dL_law_1397 : decode cL_law 1397 = .ok (.iadd, 1) := by decide +kernel
theorem dL_law_1398 : decode cL_law 1398 = .ok (.iaload, 1) := by decide +kernel
theorem dL_law_1399 : decode cL_law 1399 = .ok (.invokevirtual 154, 3) := by decide +kernel
theorem dL_law_1402 : decode cL_law 1402 = .ok (.aload_n 2, 1) := by decide +kernel
theorem dL_law_1403 : decode cL_law 1403 = .ok (.aload_n 0, 1) := by decide +kernel
theorem dL_law_1404 : decode cL_law 1404 = .ok (.iload 4, 2) := by decide +kernel
theorem dL_law_1406 : decode cL_law 1406 = .ok (.iconst 1, 1) := by decide +kernel
theorem dL_law_1407 : decode cL_law 1407 = .ok (.iadd, 1) := by decide +kernel
theorem dL_law_1408 : decode cL_law 1408 = .ok (.iaload, 1) := by decide +kernel
theorem dL_law_1409 : decode cL_law 1409 = .ok (.invokevirtual 157, 3) := by decide +kernel
theorem dL_law_1412 : decode cL_law 1412 = .ok (.if_icmp .eq 350, 3) := by decide +kernel
theorem dL_law_1415 : decode cL_law 1415 = .ok (.iconst 0, 1) := by decide +kernel
theorem dL_law_1416 : decode cL_law 1416 = .ok (.ireturn, 1) := by decide +kernel
theorem dL_law_1417 : decode cL_law 1417 = .ok (.aload_n 1, 1) := by decide +kernel
theorem dL_law_1418 : decode cL_law 1418 = .ok (.aload_n 0, 1) := by decide +kernel
theorem dL_law_1419 : decode cL_law 1419 = .ok (.iload 4, 2) := by decide +kernel
theorem dL_law_1421 : decode cL_law 1421 = .ok (.iconst 1, 1) := by decide +kernel
theorem dL_law_1422 : decode cL_law 1422 = .ok (.iadd, 1) := by decide +kernel
theorem dL_law_1423 : decode cL_law 1423 = .ok (.iaload, 1) := by decide +kernel
theorem dL_law_1424 : decode cL_law 1424 = .ok (.invokevirtual 158, 3) := by decide +kernel
theorem dL_law_1427 : decode cL_law 1427 = .ok (.aload_n 2, 1) := by decide +kernel
theorem dL_law_1428 : decode cL_law 1428 = .ok (.aload_n 0, 1) := by decide +kernel
theorem dL_law_1429 : decode cL_law 1429 = .ok (.iload 4, 2) := by decide +kernel
theorem dL_law_1431 : decode cL_law 1431 = .ok (.iconst 1, 1) := by decide +kernel
theorem dL_law_1432 : decode cL_law 1432 = .ok (.iadd, 1) := by decide +kernel
theorem dL_law_1433 : decode cL_law 1433 = .ok (.iaload, 1) := by decide +kernel
theorem dL_law_1434 : decode cL_law 1434 = .ok (.invokevirtual 161, 3) := by decide +kernel
theorem dL_law_1437 : decode cL_law 1437 = .ok (.if_icmp .eq 325, 3) := by decide +kernel
theorem dL_law_1440 : decode cL_law 1440 = .ok (.iconst 0, 1) := by decide +kernel
theorem dL_law_1441 : decode cL_law 1441 = .ok (.ireturn, 1) := by decide +kernel
theorem dL_law_1442 : decode cL_law 1442 = .ok (.aload_n 1, 1) := by decide +kernel
theorem dL_law_1443 : decode cL_law 1443 = .ok (.aload_n 0, 1) := by decide +kernel
theorem dL_law_1444 : decode cL_law 1444 = .ok (.iload 4, 2) := by decide +kernel
theorem dL_law_1446 : decode cL_law 1446 = .ok (.iconst 1, 1) := by decide +kernel
theorem dL_law_1447 : decode cL_law 1447 = .ok (.iadd, 1) := by decide +kernel
theorem dL_law_1448 : decode cL_law 1448 = .ok (.iaload, 1) := by decide +kernel
theorem dL_law_1449 : decode cL_law 1449 = .ok (.aload_n 0, 1) := by decide +kernel
theorem dL_law_1450 : decode cL_law 1450 = .ok (.iload 4, 2) := by decide +kernel
theorem dL_law_1452 : decode cL_law 1452 = .ok (.iconst 2, 1) := by decide +kernel
theorem dL_law_1453 : decode cL_law 1453 = .ok (.iadd, 1) := by decide +kernel
theorem dL_law_1454 : decode cL_law 1454 = .ok (.iaload, 1) := by decide +kernel
theorem dL_law_1455 : decode cL_law 1455 = .ok (.aload_n 0, 1) := by decide +kernel
theorem dL_law_1456 : decode cL_law 1456 = .ok (.iload 4, 2) := by decide +kernel
theorem dL_law_1458 : decode cL_law 1458 = .ok (.iconst 3, 1) := by decide +kernel
theorem dL_law_1459 : decode cL_law 1459 = .ok (.iadd, 1) := by decide +kernel
theorem dL_law_1460 : decode cL_law 1460 = .ok (.iaload, 1) := by decide +kernel
theorem dL_law_1461 : decode cL_law 1461 = .ok (.invokevirtual 162, 3) := by decide +kernel
theorem dL_law_1464 : decode cL_law 1464 = .ok (.aload_n 2, 1) := by decide +kernel
theorem dL_law_1465 : decode cL_law 1465 = .ok (.aload_n 0, 1) := by decide +kernel
theorem dL_law_1466 : decode cL_law 1466 = .ok (.iload 4, 2) := by decide +kernel
theorem dL_law_1468 : decode cL_law 1468 = .ok (.iconst 1, 1) := by decide +kernel
theorem dL_law_1469 : decode cL_law 1469 = .ok (.iadd, 1) := by decide +kernel
theorem dL_law_1470 : decode cL_law 1470 = .ok (.iaload, 1) := by decide +kernel
theorem dL_law_1471 : decode cL_law 1471 = .ok (.aload_n 0, 1) := by decide +kernel
theorem dL_law_1472 : decode cL_law 1472 = .ok (.iload 4, 2) := by decide +kernel
theorem dL_law_1474 : decode cL_law 1474 = .ok (.iconst 2, 1) := by decide +kernel
theorem dL_law_1475 : decode cL_law 1475 = .ok (.iadd, 1) := by decide +kernel
theorem dL_law_1476 : decode cL_law 1476 = .ok (.iaload, 1) := by decide +kernel
theorem dL_law_1477 : decode cL_law 1477 = .ok (.aload_n 0, 1) := by decide +kernel
theorem dL_law_1478 : decode cL_law 1478 = .ok (.iload 4, 2) := by decide +kernel
theorem dL_law_1480 : decode cL_law 1480 = .ok (.iconst 3, 1) := by decide +kernel
theorem dL_law_1481 : decode cL_law 1481 = .ok (.iadd, 1) := by decide +kernel
theorem dL_law_1482 : decode cL_law 1482 = .ok (.iaload, 1) := by decide +kernel
theorem dL_law_1483 : decode cL_law 1483 = .ok (.invokevirtual 165, 3) := by decide +kernel
theorem dL_law_1486 : decode cL_law 1486 = .ok (.if_icmp .eq 276, 3) := by decide +kernel
theorem dL_law_1489 : decode cL_law 1489 = .ok (.iconst 0, 1) := by decide +kernel
theorem dL_law_1490 : decode cL_law 1490 = .ok (.ireturn, 1) := by decide +kernel
theorem dL_law_1491 : decode cL_law 1491 = .ok (.aload_n 1, 1) := by decide +kernel
theorem dL_law_1492 : decode cL_law 1492 = .ok (.aload_n 0, 1) := by decide +kernel
theorem dL_law_1493 : decode cL_law 1493 = .ok (.iload 4, 2) := by decide +kernel
theorem dL_law_1495 : decode cL_law 1495 = .ok (.iconst 1, 1) := by decide +kernel
theorem dL_law_1496 : decode cL_law 1496 = .ok (.iadd, 1) := by decide +kernel
theorem dL_law_1497 : decode cL_law 1497 = .ok (.iaload, 1) := by decide +kernel
theorem dL_law_1498 : decode cL_law 1498 = .ok (.invokevirtual 166, 3) := by decide +kernel
theorem dL_law_1501 : decode cL_law 1501 = .ok (.aload_n 2, 1) := by decide +kernel
theorem dL_law_1502 : decode cL_law 1502 = .ok (.aload_n 0, 1) := by decide +kernel
theorem dL_law_1503 : decode cL_law 1503 = .ok (.iload 4, 2) := by decide +kernel
theorem dL_law_1505 : decode cL_law 1505 = .ok (.iconst 1, 1) := by decide +kernel
theorem dL_law_1506 : decode cL_law 1506 = .ok (.iadd, 1) := by decide +kernel
theorem dL_law_1507 : decode cL_law 1507 = .ok (.iaload, 1) := by decide +kernel
theorem dL_law_1508 : decode cL_law 1508 = .ok (.invokevirtual 169, 3) := by decide +kernel
theorem dL_law_1511 : decode cL_law 1511 = .ok (.if_icmp .eq 251, 3) := by decide +kernel
theorem dL_law_1514 : decode cL_law 1514 = .ok (.iconst 0, 1) := by decide +kernel
theorem dL_law_1515 : decode cL_law 1515 = .ok (.ireturn, 1) := by decide +kernel
theorem dL_law_1516 : decode cL_law 1516 = .ok (.aload_n 1, 1) := by decide +kernel
theorem dL_law_1517 : decode cL_law 1517 = .ok (.aload_n 0, 1) := by decide +kernel
theorem dL_law_1518 : decode cL_law 1518 = .ok (.iload 4, 2) := by decide +kernel
theorem dL_law_1520 : decode cL_law 1520 = .ok (.iconst 1, 1) := by decide +kernel
theorem dL_law_1521 : decode cL_law 1521 = .ok (.iadd, 1) := by decide +kernel
theorem dL_law_1522 : decode cL_law 1522 = .ok (.iaload, 1) := by decide +kernel
theorem dL_law_1523 : decode cL_law 1523 = .ok (.aload_n 0, 1) := by decide +kernel
theorem dL_law_1524 : decode cL_law 1524 = .ok (.iload 4, 2) := by decide +kernel
theorem dL_law_1526 : decode cL_law 1526 = .ok (.iconst 2, 1) := by decide +kernel
theorem dL_law_1527 : decode cL_law 1527 = .ok (.iadd, 1) := by decide +kernel
theorem dL_law_1528 : decode cL_law 1528 = .ok (.iaload, 1) := by decide +kernel
theorem dL_law_1529 : decode cL_law 1529 = .ok (.aload_n 0, 1) := by decide +kernel
theorem dL_law_1530 : decode cL_law 1530 = .ok (.iload 4, 2) := by decide +kernel
theorem dL_law_1532 : decode cL_law 1532 = .ok (.iconst 3, 1) := by decide +kernel
theorem dL_law_1533 : decode cL_law 1533 = .ok (.iadd, 1) := by decide +kernel
theorem dL_law_1534 : decode cL_law 1534 = .ok (.iaload, 1) := by decide +kernel
theorem dL_law_1535 : decode cL_law 1535 = .ok (.i2l, 1) := by decide +kernel
theorem dL_law_1536 : decode cL_law 1536 = .ok (.bipush 32, 2) := by decide +kernel
theorem dL_law_1538 : decode cL_law 1538 = .ok (.lshl, 1) := by decide +kernel
theorem dL_law_1539 : decode cL_law 1539 = .ok (.aload_n 0, 1) := by decide +kernel
theorem dL_law_1540 : decode cL_law 1540 = .ok (.iload 4, 2) := by decide +kernel
theorem dL_law_1542 : decode cL_law 1542 = .ok (.iconst 4, 1) := by decide +kernel
theorem dL_law_1543 : decode cL_law 1543 = .ok (.iadd, 1) := by decide +kernel
theorem dL_law_1544 : decode cL_law 1544 = .ok (.iaload, 1) := by decide +kernel
theorem dL_law_1545 : decode cL_law 1545 = .ok (.i2l, 1) := by decide +kernel
theorem dL_law_1546 : decode cL_law 1546 = .ok (.ldc2_w 140, 3) := by decide +kernel
theorem dL_law_1549 : decode cL_law 1549 = .ok (.land, 1) := by decide +kernel
theorem dL_law_1550 : decode cL_law 1550 = .ok (.lor, 1) := by decide +kernel
theorem dL_law_1551 : decode cL_law 1551 = .ok (.invokevirtual 170, 3) := by decide +kernel
theorem dL_law_1554 : decode cL_law 1554 = .ok (.aload_n 2, 1) := by decide +kernel
theorem dL_law_1555 : decode cL_law 1555 = .ok (.aload_n 0, 1) := by decide +kernel
theorem dL_law_1556 : decode cL_law 1556 = .ok (.iload 4, 2) := by decide +kernel
theorem dL_law_1558 : decode cL_law 1558 = .ok (.iconst 1, 1) := by decide +kernel
theorem dL_law_1559 : decode cL_law 1559 = .ok (.iadd, 1) := by decide +kernel
theorem dL_law_1560 : decode cL_law 1560 = .ok (.iaload, 1) := by decide +kernel
theorem dL_law_1561 : decode cL_law 1561 = .ok (.aload_n 0, 1) := by decide +kernel
theorem dL_law_1562 : decode cL_law 1562 = .ok (.iload 4, 2) := by decide +kernel
theorem dL_law_1564 : decode cL_law 1564 = .ok (.iconst 2, 1) := by decide +kernel
theorem dL_law_1565 : decode cL_law 1565 = .ok (.iadd, 1) := by decide +kernel
theorem dL_law_1566 : decode cL_law 1566 = .ok (.iaload, 1) := by decide +kernel
theorem dL_law_1567 : decode cL_law 1567 = .ok (.aload_n 0, 1) := by decide +kernel
theorem dL_law_1568 : decode cL_law 1568 = .ok (.iload 4, 2) := by decide +kernel
theorem dL_law_1570 : decode cL_law 1570 = .ok (.iconst 3, 1) := by decide +kernel
theorem dL_law_1571 : decode cL_law 1571 = .ok (.iadd, 1) := by decide +kernel
theorem dL_law_1572 : decode cL_law 1572 = .ok (.iaload, 1) := by decide +kernel
theorem dL_law_1573 : decode cL_law 1573 = .ok (.i2l, 1) := by decide +kernel
theorem dL_law_1574 : decode cL_law 1574 = .ok (.bipush 32, 2) := by decide +kernel
theorem dL_law_1576 : decode cL_law 1576 = .ok (.lshl, 1) := by decide +kernel
theorem dL_law_1577 : decode cL_law 1577 = .ok (.aload_n 0, 1) := by decide +kernel
theorem dL_law_1578 : decode cL_law 1578 = .ok (.iload 4, 2) := by decide +kernel
theorem dL_law_1580 : decode cL_law 1580 = .ok (.iconst 4, 1) := by decide +kernel
theorem dL_law_1581 : decode cL_law 1581 = .ok (.iadd, 1) := by decide +kernel
theorem dL_law_1582 : decode cL_law 1582 = .ok (.iaload, 1) := by decide +kernel
theorem dL_law_1583 : decode cL_law 1583 = .ok (.i2l, 1) := by decide +kernel
theorem dL_law_1584 : decode cL_law 1584 = .ok (.ldc2_w 140, 3) := by decide +kernel
theorem dL_law_1587 : decode cL_law 1587 = .ok (.land, 1) := by decide +kernel
theorem dL_law_1588 : decode cL_law 1588 = .ok (.lor, 1) := by decide +kernel
theorem dL_law_1589 : decode cL_law 1589 = .ok (.invokevirtual 174, 3) := by decide +kernel
theorem dL_law_1592 : decode cL_law 1592 = .ok (.if_icmp .eq 170, 3) := by decide +kernel
theorem dL_law_1595 : decode cL_law 1595 = .ok (.iconst 0, 1) := by decide +kernel
theorem dL_law_1596 : decode cL_law 1596 = .ok (.ireturn, 1) := by decide +kernel
theorem dL_law_1597 : decode cL_law 1597 = .ok (.aload_n 1, 1) := by decide +kernel
theorem dL_law_1598 : decode cL_law 1598 = .ok (.aload_n 0, 1) := by decide +kernel
theorem dL_law_1599 : decode cL_law 1599 = .ok (.iload 4, 2) := by decide +kernel
theorem dL_law_1601 : decode cL_law 1601 = .ok (.iconst 1, 1) := by decide +kernel
theorem dL_law_1602 : decode cL_law 1602 = .ok (.iadd, 1) := by decide +kernel
theorem dL_law_1603 : decode cL_law 1603 = .ok (.iaload, 1) := by decide +kernel
theorem dL_law_1604 : decode cL_law 1604 = .ok (.aload_n 0, 1) := by decide +kernel
theorem dL_law_1605 : decode cL_law 1605 = .ok (.iload 4, 2) := by decide +kernel
theorem dL_law_1607 : decode cL_law 1607 = .ok (.iconst 2, 1) := by decide +kernel
theorem dL_law_1608 : decode cL_law 1608 = .ok (.iadd, 1) := by decide +kernel
theorem dL_law_1609 : decode cL_law 1609 = .ok (.iaload, 1) := by decide +kernel
theorem dL_law_1610 : decode cL_law 1610 = .ok (.aload_n 3, 1) := by decide +kernel
theorem dL_law_1611 : decode cL_law 1611 = .ok (.invokestatic 175, 3) := by decide +kernel
theorem dL_law_1614 : decode cL_law 1614 = .ok (.istore 5, 2) := by decide +kernel
theorem dL_law_1616 : decode cL_law 1616 = .ok (.aload_n 2, 1) := by decide +kernel
theorem dL_law_1617 : decode cL_law 1617 = .ok (.aload_n 0, 1) := by decide +kernel
theorem dL_law_1618 : decode cL_law 1618 = .ok (.iload 4, 2) := by decide +kernel
theorem dL_law_1620 : decode cL_law 1620 = .ok (.iconst 1, 1) := by decide +kernel
theorem dL_law_1621 : decode cL_law 1621 = .ok (.iadd, 1) := by decide +kernel
theorem dL_law_1622 : decode cL_law 1622 = .ok (.iaload, 1) := by decide +kernel
theorem dL_law_1623 : decode cL_law 1623 = .ok (.aload_n 0, 1) := by decide +kernel
theorem dL_law_1624 : decode cL_law 1624 = .ok (.iload 4, 2) := by decide +kernel
theorem dL_law_1626 : decode cL_law 1626 = .ok (.iconst 2, 1) := by decide +kernel
theorem dL_law_1627 : decode cL_law 1627 = .ok (.iadd, 1) := by decide +kernel
theorem dL_law_1628 : decode cL_law 1628 = .ok (.iaload, 1) := by decide +kernel
theorem dL_law_1629 : decode cL_law 1629 = .ok (.invokevirtual 177, 3) := by decide +kernel
theorem dL_law_1632 : decode cL_law 1632 = .ok (.lstore 6, 2) := by decide +kernel
theorem dL_law_1634 : decode cL_law 1634 = .ok (.aload_n 2, 1) := by decide +kernel
theorem dL_law_1635 : decode cL_law 1635 = .ok (.invokevirtual 104, 3) := by decide +kernel
theorem dL_law_1638 : decode cL_law 1638 = .ok (.iload 5, 2) := by decide +kernel
theorem dL_law_1640 : decode cL_law 1640 = .ok (.if_icmp .eq 5, 3) := by decide +kernel
theorem dL_law_1643 : decode cL_law 1643 = .ok (.iconst 0, 1) := by decide +kernel
theorem dL_law_1644 : decode cL_law 1644 = .ok (.ireturn, 1) := by decide +kernel
theorem dL_law_1645 : decode cL_law 1645 = .ok (.iload 5, 2) := by decide +kernel
theorem dL_law_1647 : decode cL_law 1647 = .ok (.ifCond .ne 14, 3) := by decide +kernel
theorem dL_law_1650 : decode cL_law 1650 = .ok (.aload_n 3, 1) := by decide +kernel
theorem dL_law_1651 : decode cL_law 1651 = .ok (.iconst 0, 1) := by decide +kernel
theorem dL_law_1652 : decode cL_law 1652 = .ok (.laload, 1) := by decide +kernel
theorem dL_law_1653 : decode cL_law 1653 = .ok (.lload 6, 2) := by decide +kernel
theorem dL_law_1655 : decode cL_law 1655 = .ok (.lcmp, 1) := by decide +kernel
theorem dL_law_1656 : decode cL_law 1656 = .ok (.ifCond .eq 5, 3) := by decide +kernel
theorem dL_law_1659 : decode cL_law 1659 = .ok (.iconst 0, 1) := by decide +kernel
theorem dL_law_1660 : decode cL_law 1660 = .ok (.ireturn, 1) := by decide +kernel
theorem dL_law_1661 : decode cL_law 1661 = .ok (.goto 101, 3) := by decide +kernel
theorem dL_law_1664 : decode cL_law 1664 = .ok (.aload_n 1, 1) := by decide +kernel
theorem dL_law_1665 : decode cL_law 1665 = .ok (.aload_n 0, 1) := by decide +kernel
theorem dL_law_1666 : decode cL_law 1666 = .ok (.iload 4, 2) := by decide +kernel
theorem dL_law_1668 : decode cL_law 1668 = .ok (.iconst 1, 1) := by decide +kernel
theorem dL_law_1669 : decode cL_law 1669 = .ok (.iadd, 1) := by decide +kernel
theorem dL_law_1670 : decode cL_law 1670 = .ok (.iaload, 1) := by decide +kernel
theorem dL_law_1671 : decode cL_law 1671 = .ok (.aload_n 0, 1) := by decide +kernel
theorem dL_law_1672 : decode cL_law 1672 = .ok (.iload 4, 2) := by decide +kernel
theorem dL_law_1674 : decode cL_law 1674 = .ok (.iconst 2, 1) := by decide +kernel
theorem dL_law_1675 : decode cL_law 1675 = .ok (.iadd, 1) := by decide +kernel
theorem dL_law_1676 : decode cL_law 1676 = .ok (.iaload, 1) := by decide +kernel
theorem dL_law_1677 : decode cL_law 1677 = .ok (.aload_n 0, 1) := by decide +kernel
theorem dL_law_1678 : decode cL_law 1678 = .ok (.iload 4, 2) := by decide +kernel
theorem dL_law_1680 : decode cL_law 1680 = .ok (.iconst 3, 1) := by decide +kernel
theorem dL_law_1681 : decode cL_law 1681 = .ok (.iadd, 1) := by decide +kernel
theorem dL_law_1682 : decode cL_law 1682 = .ok (.iaload, 1) := by decide +kernel
theorem dL_law_1683 : decode cL_law 1683 = .ok (.aload_n 0, 1) := by decide +kernel
theorem dL_law_1684 : decode cL_law 1684 = .ok (.iload 4, 2) := by decide +kernel
theorem dL_law_1686 : decode cL_law 1686 = .ok (.iconst 4, 1) := by decide +kernel
theorem dL_law_1687 : decode cL_law 1687 = .ok (.iadd, 1) := by decide +kernel
theorem dL_law_1688 : decode cL_law 1688 = .ok (.iaload, 1) := by decide +kernel
theorem dL_law_1689 : decode cL_law 1689 = .ok (.aload_n 0, 1) := by decide +kernel
theorem dL_law_1690 : decode cL_law 1690 = .ok (.iload 4, 2) := by decide +kernel
theorem dL_law_1692 : decode cL_law 1692 = .ok (.iconst 5, 1) := by decide +kernel
theorem dL_law_1693 : decode cL_law 1693 = .ok (.iadd, 1) := by decide +kernel
theorem dL_law_1694 : decode cL_law 1694 = .ok (.iaload, 1) := by decide +kernel
theorem dL_law_1695 : decode cL_law 1695 = .ok (.invokevirtual 178, 3) := by decide +kernel
theorem dL_law_1698 : decode cL_law 1698 = .ok (.aload_n 2, 1) := by decide +kernel
theorem dL_law_1699 : decode cL_law 1699 = .ok (.aload_n 0, 1) := by decide +kernel
theorem dL_law_1700 : decode cL_law 1700 = .ok (.iload 4, 2) := by decide +kernel
theorem dL_law_1702 : decode cL_law 1702 = .ok (.iconst 1, 1) := by decide +kernel
theorem dL_law_1703 : decode cL_law 1703 = .ok (.iadd, 1) := by decide +kernel
theorem dL_law_1704 : decode cL_law 1704 = .ok (.iaload, 1) := by decide +kernel
theorem dL_law_1705 : decode cL_law 1705 = .ok (.aload_n 0, 1) := by decide +kernel
theorem dL_law_1706 : decode cL_law 1706 = .ok (.iload 4, 2) := by decide +kernel
theorem dL_law_1708 : decode cL_law 1708 = .ok (.iconst 2, 1) := by decide +kernel
theorem dL_law_1709 : decode cL_law 1709 = .ok (.iadd, 1) := by decide +kernel
theorem dL_law_1710 : decode cL_law 1710 = .ok (.iaload, 1) := by decide +kernel
theorem dL_law_1711 : decode cL_law 1711 = .ok (.aload_n 0, 1) := by decide +kernel
theorem dL_law_1712 : decode cL_law 1712 = .ok (.iload 4, 2) := by decide +kernel
theorem dL_law_1714 : decode cL_law 1714 = .ok (.iconst 3, 1) := by decide +kernel
theorem dL_law_1715 : decode cL_law 1715 = .ok (.iadd, 1) := by decide +kernel
theorem dL_law_1716 : decode cL_law 1716 = .ok (.iaload, 1) := by decide +kernel
theorem dL_law_1717 : decode cL_law 1717 = .ok (.aload_n 0, 1) := by decide +kernel
theorem dL_law_1718 : decode cL_law 1718 = .ok (.iload 4, 2) := by decide +kernel
theorem dL_law_1720 : decode cL_law 1720 = .ok (.iconst 4, 1) := by decide +kernel
theorem dL_law_1721 : decode cL_law 1721 = .ok (.iadd, 1) := by decide +kernel
theorem dL_law_1722 : decode cL_law 1722 = .ok (.iaload, 1) := by decide +kernel
theorem dL_law_1723 : decode cL_law 1723 = .ok (.aload_n 0, 1) := by decide +kernel
theorem dL_law_1724 : decode cL_law 1724 = .ok (.iload 4, 2) := by decide +kernel
theorem dL_law_1726 : decode cL_law 1726 = .ok (.iconst 5, 1) := by decide +kernel
theorem dL_law_1727 : decode cL_law 1727 = .ok (.iadd, 1) := by decide +kernel
theorem dL_law_1728 : decode cL_law 1728 = .ok (.iaload, 1) := by decide +kernel
theorem dL_law_1729 : decode cL_law 1729 = .ok (.invokevirtual 181, 3) := by decide +kernel
theorem dL_law_1732 : decode cL_law 1732 = .ok (.if_icmp .eq 30, 3) := by decide +kernel
theorem dL_law_1735 : decode cL_law 1735 = .ok (.iconst 0, 1) := by decide +kernel
theorem dL_law_1736 : decode cL_law 1736 = .ok (.ireturn, 1) := by decide +kernel
theorem dL_law_1737 : decode cL_law 1737 = .ok (.aload_n 1, 1) := by decide +kernel
theorem dL_law_1738 : decode cL_law 1738 = .ok (.aload_n 0, 1) := by decide +kernel
theorem dL_law_1739 : decode cL_law 1739 = .ok (.iload 4, 2) := by decide +kernel
theorem dL_law_1741 : decode cL_law 1741 = .ok (.iconst 1, 1) := by decide +kernel
theorem dL_law_1742 : decode cL_law 1742 = .ok (.iadd, 1) := by decide +kernel
theorem dL_law_1743 : decode cL_law 1743 = .ok (.iaload, 1) := by decide +kernel
theorem dL_law_1744 : decode cL_law 1744 = .ok (.invokevirtual 182, 3) := by decide +kernel
theorem dL_law_1747 : decode cL_law 1747 = .ok (.aload_n 2, 1) := by decide +kernel
theorem dL_law_1748 : decode cL_law 1748 = .ok (.aload_n 0, 1) := by decide +kernel
theorem dL_law_1749 : decode cL_law 1749 = .ok (.iload 4, 2) := by decide +kernel
theorem dL_law_1751 : decode cL_law 1751 = .ok (.iconst 1, 1) := by decide +kernel
theorem dL_law_1752 : decode cL_law 1752 = .ok (.iadd, 1) := by decide +kernel
theorem dL_law_1753 : decode cL_law 1753 = .ok (.iaload, 1) := by decide +kernel
theorem dL_law_1754 : decode cL_law 1754 = .ok (.invokevirtual 185, 3) := by decide +kernel
theorem dL_law_1757 : decode cL_law 1757 = .ok (.if_icmp .eq 5, 3) := by decide +kernel
theorem dL_law_1760 : decode cL_law 1760 = .ok (.iconst 0, 1) := by decide +kernel
theorem dL_law_1761 : decode cL_law 1761 = .ok (.ireturn, 1) := by decide +kernel
theorem dL_law_1762 : decode cL_law 1762 = .ok (.iinc 4 6, 3) := by decide +kernel
theorem dL_law_1765 : decode cL_law 1765 = .ok (.goto (-1742), 3) := by decide +kernel
theorem dL_law_1768 : decode cL_law 1768 = .ok (.iconst 1, 1) := by decide +kernel
theorem dL_law_1769 : decode cL_law 1769 = .ok (.ireturn, 1) := by decide +kernel
abbrev vwCl : List vw_C := [(RX0, TX0, 2), (RX1, TX1, 6), (RX2, TX2, 4), (RX4, TX4, 2), (RX5, TX5, 11), (RX6, TX6, 7), (RX7, TX7, 7), (RX8, TX8, 4), (RX9, TX9, 7), (RX10, TX10, 4), (RX11, TX11, 10), (RX12, TX12, 52)]
