theorem dX12_times_152 : decode cX12_times 152 = .ok (.lload 5, 2) := by decide +kernel
theorem dX12_times_154 : decode cX12_times 154 = .ok (.lconst 1, 1) := by decide +kernel
theorem dX12_times_155 : decode cX12_times 155 = .ok (.ladd, 1) := by decide +kernel
theorem dX12_times_156 : decode cX12_times 156 = .ok (.lreturn, 1) := by decide +kernel
theorem dX12_times_157 : decode cX12_times 157 = .ok (.lload_n 0, 1) := by decide +kernel
theorem dX12_times_158 : decode cX12_times 158 = .ok (.lconst 0, 1) := by decide +kernel
theorem dX12_times_159 : decode cX12_times 159 = .ok (.lcmp, 1) := by decide +kernel
theorem dX12_times_160 : decode cX12_times 160 = .ok (.ifCond .le 10, 3) := by decide +kernel
theorem dX12_times_163 : decode cX12_times 163 = .ok (.lload 5, 2) := by decide +kernel
theorem dX12_times_165 : decode cX12_times 165 = .ok (.lconst 1, 1) := by decide +kernel
theorem dX12_times_166 : decode cX12_times 166 = .ok (.ladd, 1) := by decide +kernel
theorem dX12_times_167 : decode cX12_times 167 = .ok (.goto 5, 3) := by decide +kernel
theorem dX12_times_170 : decode cX12_times 170 = .ok (.lload 5, 2) := by decide +kernel
theorem dX12_times_172 : decode cX12_times 172 = .ok (.lreturn, 1) := by decide +kernel
theorem dX12_times_173 : decode cX12_times 173 = .ok (.lload 5, 2) := by decide +kernel
theorem dX12_times_175 : decode cX12_times 175 = .ok (.lreturn, 1) := by decide +kernel
theorem dX12_times_176 : decode cX12_times 176 = .ok (.lload 5, 2) := by decide +kernel
theorem dX12_times_178 : decode cX12_times 178 = .ok (.lconst 1, 1) := by decide +kernel
theorem dX12_times_179 : decode cX12_times 179 = .ok (.ladd, 1) := by decide +kernel
theorem dX12_times_180 : decode cX12_times 180 = .ok (.lreturn, 1) := by decide +kernel
set_option maxRecDepth 20000 in
theorem ggX12_becomes_X12_common : GoodIn wsX12_becomes wsX12_common := goodIn_r _ [11] (by decide +kernel) (by decide +kernel)
set_option maxRecDepth 20000 in
theorem gX12_becomes_X12_common : GoodIn wsX12_becomes (va_wsS RX12 189 yX12_common wsX12_common) := goodIn_app (goodIn_of _ (by decide +kernel)) ggX12_becomes_X12_common
theorem dX12_becomes_0 : decode cX12_becomes 0 = .ok (.lload_n 2, 1) := by decide +kernel
theorem dX12_becomes_1 : decode cX12_becomes 1 = .ok (.lload 4, 2) := by decide +kernel
theorem dX12_becomes_3 : decode cX12_becomes 3 = .ok (.invokestatic 189, 3) := by decide +kernel
theorem dX12_becomes_6 : decode cX12_becomes 6 = .ok (.lstore 6, 2) := by decide +kernel
theorem dX12_becomes_8 : decode cX12_becomes 8 = .ok (.lload_n 2, 1) := by decide +kernel
theorem dX12_becomes_9 : decode cX12_becomes 9 = .ok (.lload 6, 2) := by decide +kernel
theorem dX12_becomes_11 : decode cX12_becomes 11 = .ok (.ldiv, 1) := by decide +kernel
theorem dX12_becomes_12 : decode cX12_becomes 12 = .ok (.lstore 8, 2) := by decide +kernel
theorem dX12_becomes_14 : decode cX12_becomes 14 = .ok (.lload 4, 2) := by decide +kernel
theorem dX12_becomes_16 : decode cX12_becomes 16 = .ok (.lload 6, 2) := by decide +kernel
theorem dX12_becomes_18 : decode cX12_becomes 18 = .ok (.ldiv, 1) := by decide +kernel
theorem dX12_becomes_19 : decode cX12_becomes 19 = .ok (.lstore 10, 2) := by decide +kernel
theorem dX12_becomes_21 : decode cX12_becomes 21 = .ok (.lload 8, 2) := by decide +kernel
theorem dX12_becomes_23 : decode cX12_becomes 23 = .ok (.ldc2_w 192, 3) := by decide +kernel
theorem dX12_becomes_26 : decode cX12_becomes 26 = .ok (.lcmp, 1) := by decide +kernel
theorem dX12_becomes_27 : decode cX12_becomes 27 = .ok (.ifCond .gt 21, 3) := by decide +kernel
theorem dX12_becomes_30 : decode cX12_becomes 30 = .ok (.lload 8, 2) := by decide +kernel
theorem dX12_becomes_32 : decode cX12_becomes 32 = .ok (.ldc2_w 194, 3) := by decide +kernel
theorem dX12_becomes_35 : decode cX12_becomes 35 = .ok (.lcmp, 1) := by decide +kernel
theorem dX12_becomes_36 : decode cX12_becomes 36 = .ok (.ifCond .lt 12, 3) := by decide +kernel
theorem dX12_becomes_39 : decode cX12_becomes 39 = .ok (.lload 10, 2) := by decide +kernel
theorem dX12_becomes_41 : decode cX12_becomes 41 = .ok (.ldc2_w 196, 3) := by decide +kernel
theorem dX12_becomes_44 : decode cX12_becomes 44 = .ok (.lcmp, 1) := by decide +kernel
theorem dX12_becomes_45 : decode cX12_becomes 45 = .ok (.ifCond .le 11, 3) := by decide +kernel
theorem dX12_becomes_48 : decode cX12_becomes 48 = .ok (.aload_n 0, 1) := by decide +kernel
theorem dX12_becomes_49 : decode cX12_becomes 49 = .ok (.bipush (-6), 2) := by decide +kernel
theorem dX12_becomes_51 : decode cX12_becomes 51 = .ok (.putfield 198, 3) := by decide +kernel
theorem dX12_becomes_54 : decode cX12_becomes 54 = .ok (.iconst 0, 1) := by decide +kernel
theorem dX12_becomes_55 : decode cX12_becomes 55 = .ok (.ireturn, 1) := by decide +kernel
theorem dX12_becomes_56 : decode cX12_becomes 56 = .ok (.aload_n 0, 1) := by decide +kernel
theorem dX12_becomes_57 : decode cX12_becomes 57 = .ok (.getfield 47, 3) := by decide +kernel
theorem dX12_becomes_60 : decode cX12_becomes 60 = .ok (.bipush 8, 2) := by decide +kernel
theorem dX12_becomes_62 : decode cX12_becomes 62 = .ok (.aload_n 0, 1) := by decide +kernel
theorem dX12_becomes_63 : decode cX12_becomes 63 = .ok (.getfield 146, 3) := by decide +kernel
theorem dX12_becomes_66 : decode cX12_becomes 66 = .ok (.imul, 1) := by decide +kernel
theorem dX12_becomes_67 : decode cX12_becomes 67 = .ok (.iload_n 1, 1) := by decide +kernel
theorem dX12_becomes_68 : decode cX12_becomes 68 = .ok (.iadd, 1) := by decide +kernel
theorem dX12_becomes_69 : decode cX12_becomes 69 = .ok (.lload 8, 2) := by decide +kernel
theorem dX12_becomes_71 : decode cX12_becomes 71 = .ok (.lastore, 1) := by decide +kernel
theorem dX12_becomes_72 : decode cX12_becomes 72 = .ok (.aload_n 0, 1) := by decide +kernel
theorem dX12_becomes_73 : decode cX12_becomes 73 = .ok (.getfield 51, 3) := by decide +kernel
theorem dX12_becomes_76 : decode cX12_becomes 76 = .ok (.bipush 8, 2) := by decide +kernel
theorem dX12_becomes_78 : decode cX12_becomes 78 = .ok (.aload_n 0, 1) := by decide +kernel
theorem dX12_becomes_79 : decode cX12_becomes 79 = .ok (.getfield 146, 3) := by decide +kernel
theorem dX12_becomes_82 : decode cX12_becomes 82 = .ok (.imul, 1) := by decide +kernel
theorem dX12_becomes_83 : decode cX12_becomes 83 = .ok (.iload_n 1, 1) := by decide +kernel
theorem dX12_becomes_84 : decode cX12_becomes 84 = .ok (.iadd, 1) := by decide +kernel
theorem dX12_becomes_85 : decode cX12_becomes 85 = .ok (.lload 10, 2) := by decide +kernel
theorem dX12_becomes_87 : decode cX12_becomes 87 = .ok (.lastore, 1) := by decide +kernel
theorem dX12_becomes_88 : decode cX12_becomes 88 = .ok (.iconst 1, 1) := by decide +kernel
theorem dX12_becomes_89 : decode cX12_becomes 89 = .ok (.ireturn, 1) := by decide +kernel
set_option maxRecDepth 20000 in
theorem ggX12_becomesWhole_X12_becomes : GoodIn wsX12_becomesWhole wsX12_becomes := goodIn_r _ [5, 6, 7, 8, 9, 10, 11, 12, 13, 14, 4, 15, 16, 17, 18, 19, 20, 21, 22, 23, 24, 25, 26, 27, 28, 29, 30, 31, 32, 33, 34, 35, 36, 37, 38, 39, 40, 41, 42, 43, 44, 45, 46, 47, 48, 49, 50, 51, 52, 53, 54, 55, 56, 57, 58, 59, 60, 61, 62, 63, 64, 65, 66, 67] (by decide +kernel) (by decide +kernel)
set_option maxRecDepth 20000 in
theorem gX12_becomesWhole_X12_becomes : GoodIn wsX12_becomesWhole (wsV RX12 201 RX12 yX12_becomes wsX12_becomes) := goodIn_app (goodIn_of _ (by decide +kernel)) ggX12_becomesWhole_X12_becomes
theorem dX12_becomesWhole_0 : decode cX12_becomesWhole 0 = .ok (.aload_n 0, 1) := by decide +kernel
theorem dX12_becomesWhole_1 : decode cX12_becomesWhole 1 = .ok (.iload_n 1, 1) := by decide +kernel
theorem dX12_becomesWhole_2 : decode cX12_becomesWhole 2 = .ok (.lload_n 2, 1) := by decide +kernel
theorem dX12_becomesWhole_3 : decode cX12_becomesWhole 3 = .ok (.lconst 1, 1) := by decide +kernel
theorem dX12_becomesWhole_4 : decode cX12_becomesWhole 4 = .ok (.invokevirtual 201, 3) := by decide +kernel
theorem dX12_becomesWhole_7 : decode cX12_becomesWhole 7 = .ok (.ireturn, 1) := by decide +kernel
set_option maxRecDepth 20000 in
theorem ggX12_plain_X12_becomesWhole : GoodIn wsX12_plain wsX12_becomesWhole := goodIn_r _ [7, 8, 9, 10, 6, 11, 12, 13, 14, 15, 16, 2, 17, 18, 19, 20, 21, 22, 23, 24, 25, 26, 27, 28, 29, 30, 31, 32, 33, 34, 35, 36, 37, 38, 39, 40, 41, 42, 43, 44, 45, 46, 47, 48, 49, 50, 51, 52, 53, 54, 55, 56, 57, 58, 59, 60, 61, 62, 63, 64, 65, 66, 67, 68, 69, 70, 71, 72] (by decide +kernel) (by decide +kernel)
set_option maxRecDepth 20000 in
theorem gX12_plain_X12_becomesWhole : GoodIn wsX12_plain (wsV RX12 205 RX12 yX12_becomesWhole wsX12_becomesWhole) := goodIn_app (goodIn_of _ (by decide +kernel)) ggX12_plain_X12_becomesWhole
theorem dX12_plain_0 : decode cX12_plain 0 = .ok (.aload_n 0, 1) := by decide +kernel
theorem dX12_plain_1 : decode cX12_plain 1 = .ok (.iload_n 1, 1) := by decide +kernel
theorem dX12_plain_2 : decode cX12_plain 2 = .ok (.lload_n 2, 1) := by decide +kernel
theorem dX12_plain_3 : decode cX12_plain 3 = .ok (.invokevirtual 205, 3) := by decide +kernel
theorem dX12_plain_6 : decode cX12_plain 6 = .ok (.ifCond .eq 18, 3) := by decide +kernel
theorem dX12_plain_9 : decode cX12_plain 9 = .ok (.aload_n 0, 1) := by decide +kernel
theorem dX12_plain_10 : decode cX12_plain 10 = .ok (.getfield 69, 3) := by decide +kernel
theorem dX12_plain_13 : decode cX12_plain 13 = .ok (.bipush 8, 2) := by decide +kernel
theorem dX12_plain_15 : decode cX12_plain 15 = .ok (.aload_n 0, 1) := by decide +kernel
theorem dX12_plain_16 : decode cX12_plain 16 = .ok (.getfield 146, 3) := by decide +kernel
theorem dX12_plain_19 : decode cX12_plain 19 = .ok (.imul, 1) := by decide +kernel
theorem dX12_plain_20 : decode cX12_plain 20 = .ok (.iload_n 1, 1) := by decide +kernel
theorem dX12_plain_21 : decode cX12_plain 21 = .ok (.iadd, 1) := by decide +kernel
theorem dX12_plain_22 : decode cX12_plain 22 = .ok (.iconst 0, 1) := by decide +kernel
theorem dX12_plain_23 : decode cX12_plain 23 = .ok (.bastore, 1) := by decide +kernel
theorem dX12_plain_24 : decode cX12_plain 24 = .ok (.return_, 1) := by decide +kernel
set_option maxRecDepth 20000 in
theorem ggX12_taxes_X12_times : GoodIn wsX12_taxes wsX12_times := goodIn_r _ [10, 11, 12, 13, 9, 14] (by decide +kernel) (by decide +kernel)
set_option maxRecDepth 20000 in
theorem gX12_taxes_X12_times : GoodIn wsX12_taxes (va_wsS RX12 212 yX12_times wsX12_times) := goodIn_app (goodIn_of _ (by decide +kernel)) ggX12_taxes_X12_times
set_option maxRecDepth 20000 in
theorem ggX12_taxes_X12_plain : GoodIn wsX12_taxes wsX12_plain := goodIn_r _ [18, 19, 6, 20, 21, 22, 9, 23, 24, 25, 26, 27, 28, 29, 30, 31, 32, 33, 34, 35, 36, 37, 38, 39, 40, 41, 42, 43, 44, 45, 46, 47, 48, 49, 50, 51, 52, 53, 54, 55, 56, 57, 58, 59, 60, 61, 62, 63, 64, 65, 66, 67, 68, 69, 70, 71, 72, 73, 74, 75, 76, 77, 78, 79, 80, 81, 82, 83, 84, 85, 86, 87, 88] (by decide +kernel) (by decide +kernel)
set_option maxRecDepth 20000 in
theorem gX12_taxes_X12_plain : GoodIn wsX12_taxes (wsV RX12 216 RX12 yX12_plain wsX12_plain) := goodIn_app (goodIn_of _ (by decide +kernel)) ggX12_taxes_X12_plain
theorem dX12_taxes_0 : decode cX12_taxes 0 = .ok (.lconst 0, 1) := by decide +kernel
theorem dX12_taxes_1 : decode cX12_taxes 1 = .ok (.lstore 5, 2) := by decide +kernel
theorem dX12_taxes_3 : decode cX12_taxes 3 = .ok (.lconst 0, 1) := by decide +kernel
theorem dX12_taxes_4 : decode cX12_taxes 4 = .ok (.lstore 7, 2) := by decide +kernel
theorem dX12_taxes_6 : decode cX12_taxes 6 = .ok (.iconst 0, 1) := by decide +kernel
theorem dX12_taxes_7 : decode cX12_taxes 7 = .ok (.istore 9, 2) := by decide +kernel
theorem dX12_taxes_9 : decode cX12_taxes 9 = .ok (.iload 9, 2) := by decide +kernel
theorem dX12_taxes_11 : decode cX12_taxes 11 = .ok (.aload_n 0, 1) := by decide +kernel
theorem dX12_taxes_12 : decode cX12_taxes 12 = .ok (.getfield 209, 3) := by decide +kernel
theorem dX12_taxes_15 : decode cX12_taxes 15 = .ok (.if_icmp .ge 97, 3) := by decide +kernel
theorem dX12_taxes_18 : decode cX12_taxes 18 = .ok (.iload 4, 2) := by decide +kernel
theorem dX12_taxes_20 : decode cX12_taxes 20 = .ok (.ifCond .eq 17, 3) := by decide +kernel
theorem dX12_taxes_23 : decode cX12_taxes 23 = .ok (.lload 7, 2) := by decide +kernel
theorem dX12_taxes_25 : decode cX12_taxes 25 = .ok (.aload_n 0, 1) := by decide +kernel
theorem dX12_taxes_26 : decode cX12_taxes 26 = .ok (.getfield 44, 3) := by decide +kernel
theorem dX12_taxes_29 : decode cX12_taxes 29 = .ok (.iload 9, 2) := by decide +kernel
theorem dX12_taxes_31 : decode cX12_taxes 31 = .ok (.iaload, 1) := by decide +kernel
theorem dX12_taxes_32 : decode cX12_taxes 32 = .ok (.i2l, 1) := by decide +kernel
theorem dX12_taxes_33 : decode cX12_taxes 33 = .ok (.ladd, 1) := by decide +kernel
theorem dX12_taxes_34 : decode cX12_taxes 34 = .ok (.goto 11, 3) := by decide +kernel
theorem dX12_taxes_37 : decode cX12_taxes 37 = .ok (.aload_n 0, 1) := by decide +kernel
theorem dX12_taxes_38 : decode cX12_taxes 38 = .ok (.getfield 44, 3) := by decide +kernel
theorem dX12_taxes_41 : decode cX12_taxes 41 = .ok (.iload 9, 2) := by decide +kernel
theorem dX12_taxes_43 : decode cX12_taxes 43 = .ok (.iaload, 1) := by decide +kernel
theorem dX12_taxes_44 : decode cX12_taxes 44 = .ok (.i2l, 1) := by decide +kernel
theorem dX12_taxes_45 : decode cX12_taxes 45 = .ok (.lstore 7, 2) := by decide +kernel
theorem dX12_taxes_47 : decode cX12_taxes 47 = .ok (.lload 7, 2) := by decide +kernel
theorem dX12_taxes_49 : decode cX12_taxes 49 = .ok (.aload_n 0, 1) := by decide +kernel
theorem dX12_taxes_50 : decode cX12_taxes 50 = .ok (.getfield 7, 3) := by decide +kernel
theorem dX12_taxes_53 : decode cX12_taxes 53 = .ok (.iload_n 2, 1) := by decide +kernel
theorem dX12_taxes_54 : decode cX12_taxes 54 = .ok (.iaload, 1) := by decide +kernel
theorem dX12_taxes_55 : decode cX12_taxes 55 = .ok (.i2l, 1) := by decide +kernel
theorem dX12_taxes_56 : decode cX12_taxes 56 = .ok (.lmul, 1) := by decide +kernel
theorem dX12_taxes_57 : decode cX12_taxes 57 = .ok (.aload_n 0, 1) := by decide +kernel
theorem dX12_taxes_58 : decode cX12_taxes 58 = .ok (.getfield 13, 3) := by decide +kernel
theorem dX12_taxes_61 : decode cX12_taxes 61 = .ok (.iload_n 2, 1) := by decide +kernel
theorem dX12_taxes_62 : decode cX12_taxes 62 = .ok (.iaload, 1) := by decide +kernel
theorem dX12_taxes_63 : decode cX12_taxes 63 = .ok (.i2l, 1) := by decide +kernel
theorem dX12_taxes_64 : decode cX12_taxes 64 = .ok (.iload_n 3, 1) := by decide +kernel
theorem dX12_taxes_65 : decode cX12_taxes 65 = .ok (.invokestatic 212, 3) := by decide +kernel
theorem dX12_taxes_68 : decode cX12_taxes 68 = .ok (.iload 4, 2) := by decide +kernel
theorem dX12_taxes_70 : decode cX12_taxes 70 = .ok (.ifCond .eq 8, 3) := by decide +kernel
theorem dX12_taxes_73 : decode cX12_taxes 73 = .ok (.lload 5, 2) := by decide +kernel
theorem dX12_taxes_75 : decode cX12_taxes 75 = .ok (.goto 4, 3) := by decide +kernel
theorem dX12_taxes_78 : decode cX12_taxes 78 = .ok (.lconst 0, 1) := by decide +kernel
theorem dX12_taxes_79 : decode cX12_taxes 79 = .ok (.lsub, 1) := by decide +kernel
theorem dX12_taxes_80 : decode cX12_taxes 80 = .ok (.lstore 10, 2) := by decide +kernel
theorem dX12_taxes_82 : decode cX12_taxes 82 = .ok (.aload_n 0, 1) := by decide +kernel
theorem dX12_taxes_83 : decode cX12_taxes 83 = .ok (.getfield 57, 3) := by decide +kernel
theorem dX12_taxes_86 : decode cX12_taxes 86 = .ok (.bipush 12, 2) := by decide +kernel
theorem dX12_taxes_88 : decode cX12_taxes 88 = .ok (.aload_n 0, 1) := by decide +kernel
theorem dX12_taxes_89 : decode cX12_taxes 89 = .ok (.getfield 146, 3) := by decide +kernel
theorem dX12_taxes_92 : decode cX12_taxes 92 = .ok (.imul, 1) := by decide +kernel
theorem dX12_taxes_93 : decode cX12_taxes 93 = .ok (.iload 9, 2) := by decide +kernel
theorem dX12_taxes_95 : decode cX12_taxes 95 = .ok (.iadd, 1) := by decide +kernel
theorem dX12_taxes_96 : decode cX12_taxes 96 = .ok (.lload 10, 2) := by decide +kernel
theorem dX12_taxes_98 : decode cX12_taxes 98 = .ok (.lastore, 1) := by decide +kernel
theorem dX12_taxes_99 : decode cX12_taxes 99 = .ok (.lload 5, 2) := by decide +kernel
theorem dX12_taxes_101 : decode cX12_taxes 101 = .ok (.lload 10, 2) := by decide +kernel
theorem dX12_taxes_103 : decode cX12_taxes 103 = .ok (.ladd, 1) := by decide +kernel
theorem dX12_taxes_104 : decode cX12_taxes 104 = .ok (.lstore 5, 2) := by decide +kernel
theorem dX12_taxes_106 : decode cX12_taxes 106 = .ok (.iinc 9 1, 3) := by decide +kernel
theorem dX12_taxes_109 : decode cX12_taxes 109 = .ok (.goto (-100), 3) := by decide +kernel
theorem dX12_taxes_112 : decode cX12_taxes 112 = .ok (.aload_n 0, 1) := by decide +kernel
theorem dX12_taxes_113 : decode cX12_taxes 113 = .ok (.iload_n 1, 1) := by decide +kernel
theorem dX12_taxes_114 : decode cX12_taxes 114 = .ok (.lload 5, 2) := by decide +kernel
theorem dX12_taxes_116 : decode cX12_taxes 116 = .ok (.invokevirtual 216, 3) := by decide +kernel
theorem dX12_taxes_119 : decode cX12_taxes 119 = .ok (.return_, 1) := by decide +kernel
set_option maxRecDepth 20000 in
theorem ggX12_weighed_X12_isEven : GoodIn wsX12_weighed wsX12_isEven := goodIn_r _ [6, 7, 1, 8, 9, 10, 11, 12, 13, 14, 15, 16, 17, 18, 19, 20, 21, 22, 23, 24, 25, 26, 27, 28, 29, 30, 31, 32, 33, 34, 35, 36, 37, 38, 39, 40, 41, 42, 43, 44, 45, 46, 47, 48, 49, 50, 51, 52, 53, 54, 55, 56, 57, 58, 59] (by decide +kernel) (by decide +kernel)
set_option maxRecDepth 20000 in
theorem gX12_weighed_X12_isEven : GoodIn wsX12_weighed (wsV RX12 220 RX12 yX12_isEven wsX12_isEven) := goodIn_app (goodIn_of _ (by decide +kernel)) ggX12_weighed_X12_isEven
theorem dX12_weighed_0 : decode cX12_weighed 0 = .ok (.aload_n 0, 1) := by decide +kernel
theorem dX12_weighed_1 : decode cX12_weighed 1 = .ok (.iload_n 1, 1) := by decide +kernel
theorem dX12_weighed_2 : decode cX12_weighed 2 = .ok (.invokevirtual 220, 3) := by decide +kernel
theorem dX12_weighed_5 : decode cX12_weighed 5 = .ok (.ifCond .eq 7, 3) := by decide +kernel
theorem dX12_weighed_8 : decode cX12_weighed 8 = .ok (.lconst 1, 1) := by decide +kernel
theorem dX12_weighed_9 : decode cX12_weighed 9 = .ok (.goto 15, 3) := by decide +kernel
theorem dX12_weighed_12 : decode cX12_weighed 12 = .ok (.aload_n 0, 1) := by decide +kernel
theorem dX12_weighed_13 : decode cX12_weighed 13 = .ok (.getfield 22, 3) := by decide +kernel
theorem dX12_weighed_16 : decode cX12_weighed 16 = .ok (.bipush 8, 2) := by decide +kernel
theorem dX12_weighed_18 : decode cX12_weighed 18 = .ok (.iload_n 1, 1) := by decide +kernel
theorem dX12_weighed_19 : decode cX12_weighed 19 = .ok (.imul, 1) := by decide +kernel
theorem dX12_weighed_20 : decode cX12_weighed 20 = .ok (.iload_n 2, 1) := by decide +kernel
theorem dX12_weighed_21 : decode cX12_weighed 21 = .ok (.iadd, 1) := by decide +kernel
theorem dX12_weighed_22 : decode cX12_weighed 22 = .ok (.iaload, 1) := by decide +kernel
theorem dX12_weighed_23 : decode cX12_weighed 23 = .ok (.i2l, 1) := by decide +kernel
theorem dX12_weighed_24 : decode cX12_weighed 24 = .ok (.lreturn, 1) := by decide +kernel
theorem dX12_isEven_0 : decode cX12_isEven 0 = .ok (.iconst 0, 1) := by decide +kernel
theorem dX12_isEven_1 : decode cX12_isEven 1 = .ok (.istore_n 2, 1) := by decide +kernel
theorem dX12_isEven_2 : decode cX12_isEven 2 = .ok (.iconst 0, 1) := by decide +kernel
theorem dX12_isEven_3 : decode cX12_isEven 3 = .ok (.istore_n 3, 1) := by decide +kernel
theorem dX12_isEven_4 : decode cX12_isEven 4 = .ok (.iload_n 3, 1) := by decide +kernel
theorem dX12_isEven_5 : decode cX12_isEven 5 = .ok (.aload_n 0, 1) := by decide +kernel
theorem dX12_isEven_6 : decode cX12_isEven 6 = .ok (.getfield 19, 3) := by decide +kernel
theorem dX12_isEven_9 : decode cX12_isEven 9 = .ok (.iload_n 1, 1) := by decide +kernel
theorem dX12_isEven_10 : decode cX12_isEven 10 = .ok (.iaload, 1) := by decide +kernel
theorem dX12_isEven_11 : decode cX12_isEven 11 = .ok (.if_icmp .ge 23, 3) := by decide +kernel
theorem dX12_isEven_14 : decode cX12_isEven 14 = .ok (.iload_n 2, 1) := by decide +kernel
theorem dX12_isEven_15 : decode cX12_isEven 15 = .ok (.aload_n 0, 1) := by decide +kernel
theorem dX12_isEven_16 : decode cX12_isEven 16 = .ok (.getfield 22, 3) := by decide +kernel
theorem dX12_isEven_19 : decode cX12_isEven 19 = .ok (.bipush 8, 2) := by decide +kernel
theorem dX12_isEven_21 : decode cX12_isEven 21 = .ok (.iload_n 1, 1) := by decide +kernel
theorem dX12_isEven_22 : decode cX12_isEven 22 = .ok (.imul, 1) := by decide +kernel
theorem dX12_isEven_23 : decode cX12_isEven 23 = .ok (.iload_n 3, 1) := by decide +kernel
theorem dX12_isEven_24 : decode cX12_isEven 24 = .ok (.iadd, 1) := by decide +kernel
theorem dX12_isEven_25 : decode cX12_isEven 25 = .ok (.iaload, 1) := by decide +kernel
theorem dX12_isEven_26 : decode cX12_isEven 26 = .ok (.iadd, 1) := by decide +kernel
theorem dX12_isEven_27 : decode cX12_isEven 27 = .ok (.istore_n 2, 1) := by decide +kernel
theorem dX12_isEven_28 : decode cX12_isEven 28 = .ok (.iinc 3 1, 3) := by decide +kernel
theorem dX12_isEven_31 : decode cX12_isEven 31 = .ok (.goto (-27), 3) := by decide +kernel
theorem dX12_isEven_34 : decode cX12_isEven 34 = .ok (.iload_n 2, 1) := by decide +kernel
theorem dX12_isEven_35 : decode cX12_isEven 35 = .ok (.ifCond .ne 7, 3) := by decide +kernel
theorem dX12_isEven_38 : decode cX12_isEven 38 = .ok (.iconst 1, 1) := by decide +kernel
theorem dX12_isEven_39 : decode cX12_isEven 39 = .ok (.goto 4, 3) := by decide +kernel
theorem dX12_isEven_42 : decode cX12_isEven 42 = .ok (.iconst 0, 1) := by decide +kernel
theorem dX12_isEven_43 : decode cX12_isEven 43 = .ok (.ireturn, 1) := by decide +kernel
set_option maxRecDepth 20000 in
theorem ggX12_partsOf_X12_isEven : GoodIn wsX12_partsOf wsX12_isEven := goodIn_r _ [6, 1, 7, 8, 9, 10, 11, 12, 13, 14, 15, 16, 17, 18, 19, 20, 21, 22, 23, 24, 25, 26, 27, 28, 29, 30, 31, 32, 33, 34, 35, 36, 37, 38, 39, 40, 41, 42, 43, 44, 45, 46, 47, 48, 49, 50, 51, 52, 53, 54, 55, 56, 57, 58, 59] (by decide +kernel) (by decide +kernel)
set_option maxRecDepth 20000 in
theorem gX12_partsOf_X12_isEven : GoodIn wsX12_partsOf (wsV RX12 220 RX12 yX12_isEven wsX12_isEven) := goodIn_app (goodIn_of _ (by decide +kernel)) ggX12_partsOf_X12_isEven
theorem dX12_partsOf_0 : decode cX12_partsOf 0 = .ok (.aload_n 0, 1) := by decide +kernel
theorem dX12_partsOf_1 : decode cX12_partsOf 1 = .ok (.iload_n 1, 1) := by decide +kernel
theorem dX12_partsOf_2 : decode cX12_partsOf 2 = .ok (.invokevirtual 220, 3) := by decide +kernel
theorem dX12_partsOf_5 : decode cX12_partsOf 5 = .ok (.ifCond .eq 7, 3) := by decide +kernel
theorem dX12_partsOf_8 : decode cX12_partsOf 8 = .ok (.iconst 2, 1) := by decide +kernel
theorem dX12_partsOf_9 : decode cX12_partsOf 9 = .ok (.goto 9, 3) := by decide +kernel
theorem dX12_partsOf_12 : decode cX12_partsOf 12 = .ok (.aload_n 0, 1) := by decide +kernel
theorem dX12_partsOf_13 : decode cX12_partsOf 13 = .ok (.getfield 19, 3) := by decide +kernel
theorem dX12_partsOf_16 : decode cX12_partsOf 16 = .ok (.iload_n 1, 1) := by decide +kernel
theorem dX12_partsOf_17 : decode cX12_partsOf 17 = .ok (.iaload, 1) := by decide +kernel
theorem dX12_partsOf_18 : decode cX12_partsOf 18 = .ok (.ireturn, 1) := by decide +kernel
set_option maxRecDepth 20000 in
theorem ggX12_allWeights_X12_partsOf : GoodIn wsX12_allWeights wsX12_partsOf := goodIn_r _ [5, 6, 7, 8, 9, 4, 10, 11, 16, 17, 18, 19, 20, 21, 22, 23, 24, 25, 26, 27, 28, 29, 30, 31, 32, 33, 34, 35, 36, 37, 38, 39, 40, 41, 42, 43, 44, 45, 46, 47, 48, 49, 50, 51, 52, 53, 54, 55, 56, 57, 58, 59, 60, 61, 62, 63, 64, 65, 66, 67] (by decide +kernel) (by decide +kernel)
set_option maxRecDepth 20000 in
theorem gX12_allWeights_X12_partsOf : GoodIn wsX12_allWeights (wsV RX12 223 RX12 yX12_partsOf wsX12_partsOf) := goodIn_app (goodIn_of _ (by decide +kernel)) ggX12_allWeights_X12_partsOf
set_option maxRecDepth 20000 in
theorem ggX12_allWeights_X12_weighed : GoodIn wsX12_allWeights wsX12_weighed := goodIn_r _ [15, 11, 7, 8, 9, 4, 10, 6, 16, 17, 18, 19, 20, 21, 22, 23, 24, 25, 26, 27, 28, 29, 30, 31, 32, 33, 34, 35, 36, 37, 38, 39, 40, 41, 42, 43, 44, 45, 46, 47, 48, 49, 50, 51, 52, 53, 54, 55, 56, 57, 58, 59, 60, 61, 62, 63, 64, 65, 66, 67] (by decide +kernel) (by decide +kernel)
set_option maxRecDepth 20000 in
theorem gX12_allWeights_X12_weighed : GoodIn wsX12_allWeights (wsV RX12 227 RX12 yX12_weighed wsX12_weighed) := goodIn_app (goodIn_of _ (by decide +kernel)) ggX12_allWeights_X12_weighed
theorem dX12_allWeights_0 : decode cX12_allWeights 0 = .ok (.lconst 0, 1) := by decide +kernel
theorem dX12_allWeights_1 : decode cX12_allWeights 1 = .ok (.lstore_n 2, 1) := by decide +kernel
theorem dX12_allWeights_2 : decode cX12_allWeights 2 = .ok (.iconst 0, 1) := by decide +kernel
theorem dX12_allWeights_3 : decode cX12_allWeights 3 = .ok (.istore 4, 2) := by decide +kernel
theorem dX12_allWeights_5 : decode cX12_allWeights 5 = .ok (.iload 4, 2) := by decide +kernel
theorem dX12_allWeights_7 : decode cX12_allWeights 7 = .ok (.aload_n 0, 1) := by decide +kernel
theorem dX12_allWeights_8 : decode cX12_allWeights 8 = .ok (.iload_n 1, 1) := by decide +kernel
theorem dX12_allWeights_9 : decode cX12_allWeights 9 = .ok (.invokevirtual 223, 3) := by decide +kernel
theorem dX12_allWeights_12 : decode cX12_allWeights 12 = .ok (.if_icmp .ge 19, 3) := by decide +kernel
theorem dX12_allWeights_15 : decode cX12_allWeights 15 = .ok (.lload_n 2, 1) := by decide +kernel
theorem dX12_allWeights_16 : decode cX12_allWeights 16 = .ok (.aload_n 0, 1) := by decide +kernel
theorem dX12_allWeights_17 : decode cX12_allWeights 17 = .ok (.iload_n 1, 1) := by decide +kernel
theorem dX12_allWeights_18 : decode cX12_allWeights 18 = .ok (.iload 4, 2) := by decide +kernel
theorem dX12_allWeights_20 : decode cX12_allWeights 20 = .ok (.invokevirtual 227, 3) := by decide +kernel
theorem dX12_allWeights_23 : decode cX12_allWeights 23 = .ok (.ladd, 1) := by decide +kernel
theorem dX12_allWeights_24 : decode cX12_allWeights 24 = .ok (.lstore_n 2, 1) := by decide +kernel
theorem dX12_allWeights_25 : decode cX12_allWeights 25 = .ok (.iinc 4 1, 3) := by decide +kernel
theorem dX12_allWeights_28 : decode cX12_allWeights 28 = .ok (.goto (-23), 3) := by decide +kernel
theorem dX12_allWeights_31 : decode cX12_allWeights 31 = .ok (.lload_n 2, 1) := by decide +kernel
theorem dX12_allWeights_32 : decode cX12_allWeights 32 = .ok (.lreturn, 1) := by decide +kernel
set_option maxRecDepth 20000 in
theorem ggX12_splits_X12_partsOf : GoodIn wsX12_splits wsX12_partsOf := goodIn_r _ [7, 8, 9, 10, 11, 6, 12, 13, 29, 30, 31, 32, 33, 34, 35, 36, 37, 38, 39, 40, 41, 42, 43, 44, 45, 46, 47, 48, 49, 50, 51, 52, 53, 54, 55, 56, 57, 58, 59, 60, 61, 62, 63, 64, 65, 66, 67, 68, 69, 70, 71, 72, 73, 74, 75, 76, 77, 78, 79, 80] (by decide +kernel) (by decide +kernel)
set_option maxRecDepth 20000 in
theorem gX12_splits_X12_partsOf : GoodIn wsX12_splits (wsV RX12 223 RX12 yX12_partsOf wsX12_partsOf) := goodIn_app (goodIn_of _ (by decide +kernel)) ggX12_splits_X12_partsOf
set_option maxRecDepth 20000 in
theorem ggX12_splits_X12_allWeights : GoodIn wsX12_splits wsX12_allWeights := goodIn_r _ [17, 3, 4, 5, 6, 7, 8, 9, 10, 11, 12, 13, 18, 19, 20, 21, 29, 30, 31, 32, 33, 34, 35, 36, 37, 38, 39, 40, 41, 42, 43, 44, 45, 46, 47, 48, 49, 50, 51, 52, 53, 54, 55, 56, 57, 58, 59, 60, 61, 62, 63, 64, 65, 66, 67, 68, 69, 70, 71, 72, 73, 74, 75, 76, 77, 78, 79, 80] (by decide +kernel) (by decide +kernel)
set_option maxRecDepth 20000 in
theorem gX12_splits_X12_allWeights : GoodIn wsX12_splits (wsV RX12 231 RX12 yX12_allWeights wsX12_allWeights) := goodIn_app (goodIn_of _ (by decide +kernel)) ggX12_splits_X12_allWeights
set_option maxRecDepth 20000 in
theorem ggX12_splits_X12_weighed : GoodIn wsX12_splits wsX12_weighed := goodIn_r _ [21, 13, 9, 10, 11, 6, 12, 8, 29, 30, 31, 32, 33, 34, 35, 36, 37, 38, 39, 40, 41, 42, 43, 44, 45, 46, 47, 48, 49, 50, 51, 52, 53, 54, 55, 56, 57, 58, 59, 60, 61, 62, 63, 64, 65, 66, 67, 68, 69, 70, 71, 72, 73, 74, 75, 76, 77, 78, 79, 80] (by decide +kernel) (by decide +kernel)
set_option maxRecDepth 20000 in
theorem gX12_splits_X12_weighed : GoodIn wsX12_splits (wsV RX12 227 RX12 yX12_weighed wsX12_weighed) := goodIn_app (goodIn_of _ (by decide +kernel)) ggX12_splits_X12_weighed
set_option maxRecDepth 20000 in
theorem ggX12_splits_X12_floor : GoodIn wsX12_splits wsX12_floor := goodIn_r _ [24] (by decide +kernel) (by decide +kernel)
set_option maxRecDepth 20000 in
theorem gX12_splits_X12_floor : GoodIn wsX12_splits (va_wsS RX12 183 yX12_floor wsX12_floor) := goodIn_app (goodIn_of _ (by decide +kernel)) ggX12_splits_X12_floor
set_option maxRecDepth 20000 in
theorem ggX12_splits_X12_times : GoodIn wsX12_splits wsX12_times := goodIn_r _ [27, 28, 22, 23, 6, 24] (by decide +kernel) (by decide +kernel)
set_option maxRecDepth 20000 in
theorem gX12_splits_X12_times : GoodIn wsX12_splits (va_wsS RX12 212 yX12_times wsX12_times) := goodIn_app (goodIn_of _ (by decide +kernel)) ggX12_splits_X12_times
theorem dX12_splits_0 : decode cX12_splits 0 = .ok (.aload_n 0, 1) := by decide +kernel
theorem dX12_splits_1 : decode cX12_splits 1 = .ok (.iload 4, 2) := by decide +kernel
theorem dX12_splits_3 : decode cX12_splits 3 = .ok (.invokevirtual 223, 3) := by decide +kernel
theorem dX12_splits_6 : decode cX12_splits 6 = .ok (.istore 5, 2) := by decide +kernel
theorem dX12_splits_8 : decode cX12_splits 8 = .ok (.aload_n 0, 1) := by decide +kernel
theorem dX12_splits_9 : decode cX12_splits 9 = .ok (.iload 4, 2) := by decide +kernel
theorem dX12_splits_11 : decode cX12_splits 11 = .ok (.invokevirtual 231, 3) := by decide +kernel
theorem dX12_splits_14 : decode cX12_splits 14 = .ok (.lstore 6, 2) := by decide +kernel
theorem dX12_splits_16 : decode cX12_splits 16 = .ok (.lload_n 1, 1) := by decide +kernel
theorem dX12_splits_17 : decode cX12_splits 17 = .ok (.lstore 8, 2) := by decide +kernel
theorem dX12_splits_19 : decode cX12_splits 19 = .ok (.iconst 0, 1) := by decide +kernel
theorem dX12_splits_20 : decode cX12_splits 20 = .ok (.istore 10, 2) := by decide +kernel
theorem dX12_splits_22 : decode cX12_splits 22 = .ok (.iload 10, 2) := by decide +kernel
theorem dX12_splits_24 : decode cX12_splits 24 = .ok (.bipush 8, 2) := by decide +kernel
theorem dX12_splits_26 : decode cX12_splits 26 = .ok (.if_icmp .ge 92, 3) := by decide +kernel
theorem dX12_splits_29 : decode cX12_splits 29 = .ok (.iload 10, 2) := by decide +kernel
theorem dX12_splits_31 : decode cX12_splits 31 = .ok (.iload 5, 2) := by decide +kernel
theorem dX12_splits_33 : decode cX12_splits 33 = .ok (.if_icmp .ge 16, 3) := by decide +kernel
theorem dX12_splits_36 : decode cX12_splits 36 = .ok (.lload_n 1, 1) := by decide +kernel
theorem dX12_splits_37 : decode cX12_splits 37 = .ok (.aload_n 0, 1) := by decide +kernel
theorem dX12_splits_38 : decode cX12_splits 38 = .ok (.iload 4, 2) := by decide +kernel
theorem dX12_splits_40 : decode cX12_splits 40 = .ok (.iload 10, 2) := by decide +kernel
theorem dX12_splits_42 : decode cX12_splits 42 = .ok (.invokevirtual 227, 3) := by decide +kernel
theorem dX12_splits_45 : decode cX12_splits 45 = .ok (.lmul, 1) := by decide +kernel
theorem dX12_splits_46 : decode cX12_splits 46 = .ok (.goto 4, 3) := by decide +kernel
theorem dX12_splits_49 : decode cX12_splits 49 = .ok (.lconst 0, 1) := by decide +kernel
theorem dX12_splits_50 : decode cX12_splits 50 = .ok (.lstore 11, 2) := by decide +kernel
theorem dX12_splits_52 : decode cX12_splits 52 = .ok (.iload 10, 2) := by decide +kernel
theorem dX12_splits_54 : decode cX12_splits 54 = .ok (.iload 5, 2) := by decide +kernel
theorem dX12_splits_56 : decode cX12_splits 56 = .ok (.if_icmp .lt 7, 3) := by decide +kernel
theorem dX12_splits_59 : decode cX12_splits 59 = .ok (.lconst 0, 1) := by decide +kernel
theorem dX12_splits_60 : decode cX12_splits 60 = .ok (.goto 26, 3) := by decide +kernel
theorem dX12_splits_63 : decode cX12_splits 63 = .ok (.iload_n 3, 1) := by decide +kernel
theorem dX12_splits_64 : decode cX12_splits 64 = .ok (.iconst 2, 1) := by decide +kernel
theorem dX12_splits_65 : decode cX12_splits 65 = .ok (.if_icmp .ge 13, 3) := by decide +kernel
theorem dX12_splits_68 : decode cX12_splits 68 = .ok (.lload 11, 2) := by decide +kernel
theorem dX12_splits_70 : decode cX12_splits 70 = .ok (.lload 6, 2) := by decide +kernel
theorem dX12_splits_72 : decode cX12_splits 72 = .ok (.invokestatic 183, 3) := by decide +kernel
theorem dX12_splits_75 : decode cX12_splits 75 = .ok (.goto 11, 3) := by decide +kernel
theorem dX12_splits_78 : decode cX12_splits 78 = .ok (.lload 11, 2) := by decide +kernel
theorem dX12_splits_80 : decode cX12_splits 80 = .ok (.lload 6, 2) := by decide +kernel
theorem dX12_splits_82 : decode cX12_splits 82 = .ok (.iconst 0, 1) := by decide +kernel
theorem dX12_splits_83 : decode cX12_splits 83 = .ok (.invokestatic 212, 3) := by decide +kernel
theorem dX12_splits_86 : decode cX12_splits 86 = .ok (.lstore 13, 2) := by decide +kernel
theorem dX12_splits_88 : decode cX12_splits 88 = .ok (.aload_n 0, 1) := by decide +kernel
theorem dX12_splits_89 : decode cX12_splits 89 = .ok (.getfield 54, 3) := by decide +kernel
theorem dX12_splits_92 : decode cX12_splits 92 = .ok (.bipush 8, 2) := by decide +kernel
theorem dX12_splits_94 : decode cX12_splits 94 = .ok (.aload_n 0, 1) := by decide +kernel
theorem dX12_splits_95 : decode cX12_splits 95 = .ok (.getfield 146, 3) := by decide +kernel
theorem dX12_splits_98 : decode cX12_splits 98 = .ok (.imul, 1) := by decide +kernel
theorem dX12_splits_99 : decode cX12_splits 99 = .ok (.iload 10, 2) := by decide +kernel
theorem dX12_splits_101 : decode cX12_splits 101 = .ok (.iadd, 1) := by decide +kernel
theorem dX12_splits_102 : decode cX12_splits 102 = .ok (.lload 13, 2) := by decide +kernel
theorem dX12_splits_104 : decode cX12_splits 104 = .ok (.lastore, 1) := by decide +kernel
theorem dX12_splits_105 : decode cX12_splits 105 = .ok (.lload 8, 2) := by decide +kernel
theorem dX12_splits_107 : decode cX12_splits 107 = .ok (.lload 13, 2) := by decide +kernel
theorem dX12_splits_109 : decode cX12_splits 109 = .ok (.lsub, 1) := by decide +kernel
theorem dX12_splits_110 : decode cX12_splits 110 = .ok (.lstore 8, 2) := by decide +kernel
theorem dX12_splits_112 : decode cX12_splits 112 = .ok (.iinc 10 1, 3) := by decide +kernel
theorem dX12_splits_115 : decode cX12_splits 115 = .ok (.goto (-93), 3) := by decide +kernel
theorem dX12_splits_118 : decode cX12_splits 118 = .ok (.iload_n 3, 1) := by decide +kernel
theorem dX12_splits_119 : decode cX12_splits 119 = .ok (.iconst 1, 1) := by decide +kernel
theorem dX12_splits_120 : decode cX12_splits 120 = .ok (.if_icmp .le 35, 3) := by decide +kernel
theorem dX12_splits_123 : decode cX12_splits 123 = .ok (.aload_n 0, 1) := by decide +kernel
theorem dX12_splits_124 : decode cX12_splits 124 = .ok (.getfield 54, 3) := by decide +kernel
theorem dX12_splits_127 : decode cX12_splits 127 = .ok (.bipush 8, 2) := by decide +kernel
theorem dX12_splits_129 : decode cX12_splits 129 = .ok (.aload_n 0, 1) := by decide +kernel
theorem dX12_splits_130 : decode cX12_splits 130 = .ok (.getfield 146, 3) := by decide +kernel
theorem dX12_splits_133 : decode cX12_splits 133 = .ok (.imul, 1) := by decide +kernel
theorem dX12_splits_134 : decode cX12_splits 134 = .ok (.iload_n 3, 1) := by decide +kernel
theorem dX12_splits_135 : decode cX12_splits 135 = .ok (.iconst 2, 1) := by decide +kernel
theorem dX12_splits_136 : decode cX12_splits 136 = .ok (.if_icmp .ne 10, 3) := by decide +kernel
theorem dX12_splits_139 : decode cX12_splits 139 = .ok (.iload 5, 2) := by decide +kernel
theorem dX12_splits_141 : decode cX12_splits 141 = .ok (.iconst 1, 1) := by decide +kernel
theorem dX12_splits_142 : decode cX12_splits 142 = .ok (.isub, 1) := by decide +kernel
theorem dX12_splits_143 : decode cX12_splits 143 = .ok (.goto 4, 3) := by decide +kernel
theorem dX12_splits_146 : decode cX12_splits 146 = .ok (.iconst 0, 1) := by decide +kernel
theorem dX12_splits_147 : decode cX12_splits 147 = .ok (.iadd, 1) := by decide +kernel
theorem dX12_splits_148 : decode cX12_splits 148 = .ok (.dup2, 1) := by decide +kernel
theorem dX12_splits_149 : decode cX12_splits 149 = .ok (.laload, 1) := by decide +kernel
theorem dX12_splits_150 : decode cX12_splits 150 = .ok (.lload 8, 2) := by decide +kernel
theorem dX12_splits_152 : decode cX12_splits 152 = .ok (.ladd, 1) := by decide +kernel
theorem dX12_splits_153 : decode cX12_splits 153 = .ok (.lastore, 1) := by decide +kernel
theorem dX12_splits_154 : decode cX12_splits 154 = .ok (.return_, 1) := by decide +kernel
theorem dX12_splits_155 : decode cX12_splits 155 = .ok (.iconst 0, 1) := by decide +kernel
theorem dX12_splits_156 : decode cX12_splits 156 = .ok (.istore 10, 2) := by decide +kernel
theorem dX12_splits_158 : decode cX12_splits 158 = .ok (.iload_n 3, 1) := by decide +kernel
theorem dX12_splits_159 : decode cX12_splits 159 = .ok (.iconst 1, 1) := by decide +kernel
theorem dX12_splits_160 : decode cX12_splits 160 = .ok (.if_icmp .ne 63, 3) := by decide +kernel
theorem dX12_splits_163 : decode cX12_splits 163 = .ok (.lload 8, 2) := by decide +kernel
theorem dX12_splits_165 : decode cX12_splits 165 = .ok (.lconst 0, 1) := by decide +kernel
theorem dX12_splits_166 : decode cX12_splits 166 = .ok (.lcmp, 1) := by decide +kernel
theorem dX12_splits_167 : decode cX12_splits 167 = .ok (.ifCond .le 56, 3) := by decide +kernel
theorem dX12_splits_170 : decode cX12_splits 170 = .ok (.aload_n 0, 1) := by decide +kernel
theorem dX12_splits_171 : decode cX12_splits 171 = .ok (.iload 4, 2) := by decide +kernel
theorem dX12_splits_173 : decode cX12_splits 173 = .ok (.iload 10, 2) := by decide +kernel
theorem dX12_splits_175 : decode cX12_splits 175 = .ok (.invokevirtual 227, 3) := by decide +kernel
theorem dX12_splits_178 : decode cX12_splits 178 = .ok (.lconst 0, 1) := by decide +kernel
theorem dX12_splits_179 : decode cX12_splits 179 = .ok (.lcmp, 1) := by decide +kernel
theorem dX12_splits_180 : decode cX12_splits 180 = .ok (.ifCond .le 7, 3) := by decide +kernel
theorem dX12_splits_183 : decode cX12_splits 183 = .ok (.lconst 1, 1) := by decide +kernel
theorem dX12_splits_184 : decode cX12_splits 184 = .ok (.goto 4, 3) := by decide +kernel
theorem dX12_splits_187 : decode cX12_splits 187 = .ok (.lconst 0, 1) := by decide +kernel
theorem dX12_splits_188 : decode cX12_splits 188 = .ok (.lstore 11, 2) := by decide +kernel
theorem dX12_splits_190 : decode cX12_splits 190 = .ok (.aload_n 0, 1) := by decide +kernel
theorem dX12_splits_191 : decode cX12_splits 191 = .ok (.getfield 54, 3) := by decide +kernel
theorem dX12_splits_194 : decode cX12_splits 194 = .ok (.bipush 8, 2) := by decide +kernel
theorem dX12_splits_196 : decode cX12_splits 196 = .ok (.aload_n 0, 1) := by decide +kernel
theorem dX12_splits_197 : decode cX12_splits 197 = .ok (.getfield 146, 3) := by decide +kernel
theorem dX12_splits_200 : decode cX12_splits 200 = .ok (.imul, 1) := by decide +kernel
theorem dX12_splits_201 : decode cX12_splits 201 = .ok (.iload 10, 2) := by decide +kernel
theorem dX12_splits_203 : decode cX12_splits 203 = .ok (.iadd, 1) := by decide +kernel
theorem dX12_splits_204 : decode cX12_splits 204 = .ok (.dup2, 1) := by decide +kernel
theorem dX12_splits_205 : decode cX12_splits 205 = .ok (.laload, 1) := by decide +kernel
theorem dX12_splits_206 : decode cX12_splits 206 = .ok (.lload 11, 2) := by decide +kernel
theorem dX12_splits_208 : decode cX12_splits 208 = .ok (.ladd, 1) := by decide +kernel
theorem dX12_splits_209 : decode cX12_splits 209 = .ok (.lastore, 1) := by decide +kernel
theorem dX12_splits_210 : decode cX12_splits 210 = .ok (.lload 8, 2) := by decide +kernel
theorem dX12_splits_212 : decode cX12_splits 212 = .ok (.lload 11, 2) := by decide +kernel
theorem dX12_splits_214 : decode cX12_splits 214 = .ok (.lsub, 1) := by decide +kernel
theorem dX12_splits_215 : decode cX12_splits 215 = .ok (.lstore 8, 2) := by decide +kernel
theorem dX12_splits_217 : decode cX12_splits 217 = .ok (.iinc 10 1, 3) := by decide +kernel
theorem dX12_splits_220 : decode cX12_splits 220 = .ok (.goto (-62), 3) := by decide +kernel
theorem dX12_splits_223 : decode cX12_splits 223 = .ok (.lload 8, 2) := by decide +kernel
theorem dX12_splits_225 : decode cX12_splits 225 = .ok (.lconst 0, 1) := by decide +kernel
theorem dX12_splits_226 : decode cX12_splits 226 = .ok (.lcmp, 1) := by decide +kernel
theorem dX12_splits_227 : decode cX12_splits 227 = .ok (.ifCond .le 105, 3) := by decide +kernel
theorem dX12_splits_230 : decode cX12_splits 230 = .ok (.iconst 0, 1) := by decide +kernel
theorem dX12_splits_231 : decode cX12_splits 231 = .ok (.istore 10, 2) := by decide +kernel
theorem dX12_splits_233 : decode cX12_splits 233 = .ok (.lconst 0, 1) := by decide +kernel
theorem dX12_splits_234 : decode cX12_splits 234 = .ok (.lstore 11, 2) := by decide +kernel
theorem dX12_splits_236 : decode cX12_splits 236 = .ok (.iconst 0, 1) := by decide +kernel
theorem dX12_splits_237 : decode cX12_splits 237 = .ok (.istore 13, 2) := by decide +kernel
theorem dX12_splits_239 : decode cX12_splits 239 = .ok (.iload 13, 2) := by decide +kernel
theorem dX12_splits_241 : decode cX12_splits 241 = .ok (.iload 5, 2) := by decide +kernel
theorem dX12_splits_243 : decode cX12_splits 243 = .ok (.if_icmp .ge 61, 3) := by decide +kernel
theorem dX12_splits_246 : decode cX12_splits 246 = .ok (.lload_n 1, 1) := by decide +kernel
theorem dX12_splits_247 : decode cX12_splits 247 = .ok (.aload_n 0, 1) := by decide +kernel
theorem dX12_splits_248 : decode cX12_splits 248 = .ok (.iload 4, 2) := by decide +kernel
theorem dX12_splits_250 : decode cX12_splits 250 = .ok (.iload 13, 2) := by decide +kernel
theorem dX12_splits_252 : decode cX12_splits 252 = .ok (.invokevirtual 227, 3) := by decide +kernel
theorem dX12_splits_255 : decode cX12_splits 255 = .ok (.lmul, 1) := by decide +kernel
theorem dX12_splits_256 : decode cX12_splits 256 = .ok (.aload_n 0, 1) := by decide +kernel
theorem dX12_splits_257 : decode cX12_splits 257 = .ok (.getfield 54, 3) := by decide +kernel
theorem dX12_splits_260 : decode cX12_splits 260 = .ok (.bipush 8, 2) := by decide +kernel
theorem dX12_splits_262 : decode cX12_splits 262 = .ok (.aload_n 0, 1) := by decide +kernel
theorem dX12_splits_263 : decode cX12_splits 263 = .ok (.getfield 146, 3) := by decide +kernel
theorem dX12_splits_266 : decode cX12_splits 266 = .ok (.imul, 1) := by decide +kernel
theorem dX12_splits_267 : decode cX12_splits 267 = .ok (.iload 13, 2) := by decide +kernel
theorem dX12_splits_269 : decode cX12_splits 269 = .ok (.iadd, 1) := by decide +kernel
theorem dX12_splits_270 : decode cX12_splits 270 = .ok (.laload, 1) := by decide +kernel
theorem dX12_splits_271 : decode cX12_splits 271 = .ok (.lload 6, 2) := by decide +kernel
theorem dX12_splits_273 : decode cX12_splits 273 = .ok (.lmul, 1) := by decide +kernel
theorem dX12_splits_274 : decode cX12_splits 274 = .ok (.lsub, 1) := by decide +kernel
theorem dX12_splits_275 : decode cX12_splits 275 = .ok (.lstore 14, 2) := by decide +kernel
theorem dX12_splits_277 : decode cX12_splits 277 = .ok (.iload 13, 2) := by decide +kernel
theorem dX12_splits_279 : decode cX12_splits 279 = .ok (.ifCond .eq 11, 3) := by decide +kernel
theorem dX12_splits_282 : decode cX12_splits 282 = .ok (.lload 14, 2) := by decide +kernel
theorem dX12_splits_284 : decode cX12_splits 284 = .ok (.lload 11, 2) := by decide +kernel
theorem dX12_splits_286 : decode cX12_splits 286 = .ok (.lcmp, 1) := by decide +kernel
theorem dX12_splits_287 : decode cX12_splits 287 = .ok (.ifCond .le 11, 3) := by decide +kernel
theorem dX12_splits_290 : decode cX12_splits 290 = .ok (.lload 14, 2) := by decide +kernel
theorem dX12_splits_292 : decode cX12_splits 292 = .ok (.lstore 11, 2) := by decide +kernel
theorem dX12_splits_294 : decode cX12_splits 294 = .ok (.iload 13, 2) := by decide +kernel
theorem dX12_splits_296 : decode cX12_splits 296 = .ok (.istore 10, 2) := by decide +kernel
theorem dX12_splits_298 : decode cX12_splits 298 = .ok (.iinc 13 1, 3) := by decide +kernel
theorem dX12_splits_301 : decode cX12_splits 301 = .ok (.goto (-62), 3) := by decide +kernel
theorem dX12_splits_304 : decode cX12_splits 304 = .ok (.aload_n 0, 1) := by decide +kernel
theorem dX12_splits_305 : decode cX12_splits 305 = .ok (.getfield 54, 3) := by decide +kernel
theorem dX12_splits_308 : decode cX12_splits 308 = .ok (.bipush 8, 2) := by decide +kernel
theorem dX12_splits_310 : decode cX12_splits 310 = .ok (.aload_n 0, 1) := by decide +kernel
theorem dX12_splits_311 : decode cX12_splits 311 = .ok (.getfield 146, 3) := by decide +kernel
theorem dX12_splits_314 : decode cX12_splits 314 = .ok (.imul, 1) := by decide +kernel
theorem dX12_splits_315 : decode cX12_splits 315 = .ok (.iload 10, 2) := by decide +kernel
theorem dX12_splits_317 : decode cX12_splits 317 = .ok (.iadd, 1) := by decide +kernel
theorem dX12_splits_318 : decode cX12_splits 318 = .ok (.dup2, 1) := by decide +kernel
theorem dX12_splits_319 : decode cX12_splits 319 = .ok (.laload, 1) := by decide +kernel
theorem dX12_splits_320 : decode cX12_splits 320 = .ok (.lconst 1, 1) := by decide +kernel
theorem dX12_splits_321 : decode cX12_splits 321 = .ok (.ladd, 1) := by decide +kernel
theorem dX12_splits_322 : decode cX12_splits 322 = .ok (.lastore, 1) := by decide +kernel
theorem dX12_splits_323 : decode cX12_splits 323 = .ok (.lload 8, 2) := by decide +kernel
theorem dX12_splits_325 : decode cX12_splits 325 = .ok (.lconst 1, 1) := by decide +kernel
theorem dX12_splits_326 : decode cX12_splits 326 = .ok (.lsub, 1) := by decide +kernel
theorem dX12_splits_327 : decode cX12_splits 327 = .ok (.lstore 8, 2) := by decide +kernel
theorem dX12_splits_329 : decode cX12_splits 329 = .ok (.goto (-106), 3) := by decide +kernel
theorem dX12_splits_332 : decode cX12_splits 332 = .ok (.return_, 1) := by decide +kernel
set_option maxRecDepth 20000 in
theorem ggX12_rates_X12_becomes : GoodIn wsX12_rates wsX12_becomes := goodIn_r _ [11, 12, 13, 14, 15, 3, 1, 5, 16, 17, 10, 18, 19, 20, 21, 22, 23, 24, 25, 26, 27, 28, 29, 30, 31, 32, 33, 34, 35, 36, 37, 38, 39, 40, 41, 42, 43, 44, 45, 46, 47, 48, 49, 50, 51, 52, 53, 54, 55, 56, 57, 58, 59, 60, 61, 62, 63, 64, 65, 66, 67, 68, 69, 70] (by decide +kernel) (by decide +kernel)
set_option maxRecDepth 20000 in
theorem gX12_rates_X12_becomes : GoodIn wsX12_rates (wsV RX12 201 RX12 yX12_becomes wsX12_becomes) := goodIn_app (goodIn_of _ (by decide +kernel)) ggX12_rates_X12_becomes
theorem dX12_rates_0 : decode cX12_rates 0 = .ok (.bipush 8, 2) := by decide +kernel
theorem dX12_rates_2 : decode cX12_rates 2 = .ok (.aload_n 0, 1) := by decide +kernel
theorem dX12_rates_3 : decode cX12_rates 3 = .ok (.getfield 146, 3) := by decide +kernel
theorem dX12_rates_6 : decode cX12_rates 6 = .ok (.imul, 1) := by decide +kernel
theorem dX12_rates_7 : decode cX12_rates 7 = .ok (.iload_n 2, 1) := by decide +kernel
theorem dX12_rates_8 : decode cX12_rates 8 = .ok (.iadd, 1) := by decide +kernel
theorem dX12_rates_9 : decode cX12_rates 9 = .ok (.istore 4, 2) := by decide +kernel
theorem dX12_rates_11 : decode cX12_rates 11 = .ok (.aload_n 0, 1) := by decide +kernel
theorem dX12_rates_12 : decode cX12_rates 12 = .ok (.getfield 69, 3) := by decide +kernel
theorem dX12_rates_15 : decode cX12_rates 15 = .ok (.iload 4, 2) := by decide +kernel
theorem dX12_rates_17 : decode cX12_rates 17 = .ok (.baload, 1) := by decide +kernel
theorem dX12_rates_18 : decode cX12_rates 18 = .ok (.istore 5, 2) := by decide +kernel
theorem dX12_rates_20 : decode cX12_rates 20 = .ok (.aload_n 0, 1) := by decide +kernel
theorem dX12_rates_21 : decode cX12_rates 21 = .ok (.iload_n 1, 1) := by decide +kernel
theorem dX12_rates_22 : decode cX12_rates 22 = .ok (.aload_n 0, 1) := by decide +kernel
theorem dX12_rates_23 : decode cX12_rates 23 = .ok (.getfield 47, 3) := by decide +kernel
theorem dX12_rates_26 : decode cX12_rates 26 = .ok (.iload 4, 2) := by decide +kernel
theorem dX12_rates_28 : decode cX12_rates 28 = .ok (.laload, 1) := by decide +kernel
theorem dX12_rates_29 : decode cX12_rates 29 = .ok (.aload_n 0, 1) := by decide +kernel
theorem dX12_rates_30 : decode cX12_rates 30 = .ok (.getfield 7, 3) := by decide +kernel
theorem dX12_rates_33 : decode cX12_rates 33 = .ok (.iload_n 3, 1) := by decide +kernel
theorem dX12_rates_34 : decode cX12_rates 34 = .ok (.iaload, 1) := by decide +kernel
theorem dX12_rates_35 : decode cX12_rates 35 = .ok (.i2l, 1) := by decide +kernel
theorem dX12_rates_36 : decode cX12_rates 36 = .ok (.lmul, 1) := by decide +kernel
theorem dX12_rates_37 : decode cX12_rates 37 = .ok (.aload_n 0, 1) := by decide +kernel
theorem dX12_rates_38 : decode cX12_rates 38 = .ok (.getfield 51, 3) := by decide +kernel
theorem dX12_rates_41 : decode cX12_rates 41 = .ok (.iload 4, 2) := by decide +kernel
theorem dX12_rates_43 : decode cX12_rates 43 = .ok (.laload, 1) := by decide +kernel
theorem dX12_rates_44 : decode cX12_rates 44 = .ok (.aload_n 0, 1) := by decide +kernel
theorem dX12_rates_45 : decode cX12_rates 45 = .ok (.getfield 13, 3) := by decide +kernel
theorem dX12_rates_48 : decode cX12_rates 48 = .ok (.iload_n 3, 1) := by decide +kernel
theorem dX12_rates_49 : decode cX12_rates 49 = .ok (.iaload, 1) := by decide +kernel
theorem dX12_rates_50 : decode cX12_rates 50 = .ok (.i2l, 1) := by decide +kernel
theorem dX12_rates_51 : decode cX12_rates 51 = .ok (.lmul, 1) := by decide +kernel
theorem dX12_rates_52 : decode cX12_rates 52 = .ok (.invokevirtual 201, 3) := by decide +kernel
theorem dX12_rates_55 : decode cX12_rates 55 = .ok (.ifCond .eq 19, 3) := by decide +kernel
theorem dX12_rates_58 : decode cX12_rates 58 = .ok (.aload_n 0, 1) := by decide +kernel
theorem dX12_rates_59 : decode cX12_rates 59 = .ok (.getfield 69, 3) := by decide +kernel
theorem dX12_rates_62 : decode cX12_rates 62 = .ok (.bipush 8, 2) := by decide +kernel
theorem dX12_rates_64 : decode cX12_rates 64 = .ok (.aload_n 0, 1) := by decide +kernel
theorem dX12_rates_65 : decode cX12_rates 65 = .ok (.getfield 146, 3) := by decide +kernel
theorem dX12_rates_68 : decode cX12_rates 68 = .ok (.imul, 1) := by decide +kernel
theorem dX12_rates_69 : decode cX12_rates 69 = .ok (.iload_n 1, 1) := by decide +kernel
theorem dX12_rates_70 : decode cX12_rates 70 = .ok (.iadd, 1) := by decide +kernel
theorem dX12_rates_71 : decode cX12_rates 71 = .ok (.iload 5, 2) := by decide +kernel
theorem dX12_rates_73 : decode cX12_rates 73 = .ok (.bastore, 1) := by decide +kernel
theorem dX12_rates_74 : decode cX12_rates 74 = .ok (.return_, 1) := by decide +kernel
set_option maxRecDepth 20000 in
theorem ggX12_adds_X12_becomes : GoodIn wsX12_adds wsX12_becomes := goodIn_r _ [9, 10, 11, 12, 13, 3, 1, 4, 14, 15, 8, 16, 17, 18, 19, 20, 21, 22, 23, 24, 25, 26, 27, 28, 29, 30, 31, 32, 33, 34, 35, 36, 37, 38, 39, 40, 41, 42, 43, 44, 45, 46, 47, 48, 49, 50, 51, 52, 53, 54, 55, 56, 57, 58, 59, 60, 61, 62, 63, 64, 65, 66, 67, 68] (by decide +kernel) (by decide +kernel)
set_option maxRecDepth 20000 in
theorem gX12_adds_X12_becomes : GoodIn wsX12_adds (wsV RX12 201 RX12 yX12_becomes wsX12_becomes) := goodIn_app (goodIn_of _ (by decide +kernel)) ggX12_adds_X12_becomes
theorem dX12_adds_0 : decode cX12_adds 0 = .ok (.bipush 8, 2) := by decide +kernel
theorem dX12_adds_2 : decode cX12_adds 2 = .ok (.aload_n 0, 1) := by decide +kernel
theorem dX12_adds_3 : decode cX12_adds 3 = .ok (.getfield 146, 3) := by decide +kernel
theorem dX12_adds_6 : decode cX12_adds 6 = .ok (.imul, 1) := by decide +kernel
theorem dX12_adds_7 : decode cX12_adds 7 = .ok (.iload_n 1, 1) := by decide +kernel
theorem dX12_adds_8 : decode cX12_adds 8 = .ok (.iadd, 1) := by decide +kernel
theorem dX12_adds_9 : decode cX12_adds 9 = .ok (.istore 4, 2) := by decide +kernel
theorem dX12_adds_11 : decode cX12_adds 11 = .ok (.bipush 8, 2) := by decide +kernel
theorem dX12_adds_13 : decode cX12_adds 13 = .ok (.aload_n 0, 1) := by decide +kernel
theorem dX12_adds_14 : decode cX12_adds 14 = .ok (.getfield 146, 3) := by decide +kernel
theorem dX12_adds_17 : decode cX12_adds 17 = .ok (.imul, 1) := by decide +kernel
theorem dX12_adds_18 : decode cX12_adds 18 = .ok (.iload_n 2, 1) := by decide +kernel
theorem dX12_adds_19 : decode cX12_adds 19 = .ok (.iadd, 1) := by decide +kernel
theorem dX12_adds_20 : decode cX12_adds 20 = .ok (.istore 5, 2) := by decide +kernel
theorem dX12_adds_22 : decode cX12_adds 22 = .ok (.aload_n 0, 1) := by decide +kernel
theorem dX12_adds_23 : decode cX12_adds 23 = .ok (.getfield 69, 3) := by decide +kernel
theorem dX12_adds_26 : decode cX12_adds 26 = .ok (.iload 4, 2) := by decide +kernel
theorem dX12_adds_28 : decode cX12_adds 28 = .ok (.baload, 1) := by decide +kernel
theorem dX12_adds_29 : decode cX12_adds 29 = .ok (.ifCond .ne 13, 3) := by decide +kernel
theorem dX12_adds_32 : decode cX12_adds 32 = .ok (.aload_n 0, 1) := by decide +kernel
theorem dX12_adds_33 : decode cX12_adds 33 = .ok (.getfield 69, 3) := by decide +kernel
theorem dX12_adds_36 : decode cX12_adds 36 = .ok (.iload 5, 2) := by decide +kernel
theorem dX12_adds_38 : decode cX12_adds 38 = .ok (.baload, 1) := by decide +kernel
theorem dX12_adds_39 : decode cX12_adds 39 = .ok (.ifCond .eq 7, 3) := by decide +kernel
theorem dX12_adds_42 : decode cX12_adds 42 = .ok (.iconst 1, 1) := by decide +kernel
theorem dX12_adds_43 : decode cX12_adds 43 = .ok (.goto 4, 3) := by decide +kernel
theorem dX12_adds_46 : decode cX12_adds 46 = .ok (.iconst 0, 1) := by decide +kernel
theorem dX12_adds_47 : decode cX12_adds 47 = .ok (.istore 6, 2) := by decide +kernel
theorem dX12_adds_49 : decode cX12_adds 49 = .ok (.aload_n 0, 1) := by decide +kernel
theorem dX12_adds_50 : decode cX12_adds 50 = .ok (.getfield 47, 3) := by decide +kernel
theorem dX12_adds_53 : decode cX12_adds 53 = .ok (.iload 5, 2) := by decide +kernel
theorem dX12_adds_55 : decode cX12_adds 55 = .ok (.laload, 1) := by decide +kernel
theorem dX12_adds_56 : decode cX12_adds 56 = .ok (.aload_n 0, 1) := by decide +kernel
theorem dX12_adds_57 : decode cX12_adds 57 = .ok (.getfield 51, 3) := by decide +kernel
theorem dX12_adds_60 : decode cX12_adds 60 = .ok (.iload 4, 2) := by decide +kernel
theorem dX12_adds_62 : decode cX12_adds 62 = .ok (.laload, 1) := by decide +kernel
theorem dX12_adds_63 : decode cX12_adds 63 = .ok (.lmul, 1) := by decide +kernel
theorem dX12_adds_64 : decode cX12_adds 64 = .ok (.lstore 7, 2) := by decide +kernel
theorem dX12_adds_66 : decode cX12_adds 66 = .ok (.aload_n 0, 1) := by decide +kernel
theorem dX12_adds_67 : decode cX12_adds 67 = .ok (.iload_n 1, 1) := by decide +kernel
theorem dX12_adds_68 : decode cX12_adds 68 = .ok (.aload_n 0, 1) := by decide +kernel
theorem dX12_adds_69 : decode cX12_adds 69 = .ok (.getfield 47, 3) := by decide +kernel
theorem dX12_adds_72 : decode cX12_adds 72 = .ok (.iload 4, 2) := by decide +kernel
theorem dX12_adds_74 : decode cX12_adds 74 = .ok (.laload, 1) := by decide +kernel
theorem dX12_adds_75 : decode cX12_adds 75 = .ok (.aload_n 0, 1) := by decide +kernel
theorem dX12_adds_76 : decode cX12_adds 76 = .ok (.getfield 51, 3) := by decide +kernel
theorem dX12_adds_79 : decode cX12_adds 79 = .ok (.iload 5, 2) := by decide +kernel
theorem dX12_adds_81 : decode cX12_adds 81 = .ok (.laload, 1) := by decide +kernel
theorem dX12_adds_82 : decode cX12_adds 82 = .ok (.lmul, 1) := by decide +kernel
theorem dX12_adds_83 : decode cX12_adds 83 = .ok (.iload_n 3, 1) := by decide +kernel
theorem dX12_adds_84 : decode cX12_adds 84 = .ok (.ifCond .ne 8, 3) := by decide +kernel
theorem dX12_adds_87 : decode cX12_adds 87 = .ok (.lload 7, 2) := by decide +kernel
theorem dX12_adds_89 : decode cX12_adds 89 = .ok (.goto 6, 3) := by decide +kernel
theorem dX12_adds_92 : decode cX12_adds 92 = .ok (.lload 7, 2) := by decide +kernel
theorem dX12_adds_94 : decode cX12_adds 94 = .ok (.lneg, 1) := by decide +kernel
theorem dX12_adds_95 : decode cX12_adds 95 = .ok (.ladd, 1) := by decide +kernel
theorem dX12_adds_96 : decode cX12_adds 96 = .ok (.aload_n 0, 1) := by decide +kernel
theorem dX12_adds_97 : decode cX12_adds 97 = .ok (.getfield 51, 3) := by decide +kernel
theorem dX12_adds_100 : decode cX12_adds 100 = .ok (.iload 4, 2) := by decide +kernel
theorem dX12_adds_102 : decode cX12_adds 102 = .ok (.laload, 1) := by decide +kernel
theorem dX12_adds_103 : decode cX12_adds 103 = .ok (.aload_n 0, 1) := by decide +kernel
theorem dX12_adds_104 : decode cX12_adds 104 = .ok (.getfield 51, 3) := by decide +kernel
theorem dX12_adds_107 : decode cX12_adds 107 = .ok (.iload 5, 2) := by decide +kernel
theorem dX12_adds_109 : decode cX12_adds 109 = .ok (.laload, 1) := by decide +kernel
theorem dX12_adds_110 : decode cX12_adds 110 = .ok (.lmul, 1) := by decide +kernel
theorem dX12_adds_111 : decode cX12_adds 111 = .ok (.invokevirtual 201, 3) := by decide +kernel
theorem dX12_adds_114 : decode cX12_adds 114 = .ok (.ifCond .eq 12, 3) := by decide +kernel
theorem dX12_adds_117 : decode cX12_adds 117 = .ok (.aload_n 0, 1) := by decide +kernel
theorem dX12_adds_118 : decode cX12_adds 118 = .ok (.getfield 69, 3) := by decide +kernel
theorem dX12_adds_121 : decode cX12_adds 121 = .ok (.iload 4, 2) := by decide +kernel
theorem dX12_adds_123 : decode cX12_adds 123 = .ok (.iload 6, 2) := by decide +kernel
theorem dX12_adds_125 : decode cX12_adds 125 = .ok (.bastore, 1) := by decide +kernel
theorem dX12_adds_126 : decode cX12_adds 126 = .ok (.return_, 1) := by decide +kernel
set_option maxRecDepth 20000 in
theorem ggX12_carries_X12_becomes : GoodIn wsX12_carries wsX12_becomes := goodIn_r _ [10, 11, 12, 13, 14, 4, 1, 3, 15, 16, 9, 17, 25, 26, 27, 28, 29, 30, 31, 32, 33, 34, 35, 36, 37, 38, 39, 40, 41, 42, 43, 44, 45, 46, 47, 48, 49, 50, 51, 52, 53, 54, 55, 56, 57, 58, 59, 60, 61, 62, 63, 64, 65, 66, 67, 68, 69, 70, 71, 72, 73, 74, 75, 76] (by decide +kernel) (by decide +kernel)
set_option maxRecDepth 20000 in
theorem gX12_carries_X12_becomes : GoodIn wsX12_carries (wsV RX12 201 RX12 yX12_becomes wsX12_becomes) := goodIn_app (goodIn_of _ (by decide +kernel)) ggX12_carries_X12_becomes
set_option maxRecDepth 20000 in
theorem ggX12_carries_X12_floor : GoodIn wsX12_carries wsX12_floor := goodIn_r _ [20] (by decide +kernel) (by decide +kernel)
set_option maxRecDepth 20000 in
theorem gX12_carries_X12_floor : GoodIn wsX12_carries (va_wsS RX12 183 yX12_floor wsX12_floor) := goodIn_app (goodIn_of _ (by decide +kernel)) ggX12_carries_X12_floor
set_option maxRecDepth 20000 in
theorem ggX12_carries_X12_becomesWhole : GoodIn wsX12_carries wsX12_becomesWhole := goodIn_r _ [24, 6, 7, 8, 9, 10, 11, 12, 13, 14, 4, 1, 3, 15, 16, 17, 25, 26, 27, 28, 29, 30, 31, 32, 33, 34, 35, 36, 37, 38, 39, 40, 41, 42, 43, 44, 45, 46, 47, 48, 49, 50, 51, 52, 53, 54, 55, 56, 57, 58, 59, 60, 61, 62, 63, 64, 65, 66, 67, 68, 69, 70, 71, 72, 73, 74, 75, 76] (by decide +kernel) (by decide +kernel)
set_option maxRecDepth 20000 in
theorem gX12_carries_X12_becomesWhole : GoodIn wsX12_carries (wsV RX12 205 RX12 yX12_becomesWhole wsX12_becomesWhole) := goodIn_app (goodIn_of _ (by decide +kernel)) ggX12_carries_X12_becomesWhole
set_option maxRecDepth 20000 in
theorem ggX12_carries_X12_common : GoodIn wsX12_carries wsX12_common := goodIn_r _ [17] (by decide +kernel) (by decide +kernel)
set_option maxRecDepth 20000 in
theorem gX12_carries_X12_common : GoodIn wsX12_carries (va_wsS RX12 189 yX12_common wsX12_common) := goodIn_app (goodIn_of _ (by decide +kernel)) ggX12_carries_X12_common
theorem dX12_carries_0 : decode cX12_carries 0 = .ok (.bipush 8, 2) := by decide +kernel
theorem dX12_carries_2 : decode cX12_carries 2 = .ok (.aload_n 0, 1) := by decide +kernel
theorem dX12_carries_3 : decode cX12_carries 3 = .ok (.getfield 146, 3) := by decide +kernel
theorem dX12_carries_6 : decode cX12_carries 6 = .ok (.imul, 1) := by decide +kernel
theorem dX12_carries_7 : decode cX12_carries 7 = .ok (.iload_n 1, 1) := by decide +kernel
theorem dX12_carries_8 : decode cX12_carries 8 = .ok (.iadd, 1) := by decide +kernel
theorem dX12_carries_9 : decode cX12_carries 9 = .ok (.istore_n 3, 1) := by decide +kernel
theorem dX12_carries_10 : decode cX12_carries 10 = .ok (.iconst 4, 1) := by decide +kernel
theorem dX12_carries_11 : decode cX12_carries 11 = .ok (.aload_n 0, 1) := by decide +kernel
theorem dX12_carries_12 : decode cX12_carries 12 = .ok (.getfield 146, 3) := by decide +kernel
theorem dX12_carries_15 : decode cX12_carries 15 = .ok (.imul, 1) := by decide +kernel
theorem dX12_carries_16 : decode cX12_carries 16 = .ok (.iload_n 2, 1) := by decide +kernel
theorem dX12_carries_17 : decode cX12_carries 17 = .ok (.iadd, 1) := by decide +kernel
theorem dX12_carries_18 : decode cX12_carries 18 = .ok (.istore 4, 2) := by decide +kernel
theorem dX12_carries_20 : decode cX12_carries 20 = .ok (.aload_n 0, 1) := by decide +kernel
theorem dX12_carries_21 : decode cX12_carries 21 = .ok (.getfield 63, 3) := by decide +kernel
theorem dX12_carries_24 : decode cX12_carries 24 = .ok (.iload 4, 2) := by decide +kernel
theorem dX12_carries_26 : decode cX12_carries 26 = .ok (.laload, 1) := by decide +kernel
theorem dX12_carries_27 : decode cX12_carries 27 = .ok (.aload_n 0, 1) := by decide +kernel
theorem dX12_carries_28 : decode cX12_carries 28 = .ok (.getfield 51, 3) := by decide +kernel
theorem dX12_carries_31 : decode cX12_carries 31 = .ok (.iload_n 3, 1) := by decide +kernel
theorem dX12_carries_32 : decode cX12_carries 32 = .ok (.laload, 1) := by decide +kernel
theorem dX12_carries_33 : decode cX12_carries 33 = .ok (.lmul, 1) := by decide +kernel
theorem dX12_carries_34 : decode cX12_carries 34 = .ok (.aload_n 0, 1) := by decide +kernel
theorem dX12_carries_35 : decode cX12_carries 35 = .ok (.getfield 47, 3) := by decide +kernel
theorem dX12_carries_38 : decode cX12_carries 38 = .ok (.iload_n 3, 1) := by decide +kernel
theorem dX12_carries_39 : decode cX12_carries 39 = .ok (.laload, 1) := by decide +kernel
theorem dX12_carries_40 : decode cX12_carries 40 = .ok (.aload_n 0, 1) := by decide +kernel
theorem dX12_carries_41 : decode cX12_carries 41 = .ok (.getfield 66, 3) := by decide +kernel
theorem dX12_carries_44 : decode cX12_carries 44 = .ok (.iload 4, 2) := by decide +kernel
theorem dX12_carries_46 : decode cX12_carries 46 = .ok (.laload, 1) := by decide +kernel
theorem dX12_carries_47 : decode cX12_carries 47 = .ok (.lmul, 1) := by decide +kernel
theorem dX12_carries_48 : decode cX12_carries 48 = .ok (.ladd, 1) := by decide +kernel
theorem dX12_carries_49 : decode cX12_carries 49 = .ok (.lstore 5, 2) := by decide +kernel
theorem dX12_carries_51 : decode cX12_carries 51 = .ok (.aload_n 0, 1) := by decide +kernel
theorem dX12_carries_52 : decode cX12_carries 52 = .ok (.getfield 66, 3) := by decide +kernel
theorem dX12_carries_55 : decode cX12_carries 55 = .ok (.iload 4, 2) := by decide +kernel
theorem dX12_carries_57 : decode cX12_carries 57 = .ok (.laload, 1) := by decide +kernel
theorem dX12_carries_58 : decode cX12_carries 58 = .ok (.aload_n 0, 1) := by decide +kernel
theorem dX12_carries_59 : decode cX12_carries 59 = .ok (.getfield 51, 3) := by decide +kernel
theorem dX12_carries_62 : decode cX12_carries 62 = .ok (.iload_n 3, 1) := by decide +kernel
theorem dX12_carries_63 : decode cX12_carries 63 = .ok (.laload, 1) := by decide +kernel
theorem dX12_carries_64 : decode cX12_carries 64 = .ok (.lmul, 1) := by decide +kernel
theorem dX12_carries_65 : decode cX12_carries 65 = .ok (.lstore 7, 2) := by decide +kernel
theorem dX12_carries_67 : decode cX12_carries 67 = .ok (.aload_n 0, 1) := by decide +kernel
theorem dX12_carries_68 : decode cX12_carries 68 = .ok (.getfield 47, 3) := by decide +kernel
theorem dX12_carries_71 : decode cX12_carries 71 = .ok (.iload_n 3, 1) := by decide +kernel
theorem dX12_carries_72 : decode cX12_carries 72 = .ok (.laload, 1) := by decide +kernel
theorem dX12_carries_73 : decode cX12_carries 73 = .ok (.lstore 9, 2) := by decide +kernel
theorem dX12_carries_75 : decode cX12_carries 75 = .ok (.aload_n 0, 1) := by decide +kernel
theorem dX12_carries_76 : decode cX12_carries 76 = .ok (.getfield 51, 3) := by decide +kernel
theorem dX12_carries_79 : decode cX12_carries 79 = .ok (.iload_n 3, 1) := by decide +kernel
theorem dX12_carries_80 : decode cX12_carries 80 = .ok (.laload, 1) := by decide +kernel
theorem dX12_carries_81 : decode cX12_carries 81 = .ok (.lstore 11, 2) := by decide +kernel
theorem dX12_carries_83 : decode cX12_carries 83 = .ok (.aload_n 0, 1) := by decide +kernel
theorem dX12_carries_84 : decode cX12_carries 84 = .ok (.iload_n 1, 1) := by decide +kernel
theorem dX12_carries_85 : decode cX12_carries 85 = .ok (.lload 5, 2) := by decide +kernel
theorem dX12_carries_87 : decode cX12_carries 87 = .ok (.lload 7, 2) := by decide +kernel
theorem dX12_carries_89 : decode cX12_carries 89 = .ok (.invokevirtual 201, 3) := by decide +kernel
theorem dX12_carries_92 : decode cX12_carries 92 = .ok (.ifCond .ne 4, 3) := by decide +kernel
theorem dX12_carries_95 : decode cX12_carries 95 = .ok (.return_, 1) := by decide +kernel
theorem dX12_carries_96 : decode cX12_carries 96 = .ok (.aload_n 0, 1) := by decide +kernel
theorem dX12_carries_97 : decode cX12_carries 97 = .ok (.getfield 47, 3) := by decide +kernel
theorem dX12_carries_100 : decode cX12_carries 100 = .ok (.iload_n 3, 1) := by decide +kernel
theorem dX12_carries_101 : decode cX12_carries 101 = .ok (.laload, 1) := by decide +kernel
theorem dX12_carries_102 : decode cX12_carries 102 = .ok (.aload_n 0, 1) := by decide +kernel
theorem dX12_carries_103 : decode cX12_carries 103 = .ok (.getfield 51, 3) := by decide +kernel
theorem dX12_carries_106 : decode cX12_carries 106 = .ok (.iload_n 3, 1) := by decide +kernel
theorem dX12_carries_107 : decode cX12_carries 107 = .ok (.laload, 1) := by decide +kernel
theorem dX12_carries_108 : decode cX12_carries 108 = .ok (.invokestatic 183, 3) := by decide +kernel
theorem dX12_carries_111 : decode cX12_carries 111 = .ok (.lstore 13, 2) := by decide +kernel
theorem dX12_carries_113 : decode cX12_carries 113 = .ok (.aload_n 0, 1) := by decide +kernel
theorem dX12_carries_114 : decode cX12_carries 114 = .ok (.getfield 47, 3) := by decide +kernel
theorem dX12_carries_117 : decode cX12_carries 117 = .ok (.iload_n 3, 1) := by decide +kernel
theorem dX12_carries_118 : decode cX12_carries 118 = .ok (.laload, 1) := by decide +kernel
theorem dX12_carries_119 : decode cX12_carries 119 = .ok (.lload 13, 2) := by decide +kernel
theorem dX12_carries_121 : decode cX12_carries 121 = .ok (.aload_n 0, 1) := by decide +kernel
theorem dX12_carries_122 : decode cX12_carries 122 = .ok (.getfield 51, 3) := by decide +kernel
theorem dX12_carries_125 : decode cX12_carries 125 = .ok (.iload_n 3, 1) := by decide +kernel
theorem dX12_carries_126 : decode cX12_carries 126 = .ok (.laload, 1) := by decide +kernel
theorem dX12_carries_127 : decode cX12_carries 127 = .ok (.lmul, 1) := by decide +kernel
theorem dX12_carries_128 : decode cX12_carries 128 = .ok (.lsub, 1) := by decide +kernel
theorem dX12_carries_129 : decode cX12_carries 129 = .ok (.lstore 15, 2) := by decide +kernel
theorem dX12_carries_131 : decode cX12_carries 131 = .ok (.aload_n 0, 1) := by decide +kernel
theorem dX12_carries_132 : decode cX12_carries 132 = .ok (.getfield 51, 3) := by decide +kernel
theorem dX12_carries_135 : decode cX12_carries 135 = .ok (.iload_n 3, 1) := by decide +kernel
theorem dX12_carries_136 : decode cX12_carries 136 = .ok (.laload, 1) := by decide +kernel
theorem dX12_carries_137 : decode cX12_carries 137 = .ok (.lstore 17, 2) := by decide +kernel
theorem dX12_carries_139 : decode cX12_carries 139 = .ok (.aload_n 0, 1) := by decide +kernel
theorem dX12_carries_140 : decode cX12_carries 140 = .ok (.iload_n 1, 1) := by decide +kernel
theorem dX12_carries_141 : decode cX12_carries 141 = .ok (.lload 13, 2) := by decide +kernel
theorem dX12_carries_143 : decode cX12_carries 143 = .ok (.invokevirtual 205, 3) := by decide +kernel
theorem dX12_carries_146 : decode cX12_carries 146 = .ok (.ifCond .ne 20, 3) := by decide +kernel
theorem dX12_carries_149 : decode cX12_carries 149 = .ok (.aload_n 0, 1) := by decide +kernel
theorem dX12_carries_150 : decode cX12_carries 150 = .ok (.getfield 47, 3) := by decide +kernel
theorem dX12_carries_153 : decode cX12_carries 153 = .ok (.iload_n 3, 1) := by decide +kernel
theorem dX12_carries_154 : decode cX12_carries 154 = .ok (.lload 9, 2) := by decide +kernel
theorem dX12_carries_156 : decode cX12_carries 156 = .ok (.lastore, 1) := by decide +kernel
theorem dX12_carries_157 : decode cX12_carries 157 = .ok (.aload_n 0, 1) := by decide +kernel
theorem dX12_carries_158 : decode cX12_carries 158 = .ok (.getfield 51, 3) := by decide +kernel
theorem dX12_carries_161 : decode cX12_carries 161 = .ok (.iload_n 3, 1) := by decide +kernel
theorem dX12_carries_162 : decode cX12_carries 162 = .ok (.lload 11, 2) := by decide +kernel
theorem dX12_carries_164 : decode cX12_carries 164 = .ok (.lastore, 1) := by decide +kernel
theorem dX12_carries_165 : decode cX12_carries 165 = .ok (.return_, 1) := by decide +kernel
theorem dX12_carries_166 : decode cX12_carries 166 = .ok (.lload 15, 2) := by decide +kernel
theorem dX12_carries_168 : decode cX12_carries 168 = .ok (.lload 17, 2) := by decide +kernel
theorem dX12_carries_170 : decode cX12_carries 170 = .ok (.invokestatic 189, 3) := by decide +kernel
theorem dX12_carries_173 : decode cX12_carries 173 = .ok (.lstore 19, 2) := by decide +kernel
theorem dX12_carries_175 : decode cX12_carries 175 = .ok (.aload_n 0, 1) := by decide +kernel
theorem dX12_carries_176 : decode cX12_carries 176 = .ok (.getfield 63, 3) := by decide +kernel
theorem dX12_carries_179 : decode cX12_carries 179 = .ok (.iload 4, 2) := by decide +kernel
theorem dX12_carries_181 : decode cX12_carries 181 = .ok (.lload 15, 2) := by decide +kernel
theorem dX12_carries_183 : decode cX12_carries 183 = .ok (.lload 19, 2) := by decide +kernel
theorem dX12_carries_185 : decode cX12_carries 185 = .ok (.ldiv, 1) := by decide +kernel
theorem dX12_carries_186 : decode cX12_carries 186 = .ok (.lastore, 1) := by decide +kernel
theorem dX12_carries_187 : decode cX12_carries 187 = .ok (.aload_n 0, 1) := by decide +kernel
theorem dX12_carries_188 : decode cX12_carries 188 = .ok (.getfield 66, 3) := by decide +kernel
theorem dX12_carries_191 : decode cX12_carries 191 = .ok (.iload 4, 2) := by decide +kernel
theorem dX12_carries_193 : decode cX12_carries 193 = .ok (.lload 17, 2) := by decide +kernel
theorem dX12_carries_195 : decode cX12_carries 195 = .ok (.lload 19, 2) := by decide +kernel
theorem dX12_carries_197 : decode cX12_carries 197 = .ok (.ldiv, 1) := by decide +kernel
theorem dX12_carries_198 : decode cX12_carries 198 = .ok (.lastore, 1) := by decide +kernel
theorem dX12_carries_199 : decode cX12_carries 199 = .ok (.return_, 1) := by decide +kernel
theorem dX12_books_0 : decode cX12_books 0 = .ok (.bipush 8, 2) := by decide +kernel
theorem dX12_books_2 : decode cX12_books 2 = .ok (.aload_n 0, 1) := by decide +kernel
theorem dX12_books_3 : decode cX12_books 3 = .ok (.getfield 146, 3) := by decide +kernel
theorem dX12_books_6 : decode cX12_books 6 = .ok (.imul, 1) := by decide +kernel
theorem dX12_books_7 : decode cX12_books 7 = .ok (.iload_n 1, 1) := by decide +kernel
theorem dX12_books_8 : decode cX12_books 8 = .ok (.iadd, 1) := by decide +kernel
theorem dX12_books_9 : decode cX12_books 9 = .ok (.istore 4, 2) := by decide +kernel
theorem dX12_books_11 : decode cX12_books 11 = .ok (.aload_n 0, 1) := by decide +kernel
theorem dX12_books_12 : decode cX12_books 12 = .ok (.getfield 51, 3) := by decide +kernel
theorem dX12_books_15 : decode cX12_books 15 = .ok (.iload 4, 2) := by decide +kernel
theorem dX12_books_17 : decode cX12_books 17 = .ok (.laload, 1) := by decide +kernel
theorem dX12_books_18 : decode cX12_books 18 = .ok (.lconst 1, 1) := by decide +kernel
theorem dX12_books_19 : decode cX12_books 19 = .ok (.lcmp, 1) := by decide +kernel
theorem dX12_books_20 : decode cX12_books 20 = .ok (.ifCond .eq 10, 3) := by decide +kernel
theorem dX12_books_23 : decode cX12_books 23 = .ok (.aload_n 0, 1) := by decide +kernel
theorem dX12_books_24 : decode cX12_books 24 = .ok (.bipush (-5), 2) := by decide +kernel
theorem dX12_books_26 : decode cX12_books 26 = .ok (.putfield 198, 3) := by decide +kernel
theorem dX12_books_29 : decode cX12_books 29 = .ok (.return_, 1) := by decide +kernel
theorem dX12_books_30 : decode cX12_books 30 = .ok (.aload_n 0, 1) := by decide +kernel
theorem dX12_books_31 : decode cX12_books 31 = .ok (.getfield 60, 3) := by decide +kernel
theorem dX12_books_34 : decode cX12_books 34 = .ok (.bipush 8, 2) := by decide +kernel
theorem dX12_books_36 : decode cX12_books 36 = .ok (.aload_n 0, 1) := by decide +kernel
theorem dX12_books_37 : decode cX12_books 37 = .ok (.getfield 146, 3) := by decide +kernel
theorem dX12_books_40 : decode cX12_books 40 = .ok (.imul, 1) := by decide +kernel
theorem dX12_books_41 : decode cX12_books 41 = .ok (.iload_n 2, 1) := by decide +kernel
theorem dX12_books_42 : decode cX12_books 42 = .ok (.iadd, 1) := by decide +kernel
theorem dX12_books_43 : decode cX12_books 43 = .ok (.dup2, 1) := by decide +kernel
theorem dX12_books_44 : decode cX12_books 44 = .ok (.laload, 1) := by decide +kernel
theorem dX12_books_45 : decode cX12_books 45 = .ok (.iload_n 3, 1) := by decide +kernel
theorem dX12_books_46 : decode cX12_books 46 = .ok (.ifCond .ne 13, 3) := by decide +kernel
theorem dX12_books_49 : decode cX12_books 49 = .ok (.aload_n 0, 1) := by decide +kernel
theorem dX12_books_50 : decode cX12_books 50 = .ok (.getfield 47, 3) := by decide +kernel
theorem dX12_books_53 : decode cX12_books 53 = .ok (.iload 4, 2) := by decide +kernel
theorem dX12_books_55 : decode cX12_books 55 = .ok (.laload, 1) := by decide +kernel
theorem dX12_books_56 : decode cX12_books 56 = .ok (.goto 11, 3) := by decide +kernel
theorem dX12_books_59 : decode cX12_books 59 = .ok (.aload_n 0, 1) := by decide +kernel
theorem dX12_books_60 : decode cX12_books 60 = .ok (.getfield 47, 3) := by decide +kernel
theorem dX12_books_63 : decode cX12_books 63 = .ok (.iload 4, 2) := by decide +kernel
theorem dX12_books_65 : decode cX12_books 65 = .ok (.laload, 1) := by decide +kernel
theorem dX12_books_66 : decode cX12_books 66 = .ok (.lneg, 1) := by decide +kernel
theorem dX12_books_67 : decode cX12_books 67 = .ok (.ladd, 1) := by decide +kernel
theorem dX12_books_68 : decode cX12_books 68 = .ok (.lastore, 1) := by decide +kernel
theorem dX12_books_69 : decode cX12_books 69 = .ok (.aload_n 0, 1) := by decide +kernel
theorem dX12_books_70 : decode cX12_books 70 = .ok (.dup, 1) := by decide +kernel
theorem dX12_books_71 : decode cX12_books 71 = .ok (.getfield 235, 3) := by decide +kernel
theorem dX12_books_74 : decode cX12_books 74 = .ok (.aload_n 0, 1) := by decide +kernel
theorem dX12_books_75 : decode cX12_books 75 = .ok (.getfield 69, 3) := by decide +kernel
theorem dX12_books_78 : decode cX12_books 78 = .ok (.iload 4, 2) := by decide +kernel
theorem dX12_books_80 : decode cX12_books 80 = .ok (.baload, 1) := by decide +kernel
theorem dX12_books_81 : decode cX12_books 81 = .ok (.ifCond .eq 7, 3) := by decide +kernel
theorem dX12_books_84 : decode cX12_books 84 = .ok (.iconst 1, 1) := by decide +kernel
theorem dX12_books_85 : decode cX12_books 85 = .ok (.goto 4, 3) := by decide +kernel
theorem dX12_books_88 : decode cX12_books 88 = .ok (.iconst 0, 1) := by decide +kernel
theorem dX12_books_89 : decode cX12_books 89 = .ok (.iadd, 1) := by decide +kernel
theorem dX12_books_90 : decode cX12_books 90 = .ok (.putfield 235, 3) := by decide +kernel
theorem dX12_books_93 : decode cX12_books 93 = .ok (.return_, 1) := by decide +kernel
theorem dX12_caps_0 : decode cX12_caps 0 = .ok (.bipush 8, 2) := by decide +kernel
theorem dX12_caps_2 : decode cX12_caps 2 = .ok (.aload_n 0, 1) := by decide +kernel
theorem dX12_caps_3 : decode cX12_caps 3 = .ok (.getfield 146, 3) := by decide +kernel
theorem dX12_caps_6 : decode cX12_caps 6 = .ok (.imul, 1) := by decide +kernel
theorem dX12_caps_7 : decode cX12_caps 7 = .ok (.iload_n 1, 1) := by decide +kernel
theorem dX12_caps_8 : decode cX12_caps 8 = .ok (.iadd, 1) := by decide +kernel
theorem dX12_caps_9 : decode cX12_caps 9 = .ok (.istore 5, 2) := by decide +kernel
theorem dX12_caps_11 : decode cX12_caps 11 = .ok (.iload_n 2, 1) := by decide +kernel
theorem dX12_caps_12 : decode cX12_caps 12 = .ok (.ifCond .ne 31, 3) := by decide +kernel
theorem dX12_caps_15 : decode cX12_caps 15 = .ok (.aload_n 0, 1) := by decide +kernel
theorem dX12_caps_16 : decode cX12_caps 16 = .ok (.getfield 47, 3) := by decide +kernel
theorem dX12_caps_19 : decode cX12_caps 19 = .ok (.iload 5, 2) := by decide +kernel
theorem dX12_caps_21 : decode cX12_caps 21 = .ok (.laload, 1) := by decide +kernel
theorem dX12_caps_22 : decode cX12_caps 22 = .ok (.lload_n 3, 1) := by decide +kernel
theorem dX12_caps_23 : decode cX12_caps 23 = .ok (.aload_n 0, 1) := by decide +kernel
theorem dX12_caps_24 : decode cX12_caps 24 = .ok (.getfield 51, 3) := by decide +kernel
theorem dX12_caps_27 : decode cX12_caps 27 = .ok (.iload 5, 2) := by decide +kernel
theorem dX12_caps_29 : decode cX12_caps 29 = .ok (.laload, 1) := by decide +kernel
theorem dX12_caps_30 : decode cX12_caps 30 = .ok (.lmul, 1) := by decide +kernel
theorem dX12_caps_31 : decode cX12_caps 31 = .ok (.lcmp, 1) := by decide +kernel
theorem dX12_caps_32 : decode cX12_caps 32 = .ok (.ifCond .le 7, 3) := by decide +kernel
theorem dX12_caps_35 : decode cX12_caps 35 = .ok (.iconst 1, 1) := by decide +kernel
theorem dX12_caps_36 : decode cX12_caps 36 = .ok (.goto 32, 3) := by decide +kernel
theorem dX12_caps_39 : decode cX12_caps 39 = .ok (.iconst 0, 1) := by decide +kernel
theorem dX12_caps_40 : decode cX12_caps 40 = .ok (.goto 28, 3) := by decide +kernel
theorem dX12_caps_43 : decode cX12_caps 43 = .ok (.aload_n 0, 1) := by decide +kernel
theorem dX12_caps_44 : decode cX12_caps 44 = .ok (.getfield 47, 3) := by decide +kernel
theorem dX12_caps_47 : decode cX12_caps 47 = .ok (.iload 5, 2) := by decide +kernel
theorem dX12_caps_49 : decode cX12_caps 49 = .ok (.laload, 1) := by decide +kernel
theorem dX12_caps_50 : decode cX12_caps 50 = .ok (.lload_n 3, 1) := by decide +kernel
theorem dX12_caps_51 : decode cX12_caps 51 = .ok (.aload_n 0, 1) := by decide +kernel
theorem dX12_caps_52 : decode cX12_caps 52 = .ok (.getfield 51, 3) := by decide +kernel
theorem dX12_caps_55 : decode cX12_caps 55 = .ok (.iload 5, 2) := by decide +kernel
theorem dX12_caps_57 : decode cX12_caps 57 = .ok (.laload, 1) := by decide +kernel
theorem dX12_caps_58 : decode cX12_caps 58 = .ok (.lmul, 1) := by decide +kernel
theorem dX12_caps_59 : decode cX12_caps 59 = .ok (.lcmp, 1) := by decide +kernel
theorem dX12_caps_60 : decode cX12_caps 60 = .ok (.ifCond .ge 7, 3) := by decide +kernel
theorem dX12_caps_63 : decode cX12_caps 63 = .ok (.iconst 1, 1) := by decide +kernel
theorem dX12_caps_64 : decode cX12_caps 64 = .ok (.goto 4, 3) := by decide +kernel
theorem dX12_caps_67 : decode cX12_caps 67 = .ok (.iconst 0, 1) := by decide +kernel
theorem dX12_caps_68 : decode cX12_caps 68 = .ok (.istore 6, 2) := by decide +kernel
theorem dX12_caps_70 : decode cX12_caps 70 = .ok (.iload 6, 2) := by decide +kernel
theorem dX12_caps_72 : decode cX12_caps 72 = .ok (.ifCond .eq 19, 3) := by decide +kernel
theorem dX12_caps_75 : decode cX12_caps 75 = .ok (.aload_n 0, 1) := by decide +kernel
theorem dX12_caps_76 : decode cX12_caps 76 = .ok (.getfield 47, 3) := by decide +kernel
theorem dX12_caps_79 : decode cX12_caps 79 = .ok (.iload 5, 2) := by decide +kernel
theorem dX12_caps_81 : decode cX12_caps 81 = .ok (.lload_n 3, 1) := by decide +kernel
theorem dX12_caps_82 : decode cX12_caps 82 = .ok (.lastore, 1) := by decide +kernel
theorem dX12_caps_83 : decode cX12_caps 83 = .ok (.aload_n 0, 1) := by decide +kernel
theorem dX12_caps_84 : decode cX12_caps 84 = .ok (.getfield 51, 3) := by decide +kernel
theorem dX12_caps_87 : decode cX12_caps 87 = .ok (.iload 5, 2) := by decide +kernel
theorem dX12_caps_89 : decode cX12_caps 89 = .ok (.lconst 1, 1) := by decide +kernel
theorem dX12_caps_90 : decode cX12_caps 90 = .ok (.lastore, 1) := by decide +kernel
theorem dX12_caps_91 : decode cX12_caps 91 = .ok (.return_, 1) := by decide +kernel
set_option maxRecDepth 20000 in
theorem ggX12_days_X12_times : GoodIn wsX12_days wsX12_times := goodIn_r _ [10, 11, 12, 13, 9, 14] (by decide +kernel) (by decide +kernel)
set_option maxRecDepth 20000 in
theorem gX12_days_X12_times : GoodIn wsX12_days (va_wsS RX12 212 yX12_times wsX12_times) := goodIn_app (goodIn_of _ (by decide +kernel)) ggX12_days_X12_times
set_option maxRecDepth 20000 in
theorem ggX12_days_X12_becomes : GoodIn wsX12_days wsX12_becomes := goodIn_r _ [18, 19, 20, 21, 2, 3, 1, 5, 22, 23, 9, 24, 25, 26, 27, 28, 29, 30, 31, 32, 33, 34, 35, 36, 37, 38, 39, 40, 41, 42, 43, 44, 45, 46, 47, 48, 49, 50, 51, 52, 53, 54, 55, 56, 57, 58, 59, 60, 61, 62, 63, 64, 65, 66, 67, 68, 69, 70, 71, 72, 73, 74, 75, 76] (by decide +kernel) (by decide +kernel)
set_option maxRecDepth 20000 in
theorem gX12_days_X12_becomes : GoodIn wsX12_days (wsV RX12 201 RX12 yX12_becomes wsX12_becomes) := goodIn_app (goodIn_of _ (by decide +kernel)) ggX12_days_X12_becomes
theorem dX12_days_0 : decode cX12_days 0 = .ok (.bipush 8, 2) := by decide +kernel
theorem dX12_days_2 : decode cX12_days 2 = .ok (.aload_n 0, 1) := by decide +kernel
theorem dX12_days_3 : decode cX12_days 3 = .ok (.getfield 146, 3) := by decide +kernel
theorem dX12_days_6 : decode cX12_days 6 = .ok (.imul, 1) := by decide +kernel
theorem dX12_days_7 : decode cX12_days 7 = .ok (.iload_n 1, 1) := by decide +kernel
theorem dX12_days_8 : decode cX12_days 8 = .ok (.iadd, 1) := by decide +kernel
theorem dX12_days_9 : decode cX12_days 9 = .ok (.istore 4, 2) := by decide +kernel
theorem dX12_days_11 : decode cX12_days 11 = .ok (.iconst 0, 1) := by decide +kernel
theorem dX12_days_12 : decode cX12_days 12 = .ok (.istore 5, 2) := by decide +kernel
theorem dX12_days_14 : decode cX12_days 14 = .ok (.iload 5, 2) := by decide +kernel
theorem dX12_days_16 : decode cX12_days 16 = .ok (.iload_n 3, 1) := by decide +kernel
theorem dX12_days_17 : decode cX12_days 17 = .ok (.if_icmp .ge 84, 3) := by decide +kernel
theorem dX12_days_20 : decode cX12_days 20 = .ok (.aload_n 0, 1) := by decide +kernel
theorem dX12_days_21 : decode cX12_days 21 = .ok (.getfield 198, 3) := by decide +kernel
theorem dX12_days_24 : decode cX12_days 24 = .ok (.ifCond .ne 77, 3) := by decide +kernel
theorem dX12_days_27 : decode cX12_days 27 = .ok (.aload_n 0, 1) := by decide +kernel
theorem dX12_days_28 : decode cX12_days 28 = .ok (.getfield 47, 3) := by decide +kernel
theorem dX12_days_31 : decode cX12_days 31 = .ok (.iload 4, 2) := by decide +kernel
theorem dX12_days_33 : decode cX12_days 33 = .ok (.laload, 1) := by decide +kernel
theorem dX12_days_34 : decode cX12_days 34 = .ok (.aload_n 0, 1) := by decide +kernel
theorem dX12_days_35 : decode cX12_days 35 = .ok (.getfield 7, 3) := by decide +kernel
theorem dX12_days_38 : decode cX12_days 38 = .ok (.iload_n 2, 1) := by decide +kernel
theorem dX12_days_39 : decode cX12_days 39 = .ok (.iaload, 1) := by decide +kernel
theorem dX12_days_40 : decode cX12_days 40 = .ok (.i2l, 1) := by decide +kernel
theorem dX12_days_41 : decode cX12_days 41 = .ok (.lmul, 1) := by decide +kernel
theorem dX12_days_42 : decode cX12_days 42 = .ok (.aload_n 0, 1) := by decide +kernel
theorem dX12_days_43 : decode cX12_days 43 = .ok (.getfield 51, 3) := by decide +kernel
theorem dX12_days_46 : decode cX12_days 46 = .ok (.iload 4, 2) := by decide +kernel
theorem dX12_days_48 : decode cX12_days 48 = .ok (.laload, 1) := by decide +kernel
theorem dX12_days_49 : decode cX12_days 49 = .ok (.aload_n 0, 1) := by decide +kernel
theorem dX12_days_50 : decode cX12_days 50 = .ok (.getfield 13, 3) := by decide +kernel
theorem dX12_days_53 : decode cX12_days 53 = .ok (.iload_n 2, 1) := by decide +kernel
theorem dX12_days_54 : decode cX12_days 54 = .ok (.iaload, 1) := by decide +kernel
theorem dX12_days_55 : decode cX12_days 55 = .ok (.i2l, 1) := by decide +kernel
theorem dX12_days_56 : decode cX12_days 56 = .ok (.lmul, 1) := by decide +kernel
theorem dX12_days_57 : decode cX12_days 57 = .ok (.iconst 1, 1) := by decide +kernel
theorem dX12_days_58 : decode cX12_days 58 = .ok (.invokestatic 212, 3) := by decide +kernel
theorem dX12_days_61 : decode cX12_days 61 = .ok (.lstore 6, 2) := by decide +kernel
theorem dX12_days_63 : decode cX12_days 63 = .ok (.aload_n 0, 1) := by decide +kernel
theorem dX12_days_64 : decode cX12_days 64 = .ok (.iload_n 1, 1) := by decide +kernel
theorem dX12_days_65 : decode cX12_days 65 = .ok (.aload_n 0, 1) := by decide +kernel
theorem dX12_days_66 : decode cX12_days 66 = .ok (.getfield 47, 3) := by decide +kernel
theorem dX12_days_69 : decode cX12_days 69 = .ok (.iload 4, 2) := by decide +kernel
theorem dX12_days_71 : decode cX12_days 71 = .ok (.laload, 1) := by decide +kernel
theorem dX12_days_72 : decode cX12_days 72 = .ok (.lload 6, 2) := by decide +kernel
theorem dX12_days_74 : decode cX12_days 74 = .ok (.aload_n 0, 1) := by decide +kernel
theorem dX12_days_75 : decode cX12_days 75 = .ok (.getfield 51, 3) := by decide +kernel
theorem dX12_days_78 : decode cX12_days 78 = .ok (.iload 4, 2) := by decide +kernel
theorem dX12_days_80 : decode cX12_days 80 = .ok (.laload, 1) := by decide +kernel
theorem dX12_days_81 : decode cX12_days 81 = .ok (.lmul, 1) := by decide +kernel
theorem dX12_days_82 : decode cX12_days 82 = .ok (.ladd, 1) := by decide +kernel
theorem dX12_days_83 : decode cX12_days 83 = .ok (.aload_n 0, 1) := by decide +kernel
theorem dX12_days_84 : decode cX12_days 84 = .ok (.getfield 51, 3) := by decide +kernel
theorem dX12_days_87 : decode cX12_days 87 = .ok (.iload 4, 2) := by decide +kernel
theorem dX12_days_89 : decode cX12_days 89 = .ok (.laload, 1) := by decide +kernel
theorem dX12_days_90 : decode cX12_days 90 = .ok (.invokevirtual 201, 3) := by decide +kernel
theorem dX12_days_93 : decode cX12_days 93 = .ok (.istore 8, 2) := by decide +kernel
theorem dX12_days_95 : decode cX12_days 95 = .ok (.iinc 5 1, 3) := by decide +kernel
theorem dX12_days_98 : decode cX12_days 98 = .ok (.goto (-84), 3) := by decide +kernel
theorem dX12_days_101 : decode cX12_days 101 = .ok (.return_, 1) := by decide +kernel
set_option maxRecDepth 20000 in
theorem ggX12_does_X12_plain : GoodIn wsX12_does wsX12_plain := goodIn_r _ [21, 12, 4, 22, 23, 24, 20, 25, 26, 27, 28, 29, 30, 31, 32, 10, 8, 9, 33, 34, 35, 100, 101, 102, 103, 104, 105, 106, 107, 108, 109, 110, 111, 112, 113, 114, 115, 116, 117, 118, 119, 120, 121, 122, 123, 124, 125, 126, 127, 128, 129, 130, 131, 132, 133, 134, 135, 136, 137, 138, 139, 140, 141, 142, 143, 144, 145, 146, 147, 148, 149, 150, 151] (by decide +kernel) (by decide +kernel)
set_option maxRecDepth 20000 in
theorem gX12_does_X12_plain : GoodIn wsX12_does (wsV RX12 216 RX12 yX12_plain wsX12_plain) := goodIn_app (goodIn_of _ (by decide +kernel)) ggX12_does_X12_plain
set_option maxRecDepth 20000 in
theorem ggX12_does_X12_taxes : GoodIn wsX12_does wsX12_taxes := goodIn_r _ [39, 6, 7, 40, 41, 42, 4, 43, 44, 20, 45, 46, 47, 48, 49, 17, 18, 19, 21, 12, 22, 23, 24, 25, 26, 27, 28, 29, 30, 31, 32, 10, 8, 9, 33, 34, 35, 100, 101, 102, 103, 104, 105, 106, 107, 108, 109, 110, 111, 112, 113, 114, 115, 116, 117, 118, 119, 120, 121, 122, 123, 124, 125, 126, 127, 128, 129, 130, 131, 132, 133, 134, 135, 136, 137, 138, 139, 140, 141, 142, 143, 144, 145, 146, 147, 148, 149, 150, 151] (by decide +kernel) (by decide +kernel)
set_option maxRecDepth 20000 in
theorem gX12_does_X12_taxes : GoodIn wsX12_does (wsV RX12 238 RX12 yX12_taxes wsX12_taxes) := goodIn_app (goodIn_of _ (by decide +kernel)) ggX12_does_X12_taxes
set_option maxRecDepth 20000 in
theorem ggX12_does_X12_rates : GoodIn wsX12_does wsX12_rates := goodIn_r _ [53, 4, 12, 8, 40, 9, 41, 26, 27, 28, 20, 29, 30, 31, 32, 10, 33, 34, 35, 100, 101, 102, 103, 104, 105, 106, 107, 108, 109, 110, 111, 112, 113, 114, 115, 116, 117, 118, 119, 120, 121, 122, 123, 124, 125, 126, 127, 128, 129, 130, 131, 132, 133, 134, 135, 136, 137, 138, 139, 140, 141, 142, 143, 144, 145, 146, 147, 148, 149, 150, 151] (by decide +kernel) (by decide +kernel)
set_option maxRecDepth 20000 in
theorem gX12_does_X12_rates : GoodIn wsX12_does (wsV RX12 242 RX12 yX12_rates wsX12_rates) := goodIn_app (goodIn_of _ (by decide +kernel)) ggX12_does_X12_rates
set_option maxRecDepth 20000 in
theorem ggX12_does_X12_times : GoodIn wsX12_does wsX12_times := goodIn_r _ [45, 46, 47, 48, 20, 49] (by decide +kernel) (by decide +kernel)
set_option maxRecDepth 20000 in
theorem gX12_does_X12_times : GoodIn wsX12_does (va_wsS RX12 212 yX12_times wsX12_times) := goodIn_app (goodIn_of _ (by decide +kernel)) ggX12_does_X12_times
set_option maxRecDepth 20000 in
theorem ggX12_does_X12_becomesWhole : GoodIn wsX12_does wsX12_becomesWhole := goodIn_r _ [25, 26, 27, 28, 20, 29, 30, 31, 32, 10, 8, 4, 9, 33, 34, 35, 100, 101, 102, 103, 104, 105, 106, 107, 108, 109, 110, 111, 112, 113, 114, 115, 116, 117, 118, 119, 120, 121, 122, 123, 124, 125, 126, 127, 128, 129, 130, 131, 132, 133, 134, 135, 136, 137, 138, 139, 140, 141, 142, 143, 144, 145, 146, 147, 148, 149, 150, 151] (by decide +kernel) (by decide +kernel)
set_option maxRecDepth 20000 in
theorem gX12_does_X12_becomesWhole : GoodIn wsX12_does (wsV RX12 205 RX12 yX12_becomesWhole wsX12_becomesWhole) := goodIn_app (goodIn_of _ (by decide +kernel)) ggX12_does_X12_becomesWhole
set_option maxRecDepth 20000 in
theorem ggX12_does_X12_adds : GoodIn wsX12_does wsX12_adds := goodIn_r _ [57, 4, 12, 8, 9, 26, 27, 28, 20, 29, 30, 31, 32, 10, 33, 34, 35, 100, 101, 102, 103, 104, 105, 106, 107, 108, 109, 110, 111, 112, 113, 114, 115, 116, 117, 118, 119, 120, 121, 122, 123, 124, 125, 126, 127, 128, 129, 130, 131, 132, 133, 134, 135, 136, 137, 138, 139, 140, 141, 142, 143, 144, 145, 146, 147, 148, 149, 150, 151] (by decide +kernel) (by decide +kernel)
set_option maxRecDepth 20000 in
theorem gX12_does_X12_adds : GoodIn wsX12_does (wsV RX12 246 RX12 yX12_adds wsX12_adds) := goodIn_app (goodIn_of _ (by decide +kernel)) ggX12_does_X12_adds
set_option maxRecDepth 20000 in
theorem ggX12_does_X12_splits : GoodIn wsX12_does wsX12_splits := goodIn_r _ [61, 16, 4, 62, 63, 64, 20, 65, 66, 67, 68, 69, 70, 71, 72, 73, 74, 75, 76, 77, 78, 79, 47, 48, 49, 43, 44, 45, 46, 100, 101, 102, 103, 104, 105, 106, 107, 108, 109, 110, 111, 112, 113, 114, 115, 116, 117, 118, 119, 120, 121, 122, 123, 124, 125, 126, 127, 128, 129, 130, 131, 132, 133, 134, 135, 136, 137, 138, 139, 140, 141, 142, 143, 144, 145, 146, 147, 148, 149, 150, 151] (by decide +kernel) (by decide +kernel)
set_option maxRecDepth 20000 in
theorem gX12_does_X12_splits : GoodIn wsX12_does (wsV RX12 249 RX12 yX12_splits wsX12_splits) := goodIn_app (goodIn_of _ (by decide +kernel)) ggX12_does_X12_splits
set_option maxRecDepth 20000 in
theorem ggX12_does_X12_carries : GoodIn wsX12_does wsX12_carries := goodIn_r _ [83, 4, 84, 9, 8, 85, 26, 27, 28, 20, 29, 30, 31, 32, 10, 33, 34, 35, 47, 48, 49, 22, 23, 24, 25, 100, 101, 102, 103, 104, 105, 106, 107, 108, 109, 110, 111, 112, 113, 114, 115, 116, 117, 118, 119, 120, 121, 122, 123, 124, 125, 126, 127, 128, 129, 130, 131, 132, 133, 134, 135, 136, 137, 138, 139, 140, 141, 142, 143, 144, 145, 146, 147, 148, 149, 150, 151] (by decide +kernel) (by decide +kernel)
set_option maxRecDepth 20000 in
theorem gX12_does_X12_carries : GoodIn wsX12_does (wsV RX12 260 RX12 yX12_carries wsX12_carries) := goodIn_app (goodIn_of _ (by decide +kernel)) ggX12_does_X12_carries
set_option maxRecDepth 20000 in
theorem ggX12_does_X12_caps : GoodIn wsX12_does wsX12_caps := goodIn_r _ [89, 4, 8, 9, 100, 101, 102, 103, 104, 105, 106, 107, 108, 109, 110, 111, 112, 113, 114, 115, 116, 117, 118, 119, 120, 121, 122, 123, 124, 125, 126, 127, 128, 129, 130, 131, 132, 133, 134, 135, 136, 137, 138, 139, 140, 141, 142, 143, 144, 145, 146, 147, 148, 149, 150, 151] (by decide +kernel) (by decide +kernel)
set_option maxRecDepth 20000 in
theorem gX12_does_X12_caps : GoodIn wsX12_does (wsV RX12 264 RX12 yX12_caps wsX12_caps) := goodIn_app (goodIn_of _ (by decide +kernel)) ggX12_does_X12_caps
set_option maxRecDepth 20000 in
theorem ggX12_does_X12_books : GoodIn wsX12_does wsX12_books := goodIn_r _ [93, 4, 9, 10, 94, 8, 95, 12, 100, 101, 102, 103, 104, 105, 106, 107, 108, 109, 110, 111, 112, 113, 114, 115, 116, 117, 118, 119, 120, 121, 122, 123, 124, 125, 126, 127, 128, 129, 130, 131, 132, 133, 134, 135, 136, 137, 138, 139, 140, 141, 142, 143, 144, 145, 146, 147, 148, 149, 150, 151] (by decide +kernel) (by decide +kernel)
set_option maxRecDepth 20000 in
theorem gX12_does_X12_books : GoodIn wsX12_does (wsV RX12 268 RX12 yX12_books wsX12_books) := goodIn_app (goodIn_of _ (by decide +kernel)) ggX12_does_X12_books
set_option maxRecDepth 20000 in
theorem ggX12_does_X12_days : GoodIn wsX12_does wsX12_days := goodIn_r _ [99, 4, 10, 8, 40, 9, 41, 43, 44, 20, 45, 46, 47, 48, 49, 26, 27, 28, 29, 30, 31, 32, 33, 34, 35, 100, 101, 102, 103, 104, 105, 106, 107, 108, 109, 110, 111, 112, 113, 114, 115, 116, 117, 118, 119, 120, 121, 122, 123, 124, 125, 126, 127, 128, 129, 130, 131, 132, 133, 134, 135, 136, 137, 138, 139, 140, 141, 142, 143, 144, 145, 146, 147, 148, 149, 150, 151] (by decide +kernel) (by decide +kernel)
set_option maxRecDepth 20000 in
theorem gX12_does_X12_days : GoodIn wsX12_does (wsV RX12 271 RX12 yX12_days wsX12_days) := goodIn_app (goodIn_of _ (by decide +kernel)) ggX12_does_X12_days
theorem dX12_does_0 : decode cX12_does 0 = .ok (.aload_n 0, 1) := by decide +kernel
theorem dX12_does_1 : decode cX12_does 1 = .ok (.getfield 31, 3) := by decide +kernel
theorem dX12_does_4 : decode cX12_does 4 = .ok (.iload_n 2, 1) := by decide +kernel
theorem dX12_does_5 : decode cX12_does 5 = .ok (.iaload, 1) := by decide +kernel
theorem dX12_does_6 : decode cX12_does 6 = .ok (.istore_n 3, 1) := by decide +kernel
theorem dX12_does_7 : decode cX12_does 7 = .ok (.aload_n 0, 1) := by decide +kernel
theorem dX12_does_8 : decode cX12_does 8 = .ok (.getfield 34, 3) := by decide +kernel
theorem dX12_does_11 : decode cX12_does 11 = .ok (.iload_n 2, 1) := by decide +kernel
theorem dX12_does_12 : decode cX12_does 12 = .ok (.iaload, 1) := by decide +kernel
theorem dX12_does_13 : decode cX12_does 13 = .ok (.istore 4, 2) := by decide +kernel
theorem dX12_does_15 : decode cX12_does 15 = .ok (.aload_n 0, 1) := by decide +kernel
theorem dX12_does_16 : decode cX12_does 16 = .ok (.getfield 37, 3) := by decide +kernel
theorem dX12_does_19 : decode cX12_does 19 = .ok (.iload_n 2, 1) := by decide +kernel
theorem dX12_does_20 : decode cX12_does 20 = .ok (.iaload, 1) := by decide +kernel
theorem dX12_does_21 : decode cX12_does 21 = .ok (.istore 5, 2) := by decide +kernel
theorem dX12_does_23 : decode cX12_does 23 = .ok (.bipush 8, 2) := by decide +kernel
theorem dX12_does_25 : decode cX12_does 25 = .ok (.aload_n 0, 1) := by decide +kernel
theorem dX12_does_26 : decode cX12_does 26 = .ok (.getfield 146, 3) := by decide +kernel
theorem dX12_does_29 : decode cX12_does 29 = .ok (.imul, 1) := by decide +kernel
theorem dX12_does_30 : decode cX12_does 30 = .ok (.iload_n 3, 1) := by decide +kernel
theorem dX12_does_31 : decode cX12_does 31 = .ok (.iadd, 1) := by decide +kernel
theorem dX12_does_32 : decode cX12_does 32 = .ok (.istore 6, 2) := by decide +kernel
theorem dX12_does_34 : decode cX12_does 34 = .ok (.aload_n 0, 1) := by decide +kernel
theorem dX12_does_35 : decode cX12_does 35 = .ok (.getfield 28, 3) := by decide +kernel
theorem dX12_does_38 : decode cX12_does 38 = .ok (.iload_n 2, 1) := by decide +kernel
theorem dX12_does_39 : decode cX12_does 39 = .ok (.iaload, 1) := by decide +kernel
theorem dX12_does_40 : decode cX12_does 40 = .ok (.tableswitch 393 0 11 #[64, 108, 108, 135, 147, 184, 196, 268, 305, 314, 327, 339], 64) := by decide +kernel
theorem dX12_does_104 : decode cX12_does 104 = .ok (.lconst 0, 1) := by decide +kernel
theorem dX12_does_105 : decode cX12_does 105 = .ok (.lstore 7, 2) := by decide +kernel
theorem dX12_does_107 : decode cX12_does 107 = .ok (.iconst 0, 1) := by decide +kernel
theorem dX12_does_108 : decode cX12_does 108 = .ok (.istore 9, 2) := by decide +kernel
theorem dX12_does_110 : decode cX12_does 110 = .ok (.iload 9, 2) := by decide +kernel
theorem dX12_does_112 : decode cX12_does 112 = .ok (.aload_n 0, 1) := by decide +kernel
theorem dX12_does_113 : decode cX12_does 113 = .ok (.getfield 209, 3) := by decide +kernel
theorem dX12_does_116 : decode cX12_does 116 = .ok (.if_icmp .ge 22, 3) := by decide +kernel
theorem dX12_does_119 : decode cX12_does 119 = .ok (.lload 7, 2) := by decide +kernel
theorem dX12_does_121 : decode cX12_does 121 = .ok (.aload_n 0, 1) := by decide +kernel
theorem dX12_does_122 : decode cX12_does 122 = .ok (.getfield 44, 3) := by decide +kernel
theorem dX12_does_125 : decode cX12_does 125 = .ok (.iload 9, 2) := by decide +kernel
theorem dX12_does_127 : decode cX12_does 127 = .ok (.iaload, 1) := by decide +kernel
theorem dX12_does_128 : decode cX12_does 128 = .ok (.i2l, 1) := by decide +kernel
theorem dX12_does_129 : decode cX12_does 129 = .ok (.ladd, 1) := by decide +kernel
theorem dX12_does_130 : decode cX12_does 130 = .ok (.lstore 7, 2) := by decide +kernel
theorem dX12_does_132 : decode cX12_does 132 = .ok (.iinc 9 1, 3) := by decide +kernel
theorem dX12_does_135 : decode cX12_does 135 = .ok (.goto (-25), 3) := by decide +kernel
theorem dX12_does_138 : decode cX12_does 138 = .ok (.aload_n 0, 1) := by decide +kernel
theorem dX12_does_139 : decode cX12_does 139 = .ok (.iload_n 3, 1) := by decide +kernel
theorem dX12_does_140 : decode cX12_does 140 = .ok (.lload 7, 2) := by decide +kernel
theorem dX12_does_142 : decode cX12_does 142 = .ok (.invokevirtual 216, 3) := by decide +kernel
theorem dX12_does_145 : decode cX12_does 145 = .ok (.goto 297, 3) := by decide +kernel
theorem dX12_does_148 : decode cX12_does 148 = .ok (.aload_n 0, 1) := by decide +kernel
theorem dX12_does_149 : decode cX12_does 149 = .ok (.iload_n 3, 1) := by decide +kernel
theorem dX12_does_150 : decode cX12_does 150 = .ok (.iload 4, 2) := by decide +kernel
theorem dX12_does_152 : decode cX12_does 152 = .ok (.iload 5, 2) := by decide +kernel
theorem dX12_does_154 : decode cX12_does 154 = .ok (.aload_n 0, 1) := by decide +kernel
theorem dX12_does_155 : decode cX12_does 155 = .ok (.getfield 28, 3) := by decide +kernel
theorem dX12_does_158 : decode cX12_does 158 = .ok (.iload_n 2, 1) := by decide +kernel
theorem dX12_does_159 : decode cX12_does 159 = .ok (.iaload, 1) := by decide +kernel
theorem dX12_does_160 : decode cX12_does 160 = .ok (.iconst 2, 1) := by decide +kernel
theorem dX12_does_161 : decode cX12_does 161 = .ok (.if_icmp .ne 7, 3) := by decide +kernel
theorem dX12_does_164 : decode cX12_does 164 = .ok (.iconst 1, 1) := by decide +kernel
theorem dX12_does_165 : decode cX12_does 165 = .ok (.goto 4, 3) := by decide +kernel
theorem dX12_does_168 : decode cX12_does 168 = .ok (.iconst 0, 1) := by decide +kernel
theorem dX12_does_169 : decode cX12_does 169 = .ok (.invokevirtual 238, 3) := by decide +kernel
theorem dX12_does_172 : decode cX12_does 172 = .ok (.goto 270, 3) := by decide +kernel
theorem dX12_does_175 : decode cX12_does 175 = .ok (.aload_n 0, 1) := by decide +kernel
theorem dX12_does_176 : decode cX12_does 176 = .ok (.iload_n 3, 1) := by decide +kernel
theorem dX12_does_177 : decode cX12_does 177 = .ok (.iload 4, 2) := by decide +kernel
theorem dX12_does_179 : decode cX12_does 179 = .ok (.iload 5, 2) := by decide +kernel
theorem dX12_does_181 : decode cX12_does 181 = .ok (.invokevirtual 242, 3) := by decide +kernel
theorem dX12_does_184 : decode cX12_does 184 = .ok (.goto 258, 3) := by decide +kernel
theorem dX12_does_187 : decode cX12_does 187 = .ok (.aload_n 0, 1) := by decide +kernel
theorem dX12_does_188 : decode cX12_does 188 = .ok (.iload_n 3, 1) := by decide +kernel
theorem dX12_does_189 : decode cX12_does 189 = .ok (.iload 5, 2) := by decide +kernel
theorem dX12_does_191 : decode cX12_does 191 = .ok (.i2l, 1) := by decide +kernel
theorem dX12_does_192 : decode cX12_does 192 = .ok (.aload_n 0, 1) := by decide +kernel
theorem dX12_does_193 : decode cX12_does 193 = .ok (.getfield 47, 3) := by decide +kernel
theorem dX12_does_196 : decode cX12_does 196 = .ok (.iload 6, 2) := by decide +kernel
theorem dX12_does_198 : decode cX12_does 198 = .ok (.laload, 1) := by decide +kernel
theorem dX12_does_199 : decode cX12_does 199 = .ok (.aload_n 0, 1) := by decide +kernel
theorem dX12_does_200 : decode cX12_does 200 = .ok (.getfield 51, 3) := by decide +kernel
theorem dX12_does_203 : decode cX12_does 203 = .ok (.iload 6, 2) := by decide +kernel
theorem dX12_does_205 : decode cX12_does 205 = .ok (.laload, 1) := by decide +kernel
theorem dX12_does_206 : decode cX12_does 206 = .ok (.iload 5, 2) := by decide +kernel
theorem dX12_does_208 : decode cX12_does 208 = .ok (.i2l, 1) := by decide +kernel
theorem dX12_does_209 : decode cX12_does 209 = .ok (.lmul, 1) := by decide +kernel
theorem dX12_does_210 : decode cX12_does 210 = .ok (.iload 4, 2) := by decide +kernel
theorem dX12_does_212 : decode cX12_does 212 = .ok (.invokestatic 212, 3) := by decide +kernel
theorem dX12_does_215 : decode cX12_does 215 = .ok (.lmul, 1) := by decide +kernel
theorem dX12_does_216 : decode cX12_does 216 = .ok (.invokevirtual 205, 3) := by decide +kernel
theorem dX12_does_219 : decode cX12_does 219 = .ok (.istore 9, 2) := by decide +kernel
theorem dX12_does_221 : decode cX12_does 221 = .ok (.goto 221, 3) := by decide +kernel
theorem dX12_does_224 : decode cX12_does 224 = .ok (.aload_n 0, 1) := by decide +kernel
theorem dX12_does_225 : decode cX12_does 225 = .ok (.iload_n 3, 1) := by decide +kernel
theorem dX12_does_226 : decode cX12_does 226 = .ok (.iload 4, 2) := by decide +kernel
theorem dX12_does_228 : decode cX12_does 228 = .ok (.iload 5, 2) := by decide +kernel
theorem dX12_does_230 : decode cX12_does 230 = .ok (.invokevirtual 246, 3) := by decide +kernel
theorem dX12_does_233 : decode cX12_does 233 = .ok (.goto 209, 3) := by decide +kernel
theorem dX12_does_236 : decode cX12_does 236 = .ok (.aload_n 0, 1) := by decide +kernel
theorem dX12_does_237 : decode cX12_does 237 = .ok (.getfield 51, 3) := by decide +kernel
theorem dX12_does_240 : decode cX12_does 240 = .ok (.iload 6, 2) := by decide +kernel
theorem dX12_does_242 : decode cX12_does 242 = .ok (.laload, 1) := by decide +kernel
theorem dX12_does_243 : decode cX12_does 243 = .ok (.lconst 1, 1) := by decide +kernel
theorem dX12_does_244 : decode cX12_does 244 = .ok (.lcmp, 1) := by decide +kernel
theorem dX12_does_245 : decode cX12_does 245 = .ok (.ifCond .eq 12, 3) := by decide +kernel
theorem dX12_does_248 : decode cX12_does 248 = .ok (.aload_n 0, 1) := by decide +kernel
theorem dX12_does_249 : decode cX12_does 249 = .ok (.bipush (-5), 2) := by decide +kernel
theorem dX12_does_251 : decode cX12_does 251 = .ok (.putfield 198, 3) := by decide +kernel
theorem dX12_does_254 : decode cX12_does 254 = .ok (.goto 188, 3) := by decide +kernel
theorem dX12_does_257 : decode cX12_does 257 = .ok (.aload_n 0, 1) := by decide +kernel
theorem dX12_does_258 : decode cX12_does 258 = .ok (.aload_n 0, 1) := by decide +kernel
theorem dX12_does_259 : decode cX12_does 259 = .ok (.getfield 47, 3) := by decide +kernel
theorem dX12_does_262 : decode cX12_does 262 = .ok (.iload 6, 2) := by decide +kernel
theorem dX12_does_264 : decode cX12_does 264 = .ok (.laload, 1) := by decide +kernel
theorem dX12_does_265 : decode cX12_does 265 = .ok (.iload 4, 2) := by decide +kernel
theorem dX12_does_267 : decode cX12_does 267 = .ok (.iload 5, 2) := by decide +kernel
theorem dX12_does_269 : decode cX12_does 269 = .ok (.invokevirtual 249, 3) := by decide +kernel
theorem dX12_does_272 : decode cX12_does 272 = .ok (.aload_n 0, 1) := by decide +kernel
theorem dX12_does_273 : decode cX12_does 273 = .ok (.iconst 1, 1) := by decide +kernel
theorem dX12_does_274 : decode cX12_does 274 = .ok (.putfield 152, 3) := by decide +kernel
theorem dX12_does_277 : decode cX12_does 277 = .ok (.aload_n 0, 1) := by decide +kernel
theorem dX12_does_278 : decode cX12_does 278 = .ok (.aload_n 0, 1) := by decide +kernel
theorem dX12_does_279 : decode cX12_does 279 = .ok (.getfield 69, 3) := by decide +kernel
theorem dX12_does_282 : decode cX12_does 282 = .ok (.iload 6, 2) := by decide +kernel
theorem dX12_does_284 : decode cX12_does 284 = .ok (.baload, 1) := by decide +kernel
theorem dX12_does_285 : decode cX12_does 285 = .ok (.putfield 156, 3) := by decide +kernel
theorem dX12_does_288 : decode cX12_does 288 = .ok (.aload_n 0, 1) := by decide +kernel
theorem dX12_does_289 : decode cX12_does 289 = .ok (.aload_n 0, 1) := by decide +kernel
theorem dX12_does_290 : decode cX12_does 290 = .ok (.getfield 47, 3) := by decide +kernel
theorem dX12_does_293 : decode cX12_does 293 = .ok (.iload 6, 2) := by decide +kernel
theorem dX12_does_295 : decode cX12_does 295 = .ok (.laload, 1) := by decide +kernel
theorem dX12_does_296 : decode cX12_does 296 = .ok (.putfield 253, 3) := by decide +kernel
theorem dX12_does_299 : decode cX12_does 299 = .ok (.aload_n 0, 1) := by decide +kernel
theorem dX12_does_300 : decode cX12_does 300 = .ok (.iload 5, 2) := by decide +kernel
theorem dX12_does_302 : decode cX12_does 302 = .ok (.putfield 257, 3) := by decide +kernel
theorem dX12_does_305 : decode cX12_does 305 = .ok (.goto 137, 3) := by decide +kernel
theorem dX12_does_308 : decode cX12_does 308 = .ok (.aload_n 0, 1) := by decide +kernel
theorem dX12_does_309 : decode cX12_does 309 = .ok (.iload_n 3, 1) := by decide +kernel
theorem dX12_does_310 : decode cX12_does 310 = .ok (.aload_n 0, 1) := by decide +kernel
theorem dX12_does_311 : decode cX12_does 311 = .ok (.getfield 54, 3) := by decide +kernel
theorem dX12_does_314 : decode cX12_does 314 = .ok (.bipush 8, 2) := by decide +kernel
theorem dX12_does_316 : decode cX12_does 316 = .ok (.aload_n 0, 1) := by decide +kernel
theorem dX12_does_317 : decode cX12_does 317 = .ok (.getfield 146, 3) := by decide +kernel
theorem dX12_does_320 : decode cX12_does 320 = .ok (.imul, 1) := by decide +kernel
theorem dX12_does_321 : decode cX12_does 321 = .ok (.iload 4, 2) := by decide +kernel
theorem dX12_does_323 : decode cX12_does 323 = .ok (.iadd, 1) := by decide +kernel
theorem dX12_does_324 : decode cX12_does 324 = .ok (.laload, 1) := by decide +kernel
theorem dX12_does_325 : decode cX12_does 325 = .ok (.invokevirtual 205, 3) := by decide +kernel
theorem dX12_does_328 : decode cX12_does 328 = .ok (.ifCond .eq 114, 3) := by decide +kernel
theorem dX12_does_331 : decode cX12_does 331 = .ok (.aload_n 0, 1) := by decide +kernel
theorem dX12_does_332 : decode cX12_does 332 = .ok (.getfield 69, 3) := by decide +kernel
theorem dX12_does_335 : decode cX12_does 335 = .ok (.iload 6, 2) := by decide +kernel
theorem dX12_does_337 : decode cX12_does 337 = .ok (.aload_n 0, 1) := by decide +kernel
theorem dX12_does_338 : decode cX12_does 338 = .ok (.getfield 156, 3) := by decide +kernel
theorem dX12_does_341 : decode cX12_does 341 = .ok (.bastore, 1) := by decide +kernel
theorem dX12_does_342 : decode cX12_does 342 = .ok (.goto 100, 3) := by decide +kernel
theorem dX12_does_345 : decode cX12_does 345 = .ok (.aload_n 0, 1) := by decide +kernel
theorem dX12_does_346 : decode cX12_does 346 = .ok (.iload_n 3, 1) := by decide +kernel
theorem dX12_does_347 : decode cX12_does 347 = .ok (.iload_n 1, 1) := by decide +kernel
theorem dX12_does_348 : decode cX12_does 348 = .ok (.invokevirtual 260, 3) := by decide +kernel
theorem dX12_does_351 : decode cX12_does 351 = .ok (.goto 91, 3) := by decide +kernel
theorem dX12_does_354 : decode cX12_does 354 = .ok (.aload_n 0, 1) := by decide +kernel
theorem dX12_does_355 : decode cX12_does 355 = .ok (.iload_n 3, 1) := by decide +kernel
theorem dX12_does_356 : decode cX12_does 356 = .ok (.iload 4, 2) := by decide +kernel
theorem dX12_does_358 : decode cX12_does 358 = .ok (.iload 5, 2) := by decide +kernel
theorem dX12_does_360 : decode cX12_does 360 = .ok (.i2l, 1) := by decide +kernel
theorem dX12_does_361 : decode cX12_does 361 = .ok (.invokevirtual 264, 3) := by decide +kernel
theorem dX12_does_364 : decode cX12_does 364 = .ok (.goto 78, 3) := by decide +kernel
theorem dX12_does_367 : decode cX12_does 367 = .ok (.aload_n 0, 1) := by decide +kernel
theorem dX12_does_368 : decode cX12_does 368 = .ok (.iload_n 3, 1) := by decide +kernel
theorem dX12_does_369 : decode cX12_does 369 = .ok (.iload 4, 2) := by decide +kernel
theorem dX12_does_371 : decode cX12_does 371 = .ok (.iload 5, 2) := by decide +kernel
theorem dX12_does_373 : decode cX12_does 373 = .ok (.invokevirtual 268, 3) := by decide +kernel
theorem dX12_does_376 : decode cX12_does 376 = .ok (.goto 66, 3) := by decide +kernel
theorem dX12_does_379 : decode cX12_does 379 = .ok (.aload_n 0, 1) := by decide +kernel
theorem dX12_does_380 : decode cX12_does 380 = .ok (.iload_n 3, 1) := by decide +kernel
theorem dX12_does_381 : decode cX12_does 381 = .ok (.aload_n 0, 1) := by decide +kernel
theorem dX12_does_382 : decode cX12_does 382 = .ok (.getfield 47, 3) := by decide +kernel
theorem dX12_does_385 : decode cX12_does 385 = .ok (.bipush 8, 2) := by decide +kernel
theorem dX12_does_387 : decode cX12_does 387 = .ok (.aload_n 0, 1) := by decide +kernel
theorem dX12_does_388 : decode cX12_does 388 = .ok (.getfield 146, 3) := by decide +kernel
theorem dX12_does_391 : decode cX12_does 391 = .ok (.imul, 1) := by decide +kernel
theorem dX12_does_392 : decode cX12_does 392 = .ok (.iload 4, 2) := by decide +kernel
theorem dX12_does_394 : decode cX12_does 394 = .ok (.iadd, 1) := by decide +kernel
theorem dX12_does_395 : decode cX12_does 395 = .ok (.laload, 1) := by decide +kernel
theorem dX12_does_396 : decode cX12_does 396 = .ok (.aload_n 0, 1) := by decide +kernel
theorem dX12_does_397 : decode cX12_does 397 = .ok (.getfield 51, 3) := by decide +kernel
theorem dX12_does_400 : decode cX12_does 400 = .ok (.bipush 8, 2) := by decide +kernel
theorem dX12_does_402 : decode cX12_does 402 = .ok (.aload_n 0, 1) := by decide +kernel
theorem dX12_does_403 : decode cX12_does 403 = .ok (.getfield 146, 3) := by decide +kernel
theorem dX12_does_406 : decode cX12_does 406 = .ok (.imul, 1) := by decide +kernel
theorem dX12_does_407 : decode cX12_does 407 = .ok (.iload 4, 2) := by decide +kernel
theorem dX12_does_409 : decode cX12_does 409 = .ok (.iadd, 1) := by decide +kernel
theorem dX12_does_410 : decode cX12_does 410 = .ok (.laload, 1) := by decide +kernel
theorem dX12_does_411 : decode cX12_does 411 = .ok (.iload 5, 2) := by decide +kernel
theorem dX12_does_413 : decode cX12_does 413 = .ok (.invokestatic 212, 3) := by decide +kernel
theorem dX12_does_416 : decode cX12_does 416 = .ok (.invokevirtual 205, 3) := by decide +kernel
theorem dX12_does_419 : decode cX12_does 419 = .ok (.ifCond .eq 23, 3) := by decide +kernel
theorem dX12_does_422 : decode cX12_does 422 = .ok (.aload_n 0, 1) := by decide +kernel
theorem dX12_does_423 : decode cX12_does 423 = .ok (.getfield 69, 3) := by decide +kernel
theorem dX12_does_426 : decode cX12_does 426 = .ok (.iload 6, 2) := by decide +kernel
theorem dX12_does_428 : decode cX12_does 428 = .ok (.iconst 1, 1) := by decide +kernel
theorem dX12_does_429 : decode cX12_does 429 = .ok (.bastore, 1) := by decide +kernel
theorem dX12_does_430 : decode cX12_does 430 = .ok (.goto 12, 3) := by decide +kernel
theorem dX12_does_433 : decode cX12_does 433 = .ok (.aload_n 0, 1) := by decide +kernel
theorem dX12_does_434 : decode cX12_does 434 = .ok (.iload_n 3, 1) := by decide +kernel
theorem dX12_does_435 : decode cX12_does 435 = .ok (.iload 4, 2) := by decide +kernel
theorem dX12_does_437 : decode cX12_does 437 = .ok (.iload 5, 2) := by decide +kernel
theorem dX12_does_439 : decode cX12_does 439 = .ok (.invokevirtual 271, 3) := by decide +kernel
theorem dX12_does_442 : decode cX12_does 442 = .ok (.return_, 1) := by decide +kernel
set_option maxRecDepth 20000 in
theorem ggX12_runs_X12_clears : GoodIn wsX12_runs wsX12_clears := goodIn_r _ [14, 15, 1, 16, 17, 18, 19, 20, 110, 111, 112, 113, 114, 115, 116, 117, 118, 119, 120, 121, 122, 123, 124, 125, 126, 127, 128, 129, 130, 131, 132, 133, 134, 135, 136, 137, 138, 139, 140, 141, 142, 143, 144, 145, 146, 147, 148, 149, 150, 151, 152, 153, 154, 155, 156, 157, 158, 159, 160, 161] (by decide +kernel) (by decide +kernel)
set_option maxRecDepth 20000 in
theorem gX12_runs_X12_clears : GoodIn wsX12_runs (wsV RX12 149 RX12 yX12_clears wsX12_clears) := goodIn_app (goodIn_of _ (by decide +kernel)) ggX12_runs_X12_clears
set_option maxRecDepth 20000 in
theorem ggX12_runs_X12_does : GoodIn wsX12_runs wsX12_does := goodIn_r _ [24, 25, 26, 27, 1, 28, 29, 30, 15, 16, 8, 19, 17, 20, 31, 32, 18, 33, 34, 35, 13, 36, 37, 38, 39, 40, 41, 42, 43, 44, 45, 46, 47, 48, 49, 50, 51, 52, 53, 54, 55, 56, 6, 57, 58, 59, 60, 61, 62, 63, 64, 65, 66, 67, 68, 69, 70, 71, 72, 73, 74, 75, 76, 77, 78, 79, 80, 81, 82, 83, 84, 85, 86, 87, 88, 89, 90, 91, 92, 93, 94, 95, 96, 97, 2, 3, 98, 99, 100, 101, 102, 103, 104, 105, 5, 7, 106, 107, 108, 109, 110, 111, 112, 113, 114, 115, 116, 117, 118, 119, 120, 121, 122, 123, 124, 125, 126, 127, 128, 129, 130, 131, 132, 133, 134, 135, 136, 137, 138, 139, 140, 141, 142, 143, 144, 145, 146, 147, 148, 149, 150, 151, 152, 153, 154, 155, 156, 157, 158, 159, 160, 161] (by decide +kernel) (by decide +kernel)
set_option maxRecDepth 20000 in
theorem gX12_runs_X12_does : GoodIn wsX12_runs (wsV RX12 274 RX12 yX12_does wsX12_does) := goodIn_app (goodIn_of _ (by decide +kernel)) ggX12_runs_X12_does
theorem dX12_runs_0 : decode cX12_runs 0 = .ok (.iconst 4, 1) := by decide +kernel
theorem dX12_runs_1 : decode cX12_runs 1 = .ok (.aload_n 0, 1) := by decide +kernel
theorem dX12_runs_2 : decode cX12_runs 2 = .ok (.getfield 146, 3) := by decide +kernel
theorem dX12_runs_5 : decode cX12_runs 5 = .ok (.imul, 1) := by decide +kernel
theorem dX12_runs_6 : decode cX12_runs 6 = .ok (.iload_n 1, 1) := by decide +kernel
theorem dX12_runs_7 : decode cX12_runs 7 = .ok (.iadd, 1) := by decide +kernel
theorem dX12_runs_8 : decode cX12_runs 8 = .ok (.istore_n 2, 1) := by decide +kernel
theorem dX12_runs_9 : decode cX12_runs 9 = .ok (.aload_n 0, 1) := by decide +kernel
theorem dX12_runs_10 : decode cX12_runs 10 = .ok (.getfield 63, 3) := by decide +kernel
theorem dX12_runs_13 : decode cX12_runs 13 = .ok (.iload_n 2, 1) := by decide +kernel
theorem dX12_runs_14 : decode cX12_runs 14 = .ok (.laload, 1) := by decide +kernel
theorem dX12_runs_15 : decode cX12_runs 15 = .ok (.lstore_n 3, 1) := by decide +kernel
theorem dX12_runs_16 : decode cX12_runs 16 = .ok (.aload_n 0, 1) := by decide +kernel
theorem dX12_runs_17 : decode cX12_runs 17 = .ok (.getfield 66, 3) := by decide +kernel
theorem dX12_runs_20 : decode cX12_runs 20 = .ok (.iload_n 2, 1) := by decide +kernel
theorem dX12_runs_21 : decode cX12_runs 21 = .ok (.laload, 1) := by decide +kernel
theorem dX12_runs_22 : decode cX12_runs 22 = .ok (.lstore 5, 2) := by decide +kernel
theorem dX12_runs_24 : decode cX12_runs 24 = .ok (.iconst 0, 1) := by decide +kernel
theorem dX12_runs_25 : decode cX12_runs 25 = .ok (.istore 7, 2) := by decide +kernel
theorem dX12_runs_27 : decode cX12_runs 27 = .ok (.iload 7, 2) := by decide +kernel
theorem dX12_runs_29 : decode cX12_runs 29 = .ok (.bipush 8, 2) := by decide +kernel
theorem dX12_runs_31 : decode cX12_runs 31 = .ok (.if_icmp .ge 31, 3) := by decide +kernel
theorem dX12_runs_34 : decode cX12_runs 34 = .ok (.aload_n 0, 1) := by decide +kernel
theorem dX12_runs_35 : decode cX12_runs 35 = .ok (.getfield 97, 3) := by decide +kernel
theorem dX12_runs_38 : decode cX12_runs 38 = .ok (.iload 7, 2) := by decide +kernel
theorem dX12_runs_40 : decode cX12_runs 40 = .ok (.aload_n 0, 1) := by decide +kernel
theorem dX12_runs_41 : decode cX12_runs 41 = .ok (.getfield 60, 3) := by decide +kernel
theorem dX12_runs_44 : decode cX12_runs 44 = .ok (.bipush 8, 2) := by decide +kernel
theorem dX12_runs_46 : decode cX12_runs 46 = .ok (.aload_n 0, 1) := by decide +kernel
theorem dX12_runs_47 : decode cX12_runs 47 = .ok (.getfield 146, 3) := by decide +kernel
theorem dX12_runs_50 : decode cX12_runs 50 = .ok (.imul, 1) := by decide +kernel
theorem dX12_runs_51 : decode cX12_runs 51 = .ok (.iload 7, 2) := by decide +kernel
theorem dX12_runs_53 : decode cX12_runs 53 = .ok (.iadd, 1) := by decide +kernel
theorem dX12_runs_54 : decode cX12_runs 54 = .ok (.laload, 1) := by decide +kernel
theorem dX12_runs_55 : decode cX12_runs 55 = .ok (.lastore, 1) := by decide +kernel
theorem dX12_runs_56 : decode cX12_runs 56 = .ok (.iinc 7 1, 3) := by decide +kernel
theorem dX12_runs_59 : decode cX12_runs 59 = .ok (.goto (-32), 3) := by decide +kernel
theorem dX12_runs_62 : decode cX12_runs 62 = .ok (.aload_n 0, 1) := by decide +kernel
theorem dX12_runs_63 : decode cX12_runs 63 = .ok (.invokevirtual 149, 3) := by decide +kernel
theorem dX12_runs_66 : decode cX12_runs 66 = .ok (.iconst 0, 1) := by decide +kernel
theorem dX12_runs_67 : decode cX12_runs 67 = .ok (.istore 7, 2) := by decide +kernel
theorem dX12_runs_69 : decode cX12_runs 69 = .ok (.iload 7, 2) := by decide +kernel
theorem dX12_runs_71 : decode cX12_runs 71 = .ok (.bipush 12, 2) := by decide +kernel
theorem dX12_runs_73 : decode cX12_runs 73 = .ok (.if_icmp .ge 25, 3) := by decide +kernel
theorem dX12_runs_76 : decode cX12_runs 76 = .ok (.aload_n 0, 1) := by decide +kernel
theorem dX12_runs_77 : decode cX12_runs 77 = .ok (.getfield 57, 3) := by decide +kernel
theorem dX12_runs_80 : decode cX12_runs 80 = .ok (.bipush 12, 2) := by decide +kernel
theorem dX12_runs_82 : decode cX12_runs 82 = .ok (.aload_n 0, 1) := by decide +kernel
theorem dX12_runs_83 : decode cX12_runs 83 = .ok (.getfield 146, 3) := by decide +kernel
theorem dX12_runs_86 : decode cX12_runs 86 = .ok (.imul, 1) := by decide +kernel
theorem dX12_runs_87 : decode cX12_runs 87 = .ok (.iload 7, 2) := by decide +kernel
theorem dX12_runs_89 : decode cX12_runs 89 = .ok (.iadd, 1) := by decide +kernel
theorem dX12_runs_90 : decode cX12_runs 90 = .ok (.lconst 0, 1) := by decide +kernel
theorem dX12_runs_91 : decode cX12_runs 91 = .ok (.lastore, 1) := by decide +kernel
theorem dX12_runs_92 : decode cX12_runs 92 = .ok (.iinc 7 1, 3) := by decide +kernel
theorem dX12_runs_95 : decode cX12_runs 95 = .ok (.goto (-26), 3) := by decide +kernel
theorem dX12_runs_98 : decode cX12_runs 98 = .ok (.aload_n 0, 1) := by decide +kernel
theorem dX12_runs_99 : decode cX12_runs 99 = .ok (.iconst 0, 1) := by decide +kernel
theorem dX12_runs_100 : decode cX12_runs 100 = .ok (.putfield 235, 3) := by decide +kernel
theorem dX12_runs_103 : decode cX12_runs 103 = .ok (.aload_n 0, 1) := by decide +kernel
theorem dX12_runs_104 : decode cX12_runs 104 = .ok (.iconst 0, 1) := by decide +kernel
theorem dX12_runs_105 : decode cX12_runs 105 = .ok (.putfield 198, 3) := by decide +kernel
theorem dX12_runs_108 : decode cX12_runs 108 = .ok (.iconst 0, 1) := by decide +kernel
theorem dX12_runs_109 : decode cX12_runs 109 = .ok (.istore 7, 2) := by decide +kernel
theorem dX12_runs_111 : decode cX12_runs 111 = .ok (.iload 7, 2) := by decide +kernel
theorem dX12_runs_113 : decode cX12_runs 113 = .ok (.aload_n 0, 1) := by decide +kernel
theorem dX12_runs_114 : decode cX12_runs 114 = .ok (.getfield 25, 3) := by decide +kernel
theorem dX12_runs_117 : decode cX12_runs 117 = .ok (.iload_n 1, 1) := by decide +kernel
theorem dX12_runs_118 : decode cX12_runs 118 = .ok (.iaload, 1) := by decide +kernel
theorem dX12_runs_119 : decode cX12_runs 119 = .ok (.if_icmp .ge 89, 3) := by decide +kernel
theorem dX12_runs_122 : decode cX12_runs 122 = .ok (.aload_n 0, 1) := by decide +kernel
theorem dX12_runs_123 : decode cX12_runs 123 = .ok (.iload_n 1, 1) := by decide +kernel
theorem dX12_runs_124 : decode cX12_runs 124 = .ok (.bipush 20, 2) := by decide +kernel
theorem dX12_runs_126 : decode cX12_runs 126 = .ok (.iload_n 1, 1) := by decide +kernel
theorem dX12_runs_127 : decode cX12_runs 127 = .ok (.imul, 1) := by decide +kernel
theorem dX12_runs_128 : decode cX12_runs 128 = .ok (.iload 7, 2) := by decide +kernel
theorem dX12_runs_130 : decode cX12_runs 130 = .ok (.iadd, 1) := by decide +kernel
theorem dX12_runs_131 : decode cX12_runs 131 = .ok (.invokevirtual 274, 3) := by decide +kernel
theorem dX12_runs_134 : decode cX12_runs 134 = .ok (.aload_n 0, 1) := by decide +kernel
theorem dX12_runs_135 : decode cX12_runs 135 = .ok (.getfield 198, 3) := by decide +kernel
theorem dX12_runs_138 : decode cX12_runs 138 = .ok (.ifCond .eq 64, 3) := by decide +kernel
theorem dX12_runs_141 : decode cX12_runs 141 = .ok (.iconst 0, 1) := by decide +kernel
theorem dX12_runs_142 : decode cX12_runs 142 = .ok (.istore 8, 2) := by decide +kernel
theorem dX12_runs_144 : decode cX12_runs 144 = .ok (.iload 8, 2) := by decide +kernel
theorem dX12_runs_146 : decode cX12_runs 146 = .ok (.bipush 8, 2) := by decide +kernel
theorem dX12_runs_148 : decode cX12_runs 148 = .ok (.if_icmp .ge 31, 3) := by decide +kernel
theorem dX12_runs_151 : decode cX12_runs 151 = .ok (.aload_n 0, 1) := by decide +kernel
theorem dX12_runs_152 : decode cX12_runs 152 = .ok (.getfield 60, 3) := by decide +kernel
theorem dX12_runs_155 : decode cX12_runs 155 = .ok (.bipush 8, 2) := by decide +kernel
theorem dX12_runs_157 : decode cX12_runs 157 = .ok (.aload_n 0, 1) := by decide +kernel
theorem dX12_runs_158 : decode cX12_runs 158 = .ok (.getfield 146, 3) := by decide +kernel
theorem dX12_runs_161 : decode cX12_runs 161 = .ok (.imul, 1) := by decide +kernel
theorem dX12_runs_162 : decode cX12_runs 162 = .ok (.iload 8, 2) := by decide +kernel
theorem dX12_runs_164 : decode cX12_runs 164 = .ok (.iadd, 1) := by decide +kernel
theorem dX12_runs_165 : decode cX12_runs 165 = .ok (.aload_n 0, 1) := by decide +kernel
theorem dX12_runs_166 : decode cX12_runs 166 = .ok (.getfield 97, 3) := by decide +kernel
theorem dX12_runs_169 : decode cX12_runs 169 = .ok (.iload 8, 2) := by decide +kernel
theorem dX12_runs_171 : decode cX12_runs 171 = .ok (.laload, 1) := by decide +kernel
theorem dX12_runs_172 : decode cX12_runs 172 = .ok (.lastore, 1) := by decide +kernel
theorem dX12_runs_173 : decode cX12_runs 173 = .ok (.iinc 8 1, 3) := by decide +kernel
theorem dX12_runs_176 : decode cX12_runs 176 = .ok (.goto (-32), 3) := by decide +kernel
theorem dX12_runs_179 : decode cX12_runs 179 = .ok (.aload_n 0, 1) := by decide +kernel
theorem dX12_runs_180 : decode cX12_runs 180 = .ok (.getfield 63, 3) := by decide +kernel
theorem dX12_runs_183 : decode cX12_runs 183 = .ok (.iload_n 2, 1) := by decide +kernel
theorem dX12_runs_184 : decode cX12_runs 184 = .ok (.lload_n 3, 1) := by decide +kernel
theorem dX12_runs_185 : decode cX12_runs 185 = .ok (.lastore, 1) := by decide +kernel
theorem dX12_runs_186 : decode cX12_runs 186 = .ok (.aload_n 0, 1) := by decide +kernel
theorem dX12_runs_187 : decode cX12_runs 187 = .ok (.getfield 66, 3) := by decide +kernel
theorem dX12_runs_190 : decode cX12_runs 190 = .ok (.iload_n 2, 1) := by decide +kernel
theorem dX12_runs_191 : decode cX12_runs 191 = .ok (.lload 5, 2) := by decide +kernel
theorem dX12_runs_193 : decode cX12_runs 193 = .ok (.lastore, 1) := by decide +kernel
theorem dX12_runs_194 : decode cX12_runs 194 = .ok (.aload_n 0, 1) := by decide +kernel
theorem dX12_runs_195 : decode cX12_runs 195 = .ok (.iconst 0, 1) := by decide +kernel
theorem dX12_runs_196 : decode cX12_runs 196 = .ok (.putfield 235, 3) := by decide +kernel
theorem dX12_runs_199 : decode cX12_runs 199 = .ok (.iload 7, 2) := by decide +kernel
theorem dX12_runs_201 : decode cX12_runs 201 = .ok (.ireturn, 1) := by decide +kernel
theorem dX12_runs_202 : decode cX12_runs 202 = .ok (.iinc 7 1, 3) := by decide +kernel
theorem dX12_runs_205 : decode cX12_runs 205 = .ok (.goto (-94), 3) := by decide +kernel
theorem dX12_runs_208 : decode cX12_runs 208 = .ok (.bipush (-2), 2) := by decide +kernel
theorem dX12_runs_210 : decode cX12_runs 210 = .ok (.ireturn, 1) := by decide +kernel
set_option maxRecDepth 20000 in
theorem ggX12_runsReal_X12_runs : GoodIn wsX12_runsReal wsX12_runs := goodIn_r _ [13, 1, 14, 15, 16, 17, 18, 8, 19, 20, 21, 22, 23, 12, 24, 25, 26, 27, 28, 29, 30, 31, 32, 33, 34, 35, 36, 37, 38, 3, 4, 39, 40, 41, 42, 43, 44, 45, 46, 47, 48, 49, 50, 51, 52, 53, 54, 55, 56, 57, 58, 59, 60, 61, 62, 63, 64, 65, 66, 67, 68, 69, 70, 71, 72, 73, 74, 75, 76, 77, 78, 79, 80, 81, 82, 83, 84, 85, 86, 87, 88, 89, 90, 91, 92, 93, 94, 95, 96, 97, 98, 99, 100, 101, 102, 103, 104, 105, 106, 107, 108, 109, 110, 111, 112, 113, 114, 115, 116, 117, 118, 119, 120, 121, 122, 123, 124, 125, 126, 127, 128, 129, 130, 131, 132, 133, 134, 135, 136, 137, 138, 139, 140, 141, 142, 143, 144, 145, 146, 147, 148, 149, 150, 151, 152, 153, 154, 155, 156, 157, 158, 159, 160, 161, 162, 163, 164, 165, 166, 167, 168, 169] (by decide +kernel) (by decide +kernel)
set_option maxRecDepth 20000 in
theorem gX12_runsReal_X12_runs : GoodIn wsX12_runsReal (wsV RX12 277 RX12 yX12_runs wsX12_runs) := goodIn_app (goodIn_of _ (by decide +kernel)) ggX12_runsReal_X12_runs
theorem dX12_runsReal_0 : decode cX12_runsReal 0 = .ok (.aload_n 0, 1) := by decide +kernel
theorem dX12_runsReal_1 : decode cX12_runsReal 1 = .ok (.iconst 0, 1) := by decide +kernel
theorem dX12_runsReal_2 : decode cX12_runsReal 2 = .ok (.putfield 146, 3) := by decide +kernel
theorem dX12_runsReal_5 : decode cX12_runsReal 5 = .ok (.aload_n 0, 1) := by decide +kernel
theorem dX12_runsReal_6 : decode cX12_runsReal 6 = .ok (.aload_n 0, 1) := by decide +kernel
theorem dX12_runsReal_7 : decode cX12_runsReal 7 = .ok (.getfield 137, 3) := by decide +kernel
theorem dX12_runsReal_10 : decode cX12_runsReal 10 = .ok (.putfield 209, 3) := by decide +kernel
theorem dX12_runsReal_13 : decode cX12_runsReal 13 = .ok (.iconst 0, 1) := by decide +kernel
theorem dX12_runsReal_14 : decode cX12_runsReal 14 = .ok (.istore_n 2, 1) := by decide +kernel
theorem dX12_runsReal_15 : decode cX12_runsReal 15 = .ok (.iload_n 2, 1) := by decide +kernel
theorem dX12_runsReal_16 : decode cX12_runsReal 16 = .ok (.aload_n 0, 1) := by decide +kernel
theorem dX12_runsReal_17 : decode cX12_runsReal 17 = .ok (.getfield 137, 3) := by decide +kernel
theorem dX12_runsReal_20 : decode cX12_runsReal 20 = .ok (.if_icmp .ge 21, 3) := by decide +kernel
theorem dX12_runsReal_23 : decode cX12_runsReal 23 = .ok (.aload_n 0, 1) := by decide +kernel
theorem dX12_runsReal_24 : decode cX12_runsReal 24 = .ok (.getfield 44, 3) := by decide +kernel
theorem dX12_runsReal_27 : decode cX12_runsReal 27 = .ok (.iload_n 2, 1) := by decide +kernel
theorem dX12_runsReal_28 : decode cX12_runsReal 28 = .ok (.aload_n 0, 1) := by decide +kernel
theorem dX12_runsReal_29 : decode cX12_runsReal 29 = .ok (.getfield 16, 3) := by decide +kernel
theorem dX12_runsReal_32 : decode cX12_runsReal 32 = .ok (.iload_n 2, 1) := by decide +kernel
theorem dX12_runsReal_33 : decode cX12_runsReal 33 = .ok (.iaload, 1) := by decide +kernel
theorem dX12_runsReal_34 : decode cX12_runsReal 34 = .ok (.iastore, 1) := by decide +kernel
theorem dX12_runsReal_35 : decode cX12_runsReal 35 = .ok (.iinc 2 1, 3) := by decide +kernel
theorem dX12_runsReal_38 : decode cX12_runsReal 38 = .ok (.goto (-23), 3) := by decide +kernel
theorem dX12_runsReal_41 : decode cX12_runsReal 41 = .ok (.aload_n 0, 1) := by decide +kernel
theorem dX12_runsReal_42 : decode cX12_runsReal 42 = .ok (.aload_n 0, 1) := by decide +kernel
theorem dX12_runsReal_43 : decode cX12_runsReal 43 = .ok (.iload_n 1, 1) := by decide +kernel
theorem dX12_runsReal_44 : decode cX12_runsReal 44 = .ok (.invokevirtual 277, 3) := by decide +kernel
theorem dX12_runsReal_47 : decode cX12_runsReal 47 = .ok (.putfield 40, 3) := by decide +kernel
theorem dX12_runsReal_50 : decode cX12_runsReal 50 = .ok (.aload_n 0, 1) := by decide +kernel
theorem dX12_runsReal_51 : decode cX12_runsReal 51 = .ok (.dup, 1) := by decide +kernel
theorem dX12_runsReal_52 : decode cX12_runsReal 52 = .ok (.getfield 143, 3) := by decide +kernel
theorem dX12_runsReal_55 : decode cX12_runsReal 55 = .ok (.aload_n 0, 1) := by decide +kernel
theorem dX12_runsReal_56 : decode cX12_runsReal 56 = .ok (.getfield 235, 3) := by decide +kernel
theorem dX12_runsReal_59 : decode cX12_runsReal 59 = .ok (.iadd, 1) := by decide +kernel
theorem dX12_runsReal_60 : decode cX12_runsReal 60 = .ok (.putfield 143, 3) := by decide +kernel
theorem dX12_runsReal_63 : decode cX12_runsReal 63 = .ok (.aload_n 0, 1) := by decide +kernel
theorem dX12_runsReal_64 : decode cX12_runsReal 64 = .ok (.getfield 40, 3) := by decide +kernel
theorem dX12_runsReal_67 : decode cX12_runsReal 67 = .ok (.ireturn, 1) := by decide +kernel
set_option maxRecDepth 20000 in
theorem ggX12_run_X12_isProgram : GoodIn wsX12_run wsX12_isProgram := goodIn_r _ [7, 8, 9, 10, 6, 11, 130, 131, 132, 133, 134, 135, 136, 137, 138, 139, 140, 141, 142, 143, 144, 145, 146, 147, 148, 149, 150, 151, 152, 153, 154, 155, 156, 157, 158, 159, 160, 161, 162, 163, 164, 165, 166, 167, 168, 169, 170, 171, 172, 173, 174, 175, 176, 177, 178, 179, 180, 181] (by decide +kernel) (by decide +kernel)
set_option maxRecDepth 20000 in
theorem gX12_run_X12_isProgram : GoodIn wsX12_run (wsV RX12 172 RX12 yX12_isProgram wsX12_isProgram) := goodIn_app (goodIn_of _ (by decide +kernel)) ggX12_run_X12_isProgram
set_option maxRecDepth 20000 in
theorem ggX12_run_X12_runsReal : GoodIn wsX12_run wsX12_runsReal := goodIn_r _ [15, 16, 17, 18, 19, 20, 21, 22, 23, 24, 25, 26, 6, 27, 28, 29, 30, 31, 32, 2, 1, 33, 34, 35, 36, 37, 38, 39, 40, 41, 42, 43, 44, 45, 46, 47, 48, 49, 50, 51, 52, 53, 54, 55, 56, 57, 58, 59, 60, 61, 62, 63, 64, 65, 66, 67, 68, 69, 70, 71, 72, 73, 74, 75, 76, 77, 78, 79, 80, 81, 82, 83, 84, 85, 86, 87, 88, 89, 90, 91, 92, 93, 94, 95, 96, 97, 98, 99, 100, 101, 102, 103, 104, 105, 106, 107, 108, 109, 110, 111, 112, 113, 114, 115, 116, 117, 118, 119, 120, 121, 122, 123, 124, 125, 126, 127, 128, 129, 130, 131, 132, 133, 134, 135, 136, 137, 138, 139, 140, 141, 142, 143, 144, 145, 146, 147, 148, 149, 150, 151, 152, 153, 154, 155, 156, 157, 158, 159, 160, 161, 162, 163, 164, 165, 166, 167, 168, 169, 170, 171, 172, 173, 174, 175, 176, 177, 178, 179, 180, 181] (by decide +kernel) (by decide +kernel)
set_option maxRecDepth 20000 in
theorem gX12_run_X12_runsReal : GoodIn wsX12_run (wsV RX12 280 RX12 yX12_runsReal wsX12_runsReal) := goodIn_app (goodIn_of _ (by decide +kernel)) ggX12_run_X12_runsReal
theorem dX12_run_0 : decode cX12_run 0 = .ok (.aload_n 0, 1) := by decide +kernel
theorem dX12_run_1 : decode cX12_run 1 = .ok (.iload_n 1, 1) := by decide +kernel
theorem dX12_run_2 : decode cX12_run 2 = .ok (.invokevirtual 172, 3) := by decide +kernel
theorem dX12_run_5 : decode cX12_run 5 = .ok (.ifCond .ne 5, 3) := by decide +kernel
theorem dX12_run_8 : decode cX12_run 8 = .ok (.iconst (-1), 1) := by decide +kernel
theorem dX12_run_9 : decode cX12_run 9 = .ok (.ireturn, 1) := by decide +kernel
theorem dX12_run_10 : decode cX12_run 10 = .ok (.aload_n 0, 1) := by decide +kernel
theorem dX12_run_11 : decode cX12_run 11 = .ok (.iload_n 1, 1) := by decide +kernel
theorem dX12_run_12 : decode cX12_run 12 = .ok (.invokevirtual 280, 3) := by decide +kernel
theorem dX12_run_15 : decode cX12_run 15 = .ok (.bipush (-2), 2) := by decide +kernel
theorem dX12_run_17 : decode cX12_run 17 = .ok (.if_icmp .ne 12, 3) := by decide +kernel
theorem dX12_run_20 : decode cX12_run 20 = .ok (.aload_n 0, 1) := by decide +kernel
theorem dX12_run_21 : decode cX12_run 21 = .ok (.getfield 25, 3) := by decide +kernel
theorem dX12_run_24 : decode cX12_run 24 = .ok (.iload_n 1, 1) := by decide +kernel
theorem dX12_run_25 : decode cX12_run 25 = .ok (.iaload, 1) := by decide +kernel
theorem dX12_run_26 : decode cX12_run 26 = .ok (.goto 7, 3) := by decide +kernel
theorem dX12_run_29 : decode cX12_run 29 = .ok (.aload_n 0, 1) := by decide +kernel
theorem dX12_run_30 : decode cX12_run 30 = .ok (.getfield 198, 3) := by decide +kernel
theorem dX12_run_33 : decode cX12_run 33 = .ok (.ireturn, 1) := by decide +kernel
set_option maxRecDepth 20000 in
theorem ggX12_years_X12_isProgram : GoodIn wsX12_years wsX12_isProgram := goodIn_r _ [5, 6, 7, 8, 4, 9, 130, 131, 132, 133, 134, 135, 136, 137, 138, 139, 140, 141, 142, 143, 144, 145, 146, 147, 148, 149, 150, 151, 152, 153, 154, 155, 156, 157, 158, 159, 160, 161, 162, 163, 164, 165, 166, 167, 168, 169, 170, 171, 172, 173, 174, 175, 176, 177, 178, 179, 180, 181] (by decide +kernel) (by decide +kernel)
set_option maxRecDepth 20000 in
theorem gX12_years_X12_isProgram : GoodIn wsX12_years (wsV RX12 172 RX12 yX12_isProgram wsX12_isProgram) := goodIn_app (goodIn_of _ (by decide +kernel)) ggX12_years_X12_isProgram
set_option maxRecDepth 20000 in
theorem ggX12_years_X12_in : GoodIn wsX12_years wsX12_in := goodIn_r _ [9] (by decide +kernel) (by decide +kernel)
set_option maxRecDepth 20000 in
theorem gX12_years_X12_in : GoodIn wsX12_years (va_wsS RX12 159 yX12_in wsX12_in) := goodIn_app (goodIn_of _ (by decide +kernel)) ggX12_years_X12_in
set_option maxRecDepth 20000 in
theorem ggX12_years_X12_runsReal : GoodIn wsX12_years wsX12_runsReal := goodIn_r _ [13, 14, 15, 16, 17, 18, 19, 20, 21, 22, 23, 24, 4, 25, 26, 27, 28, 29, 30, 31, 32, 33, 34, 35, 36, 37, 38, 39, 40, 41, 42, 43, 44, 45, 46, 47, 48, 49, 50, 51, 52, 53, 54, 55, 56, 57, 58, 59, 60, 61, 62, 63, 64, 65, 66, 67, 68, 69, 70, 71, 72, 73, 74, 75, 76, 77, 78, 79, 80, 81, 82, 83, 84, 85, 86, 87, 88, 89, 90, 91, 92, 93, 94, 95, 96, 97, 98, 99, 100, 101, 102, 103, 104, 105, 106, 107, 108, 109, 110, 111, 112, 113, 114, 115, 116, 117, 118, 119, 120, 121, 122, 123, 124, 125, 126, 127, 128, 129, 130, 131, 132, 133, 134, 135, 136, 137, 138, 139, 140, 141, 142, 143, 144, 145, 146, 147, 148, 149, 150, 151, 152, 153, 154, 155, 156, 157, 158, 159, 160, 161, 162, 163, 164, 165, 166, 167, 168, 169, 170, 171, 172, 173, 174, 175, 176, 177, 178, 179, 180, 181] (by decide +kernel) (by decide +kernel)
set_option maxRecDepth 20000 in
theorem gX12_years_X12_runsReal : GoodIn wsX12_years (wsV RX12 280 RX12 yX12_runsReal wsX12_runsReal) := goodIn_app (goodIn_of _ (by decide +kernel)) ggX12_years_X12_runsReal
theorem dX12_years_0 : decode cX12_years 0 = .ok (.aload_n 0, 1) := by decide +kernel
theorem dX12_years_1 : decode cX12_years 1 = .ok (.iload_n 1, 1) := by decide +kernel
theorem dX12_years_2 : decode cX12_years 2 = .ok (.invokevirtual 172, 3) := by decide +kernel
theorem dX12_years_5 : decode cX12_years 5 = .ok (.ifCond .eq 13, 3) := by decide +kernel
theorem dX12_years_8 : decode cX12_years 8 = .ok (.iload_n 2, 1) := by decide +kernel
theorem dX12_years_9 : decode cX12_years 9 = .ok (.iconst 0, 1) := by decide +kernel
theorem dX12_years_10 : decode cX12_years 10 = .ok (.bipush 40, 2) := by decide +kernel
theorem dX12_years_12 : decode cX12_years 12 = .ok (.invokestatic 159, 3) := by decide +kernel
theorem dX12_years_15 : decode cX12_years 15 = .ok (.ifCond .ne 5, 3) := by decide +kernel
theorem dX12_years_18 : decode cX12_years 18 = .ok (.iconst (-1), 1) := by decide +kernel
theorem dX12_years_19 : decode cX12_years 19 = .ok (.ireturn, 1) := by decide +kernel
theorem dX12_years_20 : decode cX12_years 20 = .ok (.iconst 0, 1) := by decide +kernel
theorem dX12_years_21 : decode cX12_years 21 = .ok (.istore_n 3, 1) := by decide +kernel
theorem dX12_years_22 : decode cX12_years 22 = .ok (.iload_n 3, 1) := by decide +kernel
theorem dX12_years_23 : decode cX12_years 23 = .ok (.iload_n 2, 1) := by decide +kernel
theorem dX12_years_24 : decode cX12_years 24 = .ok (.if_icmp .ge 19, 3) := by decide +kernel
theorem dX12_years_27 : decode cX12_years 27 = .ok (.aload_n 0, 1) := by decide +kernel
theorem dX12_years_28 : decode cX12_years 28 = .ok (.iload_n 1, 1) := by decide +kernel
theorem dX12_years_29 : decode cX12_years 29 = .ok (.invokevirtual 280, 3) := by decide +kernel
theorem dX12_years_32 : decode cX12_years 32 = .ok (.bipush (-2), 2) := by decide +kernel
theorem dX12_years_34 : decode cX12_years 34 = .ok (.if_icmp .ne 9, 3) := by decide +kernel
theorem dX12_years_37 : decode cX12_years 37 = .ok (.iinc 3 1, 3) := by decide +kernel
theorem dX12_years_40 : decode cX12_years 40 = .ok (.goto (-18), 3) := by decide +kernel
theorem dX12_years_43 : decode cX12_years 43 = .ok (.iload_n 3, 1) := by decide +kernel
theorem dX12_years_44 : decode cX12_years 44 = .ok (.ireturn, 1) := by decide +kernel
theorem dX12_failed_0 : decode cX12_failed 0 = .ok (.aload_n 0, 1) := by decide +kernel
theorem dX12_failed_1 : decode cX12_failed 1 = .ok (.getfield 40, 3) := by decide +kernel
theorem dX12_failed_4 : decode cX12_failed 4 = .ok (.ireturn, 1) := by decide +kernel
theorem dX12_isRefused_0 : decode cX12_isRefused 0 = .ok (.aload_n 0, 1) := by decide +kernel
theorem dX12_isRefused_1 : decode cX12_isRefused 1 = .ok (.iload_n 1, 1) := by decide +kernel
theorem dX12_isRefused_2 : decode cX12_isRefused 2 = .ok (.ifCond .eq 7, 3) := by decide +kernel
theorem dX12_isRefused_5 : decode cX12_isRefused 5 = .ok (.iconst 0, 1) := by decide +kernel
theorem dX12_isRefused_6 : decode cX12_isRefused 6 = .ok (.goto 4, 3) := by decide +kernel
theorem dX12_isRefused_9 : decode cX12_isRefused 9 = .ok (.iconst 1, 1) := by decide +kernel
theorem dX12_isRefused_10 : decode cX12_isRefused 10 = .ok (.putfield 131, 3) := by decide +kernel
theorem dX12_isRefused_13 : decode cX12_isRefused 13 = .ok (.iload_n 1, 1) := by decide +kernel
theorem dX12_isRefused_14 : decode cX12_isRefused 14 = .ok (.ifCond .ne 7, 3) := by decide +kernel
theorem dX12_isRefused_17 : decode cX12_isRefused 17 = .ok (.iconst 1, 1) := by decide +kernel
theorem dX12_isRefused_18 : decode cX12_isRefused 18 = .ok (.goto 4, 3) := by decide +kernel
theorem dX12_isRefused_21 : decode cX12_isRefused 21 = .ok (.iconst 0, 1) := by decide +kernel
theorem dX12_isRefused_22 : decode cX12_isRefused 22 = .ok (.ireturn, 1) := by decide +kernel
set_option maxRecDepth 20000 in
theorem ggX12_account_X12_in : GoodIn wsX12_account wsX12_in := goodIn_r _ [5] (by decide +kernel) (by decide +kernel)
set_option maxRecDepth 20000 in
theorem gX12_account_X12_in : GoodIn wsX12_account (va_wsS RX12 159 yX12_in wsX12_in) := goodIn_app (goodIn_of _ (by decide +kernel)) ggX12_account_X12_in
set_option maxRecDepth 20000 in
theorem ggX12_account_X12_isRefused : GoodIn wsX12_account wsX12_isRefused := goodIn_r _ [9, 10, 11, 12, 13, 14, 15, 16, 17, 18, 19, 20, 21, 22, 23, 24, 25, 26, 27, 28, 29, 30, 31, 32, 33, 34, 35, 36, 37, 38, 39, 40, 41, 42, 43, 44, 45, 46, 47, 48, 49, 50, 51, 52, 53, 54, 55, 56, 57, 58, 59, 60, 61, 62] (by decide +kernel) (by decide +kernel)
set_option maxRecDepth 20000 in
theorem gX12_account_X12_isRefused : GoodIn wsX12_account (wsV RX12 283 RX12 yX12_isRefused wsX12_isRefused) := goodIn_app (goodIn_of _ (by decide +kernel)) ggX12_account_X12_isRefused
theorem dX12_account_0 : decode cX12_account 0 = .ok (.aload_n 0, 1) := by decide +kernel
theorem dX12_account_1 : decode cX12_account 1 = .ok (.iload_n 1, 1) := by decide +kernel
theorem dX12_account_2 : decode cX12_account 2 = .ok (.iconst 0, 1) := by decide +kernel
theorem dX12_account_3 : decode cX12_account 3 = .ok (.bipush 7, 2) := by decide +kernel
theorem dX12_account_5 : decode cX12_account 5 = .ok (.invokestatic 159, 3) := by decide +kernel
theorem dX12_account_8 : decode cX12_account 8 = .ok (.invokevirtual 283, 3) := by decide +kernel
theorem dX12_account_11 : decode cX12_account 11 = .ok (.ifCond .eq 7, 3) := by decide +kernel
theorem dX12_account_14 : decode cX12_account 14 = .ok (.lconst 0, 1) := by decide +kernel
theorem dX12_account_15 : decode cX12_account 15 = .ok (.goto 9, 3) := by decide +kernel
theorem dX12_account_18 : decode cX12_account 18 = .ok (.aload_n 0, 1) := by decide +kernel
theorem dX12_account_19 : decode cX12_account 19 = .ok (.getfield 60, 3) := by decide +kernel
theorem dX12_account_22 : decode cX12_account 22 = .ok (.iload_n 1, 1) := by decide +kernel
theorem dX12_account_23 : decode cX12_account 23 = .ok (.laload, 1) := by decide +kernel
theorem dX12_account_24 : decode cX12_account 24 = .ok (.lreturn, 1) := by decide +kernel
set_option maxRecDepth 20000 in
theorem ggX12_slot_X12_in : GoodIn wsX12_slot wsX12_in := goodIn_r _ [7] (by decide +kernel) (by decide +kernel)
set_option maxRecDepth 20000 in
theorem gX12_slot_X12_in : GoodIn wsX12_slot (va_wsS RX12 159 yX12_in wsX12_in) := goodIn_app (goodIn_of _ (by decide +kernel)) ggX12_slot_X12_in
set_option maxRecDepth 20000 in
theorem ggX12_slot_X12_isRefused : GoodIn wsX12_slot wsX12_isRefused := goodIn_r _ [11, 12, 13, 14, 15, 16, 17, 18, 19, 20, 21, 22, 23, 24, 25, 26, 27, 28, 29, 30, 31, 32, 33, 34, 35, 36, 37, 38, 39, 40, 41, 42, 43, 44, 45, 46, 47, 48, 49, 50, 51, 52, 53, 54, 55, 56, 57, 58, 59, 60, 61, 62, 63, 64] (by decide +kernel) (by decide +kernel)
set_option maxRecDepth 20000 in
theorem gX12_slot_X12_isRefused : GoodIn wsX12_slot (wsV RX12 283 RX12 yX12_isRefused wsX12_isRefused) := goodIn_app (goodIn_of _ (by decide +kernel)) ggX12_slot_X12_isRefused
theorem dX12_slot_0 : decode cX12_slot 0 = .ok (.aload_n 0, 1) := by decide +kernel
theorem dX12_slot_1 : decode cX12_slot 1 = .ok (.iload_n 1, 1) := by decide +kernel
theorem dX12_slot_2 : decode cX12_slot 2 = .ok (.iconst 0, 1) := by decide +kernel
theorem dX12_slot_3 : decode cX12_slot 3 = .ok (.bipush 7, 2) := by decide +kernel
theorem dX12_slot_5 : decode cX12_slot 5 = .ok (.invokestatic 159, 3) := by decide +kernel
theorem dX12_slot_8 : decode cX12_slot 8 = .ok (.ifCond .eq 16, 3) := by decide +kernel
theorem dX12_slot_11 : decode cX12_slot 11 = .ok (.iload_n 2, 1) := by decide +kernel
theorem dX12_slot_12 : decode cX12_slot 12 = .ok (.iconst 0, 1) := by decide +kernel
theorem dX12_slot_13 : decode cX12_slot 13 = .ok (.iconst 2, 1) := by decide +kernel
theorem dX12_slot_14 : decode cX12_slot 14 = .ok (.invokestatic 159, 3) := by decide +kernel
theorem dX12_slot_17 : decode cX12_slot 17 = .ok (.ifCond .eq 7, 3) := by decide +kernel
theorem dX12_slot_20 : decode cX12_slot 20 = .ok (.iconst 1, 1) := by decide +kernel
theorem dX12_slot_21 : decode cX12_slot 21 = .ok (.goto 4, 3) := by decide +kernel
theorem dX12_slot_24 : decode cX12_slot 24 = .ok (.iconst 0, 1) := by decide +kernel
theorem dX12_slot_25 : decode cX12_slot 25 = .ok (.invokevirtual 283, 3) := by decide +kernel
theorem dX12_slot_28 : decode cX12_slot 28 = .ok (.ifCond .eq 5, 3) := by decide +kernel
theorem dX12_slot_31 : decode cX12_slot 31 = .ok (.lconst 0, 1) := by decide +kernel
theorem dX12_slot_32 : decode cX12_slot 32 = .ok (.lreturn, 1) := by decide +kernel
theorem dX12_slot_33 : decode cX12_slot 33 = .ok (.iload_n 2, 1) := by decide +kernel
theorem dX12_slot_34 : decode cX12_slot 34 = .ok (.ifCond .ne 12, 3) := by decide +kernel
theorem dX12_slot_37 : decode cX12_slot 37 = .ok (.aload_n 0, 1) := by decide +kernel
theorem dX12_slot_38 : decode cX12_slot 38 = .ok (.getfield 47, 3) := by decide +kernel
theorem dX12_slot_41 : decode cX12_slot 41 = .ok (.iload_n 1, 1) := by decide +kernel
theorem dX12_slot_42 : decode cX12_slot 42 = .ok (.laload, 1) := by decide +kernel
theorem dX12_slot_43 : decode cX12_slot 43 = .ok (.goto 31, 3) := by decide +kernel
theorem dX12_slot_46 : decode cX12_slot 46 = .ok (.iload_n 2, 1) := by decide +kernel
theorem dX12_slot_47 : decode cX12_slot 47 = .ok (.iconst 1, 1) := by decide +kernel
theorem dX12_slot_48 : decode cX12_slot 48 = .ok (.if_icmp .ne 12, 3) := by decide +kernel
theorem dX12_slot_51 : decode cX12_slot 51 = .ok (.aload_n 0, 1) := by decide +kernel
theorem dX12_slot_52 : decode cX12_slot 52 = .ok (.getfield 51, 3) := by decide +kernel
theorem dX12_slot_55 : decode cX12_slot 55 = .ok (.iload_n 1, 1) := by decide +kernel
theorem dX12_slot_56 : decode cX12_slot 56 = .ok (.laload, 1) := by decide +kernel
theorem dX12_slot_57 : decode cX12_slot 57 = .ok (.goto 17, 3) := by decide +kernel
theorem dX12_slot_60 : decode cX12_slot 60 = .ok (.aload_n 0, 1) := by decide +kernel
theorem dX12_slot_61 : decode cX12_slot 61 = .ok (.getfield 69, 3) := by decide +kernel
theorem dX12_slot_64 : decode cX12_slot 64 = .ok (.iload_n 1, 1) := by decide +kernel
theorem dX12_slot_65 : decode cX12_slot 65 = .ok (.baload, 1) := by decide +kernel
theorem dX12_slot_66 : decode cX12_slot 66 = .ok (.ifCond .eq 7, 3) := by decide +kernel
theorem dX12_slot_69 : decode cX12_slot 69 = .ok (.lconst 1, 1) := by decide +kernel
theorem dX12_slot_70 : decode cX12_slot 70 = .ok (.goto 4, 3) := by decide +kernel
theorem dX12_slot_73 : decode cX12_slot 73 = .ok (.lconst 0, 1) := by decide +kernel
theorem dX12_slot_74 : decode cX12_slot 74 = .ok (.lreturn, 1) := by decide +kernel
set_option maxRecDepth 20000 in
theorem ggX12_part_X12_in : GoodIn wsX12_part wsX12_in := goodIn_r _ [5] (by decide +kernel) (by decide +kernel)
set_option maxRecDepth 20000 in
theorem gX12_part_X12_in : GoodIn wsX12_part (va_wsS RX12 159 yX12_in wsX12_in) := goodIn_app (goodIn_of _ (by decide +kernel)) ggX12_part_X12_in
set_option maxRecDepth 20000 in
theorem ggX12_part_X12_isRefused : GoodIn wsX12_part wsX12_isRefused := goodIn_r _ [9, 10, 11, 12, 13, 14, 15, 16, 17, 18, 19, 20, 21, 22, 23, 24, 25, 26, 27, 28, 29, 30, 31, 32, 33, 34, 35, 36, 37, 38, 39, 40, 41, 42, 43, 44, 45, 46, 47, 48, 49, 50, 51, 52, 53, 54, 55, 56, 57, 58, 59, 60, 61, 62] (by decide +kernel) (by decide +kernel)
set_option maxRecDepth 20000 in
theorem gX12_part_X12_isRefused : GoodIn wsX12_part (wsV RX12 283 RX12 yX12_isRefused wsX12_isRefused) := goodIn_app (goodIn_of _ (by decide +kernel)) ggX12_part_X12_isRefused
theorem dX12_part_0 : decode cX12_part 0 = .ok (.aload_n 0, 1) := by decide +kernel
theorem dX12_part_1 : decode cX12_part 1 = .ok (.iload_n 1, 1) := by decide +kernel
theorem dX12_part_2 : decode cX12_part 2 = .ok (.iconst 0, 1) := by decide +kernel
theorem dX12_part_3 : decode cX12_part 3 = .ok (.bipush 7, 2) := by decide +kernel
theorem dX12_part_5 : decode cX12_part 5 = .ok (.invokestatic 159, 3) := by decide +kernel
theorem dX12_part_8 : decode cX12_part 8 = .ok (.invokevirtual 283, 3) := by decide +kernel
theorem dX12_part_11 : decode cX12_part 11 = .ok (.ifCond .eq 7, 3) := by decide +kernel
theorem dX12_part_14 : decode cX12_part 14 = .ok (.lconst 0, 1) := by decide +kernel
theorem dX12_part_15 : decode cX12_part 15 = .ok (.goto 9, 3) := by decide +kernel
theorem dX12_part_18 : decode cX12_part 18 = .ok (.aload_n 0, 1) := by decide +kernel
theorem dX12_part_19 : decode cX12_part 19 = .ok (.getfield 54, 3) := by decide +kernel
theorem dX12_part_22 : decode cX12_part 22 = .ok (.iload_n 1, 1) := by decide +kernel
theorem dX12_part_23 : decode cX12_part 23 = .ok (.laload, 1) := by decide +kernel
theorem dX12_part_24 : decode cX12_part 24 = .ok (.lreturn, 1) := by decide +kernel
set_option maxRecDepth 20000 in
theorem ggX12_got_X12_in : GoodIn wsX12_got wsX12_in := goodIn_r _ [5] (by decide +kernel) (by decide +kernel)
set_option maxRecDepth 20000 in
theorem gX12_got_X12_in : GoodIn wsX12_got (va_wsS RX12 159 yX12_in wsX12_in) := goodIn_app (goodIn_of _ (by decide +kernel)) ggX12_got_X12_in
set_option maxRecDepth 20000 in
theorem ggX12_got_X12_isRefused : GoodIn wsX12_got wsX12_isRefused := goodIn_r _ [9, 10, 11, 12, 13, 14, 15, 16, 17, 18, 19, 20, 21, 22, 23, 24, 25, 26, 27, 28, 29, 30, 31, 32, 33, 34, 35, 36, 37, 38, 39, 40, 41, 42, 43, 44, 45, 46, 47, 48, 49, 50, 51, 52, 53, 54, 55, 56, 57, 58, 59, 60, 61, 62] (by decide +kernel) (by decide +kernel)
set_option maxRecDepth 20000 in
theorem gX12_got_X12_isRefused : GoodIn wsX12_got (wsV RX12 283 RX12 yX12_isRefused wsX12_isRefused) := goodIn_app (goodIn_of _ (by decide +kernel)) ggX12_got_X12_isRefused
theorem dX12_got_0 : decode cX12_got 0 = .ok (.aload_n 0, 1) := by decide +kernel
theorem dX12_got_1 : decode cX12_got 1 = .ok (.iload_n 1, 1) := by decide +kernel
theorem dX12_got_2 : decode cX12_got 2 = .ok (.iconst 0, 1) := by decide +kernel
theorem dX12_got_3 : decode cX12_got 3 = .ok (.bipush 11, 2) := by decide +kernel
theorem dX12_got_5 : decode cX12_got 5 = .ok (.invokestatic 159, 3) := by decide +kernel
theorem dX12_got_8 : decode cX12_got 8 = .ok (.invokevirtual 283, 3) := by decide +kernel
theorem dX12_got_11 : decode cX12_got 11 = .ok (.ifCond .eq 7, 3) := by decide +kernel
theorem dX12_got_14 : decode cX12_got 14 = .ok (.lconst 0, 1) := by decide +kernel
theorem dX12_got_15 : decode cX12_got 15 = .ok (.goto 9, 3) := by decide +kernel
theorem dX12_got_18 : decode cX12_got 18 = .ok (.aload_n 0, 1) := by decide +kernel
theorem dX12_got_19 : decode cX12_got 19 = .ok (.getfield 57, 3) := by decide +kernel
theorem dX12_got_22 : decode cX12_got 22 = .ok (.iload_n 1, 1) := by decide +kernel
theorem dX12_got_23 : decode cX12_got 23 = .ok (.laload, 1) := by decide +kernel
theorem dX12_got_24 : decode cX12_got 24 = .ok (.lreturn, 1) := by decide +kernel
set_option maxRecDepth 20000 in
theorem ggX12_carried_X12_isProgram : GoodIn wsX12_carried wsX12_isProgram := goodIn_r _ [7, 8, 9, 10, 6, 11, 17, 18, 19, 20, 21, 22, 23, 24, 25, 26, 27, 28, 29, 30, 31, 32, 33, 34, 35, 36, 37, 38, 39, 40, 41, 42, 43, 44, 45, 46, 47, 48, 49, 50, 51, 52, 53, 54, 55, 56, 57, 58, 59, 60, 61, 62, 63, 64, 65, 66, 67, 68] (by decide +kernel) (by decide +kernel)
set_option maxRecDepth 20000 in
theorem gX12_carried_X12_isProgram : GoodIn wsX12_carried (wsV RX12 172 RX12 yX12_isProgram wsX12_isProgram) := goodIn_app (goodIn_of _ (by decide +kernel)) ggX12_carried_X12_isProgram
set_option maxRecDepth 20000 in
theorem ggX12_carried_X12_in : GoodIn wsX12_carried wsX12_in := goodIn_r _ [11] (by decide +kernel) (by decide +kernel)
set_option maxRecDepth 20000 in
theorem gX12_carried_X12_in : GoodIn wsX12_carried (va_wsS RX12 159 yX12_in wsX12_in) := goodIn_app (goodIn_of _ (by decide +kernel)) ggX12_carried_X12_in
set_option maxRecDepth 20000 in
theorem ggX12_carried_X12_isRefused : GoodIn wsX12_carried wsX12_isRefused := goodIn_r _ [15, 16, 17, 18, 19, 20, 21, 22, 23, 24, 25, 26, 27, 28, 29, 30, 31, 32, 33, 34, 35, 36, 37, 38, 39, 40, 41, 42, 43, 44, 45, 46, 47, 48, 49, 50, 51, 52, 53, 54, 55, 56, 57, 58, 59, 60, 61, 62, 63, 64, 65, 66, 67, 68] (by decide +kernel) (by decide +kernel)
set_option maxRecDepth 20000 in
theorem gX12_carried_X12_isRefused : GoodIn wsX12_carried (wsV RX12 283 RX12 yX12_isRefused wsX12_isRefused) := goodIn_app (goodIn_of _ (by decide +kernel)) ggX12_carried_X12_isRefused
theorem dX12_carried_0 : decode cX12_carried 0 = .ok (.aload_n 0, 1) := by decide +kernel
theorem dX12_carried_1 : decode cX12_carried 1 = .ok (.aload_n 0, 1) := by decide +kernel
theorem dX12_carried_2 : decode cX12_carried 2 = .ok (.iload_n 1, 1) := by decide +kernel
theorem dX12_carried_3 : decode cX12_carried 3 = .ok (.invokevirtual 172, 3) := by decide +kernel
theorem dX12_carried_6 : decode cX12_carried 6 = .ok (.ifCond .eq 16, 3) := by decide +kernel
theorem dX12_carried_9 : decode cX12_carried 9 = .ok (.iload_n 2, 1) := by decide +kernel
theorem dX12_carried_10 : decode cX12_carried 10 = .ok (.iconst 0, 1) := by decide +kernel
theorem dX12_carried_11 : decode cX12_carried 11 = .ok (.iconst 1, 1) := by decide +kernel
theorem dX12_carried_12 : decode cX12_carried 12 = .ok (.invokestatic 159, 3) := by decide +kernel
theorem dX12_carried_15 : decode cX12_carried 15 = .ok (.ifCond .eq 7, 3) := by decide +kernel
theorem dX12_carried_18 : decode cX12_carried 18 = .ok (.iconst 1, 1) := by decide +kernel
theorem dX12_carried_19 : decode cX12_carried 19 = .ok (.goto 4, 3) := by decide +kernel
theorem dX12_carried_22 : decode cX12_carried 22 = .ok (.iconst 0, 1) := by decide +kernel
theorem dX12_carried_23 : decode cX12_carried 23 = .ok (.invokevirtual 283, 3) := by decide +kernel
theorem dX12_carried_26 : decode cX12_carried 26 = .ok (.ifCond .eq 5, 3) := by decide +kernel
theorem dX12_carried_29 : decode cX12_carried 29 = .ok (.lconst 0, 1) := by decide +kernel
theorem dX12_carried_30 : decode cX12_carried 30 = .ok (.lreturn, 1) := by decide +kernel
theorem dX12_carried_31 : decode cX12_carried 31 = .ok (.iload_n 2, 1) := by decide +kernel
theorem dX12_carried_32 : decode cX12_carried 32 = .ok (.ifCond .ne 12, 3) := by decide +kernel
theorem dX12_carried_35 : decode cX12_carried 35 = .ok (.aload_n 0, 1) := by decide +kernel
theorem dX12_carried_36 : decode cX12_carried 36 = .ok (.getfield 63, 3) := by decide +kernel
theorem dX12_carried_39 : decode cX12_carried 39 = .ok (.iload_n 1, 1) := by decide +kernel
theorem dX12_carried_40 : decode cX12_carried 40 = .ok (.laload, 1) := by decide +kernel
theorem dX12_carried_41 : decode cX12_carried 41 = .ok (.goto 9, 3) := by decide +kernel
theorem dX12_carried_44 : decode cX12_carried 44 = .ok (.aload_n 0, 1) := by decide +kernel
theorem dX12_carried_45 : decode cX12_carried 45 = .ok (.getfield 66, 3) := by decide +kernel
theorem dX12_carried_48 : decode cX12_carried 48 = .ok (.iload_n 1, 1) := by decide +kernel
theorem dX12_carried_49 : decode cX12_carried 49 = .ok (.laload, 1) := by decide +kernel
theorem dX12_carried_50 : decode cX12_carried 50 = .ok (.lreturn, 1) := by decide +kernel
set_option maxRecDepth 20000 in
theorem ggX12_tries_X12_runs : GoodIn wsX12_tries wsX12_runs := goodIn_r _ [9, 1, 3, 4, 10, 2, 11, 12, 13, 14, 15, 16, 17, 8, 18, 19, 20, 21, 22, 23, 24, 25, 26, 27, 28, 29, 30, 31, 32, 33, 34, 35, 36, 37, 38, 39, 40, 41, 42, 43, 44, 45, 46, 47, 48, 49, 50, 51, 52, 53, 54, 55, 56, 57, 58, 59, 60, 61, 62, 63, 64, 65, 66, 67, 68, 69, 70, 71, 72, 73, 74, 75, 76, 77, 78, 79, 80, 81, 82, 83, 84, 85, 86, 87, 88, 89, 90, 91, 92, 93, 94, 95, 96, 97, 98, 99, 100, 101, 102, 103, 104, 105, 106, 107, 108, 109, 110, 111, 112, 113, 114, 115, 116, 117, 118, 119, 120, 121, 122, 123, 124, 125, 126, 127, 128, 129, 130, 131, 132, 133, 134, 135, 136, 137, 138, 139, 140, 141, 142, 143, 144, 145, 146, 147, 148, 149, 150, 151, 152, 153, 154, 155, 156, 157, 158, 159, 160, 161, 162, 163, 164, 165] (by decide +kernel) (by decide +kernel)
set_option maxRecDepth 20000 in
theorem gX12_tries_X12_runs : GoodIn wsX12_tries (wsV RX12 277 RX12 yX12_runs wsX12_runs) := goodIn_app (goodIn_of _ (by decide +kernel)) ggX12_tries_X12_runs
theorem dX12_tries_0 : decode cX12_tries 0 = .ok (.aload_n 0, 1) := by decide +kernel
theorem dX12_tries_1 : decode cX12_tries 1 = .ok (.iconst 1, 1) := by decide +kernel
theorem dX12_tries_2 : decode cX12_tries 2 = .ok (.putfield 146, 3) := by decide +kernel
theorem dX12_tries_5 : decode cX12_tries 5 = .ok (.iconst 0, 1) := by decide +kernel
theorem dX12_tries_6 : decode cX12_tries 6 = .ok (.istore_n 2, 1) := by decide +kernel
theorem dX12_tries_7 : decode cX12_tries 7 = .ok (.iload_n 2, 1) := by decide +kernel
theorem dX12_tries_8 : decode cX12_tries 8 = .ok (.bipush 8, 2) := by decide +kernel
theorem dX12_tries_10 : decode cX12_tries 10 = .ok (.if_icmp .ge 19, 3) := by decide +kernel
theorem dX12_tries_13 : decode cX12_tries 13 = .ok (.aload_n 0, 1) := by decide +kernel
theorem dX12_tries_14 : decode cX12_tries 14 = .ok (.getfield 60, 3) := by decide +kernel
theorem dX12_tries_17 : decode cX12_tries 17 = .ok (.bipush 8, 2) := by decide +kernel
theorem dX12_tries_19 : decode cX12_tries 19 = .ok (.iload_n 2, 1) := by decide +kernel
theorem dX12_tries_20 : decode cX12_tries 20 = .ok (.iadd, 1) := by decide +kernel
theorem dX12_tries_21 : decode cX12_tries 21 = .ok (.lconst 0, 1) := by decide +kernel
theorem dX12_tries_22 : decode cX12_tries 22 = .ok (.lastore, 1) := by decide +kernel
theorem dX12_tries_23 : decode cX12_tries 23 = .ok (.iinc 2 1, 3) := by decide +kernel
theorem dX12_tries_26 : decode cX12_tries 26 = .ok (.goto (-19), 3) := by decide +kernel
theorem dX12_tries_29 : decode cX12_tries 29 = .ok (.aload_n 0, 1) := by decide +kernel
theorem dX12_tries_30 : decode cX12_tries 30 = .ok (.getfield 63, 3) := by decide +kernel
theorem dX12_tries_33 : decode cX12_tries 33 = .ok (.iconst 4, 1) := by decide +kernel
theorem dX12_tries_34 : decode cX12_tries 34 = .ok (.iload_n 1, 1) := by decide +kernel
theorem dX12_tries_35 : decode cX12_tries 35 = .ok (.iadd, 1) := by decide +kernel
theorem dX12_tries_36 : decode cX12_tries 36 = .ok (.lconst 0, 1) := by decide +kernel
theorem dX12_tries_37 : decode cX12_tries 37 = .ok (.lastore, 1) := by decide +kernel
theorem dX12_tries_38 : decode cX12_tries 38 = .ok (.aload_n 0, 1) := by decide +kernel
theorem dX12_tries_39 : decode cX12_tries 39 = .ok (.getfield 66, 3) := by decide +kernel
theorem dX12_tries_42 : decode cX12_tries 42 = .ok (.iconst 4, 1) := by decide +kernel
theorem dX12_tries_43 : decode cX12_tries 43 = .ok (.iload_n 1, 1) := by decide +kernel
theorem dX12_tries_44 : decode cX12_tries 44 = .ok (.iadd, 1) := by decide +kernel
theorem dX12_tries_45 : decode cX12_tries 45 = .ok (.lconst 1, 1) := by decide +kernel
theorem dX12_tries_46 : decode cX12_tries 46 = .ok (.lastore, 1) := by decide +kernel
theorem dX12_tries_47 : decode cX12_tries 47 = .ok (.aload_n 0, 1) := by decide +kernel
theorem dX12_tries_48 : decode cX12_tries 48 = .ok (.iload_n 1, 1) := by decide +kernel
theorem dX12_tries_49 : decode cX12_tries 49 = .ok (.invokevirtual 277, 3) := by decide +kernel
theorem dX12_tries_52 : decode cX12_tries 52 = .ok (.istore_n 2, 1) := by decide +kernel
theorem dX12_tries_53 : decode cX12_tries 53 = .ok (.aload_n 0, 1) := by decide +kernel
theorem dX12_tries_54 : decode cX12_tries 54 = .ok (.iconst 0, 1) := by decide +kernel
theorem dX12_tries_55 : decode cX12_tries 55 = .ok (.putfield 146, 3) := by decide +kernel
theorem dX12_tries_58 : decode cX12_tries 58 = .ok (.iload_n 2, 1) := by decide +kernel
theorem dX12_tries_59 : decode cX12_tries 59 = .ok (.bipush (-2), 2) := by decide +kernel
theorem dX12_tries_61 : decode cX12_tries 61 = .ok (.if_icmp .eq 7, 3) := by decide +kernel
theorem dX12_tries_64 : decode cX12_tries 64 = .ok (.iconst 1, 1) := by decide +kernel
theorem dX12_tries_65 : decode cX12_tries 65 = .ok (.goto 4, 3) := by decide +kernel
theorem dX12_tries_68 : decode cX12_tries 68 = .ok (.iconst 0, 1) := by decide +kernel
theorem dX12_tries_69 : decode cX12_tries 69 = .ok (.ireturn, 1) := by decide +kernel
set_option maxRecDepth 20000 in
theorem ggX12_triesAmount_X12_tries : GoodIn wsX12_triesAmount wsX12_tries := goodIn_r _ [7, 8, 9, 10, 11, 12, 13, 14, 6, 15, 16, 17, 18, 19, 20, 21, 22, 23, 24, 25, 26, 27, 28, 29, 30, 31, 32, 33, 34, 35, 36, 37, 38, 1, 2, 39, 40, 41, 42, 43, 44, 45, 46, 47, 48, 49, 50, 51, 52, 53, 54, 55, 56, 57, 58, 59, 60, 61, 62, 63, 64, 65, 66, 67, 68, 69, 70, 71, 72, 73, 74, 75, 76, 77, 78, 79, 80, 81, 82, 83, 84, 85, 86, 87, 88, 89, 90, 91, 92, 93, 94, 95, 96, 97, 98, 99, 100, 101, 102, 103, 104, 105, 106, 107, 108, 109, 110, 111, 112, 113, 114, 115, 116, 117, 118, 119, 120, 121, 122, 123, 124, 125, 126, 127, 128, 129, 130, 131, 132, 133, 134, 135, 136, 137, 138, 139, 140, 141, 142, 143, 144, 145, 146, 147, 148, 149, 150, 151, 152, 153, 154, 155, 156, 157, 158, 159, 160, 161, 162, 163, 164, 165, 166, 167, 168, 169] (by decide +kernel) (by decide +kernel)
set_option maxRecDepth 20000 in
theorem gX12_triesAmount_X12_tries : GoodIn wsX12_triesAmount (wsV RX12 287 RX12 yX12_tries wsX12_tries) := goodIn_app (goodIn_of _ (by decide +kernel)) ggX12_triesAmount_X12_tries
theorem dX12_triesAmount_0 : decode cX12_triesAmount 0 = .ok (.aload_n 0, 1) := by decide +kernel
theorem dX12_triesAmount_1 : decode cX12_triesAmount 1 = .ok (.iconst 1, 1) := by decide +kernel
theorem dX12_triesAmount_2 : decode cX12_triesAmount 2 = .ok (.putfield 209, 3) := by decide +kernel
theorem dX12_triesAmount_5 : decode cX12_triesAmount 5 = .ok (.aload_n 0, 1) := by decide +kernel
theorem dX12_triesAmount_6 : decode cX12_triesAmount 6 = .ok (.getfield 44, 3) := by decide +kernel
theorem dX12_triesAmount_9 : decode cX12_triesAmount 9 = .ok (.iconst 0, 1) := by decide +kernel
theorem dX12_triesAmount_10 : decode cX12_triesAmount 10 = .ok (.iload_n 2, 1) := by decide +kernel
theorem dX12_triesAmount_11 : decode cX12_triesAmount 11 = .ok (.iastore, 1) := by decide +kernel
theorem dX12_triesAmount_12 : decode cX12_triesAmount 12 = .ok (.aload_n 0, 1) := by decide +kernel
theorem dX12_triesAmount_13 : decode cX12_triesAmount 13 = .ok (.iload_n 1, 1) := by decide +kernel
theorem dX12_triesAmount_14 : decode cX12_triesAmount 14 = .ok (.invokevirtual 287, 3) := by decide +kernel
theorem dX12_triesAmount_17 : decode cX12_triesAmount 17 = .ok (.ireturn, 1) := by decide +kernel
theorem dX12_notes_0 : decode cX12_notes 0 = .ok (.iconst 0, 1) := by decide +kernel
theorem dX12_notes_1 : decode cX12_notes 1 = .ok (.istore_n 1, 1) := by decide +kernel
theorem dX12_notes_2 : decode cX12_notes 2 = .ok (.iload_n 1, 1) := by decide +kernel
theorem dX12_notes_3 : decode cX12_notes 3 = .ok (.bipush 8, 2) := by decide +kernel
theorem dX12_notes_5 : decode cX12_notes 5 = .ok (.if_icmp .ge 24, 3) := by decide +kernel
theorem dX12_notes_8 : decode cX12_notes 8 = .ok (.aload_n 0, 1) := by decide +kernel
theorem dX12_notes_9 : decode cX12_notes 9 = .ok (.getfield 100, 3) := by decide +kernel
theorem dX12_notes_12 : decode cX12_notes 12 = .ok (.iload_n 1, 1) := by decide +kernel
theorem dX12_notes_13 : decode cX12_notes 13 = .ok (.aload_n 0, 1) := by decide +kernel
theorem dX12_notes_14 : decode cX12_notes 14 = .ok (.getfield 60, 3) := by decide +kernel
theorem dX12_notes_17 : decode cX12_notes 17 = .ok (.bipush 8, 2) := by decide +kernel
theorem dX12_notes_19 : decode cX12_notes 19 = .ok (.iload_n 1, 1) := by decide +kernel
theorem dX12_notes_20 : decode cX12_notes 20 = .ok (.iadd, 1) := by decide +kernel
theorem dX12_notes_21 : decode cX12_notes 21 = .ok (.laload, 1) := by decide +kernel
theorem dX12_notes_22 : decode cX12_notes 22 = .ok (.lastore, 1) := by decide +kernel
theorem dX12_notes_23 : decode cX12_notes 23 = .ok (.iinc 1 1, 3) := by decide +kernel
theorem dX12_notes_26 : decode cX12_notes 26 = .ok (.goto (-24), 3) := by decide +kernel
theorem dX12_notes_29 : decode cX12_notes 29 = .ok (.return_, 1) := by decide +kernel
theorem dX12_differs_0 : decode cX12_differs 0 = .ok (.iconst 0, 1) := by decide +kernel
theorem dX12_differs_1 : decode cX12_differs 1 = .ok (.istore_n 3, 1) := by decide +kernel
theorem dX12_differs_2 : decode cX12_differs 2 = .ok (.iconst 0, 1) := by decide +kernel
theorem dX12_differs_3 : decode cX12_differs 3 = .ok (.istore 4, 2) := by decide +kernel
theorem dX12_differs_5 : decode cX12_differs 5 = .ok (.iload 4, 2) := by decide +kernel
theorem dX12_differs_7 : decode cX12_differs 7 = .ok (.bipush 8, 2) := by decide +kernel
theorem dX12_differs_9 : decode cX12_differs 9 = .ok (.if_icmp .ge 42, 3) := by decide +kernel
theorem dX12_differs_12 : decode cX12_differs 12 = .ok (.iload_n 3, 1) := by decide +kernel
theorem dX12_differs_13 : decode cX12_differs 13 = .ok (.ifCond .ne 26, 3) := by decide +kernel
theorem dX12_differs_16 : decode cX12_differs 16 = .ok (.aload_n 0, 1) := by decide +kernel
theorem dX12_differs_17 : decode cX12_differs 17 = .ok (.getfield 100, 3) := by decide +kernel
theorem dX12_differs_20 : decode cX12_differs 20 = .ok (.iload 4, 2) := by decide +kernel
theorem dX12_differs_22 : decode cX12_differs 22 = .ok (.laload, 1) := by decide +kernel
theorem dX12_differs_23 : decode cX12_differs 23 = .ok (.lload_n 1, 1) := by decide +kernel
theorem dX12_differs_24 : decode cX12_differs 24 = .ok (.aload_n 0, 1) := by decide +kernel
theorem dX12_differs_25 : decode cX12_differs 25 = .ok (.getfield 60, 3) := by decide +kernel
theorem dX12_differs_28 : decode cX12_differs 28 = .ok (.bipush 8, 2) := by decide +kernel
theorem dX12_differs_30 : decode cX12_differs 30 = .ok (.iload 4, 2) := by decide +kernel
theorem dX12_differs_32 : decode cX12_differs 32 = .ok (.iadd, 1) := by decide +kernel
theorem dX12_differs_33 : decode cX12_differs 33 = .ok (.laload, 1) := by decide +kernel
theorem dX12_differs_34 : decode cX12_differs 34 = .ok (.lmul, 1) := by decide +kernel
theorem dX12_differs_35 : decode cX12_differs 35 = .ok (.lcmp, 1) := by decide +kernel
theorem dX12_differs_36 : decode cX12_differs 36 = .ok (.ifCond .eq 7, 3) := by decide +kernel
theorem dX12_differs_39 : decode cX12_differs 39 = .ok (.iconst 1, 1) := by decide +kernel
theorem dX12_differs_40 : decode cX12_differs 40 = .ok (.goto 4, 3) := by decide +kernel
theorem dX12_differs_43 : decode cX12_differs 43 = .ok (.iconst 0, 1) := by decide +kernel
theorem dX12_differs_44 : decode cX12_differs 44 = .ok (.istore_n 3, 1) := by decide +kernel
theorem dX12_differs_45 : decode cX12_differs 45 = .ok (.iinc 4 1, 3) := by decide +kernel
theorem dX12_differs_48 : decode cX12_differs 48 = .ok (.goto (-43), 3) := by decide +kernel
theorem dX12_differs_51 : decode cX12_differs 51 = .ok (.iload_n 3, 1) := by decide +kernel
theorem dX12_differs_52 : decode cX12_differs 52 = .ok (.ireturn, 1) := by decide +kernel
set_option maxRecDepth 20000 in
theorem ggX12_isUnfair_X12_allWeights : GoodIn wsX12_isUnfair wsX12_allWeights := goodIn_r _ [9, 10, 11, 12, 8, 13, 14, 15, 16, 17, 18, 19, 20, 21, 22, 23, 24, 25, 26, 27, 28, 29, 30, 31, 32, 33, 34, 35, 36, 37, 38, 39, 40, 41, 42, 43, 44, 45, 46, 47, 48, 49, 50, 51, 52, 53, 54, 55, 56, 57, 58, 59, 60, 61, 62, 63, 64, 65, 66, 67, 68, 69, 70, 71, 72, 73, 74, 75] (by decide +kernel) (by decide +kernel)
set_option maxRecDepth 20000 in
theorem gX12_isUnfair_X12_allWeights : GoodIn wsX12_isUnfair (wsV RX12 231 RX12 yX12_allWeights wsX12_allWeights) := goodIn_app (goodIn_of _ (by decide +kernel)) ggX12_isUnfair_X12_allWeights
set_option maxRecDepth 20000 in
theorem ggX12_isUnfair_X12_partsOf : GoodIn wsX12_isUnfair wsX12_partsOf := goodIn_r _ [13, 14, 15, 16, 17, 8, 18, 19, 24, 25, 26, 27, 28, 29, 30, 31, 32, 33, 34, 35, 36, 37, 38, 39, 40, 41, 42, 43, 44, 45, 46, 47, 48, 49, 50, 51, 52, 53, 54, 55, 56, 57, 58, 59, 60, 61, 62, 63, 64, 65, 66, 67, 68, 69, 70, 71, 72, 73, 74, 75] (by decide +kernel) (by decide +kernel)
set_option maxRecDepth 20000 in
theorem gX12_isUnfair_X12_partsOf : GoodIn wsX12_isUnfair (wsV RX12 223 RX12 yX12_partsOf wsX12_partsOf) := goodIn_app (goodIn_of _ (by decide +kernel)) ggX12_isUnfair_X12_partsOf
set_option maxRecDepth 20000 in
theorem ggX12_isUnfair_X12_weighed : GoodIn wsX12_isUnfair wsX12_weighed := goodIn_r _ [23, 19, 15, 16, 17, 8, 18, 14, 24, 25, 26, 27, 28, 29, 30, 31, 32, 33, 34, 35, 36, 37, 38, 39, 40, 41, 42, 43, 44, 45, 46, 47, 48, 49, 50, 51, 52, 53, 54, 55, 56, 57, 58, 59, 60, 61, 62, 63, 64, 65, 66, 67, 68, 69, 70, 71, 72, 73, 74, 75] (by decide +kernel) (by decide +kernel)
set_option maxRecDepth 20000 in
theorem gX12_isUnfair_X12_weighed : GoodIn wsX12_isUnfair (wsV RX12 227 RX12 yX12_weighed wsX12_weighed) := goodIn_app (goodIn_of _ (by decide +kernel)) ggX12_isUnfair_X12_weighed
theorem dX12_isUnfair_0 : decode cX12_isUnfair 0 = .ok (.iconst 0, 1) := by decide +kernel
theorem dX12_isUnfair_1 : decode cX12_isUnfair 1 = .ok (.istore_n 1, 1) := by decide +kernel
theorem dX12_isUnfair_2 : decode cX12_isUnfair 2 = .ok (.aload_n 0, 1) := by decide +kernel
theorem dX12_isUnfair_3 : decode cX12_isUnfair 3 = .ok (.getfield 152, 3) := by decide +kernel
theorem dX12_isUnfair_6 : decode cX12_isUnfair 6 = .ok (.ifCond .eq 14, 3) := by decide +kernel
theorem dX12_isUnfair_9 : decode cX12_isUnfair 9 = .ok (.aload_n 0, 1) := by decide +kernel
theorem dX12_isUnfair_10 : decode cX12_isUnfair 10 = .ok (.aload_n 0, 1) := by decide +kernel
theorem dX12_isUnfair_11 : decode cX12_isUnfair 11 = .ok (.getfield 257, 3) := by decide +kernel
theorem dX12_isUnfair_14 : decode cX12_isUnfair 14 = .ok (.invokevirtual 231, 3) := by decide +kernel
theorem dX12_isUnfair_17 : decode cX12_isUnfair 17 = .ok (.goto 4, 3) := by decide +kernel
theorem dX12_isUnfair_20 : decode cX12_isUnfair 20 = .ok (.lconst 1, 1) := by decide +kernel
theorem dX12_isUnfair_21 : decode cX12_isUnfair 21 = .ok (.lstore_n 2, 1) := by decide +kernel
theorem dX12_isUnfair_22 : decode cX12_isUnfair 22 = .ok (.iconst 0, 1) := by decide +kernel
theorem dX12_isUnfair_23 : decode cX12_isUnfair 23 = .ok (.istore 4, 2) := by decide +kernel
theorem dX12_isUnfair_25 : decode cX12_isUnfair 25 = .ok (.aload_n 0, 1) := by decide +kernel
theorem dX12_isUnfair_26 : decode cX12_isUnfair 26 = .ok (.getfield 152, 3) := by decide +kernel
theorem dX12_isUnfair_29 : decode cX12_isUnfair 29 = .ok (.ifCond .eq 77, 3) := by decide +kernel
theorem dX12_isUnfair_32 : decode cX12_isUnfair 32 = .ok (.iload 4, 2) := by decide +kernel
theorem dX12_isUnfair_34 : decode cX12_isUnfair 34 = .ok (.aload_n 0, 1) := by decide +kernel
theorem dX12_isUnfair_35 : decode cX12_isUnfair 35 = .ok (.aload_n 0, 1) := by decide +kernel
theorem dX12_isUnfair_36 : decode cX12_isUnfair 36 = .ok (.getfield 257, 3) := by decide +kernel
theorem dX12_isUnfair_39 : decode cX12_isUnfair 39 = .ok (.invokevirtual 223, 3) := by decide +kernel
theorem dX12_isUnfair_42 : decode cX12_isUnfair 42 = .ok (.if_icmp .ge 64, 3) := by decide +kernel
theorem dX12_isUnfair_45 : decode cX12_isUnfair 45 = .ok (.aload_n 0, 1) := by decide +kernel
theorem dX12_isUnfair_46 : decode cX12_isUnfair 46 = .ok (.getfield 54, 3) := by decide +kernel
theorem dX12_isUnfair_49 : decode cX12_isUnfair 49 = .ok (.bipush 8, 2) := by decide +kernel
theorem dX12_isUnfair_51 : decode cX12_isUnfair 51 = .ok (.iload 4, 2) := by decide +kernel
theorem dX12_isUnfair_53 : decode cX12_isUnfair 53 = .ok (.iadd, 1) := by decide +kernel
theorem dX12_isUnfair_54 : decode cX12_isUnfair 54 = .ok (.laload, 1) := by decide +kernel
theorem dX12_isUnfair_55 : decode cX12_isUnfair 55 = .ok (.lload_n 2, 1) := by decide +kernel
theorem dX12_isUnfair_56 : decode cX12_isUnfair 56 = .ok (.lmul, 1) := by decide +kernel
theorem dX12_isUnfair_57 : decode cX12_isUnfair 57 = .ok (.aload_n 0, 1) := by decide +kernel
theorem dX12_isUnfair_58 : decode cX12_isUnfair 58 = .ok (.getfield 253, 3) := by decide +kernel
theorem dX12_isUnfair_61 : decode cX12_isUnfair 61 = .ok (.aload_n 0, 1) := by decide +kernel
theorem dX12_isUnfair_62 : decode cX12_isUnfair 62 = .ok (.aload_n 0, 1) := by decide +kernel
theorem dX12_isUnfair_63 : decode cX12_isUnfair 63 = .ok (.getfield 257, 3) := by decide +kernel
theorem dX12_isUnfair_66 : decode cX12_isUnfair 66 = .ok (.iload 4, 2) := by decide +kernel
theorem dX12_isUnfair_68 : decode cX12_isUnfair 68 = .ok (.invokevirtual 227, 3) := by decide +kernel
theorem dX12_isUnfair_71 : decode cX12_isUnfair 71 = .ok (.lmul, 1) := by decide +kernel
theorem dX12_isUnfair_72 : decode cX12_isUnfair 72 = .ok (.lsub, 1) := by decide +kernel
theorem dX12_isUnfair_73 : decode cX12_isUnfair 73 = .ok (.lstore 5, 2) := by decide +kernel
theorem dX12_isUnfair_75 : decode cX12_isUnfair 75 = .ok (.iload_n 1, 1) := by decide +kernel
theorem dX12_isUnfair_76 : decode cX12_isUnfair 76 = .ok (.ifCond .ne 18, 3) := by decide +kernel
theorem dX12_isUnfair_79 : decode cX12_isUnfair 79 = .ok (.lload 5, 2) := by decide +kernel
theorem dX12_isUnfair_81 : decode cX12_isUnfair 81 = .ok (.lload_n 2, 1) := by decide +kernel
theorem dX12_isUnfair_82 : decode cX12_isUnfair 82 = .ok (.lcmp, 1) := by decide +kernel
theorem dX12_isUnfair_83 : decode cX12_isUnfair 83 = .ok (.ifCond .ge 11, 3) := by decide +kernel
theorem dX12_isUnfair_86 : decode cX12_isUnfair 86 = .ok (.lload 5, 2) := by decide +kernel
theorem dX12_isUnfair_88 : decode cX12_isUnfair 88 = .ok (.lload_n 2, 1) := by decide +kernel
theorem dX12_isUnfair_89 : decode cX12_isUnfair 89 = .ok (.lneg, 1) := by decide +kernel
theorem dX12_isUnfair_90 : decode cX12_isUnfair 90 = .ok (.lcmp, 1) := by decide +kernel
theorem dX12_isUnfair_91 : decode cX12_isUnfair 91 = .ok (.ifCond .gt 7, 3) := by decide +kernel
theorem dX12_isUnfair_94 : decode cX12_isUnfair 94 = .ok (.iconst 1, 1) := by decide +kernel
theorem dX12_isUnfair_95 : decode cX12_isUnfair 95 = .ok (.goto 4, 3) := by decide +kernel
theorem dX12_isUnfair_98 : decode cX12_isUnfair 98 = .ok (.iconst 0, 1) := by decide +kernel
theorem dX12_isUnfair_99 : decode cX12_isUnfair 99 = .ok (.istore_n 1, 1) := by decide +kernel
theorem dX12_isUnfair_100 : decode cX12_isUnfair 100 = .ok (.iinc 4 1, 3) := by decide +kernel
theorem dX12_isUnfair_103 : decode cX12_isUnfair 103 = .ok (.goto (-78), 3) := by decide +kernel
theorem dX12_isUnfair_106 : decode cX12_isUnfair 106 = .ok (.iload_n 1, 1) := by decide +kernel
theorem dX12_isUnfair_107 : decode cX12_isUnfair 107 = .ok (.ireturn, 1) := by decide +kernel
set_option maxRecDepth 20000 in
theorem ggX12_breaks_X12_triesAmount : GoodIn wsX12_breaks wsX12_triesAmount := goodIn_r _ [8, 9, 10, 11, 12, 13, 7, 14, 15, 1, 16, 17, 18, 19, 20, 21, 22, 23, 3, 24, 25, 26, 27, 28, 29, 30, 31, 32, 33, 34, 35, 36, 37, 38, 39, 40, 41, 42, 43, 44, 45, 46, 47, 48, 49, 50, 51, 52, 53, 54, 55, 56, 57, 58, 59, 60, 61, 62, 63, 64, 65, 66, 67, 68, 69, 70, 71, 72, 73, 74, 75, 76, 77, 78, 79, 80, 81, 82, 83, 84, 85, 86, 87, 88, 89, 90, 91, 92, 93, 94, 95, 96, 97, 98, 99, 100, 101, 102, 103, 104, 105, 106, 107, 108, 109, 110, 111, 112, 113, 114, 115, 116, 117, 118, 119, 120, 121, 122, 216, 217, 218, 219, 220, 221, 222, 223, 224, 225, 226, 227, 228, 229, 230, 231, 232, 233, 234, 235, 236, 237, 238, 239, 240, 241, 242, 243, 244, 245, 246, 247, 248, 249, 250, 251, 252, 253, 254, 255, 256, 257, 258, 259, 260, 261, 262, 263, 264, 265, 266, 267] (by decide +kernel) (by decide +kernel)
set_option maxRecDepth 20000 in
theorem gX12_breaks_X12_triesAmount : GoodIn wsX12_breaks (wsV RX12 290 RX12 yX12_triesAmount wsX12_triesAmount) := goodIn_app (goodIn_of _ (by decide +kernel)) ggX12_breaks_X12_triesAmount
set_option maxRecDepth 20000 in
theorem ggX12_breaks_X12_notes : GoodIn wsX12_breaks wsX12_notes := goodIn_r _ [126, 127, 1, 216, 217, 218, 219, 220, 221, 222, 223, 224, 225, 226, 227, 228, 229, 230, 231, 232, 233, 234, 235, 236, 237, 238, 239, 240, 241, 242, 243, 244, 245, 246, 247, 248, 249, 250, 251, 252, 253, 254, 255, 256, 257, 258, 259, 260, 261, 262, 263, 264, 265, 266, 267] (by decide +kernel) (by decide +kernel)
set_option maxRecDepth 20000 in
theorem gX12_breaks_X12_notes : GoodIn wsX12_breaks (wsV RX12 293 RX12 yX12_notes wsX12_notes) := goodIn_app (goodIn_of _ (by decide +kernel)) ggX12_breaks_X12_notes
set_option maxRecDepth 20000 in
theorem ggX12_breaks_X12_differs : GoodIn wsX12_breaks wsX12_differs := goodIn_r _ [131, 127, 1, 216, 217, 218, 219, 220, 221, 222, 223, 224, 225, 226, 227, 228, 229, 230, 231, 232, 233, 234, 235, 236, 237, 238, 239, 240, 241, 242, 243, 244, 245, 246, 247, 248, 249, 250, 251, 252, 253, 254, 255, 256, 257, 258, 259, 260, 261, 262, 263, 264, 265, 266, 267] (by decide +kernel) (by decide +kernel)
set_option maxRecDepth 20000 in
theorem gX12_breaks_X12_differs : GoodIn wsX12_breaks (wsV RX12 298 RX12 yX12_differs wsX12_differs) := goodIn_app (goodIn_of _ (by decide +kernel)) ggX12_breaks_X12_differs
set_option maxRecDepth 20000 in
theorem ggX12_breaks_X12_isUnfair : GoodIn wsX12_breaks wsX12_isUnfair := goodIn_r _ [135, 34, 45, 33, 44, 99, 100, 101, 7, 102, 89, 90, 91, 92, 93, 94, 95, 96, 97, 98, 103, 104, 105, 106, 216, 217, 218, 219, 220, 221, 222, 223, 224, 225, 226, 227, 228, 229, 230, 231, 232, 233, 234, 235, 236, 237, 238, 239, 240, 241, 242, 243, 244, 245, 246, 247, 248, 249, 250, 251, 252, 253, 254, 255, 256, 257, 258, 259, 260, 261, 262, 263, 264, 265, 266, 267] (by decide +kernel) (by decide +kernel)
set_option maxRecDepth 20000 in
theorem gX12_breaks_X12_isUnfair : GoodIn wsX12_breaks (wsV RX12 301 RX12 yX12_isUnfair wsX12_isUnfair) := goodIn_app (goodIn_of _ (by decide +kernel)) ggX12_breaks_X12_isUnfair
set_option maxRecDepth 20000 in
theorem ggX12_breaks_X12_floats : GoodIn wsX12_breaks wsX12_floats := goodIn_r _ [139, 140, 141, 142, 1, 25, 143, 144, 145, 7, 146, 40, 41, 42, 43, 147, 148, 149, 150, 68, 69, 151, 152, 153, 154, 155, 156, 157, 158, 159, 160, 161, 162, 163, 164, 165, 166, 167, 168, 169, 170, 171, 172, 173, 174, 175, 176, 177, 178, 179, 180, 181, 182, 183, 184, 185, 186, 187, 188, 189, 190, 191, 192, 193, 194, 195, 196, 197, 198, 199, 200, 201, 202, 203, 204, 205, 206, 207, 208, 209, 15, 58, 59, 33, 85, 86, 87, 88, 89, 90, 91, 92, 93, 94, 95, 96, 97, 98, 99, 100, 101, 102, 103, 104, 105, 106, 74, 75, 76, 70, 71, 72, 73, 210, 211, 212, 213, 214, 215, 216, 217, 218, 219, 220, 221, 222, 223, 224, 225, 226, 227, 228, 229, 230, 231, 232, 233, 234, 235, 236, 237, 238, 239, 240, 241, 242, 243, 244, 245, 246, 247, 248, 249, 250, 251, 252, 253, 254, 255, 256, 257, 258, 259, 260, 261, 262, 263, 264, 265, 266, 267] (by decide +kernel) (by decide +kernel)
set_option maxRecDepth 20000 in
theorem gX12_breaks_X12_floats : GoodIn wsX12_breaks (wsV RX12 305 RX12 yX12_floats wsX12_floats) := goodIn_app (goodIn_of _ (by decide +kernel)) ggX12_breaks_X12_floats
theorem dX12_breaks_0 : decode cX12_breaks 0 = .ok (.aload_n 0, 1) := by decide +kernel
theorem dX12_breaks_1 : decode cX12_breaks 1 = .ok (.iload_n 1, 1) := by decide +kernel
theorem dX12_breaks_2 : decode cX12_breaks 2 = .ok (.iload 4, 2) := by decide +kernel
theorem dX12_breaks_4 : decode cX12_breaks 4 = .ok (.invokevirtual 290, 3) := by decide +kernel
theorem dX12_breaks_7 : decode cX12_breaks 7 = .ok (.istore 5, 2) := by decide +kernel
theorem dX12_breaks_9 : decode cX12_breaks 9 = .ok (.iload_n 2, 1) := by decide +kernel
theorem dX12_breaks_10 : decode cX12_breaks 10 = .ok (.tableswitch 202 0 5 #[38, 90, 128, 163, 181, 184], 38) := by decide +kernel
theorem dX12_breaks_48 : decode cX12_breaks 48 = .ok (.lconst 0, 1) := by decide +kernel
theorem dX12_breaks_49 : decode cX12_breaks 49 = .ok (.lstore 6, 2) := by decide +kernel
theorem dX12_breaks_51 : decode cX12_breaks 51 = .ok (.iconst 0, 1) := by decide +kernel
theorem dX12_breaks_52 : decode cX12_breaks 52 = .ok (.istore 8, 2) := by decide +kernel
theorem dX12_breaks_54 : decode cX12_breaks 54 = .ok (.iload 8, 2) := by decide +kernel
theorem dX12_breaks_56 : decode cX12_breaks 56 = .ok (.bipush 8, 2) := by decide +kernel
theorem dX12_breaks_58 : decode cX12_breaks 58 = .ok (.if_icmp .ge 24, 3) := by decide +kernel
theorem dX12_breaks_61 : decode cX12_breaks 61 = .ok (.lload 6, 2) := by decide +kernel
theorem dX12_breaks_63 : decode cX12_breaks 63 = .ok (.aload_n 0, 1) := by decide +kernel
theorem dX12_breaks_64 : decode cX12_breaks 64 = .ok (.getfield 60, 3) := by decide +kernel
theorem dX12_breaks_67 : decode cX12_breaks 67 = .ok (.bipush 8, 2) := by decide +kernel
theorem dX12_breaks_69 : decode cX12_breaks 69 = .ok (.iload 8, 2) := by decide +kernel
theorem dX12_breaks_71 : decode cX12_breaks 71 = .ok (.iadd, 1) := by decide +kernel
theorem dX12_breaks_72 : decode cX12_breaks 72 = .ok (.laload, 1) := by decide +kernel
theorem dX12_breaks_73 : decode cX12_breaks 73 = .ok (.ladd, 1) := by decide +kernel
theorem dX12_breaks_74 : decode cX12_breaks 74 = .ok (.lstore 6, 2) := by decide +kernel
theorem dX12_breaks_76 : decode cX12_breaks 76 = .ok (.iinc 8 1, 3) := by decide +kernel
theorem dX12_breaks_79 : decode cX12_breaks 79 = .ok (.goto (-25), 3) := by decide +kernel
theorem dX12_breaks_82 : decode cX12_breaks 82 = .ok (.iload 5, 2) := by decide +kernel
theorem dX12_breaks_84 : decode cX12_breaks 84 = .ok (.ifCond .ne 14, 3) := by decide +kernel
theorem dX12_breaks_87 : decode cX12_breaks 87 = .ok (.lload 6, 2) := by decide +kernel
theorem dX12_breaks_89 : decode cX12_breaks 89 = .ok (.lconst 0, 1) := by decide +kernel
theorem dX12_breaks_90 : decode cX12_breaks 90 = .ok (.lcmp, 1) := by decide +kernel
theorem dX12_breaks_91 : decode cX12_breaks 91 = .ok (.ifCond .eq 7, 3) := by decide +kernel
theorem dX12_breaks_94 : decode cX12_breaks 94 = .ok (.iconst 1, 1) := by decide +kernel
theorem dX12_breaks_95 : decode cX12_breaks 95 = .ok (.goto 4, 3) := by decide +kernel
theorem dX12_breaks_98 : decode cX12_breaks 98 = .ok (.iconst 0, 1) := by decide +kernel
theorem dX12_breaks_99 : decode cX12_breaks 99 = .ok (.ireturn, 1) := by decide +kernel
theorem dX12_breaks_100 : decode cX12_breaks 100 = .ok (.aload_n 0, 1) := by decide +kernel
theorem dX12_breaks_101 : decode cX12_breaks 101 = .ok (.invokevirtual 293, 3) := by decide +kernel
theorem dX12_breaks_104 : decode cX12_breaks 104 = .ok (.aload_n 0, 1) := by decide +kernel
theorem dX12_breaks_105 : decode cX12_breaks 105 = .ok (.iload_n 1, 1) := by decide +kernel
theorem dX12_breaks_106 : decode cX12_breaks 106 = .ok (.iload 4, 2) := by decide +kernel
theorem dX12_breaks_108 : decode cX12_breaks 108 = .ok (.ineg, 1) := by decide +kernel
theorem dX12_breaks_109 : decode cX12_breaks 109 = .ok (.invokevirtual 290, 3) := by decide +kernel
theorem dX12_breaks_112 : decode cX12_breaks 112 = .ok (.iload 5, 2) := by decide +kernel
theorem dX12_breaks_114 : decode cX12_breaks 114 = .ok (.if_icmp .ne 18, 3) := by decide +kernel
theorem dX12_breaks_117 : decode cX12_breaks 117 = .ok (.iload 5, 2) := by decide +kernel
theorem dX12_breaks_119 : decode cX12_breaks 119 = .ok (.ifCond .ne 17, 3) := by decide +kernel
theorem dX12_breaks_122 : decode cX12_breaks 122 = .ok (.aload_n 0, 1) := by decide +kernel
theorem dX12_breaks_123 : decode cX12_breaks 123 = .ok (.ldc2_w 296, 3) := by decide +kernel
theorem dX12_breaks_126 : decode cX12_breaks 126 = .ok (.invokevirtual 298, 3) := by decide +kernel
theorem dX12_breaks_129 : decode cX12_breaks 129 = .ok (.ifCond .eq 7, 3) := by decide +kernel
theorem dX12_breaks_132 : decode cX12_breaks 132 = .ok (.iconst 1, 1) := by decide +kernel
theorem dX12_breaks_133 : decode cX12_breaks 133 = .ok (.goto 4, 3) := by decide +kernel
theorem dX12_breaks_136 : decode cX12_breaks 136 = .ok (.iconst 0, 1) := by decide +kernel
theorem dX12_breaks_137 : decode cX12_breaks 137 = .ok (.ireturn, 1) := by decide +kernel
theorem dX12_breaks_138 : decode cX12_breaks 138 = .ok (.aload_n 0, 1) := by decide +kernel
theorem dX12_breaks_139 : decode cX12_breaks 139 = .ok (.invokevirtual 293, 3) := by decide +kernel
theorem dX12_breaks_142 : decode cX12_breaks 142 = .ok (.aload_n 0, 1) := by decide +kernel
theorem dX12_breaks_143 : decode cX12_breaks 143 = .ok (.iload_n 3, 1) := by decide +kernel
theorem dX12_breaks_144 : decode cX12_breaks 144 = .ok (.iload 4, 2) := by decide +kernel
theorem dX12_breaks_146 : decode cX12_breaks 146 = .ok (.invokevirtual 290, 3) := by decide +kernel
theorem dX12_breaks_149 : decode cX12_breaks 149 = .ok (.iload 5, 2) := by decide +kernel
theorem dX12_breaks_151 : decode cX12_breaks 151 = .ok (.if_icmp .ne 16, 3) := by decide +kernel
theorem dX12_breaks_154 : decode cX12_breaks 154 = .ok (.iload 5, 2) := by decide +kernel
theorem dX12_breaks_156 : decode cX12_breaks 156 = .ok (.ifCond .ne 15, 3) := by decide +kernel
theorem dX12_breaks_159 : decode cX12_breaks 159 = .ok (.aload_n 0, 1) := by decide +kernel
theorem dX12_breaks_160 : decode cX12_breaks 160 = .ok (.lconst 1, 1) := by decide +kernel
theorem dX12_breaks_161 : decode cX12_breaks 161 = .ok (.invokevirtual 298, 3) := by decide +kernel
theorem dX12_breaks_164 : decode cX12_breaks 164 = .ok (.ifCond .eq 7, 3) := by decide +kernel
theorem dX12_breaks_167 : decode cX12_breaks 167 = .ok (.iconst 1, 1) := by decide +kernel
theorem dX12_breaks_168 : decode cX12_breaks 168 = .ok (.goto 4, 3) := by decide +kernel
theorem dX12_breaks_171 : decode cX12_breaks 171 = .ok (.iconst 0, 1) := by decide +kernel
theorem dX12_breaks_172 : decode cX12_breaks 172 = .ok (.ireturn, 1) := by decide +kernel
theorem dX12_breaks_173 : decode cX12_breaks 173 = .ok (.iload 5, 2) := by decide +kernel
theorem dX12_breaks_175 : decode cX12_breaks 175 = .ok (.ifCond .ne 14, 3) := by decide +kernel
theorem dX12_breaks_178 : decode cX12_breaks 178 = .ok (.aload_n 0, 1) := by decide +kernel
theorem dX12_breaks_179 : decode cX12_breaks 179 = .ok (.invokevirtual 301, 3) := by decide +kernel
theorem dX12_breaks_182 : decode cX12_breaks 182 = .ok (.ifCond .eq 7, 3) := by decide +kernel
theorem dX12_breaks_185 : decode cX12_breaks 185 = .ok (.iconst 1, 1) := by decide +kernel
theorem dX12_breaks_186 : decode cX12_breaks 186 = .ok (.goto 4, 3) := by decide +kernel
theorem dX12_breaks_189 : decode cX12_breaks 189 = .ok (.iconst 0, 1) := by decide +kernel
theorem dX12_breaks_190 : decode cX12_breaks 190 = .ok (.ireturn, 1) := by decide +kernel
theorem dX12_breaks_191 : decode cX12_breaks 191 = .ok (.iload 5, 2) := by decide +kernel
theorem dX12_breaks_193 : decode cX12_breaks 193 = .ok (.ireturn, 1) := by decide +kernel
theorem dX12_breaks_194 : decode cX12_breaks 194 = .ok (.iload 5, 2) := by decide +kernel
theorem dX12_breaks_196 : decode cX12_breaks 196 = .ok (.ifCond .ne 14, 3) := by decide +kernel
theorem dX12_breaks_199 : decode cX12_breaks 199 = .ok (.aload_n 0, 1) := by decide +kernel
theorem dX12_breaks_200 : decode cX12_breaks 200 = .ok (.getfield 235, 3) := by decide +kernel
theorem dX12_breaks_203 : decode cX12_breaks 203 = .ok (.ifCond .le 7, 3) := by decide +kernel
theorem dX12_breaks_206 : decode cX12_breaks 206 = .ok (.iconst 1, 1) := by decide +kernel
theorem dX12_breaks_207 : decode cX12_breaks 207 = .ok (.goto 4, 3) := by decide +kernel
theorem dX12_breaks_210 : decode cX12_breaks 210 = .ok (.iconst 0, 1) := by decide +kernel
theorem dX12_breaks_211 : decode cX12_breaks 211 = .ok (.ireturn, 1) := by decide +kernel
theorem dX12_breaks_212 : decode cX12_breaks 212 = .ok (.iload 5, 2) := by decide +kernel
theorem dX12_breaks_214 : decode cX12_breaks 214 = .ok (.ifCond .eq 5, 3) := by decide +kernel
theorem dX12_breaks_217 : decode cX12_breaks 217 = .ok (.iconst 0, 1) := by decide +kernel
theorem dX12_breaks_218 : decode cX12_breaks 218 = .ok (.ireturn, 1) := by decide +kernel
theorem dX12_breaks_219 : decode cX12_breaks 219 = .ok (.aload_n 0, 1) := by decide +kernel
theorem dX12_breaks_220 : decode cX12_breaks 220 = .ok (.invokevirtual 293, 3) := by decide +kernel
theorem dX12_breaks_223 : decode cX12_breaks 223 = .ok (.aload_n 0, 1) := by decide +kernel
theorem dX12_breaks_224 : decode cX12_breaks 224 = .ok (.iload_n 1, 1) := by decide +kernel
theorem dX12_breaks_225 : decode cX12_breaks 225 = .ok (.iload 4, 2) := by decide +kernel
theorem dX12_breaks_227 : decode cX12_breaks 227 = .ok (.invokevirtual 305, 3) := by decide +kernel
theorem dX12_breaks_230 : decode cX12_breaks 230 = .ok (.aload_n 0, 1) := by decide +kernel
theorem dX12_breaks_231 : decode cX12_breaks 231 = .ok (.lconst 1, 1) := by decide +kernel
theorem dX12_breaks_232 : decode cX12_breaks 232 = .ok (.invokevirtual 298, 3) := by decide +kernel
theorem dX12_breaks_235 : decode cX12_breaks 235 = .ok (.ireturn, 1) := by decide +kernel
set_option maxRecDepth 20000 in
theorem ggX12_roundedF_J9_floor_294c1 : GoodIn wsX12_roundedF wsJ9_floor_294c1 := goodIn_r _ [5, 6, 7, 8, 9, 10, 11, 12, 13, 14, 15, 16, 17, 18, 19, 20, 21, 22, 23, 24, 25, 4, 26, 27, 28, 29] (by decide +kernel) (by decide +kernel)
set_option maxRecDepth 20000 in
theorem gX12_roundedF_J9_floor_294c1 : GoodIn wsX12_roundedF (va_wsS RX12 310 yJ9_floor_294c1 wsJ9_floor_294c1) := goodIn_app (goodIn_of _ (by decide +kernel)) ggX12_roundedF_J9_floor_294c1
set_option maxRecDepth 20000 in
theorem ggX12_roundedF_J9_ceil_294c1 : GoodIn wsX12_roundedF wsJ9_ceil_294c1 := goodIn_r _ [32, 33, 34, 8, 35, 36, 11, 12, 13, 14, 15, 16, 17, 18, 19, 20, 21, 22, 23, 24, 25, 4, 26, 27, 28, 29] (by decide +kernel) (by decide +kernel)
set_option maxRecDepth 20000 in
theorem gX12_roundedF_J9_ceil_294c1 : GoodIn wsX12_roundedF (va_wsS RX12 315 yJ9_ceil_294c1 wsJ9_ceil_294c1) := goodIn_app (goodIn_of _ (by decide +kernel)) ggX12_roundedF_J9_ceil_294c1
set_option maxRecDepth 20000 in
theorem ggX12_roundedF_J9_rint_294c1 : GoodIn wsX12_roundedF wsJ9_rint_294c1 := goodIn_r _ [39, 40, 41, 8, 42, 43, 44, 45, 4, 46, 27, 16, 17, 18, 47, 48, 49, 22, 23, 50, 51, 52] (by decide +kernel) (by decide +kernel)
set_option maxRecDepth 20000 in
theorem gX12_roundedF_J9_rint_294c1 : GoodIn wsX12_roundedF (va_wsS RX12 318 yJ9_rint_294c1 wsJ9_rint_294c1) := goodIn_app (goodIn_of _ (by decide +kernel)) ggX12_roundedF_J9_rint_294c1
theorem dX12_roundedF_0 : decode cX12_roundedF 0 = .ok (.dload_n 0, 1) := by decide +kernel
theorem dX12_roundedF_1 : decode cX12_roundedF 1 = .ok (.dload_n 2, 1) := by decide +kernel
theorem dX12_roundedF_2 : decode cX12_roundedF 2 = .ok (.ddiv, 1) := by decide +kernel
theorem dX12_roundedF_3 : decode cX12_roundedF 3 = .ok (.dstore 5, 2) := by decide +kernel
theorem dX12_roundedF_5 : decode cX12_roundedF 5 = .ok (.iload 4, 2) := by decide +kernel
theorem dX12_roundedF_7 : decode cX12_roundedF 7 = .ok (.tableswitch 136 0 4 #[33, 66, 76, 101, 126], 33) := by decide +kernel
theorem dX12_roundedF_40 : decode cX12_roundedF 40 = .ok (.dload 5, 2) := by decide +kernel
theorem dX12_roundedF_42 : decode cX12_roundedF 42 = .ok (.dconst 0, 1) := by decide +kernel
theorem dX12_roundedF_43 : decode cX12_roundedF 43 = .ok (.dcmp .g, 1) := by decide +kernel
theorem dX12_roundedF_44 : decode cX12_roundedF 44 = .ok (.ifCond .lt 15, 3) := by decide +kernel
theorem dX12_roundedF_47 : decode cX12_roundedF 47 = .ok (.dload 5, 2) := by decide +kernel
theorem dX12_roundedF_49 : decode cX12_roundedF 49 = .ok (.ldc2_w 308, 3) := by decide +kernel
theorem dX12_roundedF_52 : decode cX12_roundedF 52 = .ok (.dadd, 1) := by decide +kernel
theorem dX12_roundedF_53 : decode cX12_roundedF 53 = .ok (.invokestatic 310, 3) := by decide +kernel
theorem dX12_roundedF_56 : decode cX12_roundedF 56 = .ok (.goto 12, 3) := by decide +kernel
theorem dX12_roundedF_59 : decode cX12_roundedF 59 = .ok (.dload 5, 2) := by decide +kernel
theorem dX12_roundedF_61 : decode cX12_roundedF 61 = .ok (.ldc2_w 308, 3) := by decide +kernel
theorem dX12_roundedF_64 : decode cX12_roundedF 64 = .ok (.dsub, 1) := by decide +kernel
theorem dX12_roundedF_65 : decode cX12_roundedF 65 = .ok (.invokestatic 315, 3) := by decide +kernel
theorem dX12_roundedF_68 : decode cX12_roundedF 68 = .ok (.dstore 7, 2) := by decide +kernel
theorem dX12_roundedF_70 : decode cX12_roundedF 70 = .ok (.goto 80, 3) := by decide +kernel
theorem dX12_roundedF_73 : decode cX12_roundedF 73 = .ok (.dload 5, 2) := by decide +kernel
theorem dX12_roundedF_75 : decode cX12_roundedF 75 = .ok (.invokestatic 318, 3) := by decide +kernel
theorem dX12_roundedF_78 : decode cX12_roundedF 78 = .ok (.dstore 7, 2) := by decide +kernel
theorem dX12_roundedF_80 : decode cX12_roundedF 80 = .ok (.goto 70, 3) := by decide +kernel
theorem dX12_roundedF_83 : decode cX12_roundedF 83 = .ok (.dload 5, 2) := by decide +kernel
theorem dX12_roundedF_85 : decode cX12_roundedF 85 = .ok (.dconst 0, 1) := by decide +kernel
theorem dX12_roundedF_86 : decode cX12_roundedF 86 = .ok (.dcmp .l, 1) := by decide +kernel
theorem dX12_roundedF_87 : decode cX12_roundedF 87 = .ok (.ifCond .le 11, 3) := by decide +kernel
theorem dX12_roundedF_90 : decode cX12_roundedF 90 = .ok (.dload 5, 2) := by decide +kernel
theorem dX12_roundedF_92 : decode cX12_roundedF 92 = .ok (.invokestatic 310, 3) := by decide +kernel
theorem dX12_roundedF_95 : decode cX12_roundedF 95 = .ok (.goto 8, 3) := by decide +kernel
theorem dX12_roundedF_98 : decode cX12_roundedF 98 = .ok (.dload 5, 2) := by decide +kernel
theorem dX12_roundedF_100 : decode cX12_roundedF 100 = .ok (.invokestatic 315, 3) := by decide +kernel
theorem dX12_roundedF_103 : decode cX12_roundedF 103 = .ok (.dstore 7, 2) := by decide +kernel
theorem dX12_roundedF_105 : decode cX12_roundedF 105 = .ok (.goto 45, 3) := by decide +kernel
theorem dX12_roundedF_108 : decode cX12_roundedF 108 = .ok (.dload 5, 2) := by decide +kernel
theorem dX12_roundedF_110 : decode cX12_roundedF 110 = .ok (.dconst 0, 1) := by decide +kernel
theorem dX12_roundedF_111 : decode cX12_roundedF 111 = .ok (.dcmp .l, 1) := by decide +kernel
theorem dX12_roundedF_112 : decode cX12_roundedF 112 = .ok (.ifCond .le 11, 3) := by decide +kernel
theorem dX12_roundedF_115 : decode cX12_roundedF 115 = .ok (.dload 5, 2) := by decide +kernel
theorem dX12_roundedF_117 : decode cX12_roundedF 117 = .ok (.invokestatic 315, 3) := by decide +kernel
theorem dX12_roundedF_120 : decode cX12_roundedF 120 = .ok (.goto 8, 3) := by decide +kernel
theorem dX12_roundedF_123 : decode cX12_roundedF 123 = .ok (.dload 5, 2) := by decide +kernel
theorem dX12_roundedF_125 : decode cX12_roundedF 125 = .ok (.invokestatic 310, 3) := by decide +kernel
theorem dX12_roundedF_128 : decode cX12_roundedF 128 = .ok (.dstore 7, 2) := by decide +kernel
theorem dX12_roundedF_130 : decode cX12_roundedF 130 = .ok (.goto 20, 3) := by decide +kernel
theorem dX12_roundedF_133 : decode cX12_roundedF 133 = .ok (.dload 5, 2) := by decide +kernel
theorem dX12_roundedF_135 : decode cX12_roundedF 135 = .ok (.invokestatic 310, 3) := by decide +kernel
theorem dX12_roundedF_138 : decode cX12_roundedF 138 = .ok (.dstore 7, 2) := by decide +kernel
theorem dX12_roundedF_140 : decode cX12_roundedF 140 = .ok (.goto 10, 3) := by decide +kernel
theorem dX12_roundedF_143 : decode cX12_roundedF 143 = .ok (.dload 5, 2) := by decide +kernel
theorem dX12_roundedF_145 : decode cX12_roundedF 145 = .ok (.invokestatic 315, 3) := by decide +kernel
theorem dX12_roundedF_148 : decode cX12_roundedF 148 = .ok (.dstore 7, 2) := by decide +kernel
theorem dX12_roundedF_150 : decode cX12_roundedF 150 = .ok (.dload 7, 2) := by decide +kernel
theorem dX12_roundedF_152 : decode cX12_roundedF 152 = .ok (.dload_n 2, 1) := by decide +kernel
theorem dX12_roundedF_153 : decode cX12_roundedF 153 = .ok (.dmul, 1) := by decide +kernel
theorem dX12_roundedF_154 : decode cX12_roundedF 154 = .ok (.dreturn, 1) := by decide +kernel
theorem dX12_rateF_0 : decode cX12_rateF 0 = .ok (.aload_n 0, 1) := by decide +kernel
theorem dX12_rateF_1 : decode cX12_rateF 1 = .ok (.getfield 7, 3) := by decide +kernel
theorem dX12_rateF_4 : decode cX12_rateF 4 = .ok (.iload_n 1, 1) := by decide +kernel
theorem dX12_rateF_5 : decode cX12_rateF 5 = .ok (.iaload, 1) := by decide +kernel
theorem dX12_rateF_6 : decode cX12_rateF 6 = .ok (.i2d, 1) := by decide +kernel
theorem dX12_rateF_7 : decode cX12_rateF 7 = .ok (.aload_n 0, 1) := by decide +kernel
theorem dX12_rateF_8 : decode cX12_rateF 8 = .ok (.getfield 13, 3) := by decide +kernel
theorem dX12_rateF_11 : decode cX12_rateF 11 = .ok (.iload_n 1, 1) := by decide +kernel
theorem dX12_rateF_12 : decode cX12_rateF 12 = .ok (.iaload, 1) := by decide +kernel
theorem dX12_rateF_13 : decode cX12_rateF 13 = .ok (.i2d, 1) := by decide +kernel
theorem dX12_rateF_14 : decode cX12_rateF 14 = .ok (.ddiv, 1) := by decide +kernel
theorem dX12_rateF_15 : decode cX12_rateF 15 = .ok (.dreturn, 1) := by decide +kernel
set_option maxRecDepth 20000 in
theorem ggX12_splitsF_X12_splits : GoodIn wsX12_splitsF wsX12_splits := goodIn_r _ [11, 6, 2, 12, 13, 14, 10, 15, 16, 17, 18, 19, 20, 21, 22, 23, 24, 25, 26, 27, 28, 29, 30, 31, 32, 33, 34, 35, 36, 37, 38, 39, 40, 41, 42, 43, 44, 45, 46, 47, 48, 49, 50, 51, 52, 53, 54, 55, 56, 57, 58, 59, 60, 61, 62, 63, 64, 65, 66, 67, 68, 69, 70, 71, 72, 73, 74, 75, 76, 77, 78, 79, 80, 81, 82, 83, 84, 85, 86, 87, 88] (by decide +kernel) (by decide +kernel)
set_option maxRecDepth 20000 in
theorem gX12_splitsF_X12_splits : GoodIn wsX12_splitsF (wsV RX12 249 RX12 yX12_splits wsX12_splits) := goodIn_app (goodIn_of _ (by decide +kernel)) ggX12_splitsF_X12_splits
theorem dX12_splitsF_0 : decode cX12_splitsF 0 = .ok (.aload_n 0, 1) := by decide +kernel
theorem dX12_splitsF_1 : decode cX12_splitsF 1 = .ok (.getfield 103, 3) := by decide +kernel
theorem dX12_splitsF_4 : decode cX12_splitsF 4 = .ok (.iload_n 1, 1) := by decide +kernel
theorem dX12_splitsF_5 : decode cX12_splitsF 5 = .ok (.daload, 1) := by decide +kernel
theorem dX12_splitsF_6 : decode cX12_splitsF 6 = .ok (.d2l, 1) := by decide +kernel
theorem dX12_splitsF_7 : decode cX12_splitsF 7 = .ok (.lstore 4, 2) := by decide +kernel
theorem dX12_splitsF_9 : decode cX12_splitsF 9 = .ok (.aload_n 0, 1) := by decide +kernel
theorem dX12_splitsF_10 : decode cX12_splitsF 10 = .ok (.iconst 1, 1) := by decide +kernel
theorem dX12_splitsF_11 : decode cX12_splitsF 11 = .ok (.putfield 146, 3) := by decide +kernel
theorem dX12_splitsF_14 : decode cX12_splitsF 14 = .ok (.aload_n 0, 1) := by decide +kernel
theorem dX12_splitsF_15 : decode cX12_splitsF 15 = .ok (.lload 4, 2) := by decide +kernel
theorem dX12_splitsF_17 : decode cX12_splitsF 17 = .ok (.ldc2_w 192, 3) := by decide +kernel
theorem dX12_splitsF_20 : decode cX12_splitsF 20 = .ok (.lcmp, 1) := by decide +kernel
theorem dX12_splitsF_21 : decode cX12_splitsF 21 = .ok (.ifCond .gt 12, 3) := by decide +kernel
theorem dX12_splitsF_24 : decode cX12_splitsF 24 = .ok (.lload 4, 2) := by decide +kernel
theorem dX12_splitsF_26 : decode cX12_splitsF 26 = .ok (.ldc2_w 194, 3) := by decide +kernel
theorem dX12_splitsF_29 : decode cX12_splitsF 29 = .ok (.lcmp, 1) := by decide +kernel
theorem dX12_splitsF_30 : decode cX12_splitsF 30 = .ok (.ifCond .ge 7, 3) := by decide +kernel
theorem dX12_splitsF_33 : decode cX12_splitsF 33 = .ok (.lconst 0, 1) := by decide +kernel
theorem dX12_splitsF_34 : decode cX12_splitsF 34 = .ok (.goto 5, 3) := by decide +kernel
theorem dX12_splitsF_37 : decode cX12_splitsF 37 = .ok (.lload 4, 2) := by decide +kernel
theorem dX12_splitsF_39 : decode cX12_splitsF 39 = .ok (.iload_n 2, 1) := by decide +kernel
theorem dX12_splitsF_40 : decode cX12_splitsF 40 = .ok (.iload_n 3, 1) := by decide +kernel
theorem dX12_splitsF_41 : decode cX12_splitsF 41 = .ok (.invokevirtual 249, 3) := by decide +kernel
theorem dX12_splitsF_44 : decode cX12_splitsF 44 = .ok (.aload_n 0, 1) := by decide +kernel
theorem dX12_splitsF_45 : decode cX12_splitsF 45 = .ok (.iconst 0, 1) := by decide +kernel
theorem dX12_splitsF_46 : decode cX12_splitsF 46 = .ok (.putfield 146, 3) := by decide +kernel
theorem dX12_splitsF_49 : decode cX12_splitsF 49 = .ok (.iconst 0, 1) := by decide +kernel
theorem dX12_splitsF_50 : decode cX12_splitsF 50 = .ok (.istore 6, 2) := by decide +kernel
theorem dX12_splitsF_52 : decode cX12_splitsF 52 = .ok (.iload 6, 2) := by decide +kernel
theorem dX12_splitsF_54 : decode cX12_splitsF 54 = .ok (.bipush 8, 2) := by decide +kernel
theorem dX12_splitsF_56 : decode cX12_splitsF 56 = .ok (.if_icmp .ge 27, 3) := by decide +kernel
theorem dX12_splitsF_59 : decode cX12_splitsF 59 = .ok (.aload_n 0, 1) := by decide +kernel
theorem dX12_splitsF_60 : decode cX12_splitsF 60 = .ok (.getfield 107, 3) := by decide +kernel
theorem dX12_splitsF_63 : decode cX12_splitsF 63 = .ok (.iload 6, 2) := by decide +kernel
theorem dX12_splitsF_65 : decode cX12_splitsF 65 = .ok (.aload_n 0, 1) := by decide +kernel
theorem dX12_splitsF_66 : decode cX12_splitsF 66 = .ok (.getfield 54, 3) := by decide +kernel
theorem dX12_splitsF_69 : decode cX12_splitsF 69 = .ok (.bipush 8, 2) := by decide +kernel
theorem dX12_splitsF_71 : decode cX12_splitsF 71 = .ok (.iload 6, 2) := by decide +kernel
theorem dX12_splitsF_73 : decode cX12_splitsF 73 = .ok (.iadd, 1) := by decide +kernel
theorem dX12_splitsF_74 : decode cX12_splitsF 74 = .ok (.laload, 1) := by decide +kernel
theorem dX12_splitsF_75 : decode cX12_splitsF 75 = .ok (.l2d, 1) := by decide +kernel
theorem dX12_splitsF_76 : decode cX12_splitsF 76 = .ok (.dastore, 1) := by decide +kernel
theorem dX12_splitsF_77 : decode cX12_splitsF 77 = .ok (.iinc 6 1, 3) := by decide +kernel
theorem dX12_splitsF_80 : decode cX12_splitsF 80 = .ok (.goto (-28), 3) := by decide +kernel
theorem dX12_splitsF_83 : decode cX12_splitsF 83 = .ok (.return_, 1) := by decide +kernel
set_option maxRecDepth 20000 in
theorem ggX12_doesF_X12_rateF : GoodIn wsX12_doesF wsX12_rateF := goodIn_r _ [13, 14, 15, 114, 115, 116, 117, 118, 119, 120, 121, 122, 123, 124, 125, 126, 127, 128, 129, 130, 131, 132, 133, 134, 135, 136, 137, 138, 139, 140, 141, 142, 143, 144, 145, 146, 147, 148, 149, 150, 151, 152, 153, 154, 155, 156, 157, 158, 159, 160, 161, 162, 163, 164, 165] (by decide +kernel) (by decide +kernel)
set_option maxRecDepth 20000 in
theorem gX12_doesF_X12_rateF : GoodIn wsX12_doesF (wsV RX12 321 RX12 yX12_rateF wsX12_rateF) := goodIn_app (goodIn_of _ (by decide +kernel)) ggX12_doesF_X12_rateF
set_option maxRecDepth 20000 in
theorem ggX12_doesF_X12_roundedF : GoodIn wsX12_doesF wsX12_roundedF := goodIn_r _ [18, 19, 20, 21, 22, 23, 24, 25, 26, 27, 28, 29, 30, 31, 32, 33, 34, 35, 36, 37, 38, 39, 40, 41, 42, 43, 44, 45, 46, 47, 48, 49, 50, 51, 52, 53, 54, 55, 56, 57, 58, 59, 60, 61, 62, 63, 64, 65, 66, 67, 68, 69, 70] (by decide +kernel) (by decide +kernel)
set_option maxRecDepth 20000 in
theorem gX12_doesF_X12_roundedF : GoodIn wsX12_doesF (va_wsS RX12 325 yX12_roundedF wsX12_roundedF) := goodIn_app (goodIn_of _ (by decide +kernel)) ggX12_doesF_X12_roundedF
set_option maxRecDepth 20000 in
theorem ggX12_doesF_X12_splitsF : GoodIn wsX12_doesF wsX12_splitsF := goodIn_r _ [74, 5, 75, 76, 77, 6, 78, 79, 80, 81, 12, 82, 83, 84, 85, 86, 87, 88, 89, 90, 91, 92, 93, 94, 95, 96, 97, 98, 99, 100, 101, 102, 103, 104, 105, 106, 107, 114, 115, 116, 117, 118, 119, 120, 121, 122, 123, 124, 125, 126, 127, 128, 129, 130, 131, 132, 133, 134, 135, 136, 137, 138, 139, 140, 141, 142, 143, 144, 145, 146, 147, 148, 149, 150, 151, 152, 153, 154, 155, 156, 157, 158, 159, 160, 161, 162, 163, 164, 165] (by decide +kernel) (by decide +kernel)
set_option maxRecDepth 20000 in
theorem gX12_doesF_X12_splitsF : GoodIn wsX12_doesF (wsV RX12 329 RX12 yX12_splitsF wsX12_splitsF) := goodIn_app (goodIn_of _ (by decide +kernel)) ggX12_doesF_X12_splitsF
set_option maxRecDepth 20000 in
theorem ggX12_doesF_J9_floor_294c1 : GoodIn wsX12_doesF wsJ9_floor_294c1 := goodIn_r _ [23, 24, 25, 26, 27, 28, 29, 30, 31, 32, 33, 34, 35, 36, 37, 38, 39, 40, 41, 42, 43, 22, 44, 45, 46, 47] (by decide +kernel) (by decide +kernel)
set_option maxRecDepth 20000 in
theorem gX12_doesF_J9_floor_294c1 : GoodIn wsX12_doesF (va_wsS RX12 310 yJ9_floor_294c1 wsJ9_floor_294c1) := goodIn_app (goodIn_of _ (by decide +kernel)) ggX12_doesF_J9_floor_294c1
set_option maxRecDepth 20000 in
theorem ggX12_doesF_X12_keepsF : GoodIn wsX12_doesF wsX12_keepsF := goodIn_r _ [111, 5, 112, 113, 114, 115, 116, 117, 118, 119, 120, 121, 122, 123, 124, 125, 126, 127, 128, 129, 130, 131, 132, 133, 134, 135, 136, 137, 138, 139, 140, 141, 142, 143, 144, 145, 146, 147, 148, 149, 150, 151, 152, 153, 154, 155, 156, 157, 158, 159, 160, 161, 162, 163, 164, 165] (by decide +kernel) (by decide +kernel)
set_option maxRecDepth 20000 in
theorem gX12_doesF_X12_keepsF : GoodIn wsX12_doesF (wsV RX12 336 RX12 yX12_keepsF wsX12_keepsF) := goodIn_app (goodIn_of _ (by decide +kernel)) ggX12_doesF_X12_keepsF
theorem dX12_doesF_0 : decode cX12_doesF 0 = .ok (.aload_n 0, 1) := by decide +kernel
theorem dX12_doesF_1 : decode cX12_doesF 1 = .ok (.getfield 31, 3) := by decide +kernel
theorem dX12_doesF_4 : decode cX12_doesF 4 = .ok (.iload_n 1, 1) := by decide +kernel
theorem dX12_doesF_5 : decode cX12_doesF 5 = .ok (.iaload, 1) := by decide +kernel
theorem dX12_doesF_6 : decode cX12_doesF 6 = .ok (.istore 4, 2) := by decide +kernel
theorem dX12_doesF_8 : decode cX12_doesF 8 = .ok (.aload_n 0, 1) := by decide +kernel
theorem dX12_doesF_9 : decode cX12_doesF 9 = .ok (.getfield 34, 3) := by decide +kernel
theorem dX12_doesF_12 : decode cX12_doesF 12 = .ok (.iload_n 1, 1) := by decide +kernel
theorem dX12_doesF_13 : decode cX12_doesF 13 = .ok (.iaload, 1) := by decide +kernel
theorem dX12_doesF_14 : decode cX12_doesF 14 = .ok (.istore 5, 2) := by decide +kernel
theorem dX12_doesF_16 : decode cX12_doesF 16 = .ok (.aload_n 0, 1) := by decide +kernel
theorem dX12_doesF_17 : decode cX12_doesF 17 = .ok (.getfield 37, 3) := by decide +kernel
theorem dX12_doesF_20 : decode cX12_doesF 20 = .ok (.iload_n 1, 1) := by decide +kernel
theorem dX12_doesF_21 : decode cX12_doesF 21 = .ok (.iaload, 1) := by decide +kernel
theorem dX12_doesF_22 : decode cX12_doesF 22 = .ok (.istore 6, 2) := by decide +kernel
theorem dX12_doesF_24 : decode cX12_doesF 24 = .ok (.aload_n 0, 1) := by decide +kernel
theorem dX12_doesF_25 : decode cX12_doesF 25 = .ok (.getfield 28, 3) := by decide +kernel
theorem dX12_doesF_28 : decode cX12_doesF 28 = .ok (.iload_n 1, 1) := by decide +kernel
theorem dX12_doesF_29 : decode cX12_doesF 29 = .ok (.iaload, 1) := by decide +kernel
theorem dX12_doesF_30 : decode cX12_doesF 30 = .ok (.tableswitch 413 0 11 #[62, 75, 75, 103, 127, 152, 200, 213, 230, 273, 349, 390], 62) := by decide +kernel
theorem dX12_doesF_92 : decode cX12_doesF 92 = .ok (.aload_n 0, 1) := by decide +kernel
theorem dX12_doesF_93 : decode cX12_doesF 93 = .ok (.getfield 103, 3) := by decide +kernel
theorem dX12_doesF_96 : decode cX12_doesF 96 = .ok (.iload 4, 2) := by decide +kernel
theorem dX12_doesF_98 : decode cX12_doesF 98 = .ok (.dconst 0, 1) := by decide +kernel
theorem dX12_doesF_99 : decode cX12_doesF 99 = .ok (.dload_n 2, 1) := by decide +kernel
theorem dX12_doesF_100 : decode cX12_doesF 100 = .ok (.dadd, 1) := by decide +kernel
theorem dX12_doesF_101 : decode cX12_doesF 101 = .ok (.dastore, 1) := by decide +kernel
theorem dX12_doesF_102 : decode cX12_doesF 102 = .ok (.goto 392, 3) := by decide +kernel
theorem dX12_doesF_105 : decode cX12_doesF 105 = .ok (.aload_n 0, 1) := by decide +kernel
theorem dX12_doesF_106 : decode cX12_doesF 106 = .ok (.getfield 103, 3) := by decide +kernel
theorem dX12_doesF_109 : decode cX12_doesF 109 = .ok (.iload 4, 2) := by decide +kernel
theorem dX12_doesF_111 : decode cX12_doesF 111 = .ok (.dconst 0, 1) := by decide +kernel
theorem dX12_doesF_112 : decode cX12_doesF 112 = .ok (.dconst 0, 1) := by decide +kernel
theorem dX12_doesF_113 : decode cX12_doesF 113 = .ok (.dload_n 2, 1) := by decide +kernel
theorem dX12_doesF_114 : decode cX12_doesF 114 = .ok (.dadd, 1) := by decide +kernel
theorem dX12_doesF_115 : decode cX12_doesF 115 = .ok (.aload_n 0, 1) := by decide +kernel
theorem dX12_doesF_116 : decode cX12_doesF 116 = .ok (.iload 5, 2) := by decide +kernel
theorem dX12_doesF_118 : decode cX12_doesF 118 = .ok (.invokevirtual 321, 3) := by decide +kernel
theorem dX12_doesF_121 : decode cX12_doesF 121 = .ok (.dmul, 1) := by decide +kernel
theorem dX12_doesF_122 : decode cX12_doesF 122 = .ok (.dconst 1, 1) := by decide +kernel
theorem dX12_doesF_123 : decode cX12_doesF 123 = .ok (.iload 6, 2) := by decide +kernel
theorem dX12_doesF_125 : decode cX12_doesF 125 = .ok (.invokestatic 325, 3) := by decide +kernel
theorem dX12_doesF_128 : decode cX12_doesF 128 = .ok (.dadd, 1) := by decide +kernel
theorem dX12_doesF_129 : decode cX12_doesF 129 = .ok (.dastore, 1) := by decide +kernel
theorem dX12_doesF_130 : decode cX12_doesF 130 = .ok (.goto 364, 3) := by decide +kernel
theorem dX12_doesF_133 : decode cX12_doesF 133 = .ok (.aload_n 0, 1) := by decide +kernel
theorem dX12_doesF_134 : decode cX12_doesF 134 = .ok (.getfield 103, 3) := by decide +kernel
theorem dX12_doesF_137 : decode cX12_doesF 137 = .ok (.iload 4, 2) := by decide +kernel
theorem dX12_doesF_139 : decode cX12_doesF 139 = .ok (.aload_n 0, 1) := by decide +kernel
theorem dX12_doesF_140 : decode cX12_doesF 140 = .ok (.getfield 103, 3) := by decide +kernel
theorem dX12_doesF_143 : decode cX12_doesF 143 = .ok (.iload 5, 2) := by decide +kernel
theorem dX12_doesF_145 : decode cX12_doesF 145 = .ok (.daload, 1) := by decide +kernel
theorem dX12_doesF_146 : decode cX12_doesF 146 = .ok (.aload_n 0, 1) := by decide +kernel
theorem dX12_doesF_147 : decode cX12_doesF 147 = .ok (.iload 6, 2) := by decide +kernel
theorem dX12_doesF_149 : decode cX12_doesF 149 = .ok (.invokevirtual 321, 3) := by decide +kernel
theorem dX12_doesF_152 : decode cX12_doesF 152 = .ok (.dmul, 1) := by decide +kernel
theorem dX12_doesF_153 : decode cX12_doesF 153 = .ok (.dastore, 1) := by decide +kernel
theorem dX12_doesF_154 : decode cX12_doesF 154 = .ok (.goto 340, 3) := by decide +kernel
theorem dX12_doesF_157 : decode cX12_doesF 157 = .ok (.aload_n 0, 1) := by decide +kernel
theorem dX12_doesF_158 : decode cX12_doesF 158 = .ok (.getfield 103, 3) := by decide +kernel
theorem dX12_doesF_161 : decode cX12_doesF 161 = .ok (.iload 4, 2) := by decide +kernel
theorem dX12_doesF_163 : decode cX12_doesF 163 = .ok (.aload_n 0, 1) := by decide +kernel
theorem dX12_doesF_164 : decode cX12_doesF 164 = .ok (.getfield 103, 3) := by decide +kernel
theorem dX12_doesF_167 : decode cX12_doesF 167 = .ok (.iload 4, 2) := by decide +kernel
theorem dX12_doesF_169 : decode cX12_doesF 169 = .ok (.daload, 1) := by decide +kernel
theorem dX12_doesF_170 : decode cX12_doesF 170 = .ok (.iload 6, 2) := by decide +kernel
theorem dX12_doesF_172 : decode cX12_doesF 172 = .ok (.i2d, 1) := by decide +kernel
theorem dX12_doesF_173 : decode cX12_doesF 173 = .ok (.iload 5, 2) := by decide +kernel
theorem dX12_doesF_175 : decode cX12_doesF 175 = .ok (.invokestatic 325, 3) := by decide +kernel
theorem dX12_doesF_178 : decode cX12_doesF 178 = .ok (.dastore, 1) := by decide +kernel
theorem dX12_doesF_179 : decode cX12_doesF 179 = .ok (.goto 315, 3) := by decide +kernel
theorem dX12_doesF_182 : decode cX12_doesF 182 = .ok (.aload_n 0, 1) := by decide +kernel
theorem dX12_doesF_183 : decode cX12_doesF 183 = .ok (.getfield 103, 3) := by decide +kernel
theorem dX12_doesF_186 : decode cX12_doesF 186 = .ok (.iload 4, 2) := by decide +kernel
theorem dX12_doesF_188 : decode cX12_doesF 188 = .ok (.iload 6, 2) := by decide +kernel
theorem dX12_doesF_190 : decode cX12_doesF 190 = .ok (.ifCond .ne 21, 3) := by decide +kernel
theorem dX12_doesF_193 : decode cX12_doesF 193 = .ok (.aload_n 0, 1) := by decide +kernel
theorem dX12_doesF_194 : decode cX12_doesF 194 = .ok (.getfield 103, 3) := by decide +kernel
theorem dX12_doesF_197 : decode cX12_doesF 197 = .ok (.iload 4, 2) := by decide +kernel
theorem dX12_doesF_199 : decode cX12_doesF 199 = .ok (.daload, 1) := by decide +kernel
theorem dX12_doesF_200 : decode cX12_doesF 200 = .ok (.aload_n 0, 1) := by decide +kernel
theorem dX12_doesF_201 : decode cX12_doesF 201 = .ok (.getfield 103, 3) := by decide +kernel
theorem dX12_doesF_204 : decode cX12_doesF 204 = .ok (.iload 5, 2) := by decide +kernel
theorem dX12_doesF_206 : decode cX12_doesF 206 = .ok (.daload, 1) := by decide +kernel
theorem dX12_doesF_207 : decode cX12_doesF 207 = .ok (.dadd, 1) := by decide +kernel
theorem dX12_doesF_208 : decode cX12_doesF 208 = .ok (.goto 18, 3) := by decide +kernel
theorem dX12_doesF_211 : decode cX12_doesF 211 = .ok (.aload_n 0, 1) := by decide +kernel
theorem dX12_doesF_212 : decode cX12_doesF 212 = .ok (.getfield 103, 3) := by decide +kernel
theorem dX12_doesF_215 : decode cX12_doesF 215 = .ok (.iload 4, 2) := by decide +kernel
theorem dX12_doesF_217 : decode cX12_doesF 217 = .ok (.daload, 1) := by decide +kernel
theorem dX12_doesF_218 : decode cX12_doesF 218 = .ok (.aload_n 0, 1) := by decide +kernel
theorem dX12_doesF_219 : decode cX12_doesF 219 = .ok (.getfield 103, 3) := by decide +kernel
theorem dX12_doesF_222 : decode cX12_doesF 222 = .ok (.iload 5, 2) := by decide +kernel
theorem dX12_doesF_224 : decode cX12_doesF 224 = .ok (.daload, 1) := by decide +kernel
theorem dX12_doesF_225 : decode cX12_doesF 225 = .ok (.dsub, 1) := by decide +kernel
theorem dX12_doesF_226 : decode cX12_doesF 226 = .ok (.dastore, 1) := by decide +kernel
theorem dX12_doesF_227 : decode cX12_doesF 227 = .ok (.goto 267, 3) := by decide +kernel
theorem dX12_doesF_230 : decode cX12_doesF 230 = .ok (.aload_n 0, 1) := by decide +kernel
theorem dX12_doesF_231 : decode cX12_doesF 231 = .ok (.iload 4, 2) := by decide +kernel
theorem dX12_doesF_233 : decode cX12_doesF 233 = .ok (.iload 5, 2) := by decide +kernel
theorem dX12_doesF_235 : decode cX12_doesF 235 = .ok (.iload 6, 2) := by decide +kernel
theorem dX12_doesF_237 : decode cX12_doesF 237 = .ok (.invokevirtual 329, 3) := by decide +kernel
theorem dX12_doesF_240 : decode cX12_doesF 240 = .ok (.goto 254, 3) := by decide +kernel
theorem dX12_doesF_243 : decode cX12_doesF 243 = .ok (.aload_n 0, 1) := by decide +kernel
theorem dX12_doesF_244 : decode cX12_doesF 244 = .ok (.getfield 103, 3) := by decide +kernel
theorem dX12_doesF_247 : decode cX12_doesF 247 = .ok (.iload 4, 2) := by decide +kernel
theorem dX12_doesF_249 : decode cX12_doesF 249 = .ok (.aload_n 0, 1) := by decide +kernel
theorem dX12_doesF_250 : decode cX12_doesF 250 = .ok (.getfield 107, 3) := by decide +kernel
theorem dX12_doesF_253 : decode cX12_doesF 253 = .ok (.iload 5, 2) := by decide +kernel
theorem dX12_doesF_255 : decode cX12_doesF 255 = .ok (.daload, 1) := by decide +kernel
theorem dX12_doesF_256 : decode cX12_doesF 256 = .ok (.dastore, 1) := by decide +kernel
theorem dX12_doesF_257 : decode cX12_doesF 257 = .ok (.goto 237, 3) := by decide +kernel
theorem dX12_doesF_260 : decode cX12_doesF 260 = .ok (.aload_n 0, 1) := by decide +kernel
theorem dX12_doesF_261 : decode cX12_doesF 261 = .ok (.getfield 332, 3) := by decide +kernel
theorem dX12_doesF_264 : decode cX12_doesF 264 = .ok (.aload_n 0, 1) := by decide +kernel
theorem dX12_doesF_265 : decode cX12_doesF 265 = .ok (.getfield 103, 3) := by decide +kernel
theorem dX12_doesF_268 : decode cX12_doesF 268 = .ok (.iload 4, 2) := by decide +kernel
theorem dX12_doesF_270 : decode cX12_doesF 270 = .ok (.daload, 1) := by decide +kernel
theorem dX12_doesF_271 : decode cX12_doesF 271 = .ok (.dadd, 1) := by decide +kernel
theorem dX12_doesF_272 : decode cX12_doesF 272 = .ok (.dstore 7, 2) := by decide +kernel
theorem dX12_doesF_274 : decode cX12_doesF 274 = .ok (.aload_n 0, 1) := by decide +kernel
theorem dX12_doesF_275 : decode cX12_doesF 275 = .ok (.getfield 103, 3) := by decide +kernel
theorem dX12_doesF_278 : decode cX12_doesF 278 = .ok (.iload 4, 2) := by decide +kernel
theorem dX12_doesF_280 : decode cX12_doesF 280 = .ok (.dload 7, 2) := by decide +kernel
theorem dX12_doesF_282 : decode cX12_doesF 282 = .ok (.invokestatic 310, 3) := by decide +kernel
theorem dX12_doesF_285 : decode cX12_doesF 285 = .ok (.dastore, 1) := by decide +kernel
theorem dX12_doesF_286 : decode cX12_doesF 286 = .ok (.aload_n 0, 1) := by decide +kernel
theorem dX12_doesF_287 : decode cX12_doesF 287 = .ok (.dload 7, 2) := by decide +kernel
theorem dX12_doesF_289 : decode cX12_doesF 289 = .ok (.aload_n 0, 1) := by decide +kernel
theorem dX12_doesF_290 : decode cX12_doesF 290 = .ok (.getfield 103, 3) := by decide +kernel
theorem dX12_doesF_293 : decode cX12_doesF 293 = .ok (.iload 4, 2) := by decide +kernel
theorem dX12_doesF_295 : decode cX12_doesF 295 = .ok (.daload, 1) := by decide +kernel
theorem dX12_doesF_296 : decode cX12_doesF 296 = .ok (.dsub, 1) := by decide +kernel
theorem dX12_doesF_297 : decode cX12_doesF 297 = .ok (.putfield 332, 3) := by decide +kernel
theorem dX12_doesF_300 : decode cX12_doesF 300 = .ok (.goto 194, 3) := by decide +kernel
theorem dX12_doesF_303 : decode cX12_doesF 303 = .ok (.iload 5, 2) := by decide +kernel
theorem dX12_doesF_305 : decode cX12_doesF 305 = .ok (.ifCond .ne 25, 3) := by decide +kernel
theorem dX12_doesF_308 : decode cX12_doesF 308 = .ok (.aload_n 0, 1) := by decide +kernel
theorem dX12_doesF_309 : decode cX12_doesF 309 = .ok (.getfield 103, 3) := by decide +kernel
theorem dX12_doesF_312 : decode cX12_doesF 312 = .ok (.iload 4, 2) := by decide +kernel
theorem dX12_doesF_314 : decode cX12_doesF 314 = .ok (.daload, 1) := by decide +kernel
theorem dX12_doesF_315 : decode cX12_doesF 315 = .ok (.iload 6, 2) := by decide +kernel
theorem dX12_doesF_317 : decode cX12_doesF 317 = .ok (.i2d, 1) := by decide +kernel
theorem dX12_doesF_318 : decode cX12_doesF 318 = .ok (.dcmp .l, 1) := by decide +kernel
theorem dX12_doesF_319 : decode cX12_doesF 319 = .ok (.ifCond .le 7, 3) := by decide +kernel
theorem dX12_doesF_322 : decode cX12_doesF 322 = .ok (.iconst 1, 1) := by decide +kernel
theorem dX12_doesF_323 : decode cX12_doesF 323 = .ok (.goto 26, 3) := by decide +kernel
theorem dX12_doesF_326 : decode cX12_doesF 326 = .ok (.iconst 0, 1) := by decide +kernel
theorem dX12_doesF_327 : decode cX12_doesF 327 = .ok (.goto 22, 3) := by decide +kernel
theorem dX12_doesF_330 : decode cX12_doesF 330 = .ok (.aload_n 0, 1) := by decide +kernel
theorem dX12_doesF_331 : decode cX12_doesF 331 = .ok (.getfield 103, 3) := by decide +kernel
theorem dX12_doesF_334 : decode cX12_doesF 334 = .ok (.iload 4, 2) := by decide +kernel
theorem dX12_doesF_336 : decode cX12_doesF 336 = .ok (.daload, 1) := by decide +kernel
theorem dX12_doesF_337 : decode cX12_doesF 337 = .ok (.iload 6, 2) := by decide +kernel
theorem dX12_doesF_339 : decode cX12_doesF 339 = .ok (.i2d, 1) := by decide +kernel
theorem dX12_doesF_340 : decode cX12_doesF 340 = .ok (.dcmp .g, 1) := by decide +kernel
theorem dX12_doesF_341 : decode cX12_doesF 341 = .ok (.ifCond .ge 7, 3) := by decide +kernel
theorem dX12_doesF_344 : decode cX12_doesF 344 = .ok (.iconst 1, 1) := by decide +kernel
theorem dX12_doesF_345 : decode cX12_doesF 345 = .ok (.goto 4, 3) := by decide +kernel
theorem dX12_doesF_348 : decode cX12_doesF 348 = .ok (.iconst 0, 1) := by decide +kernel
theorem dX12_doesF_349 : decode cX12_doesF 349 = .ok (.istore 9, 2) := by decide +kernel
theorem dX12_doesF_351 : decode cX12_doesF 351 = .ok (.aload_n 0, 1) := by decide +kernel
theorem dX12_doesF_352 : decode cX12_doesF 352 = .ok (.getfield 103, 3) := by decide +kernel
theorem dX12_doesF_355 : decode cX12_doesF 355 = .ok (.iload 4, 2) := by decide +kernel
theorem dX12_doesF_357 : decode cX12_doesF 357 = .ok (.iload 9, 2) := by decide +kernel
theorem dX12_doesF_359 : decode cX12_doesF 359 = .ok (.ifCond .eq 9, 3) := by decide +kernel
theorem dX12_doesF_362 : decode cX12_doesF 362 = .ok (.iload 6, 2) := by decide +kernel
theorem dX12_doesF_364 : decode cX12_doesF 364 = .ok (.i2d, 1) := by decide +kernel
theorem dX12_doesF_365 : decode cX12_doesF 365 = .ok (.goto 10, 3) := by decide +kernel
theorem dX12_doesF_368 : decode cX12_doesF 368 = .ok (.aload_n 0, 1) := by decide +kernel
theorem dX12_doesF_369 : decode cX12_doesF 369 = .ok (.getfield 103, 3) := by decide +kernel
theorem dX12_doesF_372 : decode cX12_doesF 372 = .ok (.iload 4, 2) := by decide +kernel
theorem dX12_doesF_374 : decode cX12_doesF 374 = .ok (.daload, 1) := by decide +kernel
theorem dX12_doesF_375 : decode cX12_doesF 375 = .ok (.dastore, 1) := by decide +kernel
theorem dX12_doesF_376 : decode cX12_doesF 376 = .ok (.goto 118, 3) := by decide +kernel
theorem dX12_doesF_379 : decode cX12_doesF 379 = .ok (.aload_n 0, 1) := by decide +kernel
theorem dX12_doesF_380 : decode cX12_doesF 380 = .ok (.getfield 60, 3) := by decide +kernel
theorem dX12_doesF_383 : decode cX12_doesF 383 = .ok (.bipush 8, 2) := by decide +kernel
theorem dX12_doesF_385 : decode cX12_doesF 385 = .ok (.iload 5, 2) := by decide +kernel
theorem dX12_doesF_387 : decode cX12_doesF 387 = .ok (.iadd, 1) := by decide +kernel
theorem dX12_doesF_388 : decode cX12_doesF 388 = .ok (.dup2, 1) := by decide +kernel
theorem dX12_doesF_389 : decode cX12_doesF 389 = .ok (.laload, 1) := by decide +kernel
theorem dX12_doesF_390 : decode cX12_doesF 390 = .ok (.iload 6, 2) := by decide +kernel
theorem dX12_doesF_392 : decode cX12_doesF 392 = .ok (.ifCond .ne 14, 3) := by decide +kernel
theorem dX12_doesF_395 : decode cX12_doesF 395 = .ok (.aload_n 0, 1) := by decide +kernel
theorem dX12_doesF_396 : decode cX12_doesF 396 = .ok (.getfield 103, 3) := by decide +kernel
theorem dX12_doesF_399 : decode cX12_doesF 399 = .ok (.iload 4, 2) := by decide +kernel
theorem dX12_doesF_401 : decode cX12_doesF 401 = .ok (.daload, 1) := by decide +kernel
theorem dX12_doesF_402 : decode cX12_doesF 402 = .ok (.d2l, 1) := by decide +kernel
theorem dX12_doesF_403 : decode cX12_doesF 403 = .ok (.goto 12, 3) := by decide +kernel
theorem dX12_doesF_406 : decode cX12_doesF 406 = .ok (.aload_n 0, 1) := by decide +kernel
theorem dX12_doesF_407 : decode cX12_doesF 407 = .ok (.getfield 103, 3) := by decide +kernel
theorem dX12_doesF_410 : decode cX12_doesF 410 = .ok (.iload 4, 2) := by decide +kernel
theorem dX12_doesF_412 : decode cX12_doesF 412 = .ok (.daload, 1) := by decide +kernel
theorem dX12_doesF_413 : decode cX12_doesF 413 = .ok (.d2l, 1) := by decide +kernel
theorem dX12_doesF_414 : decode cX12_doesF 414 = .ok (.lneg, 1) := by decide +kernel
theorem dX12_doesF_415 : decode cX12_doesF 415 = .ok (.ladd, 1) := by decide +kernel
theorem dX12_doesF_416 : decode cX12_doesF 416 = .ok (.lastore, 1) := by decide +kernel
theorem dX12_doesF_417 : decode cX12_doesF 417 = .ok (.goto 77, 3) := by decide +kernel
theorem dX12_doesF_420 : decode cX12_doesF 420 = .ok (.aload_n 0, 1) := by decide +kernel
theorem dX12_doesF_421 : decode cX12_doesF 421 = .ok (.getfield 103, 3) := by decide +kernel
theorem dX12_doesF_424 : decode cX12_doesF 424 = .ok (.iload 4, 2) := by decide +kernel
theorem dX12_doesF_426 : decode cX12_doesF 426 = .ok (.aload_n 0, 1) := by decide +kernel
theorem dX12_doesF_427 : decode cX12_doesF 427 = .ok (.getfield 103, 3) := by decide +kernel
theorem dX12_doesF_430 : decode cX12_doesF 430 = .ok (.iload 5, 2) := by decide +kernel
theorem dX12_doesF_432 : decode cX12_doesF 432 = .ok (.daload, 1) := by decide +kernel
theorem dX12_doesF_433 : decode cX12_doesF 433 = .ok (.dconst 1, 1) := by decide +kernel
theorem dX12_doesF_434 : decode cX12_doesF 434 = .ok (.iload 6, 2) := by decide +kernel
theorem dX12_doesF_436 : decode cX12_doesF 436 = .ok (.invokestatic 325, 3) := by decide +kernel
theorem dX12_doesF_439 : decode cX12_doesF 439 = .ok (.dastore, 1) := by decide +kernel
theorem dX12_doesF_440 : decode cX12_doesF 440 = .ok (.goto 54, 3) := by decide +kernel
theorem dX12_doesF_443 : decode cX12_doesF 443 = .ok (.iconst 0, 1) := by decide +kernel
theorem dX12_doesF_444 : decode cX12_doesF 444 = .ok (.istore 10, 2) := by decide +kernel
theorem dX12_doesF_446 : decode cX12_doesF 446 = .ok (.iload 10, 2) := by decide +kernel
theorem dX12_doesF_448 : decode cX12_doesF 448 = .ok (.iload 6, 2) := by decide +kernel
theorem dX12_doesF_450 : decode cX12_doesF 450 = .ok (.if_icmp .ge 44, 3) := by decide +kernel
theorem dX12_doesF_453 : decode cX12_doesF 453 = .ok (.aload_n 0, 1) := by decide +kernel
theorem dX12_doesF_454 : decode cX12_doesF 454 = .ok (.getfield 103, 3) := by decide +kernel
theorem dX12_doesF_457 : decode cX12_doesF 457 = .ok (.iload 4, 2) := by decide +kernel
theorem dX12_doesF_459 : decode cX12_doesF 459 = .ok (.dup2, 1) := by decide +kernel
theorem dX12_doesF_460 : decode cX12_doesF 460 = .ok (.daload, 1) := by decide +kernel
theorem dX12_doesF_461 : decode cX12_doesF 461 = .ok (.aload_n 0, 1) := by decide +kernel
theorem dX12_doesF_462 : decode cX12_doesF 462 = .ok (.getfield 103, 3) := by decide +kernel
theorem dX12_doesF_465 : decode cX12_doesF 465 = .ok (.iload 4, 2) := by decide +kernel
theorem dX12_doesF_467 : decode cX12_doesF 467 = .ok (.daload, 1) := by decide +kernel
theorem dX12_doesF_468 : decode cX12_doesF 468 = .ok (.aload_n 0, 1) := by decide +kernel
theorem dX12_doesF_469 : decode cX12_doesF 469 = .ok (.iload 5, 2) := by decide +kernel
theorem dX12_doesF_471 : decode cX12_doesF 471 = .ok (.invokevirtual 321, 3) := by decide +kernel
theorem dX12_doesF_474 : decode cX12_doesF 474 = .ok (.dmul, 1) := by decide +kernel
theorem dX12_doesF_475 : decode cX12_doesF 475 = .ok (.dconst 1, 1) := by decide +kernel
theorem dX12_doesF_476 : decode cX12_doesF 476 = .ok (.iconst 1, 1) := by decide +kernel
theorem dX12_doesF_477 : decode cX12_doesF 477 = .ok (.invokestatic 325, 3) := by decide +kernel
theorem dX12_doesF_480 : decode cX12_doesF 480 = .ok (.dadd, 1) := by decide +kernel
theorem dX12_doesF_481 : decode cX12_doesF 481 = .ok (.dastore, 1) := by decide +kernel
theorem dX12_doesF_482 : decode cX12_doesF 482 = .ok (.aload_n 0, 1) := by decide +kernel
theorem dX12_doesF_483 : decode cX12_doesF 483 = .ok (.iload 4, 2) := by decide +kernel
theorem dX12_doesF_485 : decode cX12_doesF 485 = .ok (.invokevirtual 336, 3) := by decide +kernel
theorem dX12_doesF_488 : decode cX12_doesF 488 = .ok (.iinc 10 1, 3) := by decide +kernel
theorem dX12_doesF_491 : decode cX12_doesF 491 = .ok (.goto (-45), 3) := by decide +kernel
theorem dX12_doesF_494 : decode cX12_doesF 494 = .ok (.aload_n 0, 1) := by decide +kernel
theorem dX12_doesF_495 : decode cX12_doesF 495 = .ok (.iload 4, 2) := by decide +kernel
theorem dX12_doesF_497 : decode cX12_doesF 497 = .ok (.invokevirtual 336, 3) := by decide +kernel
theorem dX12_doesF_500 : decode cX12_doesF 500 = .ok (.return_, 1) := by decide +kernel
theorem dX12_keepsF_0 : decode cX12_keepsF 0 = .ok (.aload_n 0, 1) := by decide +kernel
theorem dX12_keepsF_1 : decode cX12_keepsF 1 = .ok (.getfield 103, 3) := by decide +kernel
theorem dX12_keepsF_4 : decode cX12_keepsF 4 = .ok (.iload_n 1, 1) := by decide +kernel
theorem dX12_keepsF_5 : decode cX12_keepsF 5 = .ok (.aload_n 0, 1) := by decide +kernel
theorem dX12_keepsF_6 : decode cX12_keepsF 6 = .ok (.getfield 103, 3) := by decide +kernel
theorem dX12_keepsF_9 : decode cX12_keepsF 9 = .ok (.iload_n 1, 1) := by decide +kernel
theorem dX12_keepsF_10 : decode cX12_keepsF 10 = .ok (.daload, 1) := by decide +kernel
theorem dX12_keepsF_11 : decode cX12_keepsF 11 = .ok (.ldc2_w 340, 3) := by decide +kernel
theorem dX12_keepsF_14 : decode cX12_keepsF 14 = .ok (.dcmp .l, 1) := by decide +kernel
theorem dX12_keepsF_15 : decode cX12_keepsF 15 = .ok (.ifCond .le 9, 3) := by decide +kernel
theorem dX12_keepsF_18 : decode cX12_keepsF 18 = .ok (.ldc2_w 340, 3) := by decide +kernel
theorem dX12_keepsF_21 : decode cX12_keepsF 21 = .ok (.goto 28, 3) := by decide +kernel
theorem dX12_keepsF_24 : decode cX12_keepsF 24 = .ok (.aload_n 0, 1) := by decide +kernel
theorem dX12_keepsF_25 : decode cX12_keepsF 25 = .ok (.getfield 103, 3) := by decide +kernel
theorem dX12_keepsF_28 : decode cX12_keepsF 28 = .ok (.iload_n 1, 1) := by decide +kernel
theorem dX12_keepsF_29 : decode cX12_keepsF 29 = .ok (.daload, 1) := by decide +kernel
theorem dX12_keepsF_30 : decode cX12_keepsF 30 = .ok (.ldc2_w 342, 3) := by decide +kernel
theorem dX12_keepsF_33 : decode cX12_keepsF 33 = .ok (.dcmp .g, 1) := by decide +kernel
theorem dX12_keepsF_34 : decode cX12_keepsF 34 = .ok (.ifCond .ge 9, 3) := by decide +kernel
theorem dX12_keepsF_37 : decode cX12_keepsF 37 = .ok (.ldc2_w 342, 3) := by decide +kernel
theorem dX12_keepsF_40 : decode cX12_keepsF 40 = .ok (.goto 9, 3) := by decide +kernel
theorem dX12_keepsF_43 : decode cX12_keepsF 43 = .ok (.aload_n 0, 1) := by decide +kernel
theorem dX12_keepsF_44 : decode cX12_keepsF 44 = .ok (.getfield 103, 3) := by decide +kernel
theorem dX12_keepsF_47 : decode cX12_keepsF 47 = .ok (.iload_n 1, 1) := by decide +kernel
theorem dX12_keepsF_48 : decode cX12_keepsF 48 = .ok (.daload, 1) := by decide +kernel
theorem dX12_keepsF_49 : decode cX12_keepsF 49 = .ok (.dastore, 1) := by decide +kernel
theorem dX12_keepsF_50 : decode cX12_keepsF 50 = .ok (.return_, 1) := by decide +kernel
set_option maxRecDepth 20000 in
theorem ggX12_floats_X12_doesF : GoodIn wsX12_floats wsX12_doesF := goodIn_r _ [10, 11, 12, 13, 14, 2, 3, 1, 4, 15, 16, 17, 9, 18, 19, 20, 21, 22, 23, 24, 25, 26, 27, 28, 29, 30, 31, 32, 33, 34, 35, 36, 37, 38, 39, 40, 41, 42, 43, 44, 45, 46, 47, 48, 49, 50, 51, 52, 53, 54, 55, 56, 57, 58, 59, 60, 61, 62, 63, 64, 65, 66, 67, 68, 69, 70, 71, 72, 73, 74, 75, 76, 77, 78, 79, 80, 81, 82, 83, 84, 85, 86, 87, 88, 89, 90, 91, 92, 93, 94, 95, 96, 97, 98, 99, 100, 101, 102, 103, 104, 105, 106, 107, 108, 109, 110, 111, 112, 113, 114, 115, 116, 117, 118, 119, 120, 121, 122, 123, 124, 125, 126, 127, 128, 129, 130, 131, 132, 133, 134, 135, 136, 137, 138, 139, 140, 141, 142, 143, 144, 145, 146, 147, 148, 149, 150, 151, 152, 153, 154, 155, 156, 157, 158, 159, 160, 161, 162, 163, 164, 165, 166, 167, 168, 169, 170] (by decide +kernel) (by decide +kernel)
set_option maxRecDepth 20000 in
theorem gX12_floats_X12_doesF : GoodIn wsX12_floats (wsV RX12 344 RX12 yX12_doesF wsX12_doesF) := goodIn_app (goodIn_of _ (by decide +kernel)) ggX12_floats_X12_doesF
theorem dX12_floats_0 : decode cX12_floats 0 = .ok (.aload_n 0, 1) := by decide +kernel
theorem dX12_floats_1 : decode cX12_floats 1 = .ok (.dconst 0, 1) := by decide +kernel
theorem dX12_floats_2 : decode cX12_floats 2 = .ok (.putfield 332, 3) := by decide +kernel
theorem dX12_floats_5 : decode cX12_floats 5 = .ok (.iconst 0, 1) := by decide +kernel
theorem dX12_floats_6 : decode cX12_floats 6 = .ok (.istore_n 3, 1) := by decide +kernel
theorem dX12_floats_7 : decode cX12_floats 7 = .ok (.iload_n 3, 1) := by decide +kernel
theorem dX12_floats_8 : decode cX12_floats 8 = .ok (.bipush 8, 2) := by decide +kernel
theorem dX12_floats_10 : decode cX12_floats 10 = .ok (.if_icmp .ge 33, 3) := by decide +kernel
theorem dX12_floats_13 : decode cX12_floats 13 = .ok (.aload_n 0, 1) := by decide +kernel
theorem dX12_floats_14 : decode cX12_floats 14 = .ok (.getfield 103, 3) := by decide +kernel
theorem dX12_floats_17 : decode cX12_floats 17 = .ok (.iload_n 3, 1) := by decide +kernel
theorem dX12_floats_18 : decode cX12_floats 18 = .ok (.dconst 0, 1) := by decide +kernel
theorem dX12_floats_19 : decode cX12_floats 19 = .ok (.dastore, 1) := by decide +kernel
theorem dX12_floats_20 : decode cX12_floats 20 = .ok (.aload_n 0, 1) := by decide +kernel
theorem dX12_floats_21 : decode cX12_floats 21 = .ok (.getfield 107, 3) := by decide +kernel
theorem dX12_floats_24 : decode cX12_floats 24 = .ok (.iload_n 3, 1) := by decide +kernel
theorem dX12_floats_25 : decode cX12_floats 25 = .ok (.dconst 0, 1) := by decide +kernel
theorem dX12_floats_26 : decode cX12_floats 26 = .ok (.dastore, 1) := by decide +kernel
theorem dX12_floats_27 : decode cX12_floats 27 = .ok (.aload_n 0, 1) := by decide +kernel
theorem dX12_floats_28 : decode cX12_floats 28 = .ok (.getfield 60, 3) := by decide +kernel
theorem dX12_floats_31 : decode cX12_floats 31 = .ok (.bipush 8, 2) := by decide +kernel
theorem dX12_floats_33 : decode cX12_floats 33 = .ok (.iload_n 3, 1) := by decide +kernel
theorem dX12_floats_34 : decode cX12_floats 34 = .ok (.iadd, 1) := by decide +kernel
theorem dX12_floats_35 : decode cX12_floats 35 = .ok (.lconst 0, 1) := by decide +kernel
theorem dX12_floats_36 : decode cX12_floats 36 = .ok (.lastore, 1) := by decide +kernel
theorem dX12_floats_37 : decode cX12_floats 37 = .ok (.iinc 3 1, 3) := by decide +kernel
theorem dX12_floats_40 : decode cX12_floats 40 = .ok (.goto (-33), 3) := by decide +kernel
theorem dX12_floats_43 : decode cX12_floats 43 = .ok (.iconst 0, 1) := by decide +kernel
theorem dX12_floats_44 : decode cX12_floats 44 = .ok (.istore_n 3, 1) := by decide +kernel
theorem dX12_floats_45 : decode cX12_floats 45 = .ok (.iload_n 3, 1) := by decide +kernel
theorem dX12_floats_46 : decode cX12_floats 46 = .ok (.aload_n 0, 1) := by decide +kernel
theorem dX12_floats_47 : decode cX12_floats 47 = .ok (.getfield 25, 3) := by decide +kernel
theorem dX12_floats_50 : decode cX12_floats 50 = .ok (.iload_n 1, 1) := by decide +kernel
theorem dX12_floats_51 : decode cX12_floats 51 = .ok (.iaload, 1) := by decide +kernel
theorem dX12_floats_52 : decode cX12_floats 52 = .ok (.if_icmp .ge 21, 3) := by decide +kernel
theorem dX12_floats_55 : decode cX12_floats 55 = .ok (.aload_n 0, 1) := by decide +kernel
theorem dX12_floats_56 : decode cX12_floats 56 = .ok (.bipush 20, 2) := by decide +kernel
theorem dX12_floats_58 : decode cX12_floats 58 = .ok (.iload_n 1, 1) := by decide +kernel
theorem dX12_floats_59 : decode cX12_floats 59 = .ok (.imul, 1) := by decide +kernel
theorem dX12_floats_60 : decode cX12_floats 60 = .ok (.iload_n 3, 1) := by decide +kernel
theorem dX12_floats_61 : decode cX12_floats 61 = .ok (.iadd, 1) := by decide +kernel
theorem dX12_floats_62 : decode cX12_floats 62 = .ok (.iload_n 2, 1) := by decide +kernel
theorem dX12_floats_63 : decode cX12_floats 63 = .ok (.i2d, 1) := by decide +kernel
theorem dX12_floats_64 : decode cX12_floats 64 = .ok (.invokevirtual 344, 3) := by decide +kernel
theorem dX12_floats_67 : decode cX12_floats 67 = .ok (.iinc 3 1, 3) := by decide +kernel
theorem dX12_floats_70 : decode cX12_floats 70 = .ok (.goto (-25), 3) := by decide +kernel
theorem dX12_floats_73 : decode cX12_floats 73 = .ok (.return_, 1) := by decide +kernel
set_option maxRecDepth 20000 in
theorem ggX12_isSpan_X12_in : GoodIn wsX12_isSpan wsX12_in := goodIn_r _ [6] (by decide +kernel) (by decide +kernel)
set_option maxRecDepth 20000 in
theorem gX12_isSpan_X12_in : GoodIn wsX12_isSpan (va_wsS RX12 159 yX12_in wsX12_in) := goodIn_app (goodIn_of _ (by decide +kernel)) ggX12_isSpan_X12_in
theorem dX12_isSpan_0 : decode cX12_isSpan 0 = .ok (.iload_n 0, 1) := by decide +kernel
theorem dX12_isSpan_1 : decode cX12_isSpan 1 = .ok (.ldc_w 348, 3) := by decide +kernel
theorem dX12_isSpan_4 : decode cX12_isSpan 4 = .ok (.ldc 171, 2) := by decide +kernel
theorem dX12_isSpan_6 : decode cX12_isSpan 6 = .ok (.invokestatic 159, 3) := by decide +kernel
theorem dX12_isSpan_9 : decode cX12_isSpan 9 = .ok (.ifCond .eq 31, 3) := by decide +kernel
theorem dX12_isSpan_12 : decode cX12_isSpan 12 = .ok (.iload_n 1, 1) := by decide +kernel
theorem dX12_isSpan_13 : decode cX12_isSpan 13 = .ok (.ldc_w 348, 3) := by decide +kernel
theorem dX12_isSpan_16 : decode cX12_isSpan 16 = .ok (.ldc 171, 2) := by decide +kernel
theorem dX12_isSpan_18 : decode cX12_isSpan 18 = .ok (.invokestatic 159, 3) := by decide +kernel
theorem dX12_isSpan_21 : decode cX12_isSpan 21 = .ok (.ifCond .eq 19, 3) := by decide +kernel
theorem dX12_isSpan_24 : decode cX12_isSpan 24 = .ok (.iload_n 1, 1) := by decide +kernel
theorem dX12_isSpan_25 : decode cX12_isSpan 25 = .ok (.iload_n 0, 1) := by decide +kernel
theorem dX12_isSpan_26 : decode cX12_isSpan 26 = .ok (.if_icmp .lt 14, 3) := by decide +kernel
theorem dX12_isSpan_29 : decode cX12_isSpan 29 = .ok (.iload_n 1, 1) := by decide +kernel
theorem dX12_isSpan_30 : decode cX12_isSpan 30 = .ok (.iload_n 0, 1) := by decide +kernel
theorem dX12_isSpan_31 : decode cX12_isSpan 31 = .ok (.isub, 1) := by decide +kernel
theorem dX12_isSpan_32 : decode cX12_isSpan 32 = .ok (.iload_n 2, 1) := by decide +kernel
theorem dX12_isSpan_33 : decode cX12_isSpan 33 = .ok (.if_icmp .gt 7, 3) := by decide +kernel
theorem dX12_isSpan_36 : decode cX12_isSpan 36 = .ok (.iconst 1, 1) := by decide +kernel
theorem dX12_isSpan_37 : decode cX12_isSpan 37 = .ok (.goto 4, 3) := by decide +kernel
theorem dX12_isSpan_40 : decode cX12_isSpan 40 = .ok (.iconst 0, 1) := by decide +kernel
theorem dX12_isSpan_41 : decode cX12_isSpan 41 = .ok (.ireturn, 1) := by decide +kernel
set_option maxRecDepth 20000 in
theorem ggX12_leastOf_X12_breaks : GoodIn wsX12_leastOf wsX12_breaks := goodIn_r _ [6, 7, 8, 9, 10, 11, 12, 5, 13, 14, 15, 16, 17, 18, 19, 20, 21, 22, 23, 24, 25, 26, 27, 28, 29, 30, 31, 32, 33, 34, 35, 36, 37, 38, 39, 40, 41, 42, 43, 44, 45, 46, 47, 48, 49, 50, 51, 52, 53, 54, 55, 56, 57, 58, 59, 60, 61, 62, 63, 64, 65, 66, 67, 68, 69, 70, 71, 72, 73, 74, 75, 76, 77, 78, 79, 80, 81, 82, 83, 84, 85, 86, 87, 88, 89, 90, 91, 92, 93, 94, 95, 96, 97, 98, 99, 100, 101, 102, 103, 104, 105, 106, 107, 108, 109, 110, 111, 112, 113, 114, 115, 116, 117, 118, 119, 120, 121, 122, 123, 124, 125, 126, 127, 128, 129, 130, 131, 132, 133, 134, 135, 136, 137, 138, 139, 140, 141, 142, 143, 144, 145, 146, 147, 148, 149, 150, 151, 152, 153, 154, 155, 156, 157, 158, 159, 160, 161, 162, 163, 164, 165, 166, 167, 168, 169, 170, 171, 172, 173, 174, 175, 176, 177, 178, 179, 180, 181, 182, 183, 184, 185, 186, 187, 188, 189, 190, 191, 192, 193, 194, 195, 196, 197, 198, 199, 200, 201, 202, 203, 204, 205, 206, 207, 208, 209, 210, 211, 212, 213, 214, 215, 216, 217, 218, 219, 220, 221, 222, 223, 224, 225, 226, 227, 228, 229, 230, 231, 232, 233, 234, 235, 236, 237, 238, 239, 240, 241, 242, 243, 244, 245, 246, 247, 248, 249, 250, 251, 252, 253, 254, 255, 256, 257, 258, 259, 260, 261, 262, 263, 264, 265, 266, 267, 268, 269, 270, 271, 272] (by decide +kernel) (by decide +kernel)
set_option maxRecDepth 20000 in
theorem gX12_leastOf_X12_breaks : GoodIn wsX12_leastOf (wsV RX12 349 RX12 yX12_breaks wsX12_breaks) := goodIn_app (goodIn_of _ (by decide +kernel)) ggX12_leastOf_X12_breaks
theorem dX12_leastOf_0 : decode cX12_leastOf 0 = .ok (.iload 4, 2) := by decide +kernel
theorem dX12_leastOf_2 : decode cX12_leastOf 2 = .ok (.istore 6, 2) := by decide +kernel
theorem dX12_leastOf_4 : decode cX12_leastOf 4 = .ok (.iload 6, 2) := by decide +kernel
theorem dX12_leastOf_6 : decode cX12_leastOf 6 = .ok (.iload 5, 2) := by decide +kernel
theorem dX12_leastOf_8 : decode cX12_leastOf 8 = .ok (.if_icmp .gt 24, 3) := by decide +kernel
theorem dX12_leastOf_11 : decode cX12_leastOf 11 = .ok (.aload_n 0, 1) := by decide +kernel
theorem dX12_leastOf_12 : decode cX12_leastOf 12 = .ok (.iload_n 1, 1) := by decide +kernel
theorem dX12_leastOf_13 : decode cX12_leastOf 13 = .ok (.iload_n 2, 1) := by decide +kernel
theorem dX12_leastOf_14 : decode cX12_leastOf 14 = .ok (.iload_n 3, 1) := by decide +kernel
theorem dX12_leastOf_15 : decode cX12_leastOf 15 = .ok (.iload 6, 2) := by decide +kernel
theorem dX12_leastOf_17 : decode cX12_leastOf 17 = .ok (.invokevirtual 349, 3) := by decide +kernel
theorem dX12_leastOf_20 : decode cX12_leastOf 20 = .ok (.ifCond .eq 6, 3) := by decide +kernel
theorem dX12_leastOf_23 : decode cX12_leastOf 23 = .ok (.iload 6, 2) := by decide +kernel
theorem dX12_leastOf_25 : decode cX12_leastOf 25 = .ok (.ireturn, 1) := by decide +kernel
theorem dX12_leastOf_26 : decode cX12_leastOf 26 = .ok (.iinc 6 1, 3) := by decide +kernel
theorem dX12_leastOf_29 : decode cX12_leastOf 29 = .ok (.goto (-25), 3) := by decide +kernel
theorem dX12_leastOf_32 : decode cX12_leastOf 32 = .ok (.ldc_w 353, 3) := by decide +kernel
theorem dX12_leastOf_35 : decode cX12_leastOf 35 = .ok (.ireturn, 1) := by decide +kernel
set_option maxRecDepth 20000 in
theorem ggX12_least_X12_isProgram : GoodIn wsX12_least wsX12_isProgram := goodIn_r _ [5, 6, 7, 8, 4, 9, 238, 239, 240, 241, 242, 243, 244, 245, 246, 247, 248, 249, 250, 251, 252, 253, 254, 255, 256, 257, 258, 259, 260, 261, 262, 263, 264, 265, 266, 267, 268, 269, 270, 271, 272, 273, 274, 275, 276, 277, 278, 279, 280, 281, 282, 283, 284, 285, 286, 287, 288, 289] (by decide +kernel) (by decide +kernel)
set_option maxRecDepth 20000 in
theorem gX12_least_X12_isProgram : GoodIn wsX12_least (wsV RX12 172 RX12 yX12_isProgram wsX12_isProgram) := goodIn_app (goodIn_of _ (by decide +kernel)) ggX12_least_X12_isProgram
set_option maxRecDepth 20000 in
theorem ggX12_least_X12_in : GoodIn wsX12_least wsX12_in := goodIn_r _ [9] (by decide +kernel) (by decide +kernel)
set_option maxRecDepth 20000 in
theorem gX12_least_X12_in : GoodIn wsX12_least (va_wsS RX12 159 yX12_in wsX12_in) := goodIn_app (goodIn_of _ (by decide +kernel)) ggX12_least_X12_in
set_option maxRecDepth 20000 in
theorem ggX12_least_X12_isSpan : GoodIn wsX12_least wsX12_isSpan := goodIn_r _ [12, 13, 14, 7, 8, 4, 9] (by decide +kernel) (by decide +kernel)
set_option maxRecDepth 20000 in
theorem gX12_least_X12_isSpan : GoodIn wsX12_least (va_wsS RX12 354 yX12_isSpan wsX12_isSpan) := goodIn_app (goodIn_of _ (by decide +kernel)) ggX12_least_X12_isSpan
set_option maxRecDepth 20000 in
theorem ggX12_least_X12_leastOf : GoodIn wsX12_least wsX12_leastOf := goodIn_r _ [18, 19, 20, 21, 22, 4, 23, 24, 25, 26, 27, 28, 29, 30, 31, 32, 33, 34, 35, 36, 37, 38, 39, 40, 41, 42, 43, 44, 45, 46, 47, 48, 49, 50, 51, 52, 53, 54, 55, 56, 57, 58, 59, 60, 61, 62, 63, 64, 65, 66, 67, 68, 69, 70, 71, 72, 73, 74, 75, 76, 77, 78, 79, 80, 81, 82, 83, 84, 85, 86, 87, 88, 89, 90, 91, 92, 93, 94, 95, 96, 97, 98, 99, 100, 101, 102, 103, 104, 105, 106, 107, 108, 109, 110, 111, 112, 113, 114, 115, 116, 117, 118, 119, 120, 121, 122, 123, 124, 125, 126, 127, 128, 129, 130, 131, 132, 133, 134, 135, 136, 137, 138, 139, 140, 141, 142, 143, 144, 145, 146, 147, 148, 149, 150, 151, 152, 153, 154, 155, 156, 157, 158, 159, 160, 161, 162, 163, 164, 165, 166, 167, 168, 169, 170, 171, 172, 173, 174, 175, 176, 177, 178, 179, 180, 181, 182, 183, 184, 185, 186, 187, 188, 189, 190, 191, 192, 193, 194, 195, 196, 197, 198, 199, 200, 201, 202, 203, 204, 205, 206, 207, 208, 209, 210, 211, 212, 213, 214, 215, 216, 217, 218, 219, 220, 221, 222, 223, 224, 225, 226, 227, 228, 229, 230, 231, 232, 233, 234, 235, 236, 237, 238, 239, 240, 241, 242, 243, 244, 245, 246, 247, 248, 249, 250, 251, 252, 253, 254, 255, 256, 257, 258, 259, 260, 261, 262, 263, 264, 265, 266, 267, 268, 269, 270, 271, 272, 273, 274, 275, 276, 277, 278, 279, 280, 281, 282, 283, 284, 285, 286, 287, 288, 289] (by decide +kernel) (by decide +kernel)
set_option maxRecDepth 20000 in
theorem gX12_least_X12_leastOf : GoodIn wsX12_least (wsV RX12 357 RX12 yX12_leastOf wsX12_leastOf) := goodIn_app (goodIn_of _ (by decide +kernel)) ggX12_least_X12_leastOf
theorem dX12_least_0 : decode cX12_least 0 = .ok (.aload_n 0, 1) := by decide +kernel
theorem dX12_least_1 : decode cX12_least 1 = .ok (.iload_n 1, 1) := by decide +kernel
theorem dX12_least_2 : decode cX12_least 2 = .ok (.invokevirtual 172, 3) := by decide +kernel
theorem dX12_least_5 : decode cX12_least 5 = .ok (.ifCond .eq 47, 3) := by decide +kernel
theorem dX12_least_8 : decode cX12_least 8 = .ok (.iload_n 2, 1) := by decide +kernel
theorem dX12_least_9 : decode cX12_least 9 = .ok (.iconst 0, 1) := by decide +kernel
theorem dX12_least_10 : decode cX12_least 10 = .ok (.bipush 6, 2) := by decide +kernel
theorem dX12_least_12 : decode cX12_least 12 = .ok (.invokestatic 159, 3) := by decide +kernel
theorem dX12_least_15 : decode cX12_least 15 = .ok (.ifCond .eq 37, 3) := by decide +kernel
theorem dX12_least_18 : decode cX12_least 18 = .ok (.iload_n 2, 1) := by decide +kernel
theorem dX12_least_19 : decode cX12_least 19 = .ok (.iconst 2, 1) := by decide +kernel
theorem dX12_least_20 : decode cX12_least 20 = .ok (.if_icmp .ne 14, 3) := by decide +kernel
theorem dX12_least_23 : decode cX12_least 23 = .ok (.aload_n 0, 1) := by decide +kernel
theorem dX12_least_24 : decode cX12_least 24 = .ok (.iload_n 3, 1) := by decide +kernel
theorem dX12_least_25 : decode cX12_least 25 = .ok (.invokevirtual 172, 3) := by decide +kernel
theorem dX12_least_28 : decode cX12_least 28 = .ok (.ifCond .ne 11, 3) := by decide +kernel
theorem dX12_least_31 : decode cX12_least 31 = .ok (.goto 21, 3) := by decide +kernel
theorem dX12_least_34 : decode cX12_least 34 = .ok (.iload_n 3, 1) := by decide +kernel
theorem dX12_least_35 : decode cX12_least 35 = .ok (.iconst (-1), 1) := by decide +kernel
theorem dX12_least_36 : decode cX12_least 36 = .ok (.if_icmp .ne 16, 3) := by decide +kernel
theorem dX12_least_39 : decode cX12_least 39 = .ok (.iload 4, 2) := by decide +kernel
theorem dX12_least_41 : decode cX12_least 41 = .ok (.iload 5, 2) := by decide +kernel
theorem dX12_least_43 : decode cX12_least 43 = .ok (.sipush 2000, 3) := by decide +kernel
theorem dX12_least_46 : decode cX12_least 46 = .ok (.invokestatic 354, 3) := by decide +kernel
theorem dX12_least_49 : decode cX12_least 49 = .ok (.ifCond .ne 5, 3) := by decide +kernel
theorem dX12_least_52 : decode cX12_least 52 = .ok (.iconst (-1), 1) := by decide +kernel
theorem dX12_least_53 : decode cX12_least 53 = .ok (.ireturn, 1) := by decide +kernel
theorem dX12_least_54 : decode cX12_least 54 = .ok (.aload_n 0, 1) := by decide +kernel
theorem dX12_least_55 : decode cX12_least 55 = .ok (.iload_n 1, 1) := by decide +kernel
theorem dX12_least_56 : decode cX12_least 56 = .ok (.iload_n 2, 1) := by decide +kernel
theorem dX12_least_57 : decode cX12_least 57 = .ok (.iload_n 3, 1) := by decide +kernel
theorem dX12_least_58 : decode cX12_least 58 = .ok (.iload 4, 2) := by decide +kernel
theorem dX12_least_60 : decode cX12_least 60 = .ok (.iload 5, 2) := by decide +kernel
theorem dX12_least_62 : decode cX12_least 62 = .ok (.invokevirtual 357, 3) := by decide +kernel
theorem dX12_least_65 : decode cX12_least 65 = .ok (.ireturn, 1) := by decide +kernel
theorem dX12_steps_0 : decode cX12_steps 0 = .ok (.aload_n 0, 1) := by decide +kernel
theorem dX12_steps_1 : decode cX12_steps 1 = .ok (.getfield 137, 3) := by decide +kernel
theorem dX12_steps_4 : decode cX12_steps 4 = .ok (.iconst 2, 1) := by decide +kernel
theorem dX12_steps_5 : decode cX12_steps 5 = .ok (.isub, 1) := by decide +kernel
theorem dX12_steps_6 : decode cX12_steps 6 = .ok (.istore_n 1, 1) := by decide +kernel
theorem dX12_steps_7 : decode cX12_steps 7 = .ok (.iload_n 1, 1) := by decide +kernel
theorem dX12_steps_8 : decode cX12_steps 8 = .ok (.ifCond .lt 26, 3) := by decide +kernel
theorem dX12_steps_11 : decode cX12_steps 11 = .ok (.aload_n 0, 1) := by decide +kernel
theorem dX12_steps_12 : decode cX12_steps 12 = .ok (.getfield 110, 3) := by decide +kernel
theorem dX12_steps_15 : decode cX12_steps 15 = .ok (.iload_n 1, 1) := by decide +kernel
theorem dX12_steps_16 : decode cX12_steps 16 = .ok (.iaload, 1) := by decide +kernel
theorem dX12_steps_17 : decode cX12_steps 17 = .ok (.aload_n 0, 1) := by decide +kernel
theorem dX12_steps_18 : decode cX12_steps 18 = .ok (.getfield 110, 3) := by decide +kernel
theorem dX12_steps_21 : decode cX12_steps 21 = .ok (.iload_n 1, 1) := by decide +kernel
theorem dX12_steps_22 : decode cX12_steps 22 = .ok (.iconst 1, 1) := by decide +kernel
theorem dX12_steps_23 : decode cX12_steps 23 = .ok (.iadd, 1) := by decide +kernel
theorem dX12_steps_24 : decode cX12_steps 24 = .ok (.iaload, 1) := by decide +kernel
theorem dX12_steps_25 : decode cX12_steps 25 = .ok (.if_icmp .le 9, 3) := by decide +kernel
theorem dX12_steps_28 : decode cX12_steps 28 = .ok (.iinc 1 (-1), 3) := by decide +kernel
theorem dX12_steps_31 : decode cX12_steps 31 = .ok (.goto (-24), 3) := by decide +kernel
theorem dX12_steps_34 : decode cX12_steps 34 = .ok (.iload_n 1, 1) := by decide +kernel
theorem dX12_steps_35 : decode cX12_steps 35 = .ok (.ifCond .ge 5, 3) := by decide +kernel
theorem dX12_steps_38 : decode cX12_steps 38 = .ok (.iconst 0, 1) := by decide +kernel
theorem dX12_steps_39 : decode cX12_steps 39 = .ok (.ireturn, 1) := by decide +kernel
theorem dX12_steps_40 : decode cX12_steps 40 = .ok (.aload_n 0, 1) := by decide +kernel
theorem dX12_steps_41 : decode cX12_steps 41 = .ok (.getfield 137, 3) := by decide +kernel
theorem dX12_steps_44 : decode cX12_steps 44 = .ok (.iconst 1, 1) := by decide +kernel
theorem dX12_steps_45 : decode cX12_steps 45 = .ok (.isub, 1) := by decide +kernel
theorem dX12_steps_46 : decode cX12_steps 46 = .ok (.istore_n 2, 1) := by decide +kernel
theorem dX12_steps_47 : decode cX12_steps 47 = .ok (.aload_n 0, 1) := by decide +kernel
theorem dX12_steps_48 : decode cX12_steps 48 = .ok (.getfield 110, 3) := by decide +kernel
theorem dX12_steps_51 : decode cX12_steps 51 = .ok (.iload_n 2, 1) := by decide +kernel
theorem dX12_steps_52 : decode cX12_steps 52 = .ok (.iaload, 1) := by decide +kernel
theorem dX12_steps_53 : decode cX12_steps 53 = .ok (.aload_n 0, 1) := by decide +kernel
theorem dX12_steps_54 : decode cX12_steps 54 = .ok (.getfield 110, 3) := by decide +kernel
theorem dX12_steps_57 : decode cX12_steps 57 = .ok (.iload_n 1, 1) := by decide +kernel
theorem dX12_steps_58 : decode cX12_steps 58 = .ok (.iaload, 1) := by decide +kernel
theorem dX12_steps_59 : decode cX12_steps 59 = .ok (.if_icmp .ge 9, 3) := by decide +kernel
theorem dX12_steps_62 : decode cX12_steps 62 = .ok (.iinc 2 (-1), 3) := by decide +kernel
theorem dX12_steps_65 : decode cX12_steps 65 = .ok (.goto (-18), 3) := by decide +kernel
theorem dX12_steps_68 : decode cX12_steps 68 = .ok (.aload_n 0, 1) := by decide +kernel
theorem dX12_steps_69 : decode cX12_steps 69 = .ok (.getfield 110, 3) := by decide +kernel
theorem dX12_steps_72 : decode cX12_steps 72 = .ok (.iload_n 1, 1) := by decide +kernel
theorem dX12_steps_73 : decode cX12_steps 73 = .ok (.iaload, 1) := by decide +kernel
theorem dX12_steps_74 : decode cX12_steps 74 = .ok (.istore_n 3, 1) := by decide +kernel
theorem dX12_steps_75 : decode cX12_steps 75 = .ok (.aload_n 0, 1) := by decide +kernel
theorem dX12_steps_76 : decode cX12_steps 76 = .ok (.getfield 110, 3) := by decide +kernel
theorem dX12_steps_79 : decode cX12_steps 79 = .ok (.iload_n 1, 1) := by decide +kernel
theorem dX12_steps_80 : decode cX12_steps 80 = .ok (.aload_n 0, 1) := by decide +kernel
theorem dX12_steps_81 : decode cX12_steps 81 = .ok (.getfield 110, 3) := by decide +kernel
theorem dX12_steps_84 : decode cX12_steps 84 = .ok (.iload_n 2, 1) := by decide +kernel
theorem dX12_steps_85 : decode cX12_steps 85 = .ok (.iaload, 1) := by decide +kernel
theorem dX12_steps_86 : decode cX12_steps 86 = .ok (.iastore, 1) := by decide +kernel
theorem dX12_steps_87 : decode cX12_steps 87 = .ok (.aload_n 0, 1) := by decide +kernel
theorem dX12_steps_88 : decode cX12_steps 88 = .ok (.getfield 110, 3) := by decide +kernel
theorem dX12_steps_91 : decode cX12_steps 91 = .ok (.iload_n 2, 1) := by decide +kernel
theorem dX12_steps_92 : decode cX12_steps 92 = .ok (.iload_n 3, 1) := by decide +kernel
theorem dX12_steps_93 : decode cX12_steps 93 = .ok (.iastore, 1) := by decide +kernel
theorem dX12_steps_94 : decode cX12_steps 94 = .ok (.iload_n 1, 1) := by decide +kernel
theorem dX12_steps_95 : decode cX12_steps 95 = .ok (.iconst 1, 1) := by decide +kernel
theorem dX12_steps_96 : decode cX12_steps 96 = .ok (.iadd, 1) := by decide +kernel
theorem dX12_steps_97 : decode cX12_steps 97 = .ok (.istore 4, 2) := by decide +kernel
theorem dX12_steps_99 : decode cX12_steps 99 = .ok (.aload_n 0, 1) := by decide +kernel
theorem dX12_steps_100 : decode cX12_steps 100 = .ok (.getfield 137, 3) := by decide +kernel
theorem dX12_steps_103 : decode cX12_steps 103 = .ok (.iconst 1, 1) := by decide +kernel
theorem dX12_steps_104 : decode cX12_steps 104 = .ok (.isub, 1) := by decide +kernel
theorem dX12_steps_105 : decode cX12_steps 105 = .ok (.istore 5, 2) := by decide +kernel
theorem dX12_steps_107 : decode cX12_steps 107 = .ok (.iload 4, 2) := by decide +kernel
theorem dX12_steps_109 : decode cX12_steps 109 = .ok (.iload 5, 2) := by decide +kernel
theorem dX12_steps_111 : decode cX12_steps 111 = .ok (.if_icmp .ge 42, 3) := by decide +kernel
theorem dX12_steps_114 : decode cX12_steps 114 = .ok (.aload_n 0, 1) := by decide +kernel
theorem dX12_steps_115 : decode cX12_steps 115 = .ok (.getfield 110, 3) := by decide +kernel
theorem dX12_steps_118 : decode cX12_steps 118 = .ok (.iload 4, 2) := by decide +kernel
theorem dX12_steps_120 : decode cX12_steps 120 = .ok (.iaload, 1) := by decide +kernel
theorem dX12_steps_121 : decode cX12_steps 121 = .ok (.istore_n 3, 1) := by decide +kernel
theorem dX12_steps_122 : decode cX12_steps 122 = .ok (.aload_n 0, 1) := by decide +kernel
theorem dX12_steps_123 : decode cX12_steps 123 = .ok (.getfield 110, 3) := by decide +kernel
theorem dX12_steps_126 : decode cX12_steps 126 = .ok (.iload 4, 2) := by decide +kernel
theorem dX12_steps_128 : decode cX12_steps 128 = .ok (.aload_n 0, 1) := by decide +kernel
theorem dX12_steps_129 : decode cX12_steps 129 = .ok (.getfield 110, 3) := by decide +kernel
theorem dX12_steps_132 : decode cX12_steps 132 = .ok (.iload 5, 2) := by decide +kernel
theorem dX12_steps_134 : decode cX12_steps 134 = .ok (.iaload, 1) := by decide +kernel
theorem dX12_steps_135 : decode cX12_steps 135 = .ok (.iastore, 1) := by decide +kernel
theorem dX12_steps_136 : decode cX12_steps 136 = .ok (.aload_n 0, 1) := by decide +kernel
theorem dX12_steps_137 : decode cX12_steps 137 = .ok (.getfield 110, 3) := by decide +kernel
theorem dX12_steps_140 : decode cX12_steps 140 = .ok (.iload 5, 2) := by decide +kernel
theorem dX12_steps_142 : decode cX12_steps 142 = .ok (.iload_n 3, 1) := by decide +kernel
theorem dX12_steps_143 : decode cX12_steps 143 = .ok (.iastore, 1) := by decide +kernel
theorem dX12_steps_144 : decode cX12_steps 144 = .ok (.iinc 4 1, 3) := by decide +kernel
theorem dX12_steps_147 : decode cX12_steps 147 = .ok (.iinc 5 (-1), 3) := by decide +kernel
theorem dX12_steps_150 : decode cX12_steps 150 = .ok (.goto (-43), 3) := by decide +kernel
theorem dX12_steps_153 : decode cX12_steps 153 = .ok (.iconst 1, 1) := by decide +kernel
theorem dX12_steps_154 : decode cX12_steps 154 = .ok (.ireturn, 1) := by decide +kernel
set_option maxRecDepth 20000 in
theorem ggX12_triesOrder_X12_tries : GoodIn wsX12_triesOrder wsX12_tries := goodIn_r _ [10, 11, 12, 13, 14, 15, 16, 17, 9, 18, 19, 20, 21, 22, 23, 24, 25, 26, 27, 28, 29, 30, 31, 32, 33, 34, 35, 36, 37, 38, 39, 40, 41, 2, 3, 42, 43, 44, 45, 46, 47, 48, 49, 50, 51, 52, 53, 54, 55, 56, 57, 58, 59, 60, 61, 62, 63, 64, 65, 66, 67, 68, 69, 70, 71, 72, 73, 74, 75, 76, 77, 78, 79, 80, 81, 82, 83, 84, 85, 86, 87, 88, 89, 90, 91, 92, 93, 94, 95, 96, 97, 98, 99, 100, 101, 102, 103, 104, 105, 106, 107, 108, 109, 110, 111, 112, 113, 114, 115, 116, 117, 118, 119, 120, 121, 122, 123, 124, 125, 126, 127, 128, 129, 130, 131, 132, 133, 134, 135, 136, 137, 138, 139, 140, 141, 142, 143, 144, 145, 146, 147, 148, 149, 150, 151, 152, 153, 154, 155, 156, 157, 158, 159, 160, 161, 162, 163, 164, 165, 166, 167, 168, 169, 170, 171, 172] (by decide +kernel) (by decide +kernel)
set_option maxRecDepth 20000 in
theorem gX12_triesOrder_X12_tries : GoodIn wsX12_triesOrder (wsV RX12 287 RX12 yX12_tries wsX12_tries) := goodIn_app (goodIn_of _ (by decide +kernel)) ggX12_triesOrder_X12_tries
theorem dX12_triesOrder_0 : decode cX12_triesOrder 0 = .ok (.aload_n 0, 1) := by decide +kernel
theorem dX12_triesOrder_1 : decode cX12_triesOrder 1 = .ok (.aload_n 0, 1) := by decide +kernel
theorem dX12_triesOrder_2 : decode cX12_triesOrder 2 = .ok (.getfield 137, 3) := by decide +kernel
theorem dX12_triesOrder_5 : decode cX12_triesOrder 5 = .ok (.putfield 209, 3) := by decide +kernel
theorem dX12_triesOrder_8 : decode cX12_triesOrder 8 = .ok (.iconst 0, 1) := by decide +kernel
theorem dX12_triesOrder_9 : decode cX12_triesOrder 9 = .ok (.istore_n 2, 1) := by decide +kernel
theorem dX12_triesOrder_10 : decode cX12_triesOrder 10 = .ok (.iload_n 2, 1) := by decide +kernel
theorem dX12_triesOrder_11 : decode cX12_triesOrder 11 = .ok (.aload_n 0, 1) := by decide +kernel
theorem dX12_triesOrder_12 : decode cX12_triesOrder 12 = .ok (.getfield 137, 3) := by decide +kernel
theorem dX12_triesOrder_15 : decode cX12_triesOrder 15 = .ok (.if_icmp .ge 26, 3) := by decide +kernel
theorem dX12_triesOrder_18 : decode cX12_triesOrder 18 = .ok (.aload_n 0, 1) := by decide +kernel
theorem dX12_triesOrder_19 : decode cX12_triesOrder 19 = .ok (.getfield 44, 3) := by decide +kernel
theorem dX12_triesOrder_22 : decode cX12_triesOrder 22 = .ok (.iload_n 2, 1) := by decide +kernel
theorem dX12_triesOrder_23 : decode cX12_triesOrder 23 = .ok (.aload_n 0, 1) := by decide +kernel
theorem dX12_triesOrder_24 : decode cX12_triesOrder 24 = .ok (.getfield 16, 3) := by decide +kernel
theorem dX12_triesOrder_27 : decode cX12_triesOrder 27 = .ok (.aload_n 0, 1) := by decide +kernel
theorem dX12_triesOrder_28 : decode cX12_triesOrder 28 = .ok (.getfield 110, 3) := by decide +kernel
theorem dX12_triesOrder_31 : decode cX12_triesOrder 31 = .ok (.iload_n 2, 1) := by decide +kernel
theorem dX12_triesOrder_32 : decode cX12_triesOrder 32 = .ok (.iaload, 1) := by decide +kernel
theorem dX12_triesOrder_33 : decode cX12_triesOrder 33 = .ok (.iaload, 1) := by decide +kernel
theorem dX12_triesOrder_34 : decode cX12_triesOrder 34 = .ok (.iastore, 1) := by decide +kernel
theorem dX12_triesOrder_35 : decode cX12_triesOrder 35 = .ok (.iinc 2 1, 3) := by decide +kernel
theorem dX12_triesOrder_38 : decode cX12_triesOrder 38 = .ok (.goto (-28), 3) := by decide +kernel
theorem dX12_triesOrder_41 : decode cX12_triesOrder 41 = .ok (.aload_n 0, 1) := by decide +kernel
theorem dX12_triesOrder_42 : decode cX12_triesOrder 42 = .ok (.iload_n 1, 1) := by decide +kernel
theorem dX12_triesOrder_43 : decode cX12_triesOrder 43 = .ok (.invokevirtual 287, 3) := by decide +kernel
theorem dX12_triesOrder_46 : decode cX12_triesOrder 46 = .ok (.ireturn, 1) := by decide +kernel
set_option maxRecDepth 20000 in
theorem ggX12_order_X12_isProgram : GoodIn wsX12_order wsX12_isProgram := goodIn_r _ [10, 11, 12, 13, 9, 14, 148, 149, 150, 151, 152, 153, 154, 155, 156, 157, 158, 159, 160, 161, 162, 163, 164, 165, 166, 167, 168, 169, 170, 171, 172, 173, 174, 175, 176, 177, 178, 179, 180, 181, 182, 183, 184, 185, 186, 187, 188, 189, 190, 191, 192, 193, 194, 195, 196, 197, 198, 199] (by decide +kernel) (by decide +kernel)
set_option maxRecDepth 20000 in
theorem gX12_order_X12_isProgram : GoodIn wsX12_order (wsV RX12 172 RX12 yX12_isProgram wsX12_isProgram) := goodIn_app (goodIn_of _ (by decide +kernel)) ggX12_order_X12_isProgram
set_option maxRecDepth 20000 in
theorem ggX12_order_X12_triesOrder : GoodIn wsX12_order wsX12_triesOrder := goodIn_r _ [18, 1, 19, 20, 21, 2, 22, 23, 24, 9, 25, 26, 27, 28, 29, 30, 31, 32, 33, 34, 4, 35, 36, 37, 38, 39, 40, 41, 42, 43, 44, 45, 46, 47, 48, 49, 50, 51, 52, 53, 54, 55, 56, 57, 58, 59, 60, 61, 62, 63, 64, 65, 66, 67, 68, 69, 70, 71, 72, 73, 74, 75, 76, 77, 78, 79, 80, 81, 82, 83, 84, 85, 86, 87, 88, 89, 90, 91, 92, 93, 94, 95, 96, 97, 98, 99, 100, 101, 102, 103, 104, 105, 106, 107, 108, 109, 110, 111, 112, 113, 114, 115, 116, 117, 118, 119, 120, 121, 122, 123, 124, 125, 126, 127, 128, 129, 130, 131, 132, 133, 134, 148, 149, 150, 151, 152, 153, 154, 155, 156, 157, 158, 159, 160, 161, 162, 163, 164, 165, 166, 167, 168, 169, 170, 171, 172, 173, 174, 175, 176, 177, 178, 179, 180, 181, 182, 183, 184, 185, 186, 187, 188, 189, 190, 191, 192, 193, 194, 195, 196, 197, 198, 199] (by decide +kernel) (by decide +kernel)
set_option maxRecDepth 20000 in
theorem gX12_order_X12_triesOrder : GoodIn wsX12_order (wsV RX12 361 RX12 yX12_triesOrder wsX12_triesOrder) := goodIn_app (goodIn_of _ (by decide +kernel)) ggX12_order_X12_triesOrder
set_option maxRecDepth 20000 in
theorem ggX12_order_X12_notes : GoodIn wsX12_order wsX12_notes := goodIn_r _ [138, 139, 27, 148, 149, 150, 151, 152, 153, 154, 155, 156, 157, 158, 159, 160, 161, 162, 163, 164, 165, 166, 167, 168, 169, 170, 171, 172, 173, 174, 175, 176, 177, 178, 179, 180, 181, 182, 183, 184, 185, 186, 187, 188, 189, 190, 191, 192, 193, 194, 195, 196, 197, 198, 199] (by decide +kernel) (by decide +kernel)
set_option maxRecDepth 20000 in
theorem gX12_order_X12_notes : GoodIn wsX12_order (wsV RX12 293 RX12 yX12_notes wsX12_notes) := goodIn_app (goodIn_of _ (by decide +kernel)) ggX12_order_X12_notes
set_option maxRecDepth 20000 in
theorem ggX12_order_X12_steps : GoodIn wsX12_order wsX12_steps := goodIn_r _ [143, 1, 2, 148, 149, 150, 151, 152, 153, 154, 155, 156, 157, 158, 159, 160, 161, 162, 163, 164, 165, 166, 167, 168, 169, 170, 171, 172, 173, 174, 175, 176, 177, 178, 179, 180, 181, 182, 183, 184, 185, 186, 187, 188, 189, 190, 191, 192, 193, 194, 195, 196, 197, 198, 199] (by decide +kernel) (by decide +kernel)
set_option maxRecDepth 20000 in
theorem gX12_order_X12_steps : GoodIn wsX12_order (wsV RX12 364 RX12 yX12_steps wsX12_steps) := goodIn_app (goodIn_of _ (by decide +kernel)) ggX12_order_X12_steps
set_option maxRecDepth 20000 in
theorem ggX12_order_X12_differs : GoodIn wsX12_order wsX12_differs := goodIn_r _ [147, 139, 27, 148, 149, 150, 151, 152, 153, 154, 155, 156, 157, 158, 159, 160, 161, 162, 163, 164, 165, 166, 167, 168, 169, 170, 171, 172, 173, 174, 175, 176, 177, 178, 179, 180, 181, 182, 183, 184, 185, 186, 187, 188, 189, 190, 191, 192, 193, 194, 195, 196, 197, 198, 199] (by decide +kernel) (by decide +kernel)
set_option maxRecDepth 20000 in
theorem gX12_order_X12_differs : GoodIn wsX12_order (wsV RX12 298 RX12 yX12_differs wsX12_differs) := goodIn_app (goodIn_of _ (by decide +kernel)) ggX12_order_X12_differs
theorem dX12_order_0 : decode cX12_order 0 = .ok (.aload_n 0, 1) := by decide +kernel
theorem dX12_order_1 : decode cX12_order 1 = .ok (.iload_n 1, 1) := by decide +kernel
theorem dX12_order_2 : decode cX12_order 2 = .ok (.invokevirtual 172, 3) := by decide +kernel
theorem dX12_order_5 : decode cX12_order 5 = .ok (.ifCond .ne 5, 3) := by decide +kernel
theorem dX12_order_8 : decode cX12_order 8 = .ok (.iconst (-1), 1) := by decide +kernel
theorem dX12_order_9 : decode cX12_order 9 = .ok (.ireturn, 1) := by decide +kernel
theorem dX12_order_10 : decode cX12_order 10 = .ok (.aload_n 0, 1) := by decide +kernel
theorem dX12_order_11 : decode cX12_order 11 = .ok (.getfield 137, 3) := by decide +kernel
theorem dX12_order_14 : decode cX12_order 14 = .ok (.bipush 6, 2) := by decide +kernel
theorem dX12_order_16 : decode cX12_order 16 = .ok (.if_icmp .le 6, 3) := by decide +kernel
theorem dX12_order_19 : decode cX12_order 19 = .ok (.bipush (-2), 2) := by decide +kernel
theorem dX12_order_21 : decode cX12_order 21 = .ok (.ireturn, 1) := by decide +kernel
theorem dX12_order_22 : decode cX12_order 22 = .ok (.iconst 0, 1) := by decide +kernel
theorem dX12_order_23 : decode cX12_order 23 = .ok (.istore_n 2, 1) := by decide +kernel
theorem dX12_order_24 : decode cX12_order 24 = .ok (.iload_n 2, 1) := by decide +kernel
theorem dX12_order_25 : decode cX12_order 25 = .ok (.aload_n 0, 1) := by decide +kernel
theorem dX12_order_26 : decode cX12_order 26 = .ok (.getfield 137, 3) := by decide +kernel
theorem dX12_order_29 : decode cX12_order 29 = .ok (.if_icmp .ge 16, 3) := by decide +kernel
theorem dX12_order_32 : decode cX12_order 32 = .ok (.aload_n 0, 1) := by decide +kernel
theorem dX12_order_33 : decode cX12_order 33 = .ok (.getfield 110, 3) := by decide +kernel
theorem dX12_order_36 : decode cX12_order 36 = .ok (.iload_n 2, 1) := by decide +kernel
theorem dX12_order_37 : decode cX12_order 37 = .ok (.iload_n 2, 1) := by decide +kernel
theorem dX12_order_38 : decode cX12_order 38 = .ok (.iastore, 1) := by decide +kernel
theorem dX12_order_39 : decode cX12_order 39 = .ok (.iinc 2 1, 3) := by decide +kernel
theorem dX12_order_42 : decode cX12_order 42 = .ok (.goto (-18), 3) := by decide +kernel
theorem dX12_order_45 : decode cX12_order 45 = .ok (.aload_n 0, 1) := by decide +kernel
theorem dX12_order_46 : decode cX12_order 46 = .ok (.iload_n 1, 1) := by decide +kernel
theorem dX12_order_47 : decode cX12_order 47 = .ok (.invokevirtual 361, 3) := by decide +kernel
theorem dX12_order_50 : decode cX12_order 50 = .ok (.istore_n 2, 1) := by decide +kernel
theorem dX12_order_51 : decode cX12_order 51 = .ok (.aload_n 0, 1) := by decide +kernel
theorem dX12_order_52 : decode cX12_order 52 = .ok (.invokevirtual 293, 3) := by decide +kernel
theorem dX12_order_55 : decode cX12_order 55 = .ok (.iconst 0, 1) := by decide +kernel
theorem dX12_order_56 : decode cX12_order 56 = .ok (.istore_n 3, 1) := by decide +kernel
theorem dX12_order_57 : decode cX12_order 57 = .ok (.iload_n 3, 1) := by decide +kernel
theorem dX12_order_58 : decode cX12_order 58 = .ok (.aload_n 0, 1) := by decide +kernel
theorem dX12_order_59 : decode cX12_order 59 = .ok (.getfield 137, 3) := by decide +kernel
theorem dX12_order_62 : decode cX12_order 62 = .ok (.if_icmp .ge 24, 3) := by decide +kernel
theorem dX12_order_65 : decode cX12_order 65 = .ok (.aload_n 0, 1) := by decide +kernel
theorem dX12_order_66 : decode cX12_order 66 = .ok (.getfield 113, 3) := by decide +kernel
theorem dX12_order_69 : decode cX12_order 69 = .ok (.iload_n 3, 1) := by decide +kernel
theorem dX12_order_70 : decode cX12_order 70 = .ok (.aload_n 0, 1) := by decide +kernel
theorem dX12_order_71 : decode cX12_order 71 = .ok (.getfield 57, 3) := by decide +kernel
theorem dX12_order_74 : decode cX12_order 74 = .ok (.bipush 12, 2) := by decide +kernel
theorem dX12_order_76 : decode cX12_order 76 = .ok (.iload_n 3, 1) := by decide +kernel
theorem dX12_order_77 : decode cX12_order 77 = .ok (.iadd, 1) := by decide +kernel
theorem dX12_order_78 : decode cX12_order 78 = .ok (.laload, 1) := by decide +kernel
theorem dX12_order_79 : decode cX12_order 79 = .ok (.lastore, 1) := by decide +kernel
theorem dX12_order_80 : decode cX12_order 80 = .ok (.iinc 3 1, 3) := by decide +kernel
theorem dX12_order_83 : decode cX12_order 83 = .ok (.goto (-26), 3) := by decide +kernel
theorem dX12_order_86 : decode cX12_order 86 = .ok (.iconst 0, 1) := by decide +kernel
theorem dX12_order_87 : decode cX12_order 87 = .ok (.istore_n 3, 1) := by decide +kernel
theorem dX12_order_88 : decode cX12_order 88 = .ok (.aload_n 0, 1) := by decide +kernel
theorem dX12_order_89 : decode cX12_order 89 = .ok (.invokevirtual 364, 3) := by decide +kernel
theorem dX12_order_92 : decode cX12_order 92 = .ok (.ifCond .eq 96, 3) := by decide +kernel
theorem dX12_order_95 : decode cX12_order 95 = .ok (.iinc 3 1, 3) := by decide +kernel
theorem dX12_order_98 : decode cX12_order 98 = .ok (.aload_n 0, 1) := by decide +kernel
theorem dX12_order_99 : decode cX12_order 99 = .ok (.iload_n 1, 1) := by decide +kernel
theorem dX12_order_100 : decode cX12_order 100 = .ok (.invokevirtual 361, 3) := by decide +kernel
theorem dX12_order_103 : decode cX12_order 103 = .ok (.iload_n 2, 1) := by decide +kernel
theorem dX12_order_104 : decode cX12_order 104 = .ok (.if_icmp .ne 11, 3) := by decide +kernel
theorem dX12_order_107 : decode cX12_order 107 = .ok (.aload_n 0, 1) := by decide +kernel
theorem dX12_order_108 : decode cX12_order 108 = .ok (.lconst 1, 1) := by decide +kernel
theorem dX12_order_109 : decode cX12_order 109 = .ok (.invokevirtual 298, 3) := by decide +kernel
theorem dX12_order_112 : decode cX12_order 112 = .ok (.ifCond .eq 7, 3) := by decide +kernel
theorem dX12_order_115 : decode cX12_order 115 = .ok (.iconst 1, 1) := by decide +kernel
theorem dX12_order_116 : decode cX12_order 116 = .ok (.goto 4, 3) := by decide +kernel
theorem dX12_order_119 : decode cX12_order 119 = .ok (.iconst 0, 1) := by decide +kernel
theorem dX12_order_120 : decode cX12_order 120 = .ok (.istore 4, 2) := by decide +kernel
theorem dX12_order_122 : decode cX12_order 122 = .ok (.iconst 0, 1) := by decide +kernel
theorem dX12_order_123 : decode cX12_order 123 = .ok (.istore 5, 2) := by decide +kernel
theorem dX12_order_125 : decode cX12_order 125 = .ok (.iload 5, 2) := by decide +kernel
theorem dX12_order_127 : decode cX12_order 127 = .ok (.aload_n 0, 1) := by decide +kernel
theorem dX12_order_128 : decode cX12_order 128 = .ok (.getfield 137, 3) := by decide +kernel
theorem dX12_order_131 : decode cX12_order 131 = .ok (.if_icmp .ge 47, 3) := by decide +kernel
theorem dX12_order_134 : decode cX12_order 134 = .ok (.iload 4, 2) := by decide +kernel
theorem dX12_order_136 : decode cX12_order 136 = .ok (.ifCond .ne 29, 3) := by decide +kernel
theorem dX12_order_139 : decode cX12_order 139 = .ok (.aload_n 0, 1) := by decide +kernel
theorem dX12_order_140 : decode cX12_order 140 = .ok (.getfield 57, 3) := by decide +kernel
theorem dX12_order_143 : decode cX12_order 143 = .ok (.bipush 12, 2) := by decide +kernel
theorem dX12_order_145 : decode cX12_order 145 = .ok (.iload 5, 2) := by decide +kernel
theorem dX12_order_147 : decode cX12_order 147 = .ok (.iadd, 1) := by decide +kernel
theorem dX12_order_148 : decode cX12_order 148 = .ok (.laload, 1) := by decide +kernel
theorem dX12_order_149 : decode cX12_order 149 = .ok (.aload_n 0, 1) := by decide +kernel
theorem dX12_order_150 : decode cX12_order 150 = .ok (.getfield 113, 3) := by decide +kernel
theorem dX12_order_153 : decode cX12_order 153 = .ok (.aload_n 0, 1) := by decide +kernel
theorem dX12_order_154 : decode cX12_order 154 = .ok (.getfield 110, 3) := by decide +kernel
theorem dX12_order_157 : decode cX12_order 157 = .ok (.iload 5, 2) := by decide +kernel
theorem dX12_order_159 : decode cX12_order 159 = .ok (.iaload, 1) := by decide +kernel
theorem dX12_order_160 : decode cX12_order 160 = .ok (.laload, 1) := by decide +kernel
theorem dX12_order_161 : decode cX12_order 161 = .ok (.lcmp, 1) := by decide +kernel
theorem dX12_order_162 : decode cX12_order 162 = .ok (.ifCond .eq 7, 3) := by decide +kernel
theorem dX12_order_165 : decode cX12_order 165 = .ok (.iconst 1, 1) := by decide +kernel
theorem dX12_order_166 : decode cX12_order 166 = .ok (.goto 4, 3) := by decide +kernel
theorem dX12_order_169 : decode cX12_order 169 = .ok (.iconst 0, 1) := by decide +kernel
theorem dX12_order_170 : decode cX12_order 170 = .ok (.istore 4, 2) := by decide +kernel
theorem dX12_order_172 : decode cX12_order 172 = .ok (.iinc 5 1, 3) := by decide +kernel
theorem dX12_order_175 : decode cX12_order 175 = .ok (.goto (-50), 3) := by decide +kernel
theorem dX12_order_178 : decode cX12_order 178 = .ok (.iload 4, 2) := by decide +kernel
theorem dX12_order_180 : decode cX12_order 180 = .ok (.ifCond .eq 5, 3) := by decide +kernel
theorem dX12_order_183 : decode cX12_order 183 = .ok (.iload_n 3, 1) := by decide +kernel
theorem dX12_order_184 : decode cX12_order 184 = .ok (.ireturn, 1) := by decide +kernel
theorem dX12_order_185 : decode cX12_order 185 = .ok (.goto (-97), 3) := by decide +kernel
theorem dX12_order_188 : decode cX12_order 188 = .ok (.ldc_w 353, 3) := by decide +kernel
theorem dX12_order_191 : decode cX12_order 191 = .ok (.ireturn, 1) := by decide +kernel
set_option maxRecDepth 20000 in
theorem ggX12_drift_X12_in : GoodIn wsX12_drift wsX12_in := goodIn_r _ [11] (by decide +kernel) (by decide +kernel)
set_option maxRecDepth 20000 in
theorem gX12_drift_X12_in : GoodIn wsX12_drift (va_wsS RX12 159 yX12_in wsX12_in) := goodIn_app (goodIn_of _ (by decide +kernel)) ggX12_drift_X12_in
set_option maxRecDepth 20000 in
theorem ggX12_drift_X12_isRefused : GoodIn wsX12_drift wsX12_isRefused := goodIn_r _ [15, 16, 24, 25, 26, 27, 28, 29, 30, 31, 32, 33, 34, 35, 36, 37, 38, 39, 40, 41, 42, 43, 44, 45, 46, 47, 48, 49, 50, 51, 52, 53, 54, 55, 56, 57, 58, 59, 60, 61, 62, 63, 64, 65, 66, 67, 68, 69, 70, 71, 72, 73, 74, 75] (by decide +kernel) (by decide +kernel)
set_option maxRecDepth 20000 in
theorem gX12_drift_X12_isRefused : GoodIn wsX12_drift (wsV RX12 283 RX12 yX12_isRefused wsX12_isRefused) := goodIn_app (goodIn_of _ (by decide +kernel)) ggX12_drift_X12_isRefused
set_option maxRecDepth 20000 in
theorem ggX12_drift_X12_times : GoodIn wsX12_drift wsX12_times := goodIn_r _ [19, 20, 21, 22, 10, 23] (by decide +kernel) (by decide +kernel)
set_option maxRecDepth 20000 in
theorem gX12_drift_X12_times : GoodIn wsX12_drift (va_wsS RX12 212 yX12_times wsX12_times) := goodIn_app (goodIn_of _ (by decide +kernel)) ggX12_drift_X12_times
theorem dX12_drift_0 : decode cX12_drift 0 = .ok (.iload_n 1, 1) := by decide +kernel
theorem dX12_drift_1 : decode cX12_drift 1 = .ok (.iconst 0, 1) := by decide +kernel
theorem dX12_drift_2 : decode cX12_drift 2 = .ok (.bipush 7, 2) := by decide +kernel
theorem dX12_drift_4 : decode cX12_drift 4 = .ok (.invokestatic 159, 3) := by decide +kernel
theorem dX12_drift_7 : decode cX12_drift 7 = .ok (.ifCond .eq 59, 3) := by decide +kernel
theorem dX12_drift_10 : decode cX12_drift 10 = .ok (.aload_n 0, 1) := by decide +kernel
theorem dX12_drift_11 : decode cX12_drift 11 = .ok (.getfield 13, 3) := by decide +kernel
theorem dX12_drift_14 : decode cX12_drift 14 = .ok (.iload_n 1, 1) := by decide +kernel
theorem dX12_drift_15 : decode cX12_drift 15 = .ok (.iaload, 1) := by decide +kernel
theorem dX12_drift_16 : decode cX12_drift 16 = .ok (.bipush 100, 2) := by decide +kernel
theorem dX12_drift_18 : decode cX12_drift 18 = .ok (.if_icmp .gt 48, 3) := by decide +kernel
theorem dX12_drift_21 : decode cX12_drift 21 = .ok (.iload_n 2, 1) := by decide +kernel
theorem dX12_drift_22 : decode cX12_drift 22 = .ok (.iconst 0, 1) := by decide +kernel
theorem dX12_drift_23 : decode cX12_drift 23 = .ok (.iconst 5, 1) := by decide +kernel
theorem dX12_drift_24 : decode cX12_drift 24 = .ok (.invokestatic 159, 3) := by decide +kernel
theorem dX12_drift_27 : decode cX12_drift 27 = .ok (.ifCond .eq 39, 3) := by decide +kernel
theorem dX12_drift_30 : decode cX12_drift 30 = .ok (.iload_n 3, 1) := by decide +kernel
theorem dX12_drift_31 : decode cX12_drift 31 = .ok (.iconst 1, 1) := by decide +kernel
theorem dX12_drift_32 : decode cX12_drift 32 = .ok (.bipush 12, 2) := by decide +kernel
theorem dX12_drift_34 : decode cX12_drift 34 = .ok (.invokestatic 159, 3) := by decide +kernel
theorem dX12_drift_37 : decode cX12_drift 37 = .ok (.ifCond .eq 29, 3) := by decide +kernel
theorem dX12_drift_40 : decode cX12_drift 40 = .ok (.iload 4, 2) := by decide +kernel
theorem dX12_drift_42 : decode cX12_drift 42 = .ok (.iconst 0, 1) := by decide +kernel
theorem dX12_drift_43 : decode cX12_drift 43 = .ok (.sipush 1000, 3) := by decide +kernel
theorem dX12_drift_46 : decode cX12_drift 46 = .ok (.invokestatic 159, 3) := by decide +kernel
theorem dX12_drift_49 : decode cX12_drift 49 = .ok (.ifCond .eq 17, 3) := by decide +kernel
theorem dX12_drift_52 : decode cX12_drift 52 = .ok (.iload 5, 2) := by decide +kernel
theorem dX12_drift_54 : decode cX12_drift 54 = .ok (.iconst 0, 1) := by decide +kernel
theorem dX12_drift_55 : decode cX12_drift 55 = .ok (.iconst 1, 1) := by decide +kernel
theorem dX12_drift_56 : decode cX12_drift 56 = .ok (.invokestatic 159, 3) := by decide +kernel
theorem dX12_drift_59 : decode cX12_drift 59 = .ok (.ifCond .eq 7, 3) := by decide +kernel
theorem dX12_drift_62 : decode cX12_drift 62 = .ok (.iconst 1, 1) := by decide +kernel
theorem dX12_drift_63 : decode cX12_drift 63 = .ok (.goto 4, 3) := by decide +kernel
theorem dX12_drift_66 : decode cX12_drift 66 = .ok (.iconst 0, 1) := by decide +kernel
theorem dX12_drift_67 : decode cX12_drift 67 = .ok (.istore 6, 2) := by decide +kernel
theorem dX12_drift_69 : decode cX12_drift 69 = .ok (.aload_n 0, 1) := by decide +kernel
theorem dX12_drift_70 : decode cX12_drift 70 = .ok (.iload 6, 2) := by decide +kernel
theorem dX12_drift_72 : decode cX12_drift 72 = .ok (.invokevirtual 283, 3) := by decide +kernel
theorem dX12_drift_75 : decode cX12_drift 75 = .ok (.ifCond .eq 5, 3) := by decide +kernel
theorem dX12_drift_78 : decode cX12_drift 78 = .ok (.iconst 0, 1) := by decide +kernel
theorem dX12_drift_79 : decode cX12_drift 79 = .ok (.ireturn, 1) := by decide +kernel
theorem dX12_drift_80 : decode cX12_drift 80 = .ok (.aload_n 0, 1) := by decide +kernel
theorem dX12_drift_81 : decode cX12_drift 81 = .ok (.getfield 7, 3) := by decide +kernel
theorem dX12_drift_84 : decode cX12_drift 84 = .ok (.iload_n 1, 1) := by decide +kernel
theorem dX12_drift_85 : decode cX12_drift 85 = .ok (.iaload, 1) := by decide +kernel
theorem dX12_drift_86 : decode cX12_drift 86 = .ok (.istore 7, 2) := by decide +kernel
theorem dX12_drift_88 : decode cX12_drift 88 = .ok (.aload_n 0, 1) := by decide +kernel
theorem dX12_drift_89 : decode cX12_drift 89 = .ok (.getfield 13, 3) := by decide +kernel
theorem dX12_drift_92 : decode cX12_drift 92 = .ok (.iload_n 1, 1) := by decide +kernel
theorem dX12_drift_93 : decode cX12_drift 93 = .ok (.iaload, 1) := by decide +kernel
theorem dX12_drift_94 : decode cX12_drift 94 = .ok (.istore 8, 2) := by decide +kernel
theorem dX12_drift_96 : decode cX12_drift 96 = .ok (.iconst 2, 1) := by decide +kernel
theorem dX12_drift_97 : decode cX12_drift 97 = .ok (.iload 8, 2) := by decide +kernel
theorem dX12_drift_99 : decode cX12_drift 99 = .ok (.imul, 1) := by decide +kernel
theorem dX12_drift_100 : decode cX12_drift 100 = .ok (.istore 9, 2) := by decide +kernel
theorem dX12_drift_102 : decode cX12_drift 102 = .ok (.iload 5, 2) := by decide +kernel
theorem dX12_drift_104 : decode cX12_drift 104 = .ok (.ifCond .ne 7, 3) := by decide +kernel
theorem dX12_drift_107 : decode cX12_drift 107 = .ok (.lconst 1, 1) := by decide +kernel
theorem dX12_drift_108 : decode cX12_drift 108 = .ok (.goto 6, 3) := by decide +kernel
theorem dX12_drift_111 : decode cX12_drift 111 = .ok (.ldc2_w 296, 3) := by decide +kernel
theorem dX12_drift_114 : decode cX12_drift 114 = .ok (.lstore 10, 2) := by decide +kernel
theorem dX12_drift_116 : decode cX12_drift 116 = .ok (.iconst 0, 1) := by decide +kernel
theorem dX12_drift_117 : decode cX12_drift 117 = .ok (.istore 12, 2) := by decide +kernel
theorem dX12_drift_119 : decode cX12_drift 119 = .ok (.iload 12, 2) := by decide +kernel
theorem dX12_drift_121 : decode cX12_drift 121 = .ok (.iload 9, 2) := by decide +kernel
theorem dX12_drift_123 : decode cX12_drift 123 = .ok (.if_icmp .ge 36, 3) := by decide +kernel
theorem dX12_drift_126 : decode cX12_drift 126 = .ok (.aload_n 0, 1) := by decide +kernel
theorem dX12_drift_127 : decode cX12_drift 127 = .ok (.getfield 122, 3) := by decide +kernel
theorem dX12_drift_130 : decode cX12_drift 130 = .ok (.iload 12, 2) := by decide +kernel
theorem dX12_drift_132 : decode cX12_drift 132 = .ok (.iconst 0, 1) := by decide +kernel
theorem dX12_drift_133 : decode cX12_drift 133 = .ok (.bastore, 1) := by decide +kernel
theorem dX12_drift_134 : decode cX12_drift 134 = .ok (.aload_n 0, 1) := by decide +kernel
theorem dX12_drift_135 : decode cX12_drift 135 = .ok (.getfield 116, 3) := by decide +kernel
theorem dX12_drift_138 : decode cX12_drift 138 = .ok (.iload 12, 2) := by decide +kernel
theorem dX12_drift_140 : decode cX12_drift 140 = .ok (.iload 12, 2) := by decide +kernel
theorem dX12_drift_142 : decode cX12_drift 142 = .ok (.ifCond .ne 7, 3) := by decide +kernel
theorem dX12_drift_145 : decode cX12_drift 145 = .ok (.lconst 0, 1) := by decide +kernel
theorem dX12_drift_146 : decode cX12_drift 146 = .ok (.goto 6, 3) := by decide +kernel
theorem dX12_drift_149 : decode cX12_drift 149 = .ok (.ldc2_w 194, 3) := by decide +kernel
theorem dX12_drift_152 : decode cX12_drift 152 = .ok (.lastore, 1) := by decide +kernel
theorem dX12_drift_153 : decode cX12_drift 153 = .ok (.iinc 12 1, 3) := by decide +kernel
theorem dX12_drift_156 : decode cX12_drift 156 = .ok (.goto (-37), 3) := by decide +kernel
theorem dX12_drift_159 : decode cX12_drift 159 = .ok (.iconst 0, 1) := by decide +kernel
theorem dX12_drift_160 : decode cX12_drift 160 = .ok (.istore 12, 2) := by decide +kernel
theorem dX12_drift_162 : decode cX12_drift 162 = .ok (.iload 12, 2) := by decide +kernel
theorem dX12_drift_164 : decode cX12_drift 164 = .ok (.iload 4, 2) := by decide +kernel
theorem dX12_drift_166 : decode cX12_drift 166 = .ok (.if_icmp .gt 27, 3) := by decide +kernel
theorem dX12_drift_169 : decode cX12_drift 169 = .ok (.aload_n 0, 1) := by decide +kernel
theorem dX12_drift_170 : decode cX12_drift 170 = .ok (.getfield 122, 3) := by decide +kernel
theorem dX12_drift_173 : decode cX12_drift 173 = .ok (.iload 12, 2) := by decide +kernel
theorem dX12_drift_175 : decode cX12_drift 175 = .ok (.i2l, 1) := by decide +kernel
theorem dX12_drift_176 : decode cX12_drift 176 = .ok (.iload 7, 2) := by decide +kernel
theorem dX12_drift_178 : decode cX12_drift 178 = .ok (.i2l, 1) := by decide +kernel
theorem dX12_drift_179 : decode cX12_drift 179 = .ok (.lmul, 1) := by decide +kernel
theorem dX12_drift_180 : decode cX12_drift 180 = .ok (.iload 9, 2) := by decide +kernel
theorem dX12_drift_182 : decode cX12_drift 182 = .ok (.i2l, 1) := by decide +kernel
theorem dX12_drift_183 : decode cX12_drift 183 = .ok (.lrem, 1) := by decide +kernel
theorem dX12_drift_184 : decode cX12_drift 184 = .ok (.l2i, 1) := by decide +kernel
theorem dX12_drift_185 : decode cX12_drift 185 = .ok (.iconst 1, 1) := by decide +kernel
theorem dX12_drift_186 : decode cX12_drift 186 = .ok (.bastore, 1) := by decide +kernel
theorem dX12_drift_187 : decode cX12_drift 187 = .ok (.iinc 12 1, 3) := by decide +kernel
theorem dX12_drift_190 : decode cX12_drift 190 = .ok (.goto (-28), 3) := by decide +kernel
theorem dX12_drift_193 : decode cX12_drift 193 = .ok (.iconst 0, 1) := by decide +kernel
theorem dX12_drift_194 : decode cX12_drift 194 = .ok (.istore 12, 2) := by decide +kernel
theorem dX12_drift_196 : decode cX12_drift 196 = .ok (.iload 12, 2) := by decide +kernel
theorem dX12_drift_198 : decode cX12_drift 198 = .ok (.iload_n 3, 1) := by decide +kernel
theorem dX12_drift_199 : decode cX12_drift 199 = .ok (.if_icmp .ge 194, 3) := by decide +kernel
theorem dX12_drift_202 : decode cX12_drift 202 = .ok (.iconst 0, 1) := by decide +kernel
theorem dX12_drift_203 : decode cX12_drift 203 = .ok (.istore 13, 2) := by decide +kernel
theorem dX12_drift_205 : decode cX12_drift 205 = .ok (.iload 13, 2) := by decide +kernel
theorem dX12_drift_207 : decode cX12_drift 207 = .ok (.iload 9, 2) := by decide +kernel
theorem dX12_drift_209 : decode cX12_drift 209 = .ok (.if_icmp .ge 19, 3) := by decide +kernel
theorem dX12_drift_212 : decode cX12_drift 212 = .ok (.aload_n 0, 1) := by decide +kernel
theorem dX12_drift_213 : decode cX12_drift 213 = .ok (.getfield 119, 3) := by decide +kernel
theorem dX12_drift_216 : decode cX12_drift 216 = .ok (.iload 13, 2) := by decide +kernel
theorem dX12_drift_218 : decode cX12_drift 218 = .ok (.ldc2_w 194, 3) := by decide +kernel
theorem dX12_drift_221 : decode cX12_drift 221 = .ok (.lastore, 1) := by decide +kernel
theorem dX12_drift_222 : decode cX12_drift 222 = .ok (.iinc 13 1, 3) := by decide +kernel
theorem dX12_drift_225 : decode cX12_drift 225 = .ok (.goto (-20), 3) := by decide +kernel
theorem dX12_drift_228 : decode cX12_drift 228 = .ok (.iconst 0, 1) := by decide +kernel
theorem dX12_drift_229 : decode cX12_drift 229 = .ok (.istore 13, 2) := by decide +kernel
theorem dX12_drift_231 : decode cX12_drift 231 = .ok (.iload 13, 2) := by decide +kernel
theorem dX12_drift_233 : decode cX12_drift 233 = .ok (.iload 9, 2) := by decide +kernel
theorem dX12_drift_235 : decode cX12_drift 235 = .ok (.if_icmp .ge 122, 3) := by decide +kernel
theorem dX12_drift_238 : decode cX12_drift 238 = .ok (.iconst 0, 1) := by decide +kernel
theorem dX12_drift_239 : decode cX12_drift 239 = .ok (.istore 14, 2) := by decide +kernel
theorem dX12_drift_241 : decode cX12_drift 241 = .ok (.iload 14, 2) := by decide +kernel
theorem dX12_drift_243 : decode cX12_drift 243 = .ok (.iload 9, 2) := by decide +kernel
theorem dX12_drift_245 : decode cX12_drift 245 = .ok (.if_icmp .ge 106, 3) := by decide +kernel
theorem dX12_drift_248 : decode cX12_drift 248 = .ok (.aload_n 0, 1) := by decide +kernel
theorem dX12_drift_249 : decode cX12_drift 249 = .ok (.getfield 116, 3) := by decide +kernel
theorem dX12_drift_252 : decode cX12_drift 252 = .ok (.iload 13, 2) := by decide +kernel
theorem dX12_drift_254 : decode cX12_drift 254 = .ok (.laload, 1) := by decide +kernel
theorem dX12_drift_255 : decode cX12_drift 255 = .ok (.ldc2_w 194, 3) := by decide +kernel
theorem dX12_drift_258 : decode cX12_drift 258 = .ok (.lcmp, 1) := by decide +kernel
theorem dX12_drift_259 : decode cX12_drift 259 = .ok (.ifCond .le 92, 3) := by decide +kernel
theorem dX12_drift_262 : decode cX12_drift 262 = .ok (.aload_n 0, 1) := by decide +kernel
theorem dX12_drift_263 : decode cX12_drift 263 = .ok (.getfield 116, 3) := by decide +kernel
theorem dX12_drift_266 : decode cX12_drift 266 = .ok (.iload 13, 2) := by decide +kernel
theorem dX12_drift_268 : decode cX12_drift 268 = .ok (.laload, 1) := by decide +kernel
theorem dX12_drift_269 : decode cX12_drift 269 = .ok (.lload 10, 2) := by decide +kernel
theorem dX12_drift_271 : decode cX12_drift 271 = .ok (.iload 8, 2) := by decide +kernel
theorem dX12_drift_273 : decode cX12_drift 273 = .ok (.i2l, 1) := by decide +kernel
theorem dX12_drift_274 : decode cX12_drift 274 = .ok (.iload 14, 2) := by decide +kernel
theorem dX12_drift_276 : decode cX12_drift 276 = .ok (.i2l, 1) := by decide +kernel
theorem dX12_drift_277 : decode cX12_drift 277 = .ok (.iload 8, 2) := by decide +kernel
theorem dX12_drift_279 : decode cX12_drift 279 = .ok (.i2l, 1) := by decide +kernel
theorem dX12_drift_280 : decode cX12_drift 280 = .ok (.iload_n 2, 1) := by decide +kernel
theorem dX12_drift_281 : decode cX12_drift 281 = .ok (.invokestatic 212, 3) := by decide +kernel
theorem dX12_drift_284 : decode cX12_drift 284 = .ok (.lmul, 1) := by decide +kernel
theorem dX12_drift_285 : decode cX12_drift 285 = .ok (.iload 14, 2) := by decide +kernel
theorem dX12_drift_287 : decode cX12_drift 287 = .ok (.i2l, 1) := by decide +kernel
theorem dX12_drift_288 : decode cX12_drift 288 = .ok (.lsub, 1) := by decide +kernel
theorem dX12_drift_289 : decode cX12_drift 289 = .ok (.lmul, 1) := by decide +kernel
theorem dX12_drift_290 : decode cX12_drift 290 = .ok (.ladd, 1) := by decide +kernel
theorem dX12_drift_291 : decode cX12_drift 291 = .ok (.lstore 15, 2) := by decide +kernel
theorem dX12_drift_293 : decode cX12_drift 293 = .ok (.iload 13, 2) := by decide +kernel
theorem dX12_drift_295 : decode cX12_drift 295 = .ok (.iload 14, 2) := by decide +kernel
theorem dX12_drift_297 : decode cX12_drift 297 = .ok (.iadd, 1) := by decide +kernel
theorem dX12_drift_298 : decode cX12_drift 298 = .ok (.iload 9, 2) := by decide +kernel
theorem dX12_drift_300 : decode cX12_drift 300 = .ok (.irem, 1) := by decide +kernel
theorem dX12_drift_301 : decode cX12_drift 301 = .ok (.istore 17, 2) := by decide +kernel
theorem dX12_drift_303 : decode cX12_drift 303 = .ok (.aload_n 0, 1) := by decide +kernel
theorem dX12_drift_304 : decode cX12_drift 304 = .ok (.getfield 119, 3) := by decide +kernel
theorem dX12_drift_307 : decode cX12_drift 307 = .ok (.iload 17, 2) := by decide +kernel
theorem dX12_drift_309 : decode cX12_drift 309 = .ok (.aload_n 0, 1) := by decide +kernel
theorem dX12_drift_310 : decode cX12_drift 310 = .ok (.getfield 122, 3) := by decide +kernel
theorem dX12_drift_313 : decode cX12_drift 313 = .ok (.iload 14, 2) := by decide +kernel
theorem dX12_drift_315 : decode cX12_drift 315 = .ok (.baload, 1) := by decide +kernel
theorem dX12_drift_316 : decode cX12_drift 316 = .ok (.ifCond .eq 21, 3) := by decide +kernel
theorem dX12_drift_319 : decode cX12_drift 319 = .ok (.lload 15, 2) := by decide +kernel
theorem dX12_drift_321 : decode cX12_drift 321 = .ok (.aload_n 0, 1) := by decide +kernel
theorem dX12_drift_322 : decode cX12_drift 322 = .ok (.getfield 119, 3) := by decide +kernel
theorem dX12_drift_325 : decode cX12_drift 325 = .ok (.iload 17, 2) := by decide +kernel
theorem dX12_drift_327 : decode cX12_drift 327 = .ok (.laload, 1) := by decide +kernel
theorem dX12_drift_328 : decode cX12_drift 328 = .ok (.lcmp, 1) := by decide +kernel
theorem dX12_drift_329 : decode cX12_drift 329 = .ok (.ifCond .le 8, 3) := by decide +kernel
theorem dX12_drift_332 : decode cX12_drift 332 = .ok (.lload 15, 2) := by decide +kernel
theorem dX12_drift_334 : decode cX12_drift 334 = .ok (.goto 10, 3) := by decide +kernel
theorem dX12_drift_337 : decode cX12_drift 337 = .ok (.aload_n 0, 1) := by decide +kernel
theorem dX12_drift_338 : decode cX12_drift 338 = .ok (.getfield 119, 3) := by decide +kernel
theorem dX12_drift_341 : decode cX12_drift 341 = .ok (.iload 17, 2) := by decide +kernel
theorem dX12_drift_343 : decode cX12_drift 343 = .ok (.laload, 1) := by decide +kernel
theorem dX12_drift_344 : decode cX12_drift 344 = .ok (.lastore, 1) := by decide +kernel
theorem dX12_drift_345 : decode cX12_drift 345 = .ok (.iinc 14 1, 3) := by decide +kernel
theorem dX12_drift_348 : decode cX12_drift 348 = .ok (.goto (-107), 3) := by decide +kernel
theorem dX12_drift_351 : decode cX12_drift 351 = .ok (.iinc 13 1, 3) := by decide +kernel
theorem dX12_drift_354 : decode cX12_drift 354 = .ok (.goto (-123), 3) := by decide +kernel
theorem dX12_drift_357 : decode cX12_drift 357 = .ok (.iconst 0, 1) := by decide +kernel
theorem dX12_drift_358 : decode cX12_drift 358 = .ok (.istore 13, 2) := by decide +kernel
theorem dX12_drift_360 : decode cX12_drift 360 = .ok (.iload 13, 2) := by decide +kernel
theorem dX12_drift_362 : decode cX12_drift 362 = .ok (.iload 9, 2) := by decide +kernel
theorem dX12_drift_364 : decode cX12_drift 364 = .ok (.if_icmp .ge 23, 3) := by decide +kernel
theorem dX12_drift_367 : decode cX12_drift 367 = .ok (.aload_n 0, 1) := by decide +kernel
theorem dX12_drift_368 : decode cX12_drift 368 = .ok (.getfield 116, 3) := by decide +kernel
theorem dX12_drift_371 : decode cX12_drift 371 = .ok (.iload 13, 2) := by decide +kernel
theorem dX12_drift_373 : decode cX12_drift 373 = .ok (.aload_n 0, 1) := by decide +kernel
theorem dX12_drift_374 : decode cX12_drift 374 = .ok (.getfield 119, 3) := by decide +kernel
theorem dX12_drift_377 : decode cX12_drift 377 = .ok (.iload 13, 2) := by decide +kernel
theorem dX12_drift_379 : decode cX12_drift 379 = .ok (.laload, 1) := by decide +kernel
theorem dX12_drift_380 : decode cX12_drift 380 = .ok (.lastore, 1) := by decide +kernel
theorem dX12_drift_381 : decode cX12_drift 381 = .ok (.iinc 13 1, 3) := by decide +kernel
theorem dX12_drift_384 : decode cX12_drift 384 = .ok (.goto (-24), 3) := by decide +kernel
theorem dX12_drift_387 : decode cX12_drift 387 = .ok (.iinc 12 1, 3) := by decide +kernel
theorem dX12_drift_390 : decode cX12_drift 390 = .ok (.goto (-194), 3) := by decide +kernel
theorem dX12_drift_393 : decode cX12_drift 393 = .ok (.ldc2_w 194, 3) := by decide +kernel
theorem dX12_drift_396 : decode cX12_drift 396 = .ok (.lstore 12, 2) := by decide +kernel
theorem dX12_drift_398 : decode cX12_drift 398 = .ok (.iconst 0, 1) := by decide +kernel
theorem dX12_drift_399 : decode cX12_drift 399 = .ok (.istore 14, 2) := by decide +kernel
theorem dX12_drift_401 : decode cX12_drift 401 = .ok (.iload 14, 2) := by decide +kernel
theorem dX12_drift_403 : decode cX12_drift 403 = .ok (.iload 9, 2) := by decide +kernel
theorem dX12_drift_405 : decode cX12_drift 405 = .ok (.if_icmp .ge 71, 3) := by decide +kernel
theorem dX12_drift_408 : decode cX12_drift 408 = .ok (.aload_n 0, 1) := by decide +kernel
theorem dX12_drift_409 : decode cX12_drift 409 = .ok (.getfield 116, 3) := by decide +kernel
theorem dX12_drift_412 : decode cX12_drift 412 = .ok (.iload 14, 2) := by decide +kernel
theorem dX12_drift_414 : decode cX12_drift 414 = .ok (.laload, 1) := by decide +kernel
theorem dX12_drift_415 : decode cX12_drift 415 = .ok (.lload 10, 2) := by decide +kernel
theorem dX12_drift_417 : decode cX12_drift 417 = .ok (.iload 8, 2) := by decide +kernel
theorem dX12_drift_419 : decode cX12_drift 419 = .ok (.i2l, 1) := by decide +kernel
theorem dX12_drift_420 : decode cX12_drift 420 = .ok (.iload 14, 2) := by decide +kernel
theorem dX12_drift_422 : decode cX12_drift 422 = .ok (.i2l, 1) := by decide +kernel
theorem dX12_drift_423 : decode cX12_drift 423 = .ok (.iload 8, 2) := by decide +kernel
theorem dX12_drift_425 : decode cX12_drift 425 = .ok (.i2l, 1) := by decide +kernel
theorem dX12_drift_426 : decode cX12_drift 426 = .ok (.iload_n 2, 1) := by decide +kernel
theorem dX12_drift_427 : decode cX12_drift 427 = .ok (.invokestatic 212, 3) := by decide +kernel
theorem dX12_drift_430 : decode cX12_drift 430 = .ok (.lmul, 1) := by decide +kernel
theorem dX12_drift_431 : decode cX12_drift 431 = .ok (.iload 14, 2) := by decide +kernel
theorem dX12_drift_433 : decode cX12_drift 433 = .ok (.i2l, 1) := by decide +kernel
theorem dX12_drift_434 : decode cX12_drift 434 = .ok (.lsub, 1) := by decide +kernel
theorem dX12_drift_435 : decode cX12_drift 435 = .ok (.lmul, 1) := by decide +kernel
theorem dX12_drift_436 : decode cX12_drift 436 = .ok (.lsub, 1) := by decide +kernel
theorem dX12_drift_437 : decode cX12_drift 437 = .ok (.lstore 15, 2) := by decide +kernel
theorem dX12_drift_439 : decode cX12_drift 439 = .ok (.aload_n 0, 1) := by decide +kernel
theorem dX12_drift_440 : decode cX12_drift 440 = .ok (.getfield 116, 3) := by decide +kernel
theorem dX12_drift_443 : decode cX12_drift 443 = .ok (.iload 14, 2) := by decide +kernel
theorem dX12_drift_445 : decode cX12_drift 445 = .ok (.laload, 1) := by decide +kernel
theorem dX12_drift_446 : decode cX12_drift 446 = .ok (.ldc2_w 194, 3) := by decide +kernel
theorem dX12_drift_449 : decode cX12_drift 449 = .ok (.lcmp, 1) := by decide +kernel
theorem dX12_drift_450 : decode cX12_drift 450 = .ok (.ifCond .le 16, 3) := by decide +kernel
theorem dX12_drift_453 : decode cX12_drift 453 = .ok (.lload 15, 2) := by decide +kernel
theorem dX12_drift_455 : decode cX12_drift 455 = .ok (.lload 12, 2) := by decide +kernel
theorem dX12_drift_457 : decode cX12_drift 457 = .ok (.lcmp, 1) := by decide +kernel
theorem dX12_drift_458 : decode cX12_drift 458 = .ok (.ifCond .le 8, 3) := by decide +kernel
theorem dX12_drift_461 : decode cX12_drift 461 = .ok (.lload 15, 2) := by decide +kernel
theorem dX12_drift_463 : decode cX12_drift 463 = .ok (.goto 5, 3) := by decide +kernel
theorem dX12_drift_466 : decode cX12_drift 466 = .ok (.lload 12, 2) := by decide +kernel
theorem dX12_drift_468 : decode cX12_drift 468 = .ok (.lstore 12, 2) := by decide +kernel
theorem dX12_drift_470 : decode cX12_drift 470 = .ok (.iinc 14 1, 3) := by decide +kernel
theorem dX12_drift_473 : decode cX12_drift 473 = .ok (.goto (-72), 3) := by decide +kernel
theorem dX12_drift_476 : decode cX12_drift 476 = .ok (.lload 10, 2) := by decide +kernel
theorem dX12_drift_478 : decode cX12_drift 478 = .ok (.lload 12, 2) := by decide +kernel
theorem dX12_drift_480 : decode cX12_drift 480 = .ok (.lmul, 1) := by decide +kernel
theorem dX12_drift_481 : decode cX12_drift 481 = .ok (.iload 8, 2) := by decide +kernel
theorem dX12_drift_483 : decode cX12_drift 483 = .ok (.i2l, 1) := by decide +kernel
theorem dX12_drift_484 : decode cX12_drift 484 = .ok (.ldiv, 1) := by decide +kernel
theorem dX12_drift_485 : decode cX12_drift 485 = .ok (.l2i, 1) := by decide +kernel
theorem dX12_drift_486 : decode cX12_drift 486 = .ok (.ireturn, 1) := by decide +kernel
theorem dX12_hasChoice_0 : decode cX12_hasChoice 0 = .ok (.iload_n 1, 1) := by decide +kernel
theorem dX12_hasChoice_1 : decode cX12_hasChoice 1 = .ok (.iconst 1, 1) := by decide +kernel
theorem dX12_hasChoice_2 : decode cX12_hasChoice 2 = .ok (.if_icmp .eq 25, 3) := by decide +kernel
theorem dX12_hasChoice_5 : decode cX12_hasChoice 5 = .ok (.iload_n 1, 1) := by decide +kernel
theorem dX12_hasChoice_6 : decode cX12_hasChoice 6 = .ok (.iconst 2, 1) := by decide +kernel
theorem dX12_hasChoice_7 : decode cX12_hasChoice 7 = .ok (.if_icmp .eq 20, 3) := by decide +kernel
theorem dX12_hasChoice_10 : decode cX12_hasChoice 10 = .ok (.iload_n 1, 1) := by decide +kernel
theorem dX12_hasChoice_11 : decode cX12_hasChoice 11 = .ok (.iconst 4, 1) := by decide +kernel
theorem dX12_hasChoice_12 : decode cX12_hasChoice 12 = .ok (.if_icmp .eq 15, 3) := by decide +kernel
theorem dX12_hasChoice_15 : decode cX12_hasChoice 15 = .ok (.iload_n 1, 1) := by decide +kernel
theorem dX12_hasChoice_16 : decode cX12_hasChoice 16 = .ok (.bipush 6, 2) := by decide +kernel
theorem dX12_hasChoice_18 : decode cX12_hasChoice 18 = .ok (.if_icmp .eq 9, 3) := by decide +kernel
theorem dX12_hasChoice_21 : decode cX12_hasChoice 21 = .ok (.iload_n 1, 1) := by decide +kernel
theorem dX12_hasChoice_22 : decode cX12_hasChoice 22 = .ok (.bipush 11, 2) := by decide +kernel
