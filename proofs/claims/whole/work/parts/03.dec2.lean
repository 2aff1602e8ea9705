theorem dX10_firstOrderThatMatters_145 : decode cX10_firstOrderThatMatters 145 = .ok (.goto (-37), 3) := by decide +kernel
theorem dX10_firstOrderThatMatters_148 : decode cX10_firstOrderThatMatters 148 = .ok (.aload_n 0, 1) := by decide +kernel
theorem dX10_firstOrderThatMatters_149 : decode cX10_firstOrderThatMatters 149 = .ok (.getfield 18, 3) := by decide +kernel
theorem dX10_firstOrderThatMatters_152 : decode cX10_firstOrderThatMatters 152 = .ok (.invokevirtual 47, 3) := by decide +kernel
theorem dX10_firstOrderThatMatters_155 : decode cX10_firstOrderThatMatters 155 = .ok (.aload_n 0, 1) := by decide +kernel
theorem dX10_firstOrderThatMatters_156 : decode cX10_firstOrderThatMatters 156 = .ok (.iload 5, 2) := by decide +kernel
theorem dX10_firstOrderThatMatters_158 : decode cX10_firstOrderThatMatters 158 = .ok (.aload_n 0, 1) := by decide +kernel
theorem dX10_firstOrderThatMatters_159 : decode cX10_firstOrderThatMatters 159 = .ok (.getfield 18, 3) := by decide +kernel
theorem dX10_firstOrderThatMatters_162 : decode cX10_firstOrderThatMatters 162 = .ok (.aload_n 2, 1) := by decide +kernel
theorem dX10_firstOrderThatMatters_163 : decode cX10_firstOrderThatMatters 163 = .ok (.aload_n 1, 1) := by decide +kernel
theorem dX10_firstOrderThatMatters_164 : decode cX10_firstOrderThatMatters 164 = .ok (.invokevirtual 50, 3) := by decide +kernel
theorem dX10_firstOrderThatMatters_167 : decode cX10_firstOrderThatMatters 167 = .ok (.ifCond .ne 7, 3) := by decide +kernel
theorem dX10_firstOrderThatMatters_170 : decode cX10_firstOrderThatMatters 170 = .ok (.iconst 1, 1) := by decide +kernel
theorem dX10_firstOrderThatMatters_171 : decode cX10_firstOrderThatMatters 171 = .ok (.goto 4, 3) := by decide +kernel
theorem dX10_firstOrderThatMatters_174 : decode cX10_firstOrderThatMatters 174 = .ok (.iconst 0, 1) := by decide +kernel
theorem dX10_firstOrderThatMatters_175 : decode cX10_firstOrderThatMatters 175 = .ok (.iconst 1, 1) := by decide +kernel
theorem dX10_firstOrderThatMatters_176 : decode cX10_firstOrderThatMatters 176 = .ok (.invokevirtual 64, 3) := by decide +kernel
theorem dX10_firstOrderThatMatters_179 : decode cX10_firstOrderThatMatters 179 = .ok (.ifCond .ne 14, 3) := by decide +kernel
theorem dX10_firstOrderThatMatters_182 : decode cX10_firstOrderThatMatters 182 = .ok (.aload_n 0, 1) := by decide +kernel
theorem dX10_firstOrderThatMatters_183 : decode cX10_firstOrderThatMatters 183 = .ok (.aload_n 3, 1) := by decide +kernel
theorem dX10_firstOrderThatMatters_184 : decode cX10_firstOrderThatMatters 184 = .ok (.getfield 94, 3) := by decide +kernel
theorem dX10_firstOrderThatMatters_187 : decode cX10_firstOrderThatMatters 187 = .ok (.invokevirtual 107, 3) := by decide +kernel
theorem dX10_firstOrderThatMatters_190 : decode cX10_firstOrderThatMatters 190 = .ok (.ifCond .eq 6, 3) := by decide +kernel
theorem dX10_firstOrderThatMatters_193 : decode cX10_firstOrderThatMatters 193 = .ok (.iload 6, 2) := by decide +kernel
theorem dX10_firstOrderThatMatters_195 : decode cX10_firstOrderThatMatters 195 = .ok (.ireturn, 1) := by decide +kernel
theorem dX10_firstOrderThatMatters_196 : decode cX10_firstOrderThatMatters 196 = .ok (.iinc 6 1, 3) := by decide +kernel
theorem dX10_firstOrderThatMatters_199 : decode cX10_firstOrderThatMatters 199 = .ok (.goto (-109), 3) := by decide +kernel
theorem dX10_firstOrderThatMatters_202 : decode cX10_firstOrderThatMatters 202 = .ok (.ldc 36, 2) := by decide +kernel
theorem dX10_firstOrderThatMatters_204 : decode cX10_firstOrderThatMatters 204 = .ok (.ireturn, 1) := by decide +kernel
theorem dX10_hasOtherResults_0 : decode cX10_hasOtherResults 0 = .ok (.iconst 0, 1) := by decide +kernel
theorem dX10_hasOtherResults_1 : decode cX10_hasOtherResults 1 = .ok (.istore_n 2, 1) := by decide +kernel
theorem dX10_hasOtherResults_2 : decode cX10_hasOtherResults 2 = .ok (.iload_n 2, 1) := by decide +kernel
theorem dX10_hasOtherResults_3 : decode cX10_hasOtherResults 3 = .ok (.iload_n 1, 1) := by decide +kernel
theorem dX10_hasOtherResults_4 : decode cX10_hasOtherResults 4 = .ok (.if_icmp .ge 38, 3) := by decide +kernel
theorem dX10_hasOtherResults_7 : decode cX10_hasOtherResults 7 = .ok (.aload_n 0, 1) := by decide +kernel
theorem dX10_hasOtherResults_8 : decode cX10_hasOtherResults 8 = .ok (.getfield 18, 3) := by decide +kernel
theorem dX10_hasOtherResults_11 : decode cX10_hasOtherResults 11 = .ok (.getfield 111, 3) := by decide +kernel
theorem dX10_hasOtherResults_14 : decode cX10_hasOtherResults 14 = .ok (.iload_n 2, 1) := by decide +kernel
theorem dX10_hasOtherResults_15 : decode cX10_hasOtherResults 15 = .ok (.laload, 1) := by decide +kernel
theorem dX10_hasOtherResults_16 : decode cX10_hasOtherResults 16 = .ok (.aload_n 0, 1) := by decide +kernel
theorem dX10_hasOtherResults_17 : decode cX10_hasOtherResults 17 = .ok (.getfield 12, 3) := by decide +kernel
theorem dX10_hasOtherResults_20 : decode cX10_hasOtherResults 20 = .ok (.getfield 111, 3) := by decide +kernel
theorem dX10_hasOtherResults_23 : decode cX10_hasOtherResults 23 = .ok (.aload_n 0, 1) := by decide +kernel
theorem dX10_hasOtherResults_24 : decode cX10_hasOtherResults 24 = .ok (.getfield 28, 3) := by decide +kernel
theorem dX10_hasOtherResults_27 : decode cX10_hasOtherResults 27 = .ok (.iload_n 2, 1) := by decide +kernel
theorem dX10_hasOtherResults_28 : decode cX10_hasOtherResults 28 = .ok (.iaload, 1) := by decide +kernel
theorem dX10_hasOtherResults_29 : decode cX10_hasOtherResults 29 = .ok (.laload, 1) := by decide +kernel
theorem dX10_hasOtherResults_30 : decode cX10_hasOtherResults 30 = .ok (.lcmp, 1) := by decide +kernel
theorem dX10_hasOtherResults_31 : decode cX10_hasOtherResults 31 = .ok (.ifCond .eq 5, 3) := by decide +kernel
theorem dX10_hasOtherResults_34 : decode cX10_hasOtherResults 34 = .ok (.iconst 1, 1) := by decide +kernel
theorem dX10_hasOtherResults_35 : decode cX10_hasOtherResults 35 = .ok (.ireturn, 1) := by decide +kernel
theorem dX10_hasOtherResults_36 : decode cX10_hasOtherResults 36 = .ok (.iinc 2 1, 3) := by decide +kernel
theorem dX10_hasOtherResults_39 : decode cX10_hasOtherResults 39 = .ok (.goto (-37), 3) := by decide +kernel
theorem dX10_hasOtherResults_42 : decode cX10_hasOtherResults 42 = .ok (.iconst 0, 1) := by decide +kernel
theorem dX10_hasOtherResults_43 : decode cX10_hasOtherResults 43 = .ok (.ireturn, 1) := by decide +kernel
set_option maxRecDepth 20000 in
theorem ggX10_goToNextOrder_X10_swap : GoodIn wsX10_goToNextOrder wsX10_swap := goodIn_r _ [6, 1, 7, 8, 9, 10] (by decide +kernel) (by decide +kernel)
set_option maxRecDepth 20000 in
theorem gX10_goToNextOrder_X10_swap : GoodIn wsX10_goToNextOrder (wsV RX10 115 RX10 yX10_swap wsX10_swap) := goodIn_app (goodIn_of _ (by decide +kernel)) ggX10_goToNextOrder_X10_swap
theorem dX10_goToNextOrder_0 : decode cX10_goToNextOrder 0 = .ok (.iload_n 1, 1) := by decide +kernel
theorem dX10_goToNextOrder_1 : decode cX10_goToNextOrder 1 = .ok (.iconst 2, 1) := by decide +kernel
theorem dX10_goToNextOrder_2 : decode cX10_goToNextOrder 2 = .ok (.isub, 1) := by decide +kernel
theorem dX10_goToNextOrder_3 : decode cX10_goToNextOrder 3 = .ok (.istore_n 2, 1) := by decide +kernel
theorem dX10_goToNextOrder_4 : decode cX10_goToNextOrder 4 = .ok (.iload_n 2, 1) := by decide +kernel
theorem dX10_goToNextOrder_5 : decode cX10_goToNextOrder 5 = .ok (.ifCond .lt 26, 3) := by decide +kernel
theorem dX10_goToNextOrder_8 : decode cX10_goToNextOrder 8 = .ok (.aload_n 0, 1) := by decide +kernel
theorem dX10_goToNextOrder_9 : decode cX10_goToNextOrder 9 = .ok (.getfield 28, 3) := by decide +kernel
theorem dX10_goToNextOrder_12 : decode cX10_goToNextOrder 12 = .ok (.iload_n 2, 1) := by decide +kernel
theorem dX10_goToNextOrder_13 : decode cX10_goToNextOrder 13 = .ok (.iaload, 1) := by decide +kernel
theorem dX10_goToNextOrder_14 : decode cX10_goToNextOrder 14 = .ok (.aload_n 0, 1) := by decide +kernel
theorem dX10_goToNextOrder_15 : decode cX10_goToNextOrder 15 = .ok (.getfield 28, 3) := by decide +kernel
theorem dX10_goToNextOrder_18 : decode cX10_goToNextOrder 18 = .ok (.iload_n 2, 1) := by decide +kernel
theorem dX10_goToNextOrder_19 : decode cX10_goToNextOrder 19 = .ok (.iconst 1, 1) := by decide +kernel
theorem dX10_goToNextOrder_20 : decode cX10_goToNextOrder 20 = .ok (.iadd, 1) := by decide +kernel
theorem dX10_goToNextOrder_21 : decode cX10_goToNextOrder 21 = .ok (.iaload, 1) := by decide +kernel
theorem dX10_goToNextOrder_22 : decode cX10_goToNextOrder 22 = .ok (.if_icmp .le 9, 3) := by decide +kernel
theorem dX10_goToNextOrder_25 : decode cX10_goToNextOrder 25 = .ok (.iinc 2 (-1), 3) := by decide +kernel
theorem dX10_goToNextOrder_28 : decode cX10_goToNextOrder 28 = .ok (.goto (-24), 3) := by decide +kernel
theorem dX10_goToNextOrder_31 : decode cX10_goToNextOrder 31 = .ok (.iload_n 2, 1) := by decide +kernel
theorem dX10_goToNextOrder_32 : decode cX10_goToNextOrder 32 = .ok (.ifCond .ge 4, 3) := by decide +kernel
theorem dX10_goToNextOrder_35 : decode cX10_goToNextOrder 35 = .ok (.return_, 1) := by decide +kernel
theorem dX10_goToNextOrder_36 : decode cX10_goToNextOrder 36 = .ok (.iload_n 1, 1) := by decide +kernel
theorem dX10_goToNextOrder_37 : decode cX10_goToNextOrder 37 = .ok (.iconst 1, 1) := by decide +kernel
theorem dX10_goToNextOrder_38 : decode cX10_goToNextOrder 38 = .ok (.isub, 1) := by decide +kernel
theorem dX10_goToNextOrder_39 : decode cX10_goToNextOrder 39 = .ok (.istore_n 3, 1) := by decide +kernel
theorem dX10_goToNextOrder_40 : decode cX10_goToNextOrder 40 = .ok (.iload_n 3, 1) := by decide +kernel
theorem dX10_goToNextOrder_41 : decode cX10_goToNextOrder 41 = .ok (.iload_n 2, 1) := by decide +kernel
theorem dX10_goToNextOrder_42 : decode cX10_goToNextOrder 42 = .ok (.if_icmp .le 24, 3) := by decide +kernel
theorem dX10_goToNextOrder_45 : decode cX10_goToNextOrder 45 = .ok (.aload_n 0, 1) := by decide +kernel
theorem dX10_goToNextOrder_46 : decode cX10_goToNextOrder 46 = .ok (.getfield 28, 3) := by decide +kernel
theorem dX10_goToNextOrder_49 : decode cX10_goToNextOrder 49 = .ok (.iload_n 3, 1) := by decide +kernel
theorem dX10_goToNextOrder_50 : decode cX10_goToNextOrder 50 = .ok (.iaload, 1) := by decide +kernel
theorem dX10_goToNextOrder_51 : decode cX10_goToNextOrder 51 = .ok (.aload_n 0, 1) := by decide +kernel
theorem dX10_goToNextOrder_52 : decode cX10_goToNextOrder 52 = .ok (.getfield 28, 3) := by decide +kernel
theorem dX10_goToNextOrder_55 : decode cX10_goToNextOrder 55 = .ok (.iload_n 2, 1) := by decide +kernel
theorem dX10_goToNextOrder_56 : decode cX10_goToNextOrder 56 = .ok (.iaload, 1) := by decide +kernel
theorem dX10_goToNextOrder_57 : decode cX10_goToNextOrder 57 = .ok (.if_icmp .ge 9, 3) := by decide +kernel
theorem dX10_goToNextOrder_60 : decode cX10_goToNextOrder 60 = .ok (.iinc 3 (-1), 3) := by decide +kernel
theorem dX10_goToNextOrder_63 : decode cX10_goToNextOrder 63 = .ok (.goto (-23), 3) := by decide +kernel
theorem dX10_goToNextOrder_66 : decode cX10_goToNextOrder 66 = .ok (.aload_n 0, 1) := by decide +kernel
theorem dX10_goToNextOrder_67 : decode cX10_goToNextOrder 67 = .ok (.iload_n 2, 1) := by decide +kernel
theorem dX10_goToNextOrder_68 : decode cX10_goToNextOrder 68 = .ok (.iload_n 3, 1) := by decide +kernel
theorem dX10_goToNextOrder_69 : decode cX10_goToNextOrder 69 = .ok (.invokevirtual 115, 3) := by decide +kernel
theorem dX10_goToNextOrder_72 : decode cX10_goToNextOrder 72 = .ok (.iload_n 2, 1) := by decide +kernel
theorem dX10_goToNextOrder_73 : decode cX10_goToNextOrder 73 = .ok (.iconst 1, 1) := by decide +kernel
theorem dX10_goToNextOrder_74 : decode cX10_goToNextOrder 74 = .ok (.iadd, 1) := by decide +kernel
theorem dX10_goToNextOrder_75 : decode cX10_goToNextOrder 75 = .ok (.istore 4, 2) := by decide +kernel
theorem dX10_goToNextOrder_77 : decode cX10_goToNextOrder 77 = .ok (.iload_n 1, 1) := by decide +kernel
theorem dX10_goToNextOrder_78 : decode cX10_goToNextOrder 78 = .ok (.iconst 1, 1) := by decide +kernel
theorem dX10_goToNextOrder_79 : decode cX10_goToNextOrder 79 = .ok (.isub, 1) := by decide +kernel
theorem dX10_goToNextOrder_80 : decode cX10_goToNextOrder 80 = .ok (.istore 5, 2) := by decide +kernel
theorem dX10_goToNextOrder_82 : decode cX10_goToNextOrder 82 = .ok (.iload 4, 2) := by decide +kernel
theorem dX10_goToNextOrder_84 : decode cX10_goToNextOrder 84 = .ok (.iload 5, 2) := by decide +kernel
theorem dX10_goToNextOrder_86 : decode cX10_goToNextOrder 86 = .ok (.if_icmp .ge 20, 3) := by decide +kernel
theorem dX10_goToNextOrder_89 : decode cX10_goToNextOrder 89 = .ok (.aload_n 0, 1) := by decide +kernel
theorem dX10_goToNextOrder_90 : decode cX10_goToNextOrder 90 = .ok (.iload 4, 2) := by decide +kernel
theorem dX10_goToNextOrder_92 : decode cX10_goToNextOrder 92 = .ok (.iload 5, 2) := by decide +kernel
theorem dX10_goToNextOrder_94 : decode cX10_goToNextOrder 94 = .ok (.invokevirtual 115, 3) := by decide +kernel
theorem dX10_goToNextOrder_97 : decode cX10_goToNextOrder 97 = .ok (.iinc 4 1, 3) := by decide +kernel
theorem dX10_goToNextOrder_100 : decode cX10_goToNextOrder 100 = .ok (.iinc 5 (-1), 3) := by decide +kernel
theorem dX10_goToNextOrder_103 : decode cX10_goToNextOrder 103 = .ok (.goto (-21), 3) := by decide +kernel
theorem dX10_goToNextOrder_106 : decode cX10_goToNextOrder 106 = .ok (.return_, 1) := by decide +kernel
theorem dX10_swap_0 : decode cX10_swap 0 = .ok (.aload_n 0, 1) := by decide +kernel
theorem dX10_swap_1 : decode cX10_swap 1 = .ok (.getfield 28, 3) := by decide +kernel
theorem dX10_swap_4 : decode cX10_swap 4 = .ok (.iload_n 1, 1) := by decide +kernel
theorem dX10_swap_5 : decode cX10_swap 5 = .ok (.iaload, 1) := by decide +kernel
theorem dX10_swap_6 : decode cX10_swap 6 = .ok (.istore_n 3, 1) := by decide +kernel
theorem dX10_swap_7 : decode cX10_swap 7 = .ok (.aload_n 0, 1) := by decide +kernel
theorem dX10_swap_8 : decode cX10_swap 8 = .ok (.getfield 28, 3) := by decide +kernel
theorem dX10_swap_11 : decode cX10_swap 11 = .ok (.iload_n 1, 1) := by decide +kernel
theorem dX10_swap_12 : decode cX10_swap 12 = .ok (.aload_n 0, 1) := by decide +kernel
theorem dX10_swap_13 : decode cX10_swap 13 = .ok (.getfield 28, 3) := by decide +kernel
theorem dX10_swap_16 : decode cX10_swap 16 = .ok (.iload_n 2, 1) := by decide +kernel
theorem dX10_swap_17 : decode cX10_swap 17 = .ok (.iaload, 1) := by decide +kernel
theorem dX10_swap_18 : decode cX10_swap 18 = .ok (.iastore, 1) := by decide +kernel
theorem dX10_swap_19 : decode cX10_swap 19 = .ok (.aload_n 0, 1) := by decide +kernel
theorem dX10_swap_20 : decode cX10_swap 20 = .ok (.getfield 28, 3) := by decide +kernel
theorem dX10_swap_23 : decode cX10_swap 23 = .ok (.iload_n 2, 1) := by decide +kernel
theorem dX10_swap_24 : decode cX10_swap 24 = .ok (.iload_n 3, 1) := by decide +kernel
theorem dX10_swap_25 : decode cX10_swap 25 = .ok (.iastore, 1) := by decide +kernel
theorem dX10_swap_26 : decode cX10_swap 26 = .ok (.return_, 1) := by decide +kernel
set_option maxRecDepth 20000 in
theorem ggX11_init_X8_init : GoodIn wsX11_init wsX8_init := goodIn_r _ [38, 39, 2, 3, 40, 41, 42, 43, 44, 45, 46, 47, 48, 6, 49, 140, 141, 142, 143] (by decide +kernel) (by decide +kernel)
set_option maxRecDepth 20000 in
theorem gX11_init_X8_init : GoodIn wsX11_init (wsX8_init) := ggX11_init_X8_init
set_option maxRecDepth 20000 in
theorem ggX11_init_X0_init : GoodIn wsX11_init wsX0_init := goodIn_r _ [51, 52, 2, 3, 40, 53, 154, 155] (by decide +kernel) (by decide +kernel)
set_option maxRecDepth 20000 in
theorem gX11_init_X0_init_n18 : GoodIn wsX11_init (wsX0_init) := ggX11_init_X0_init
set_option maxRecDepth 20000 in
theorem ggX11_init_X4_init : GoodIn wsX11_init wsX4_init := goodIn_r _ [55, 56, 2, 3, 57, 58, 156, 157] (by decide +kernel) (by decide +kernel)
set_option maxRecDepth 20000 in
theorem gX11_init_X4_init_n25 : GoodIn wsX11_init (wsX4_init) := ggX11_init_X4_init
set_option maxRecDepth 20000 in
theorem ggX11_init_X5_init : GoodIn wsX11_init wsX5_init := goodIn_r _ [61, 62, 2, 3, 63, 9, 10, 64, 65, 13, 14, 66, 67, 68, 69, 70, 57, 71, 72, 73, 74, 75, 76, 50, 51, 52, 40, 53, 54, 55, 56, 58, 77, 78, 79, 80, 81, 82, 83, 84, 85, 22, 86, 87, 88, 89, 90, 91, 92, 93, 154, 155, 158, 159, 160, 161, 162, 163, 164, 165, 166, 167, 168, 156, 157, 193, 194, 195, 196, 197, 198, 199] (by decide +kernel) (by decide +kernel)
set_option maxRecDepth 20000 in
theorem gX11_init_X5_init : GoodIn wsX11_init (wsX5_init) := ggX11_init_X5_init
set_option maxRecDepth 20000 in
theorem ggX11_init_X10_init : GoodIn wsX11_init wsX10_init := goodIn_r _ [95, 96, 2, 3, 97, 21, 22, 98, 99, 100, 101, 102, 103, 40, 104, 105, 60, 61, 62, 63, 9, 10, 64, 65, 13, 14, 66, 67, 68, 69, 70, 57, 71, 72, 73, 74, 75, 76, 50, 51, 52, 53, 54, 55, 56, 58, 77, 78, 79, 80, 81, 82, 83, 84, 85, 86, 87, 88, 89, 90, 91, 92, 93, 106, 107, 108, 109, 110, 111, 112, 113, 114, 158, 159, 160, 161, 162, 163, 164, 165, 166, 167, 168, 169, 170, 171, 172, 200, 201, 202, 203, 154, 155, 156, 157, 193, 194, 195, 196, 197, 198, 199] (by decide +kernel) (by decide +kernel)
set_option maxRecDepth 20000 in
theorem gX11_init_X10_init_n51 : GoodIn wsX11_init (wsX10_init) := ggX11_init_X10_init
set_option maxRecDepth 20000 in
theorem ggX11_init_X1_init : GoodIn wsX11_init wsX1_init := goodIn_r _ [116, 117, 2, 3, 40, 118, 119, 120, 121, 122, 123, 173, 174, 175, 176, 177, 178] (by decide +kernel) (by decide +kernel)
set_option maxRecDepth 20000 in
theorem gX11_init_X1_init_n58 : GoodIn wsX11_init (wsX1_init) := ggX11_init_X1_init
set_option maxRecDepth 20000 in
theorem ggX11_init_X6_init : GoodIn wsX11_init wsX6_init := goodIn_r _ [125, 126, 2, 3, 40, 127, 128, 129, 130, 131, 179, 180, 181, 182, 183, 184, 185] (by decide +kernel) (by decide +kernel)
set_option maxRecDepth 20000 in
theorem gX11_init_X6_init_n63 : GoodIn wsX11_init (wsX6_init) := ggX11_init_X6_init
set_option maxRecDepth 20000 in
theorem ggX11_init_X9_init : GoodIn wsX11_init wsX9_init := goodIn_r _ [133, 134, 2, 3, 57, 135, 136, 13, 14, 137, 138, 139, 54, 55, 56, 58, 186, 187, 188, 189, 190, 191, 192, 156, 157] (by decide +kernel) (by decide +kernel)
set_option maxRecDepth 20000 in
theorem gX11_init_X9_init_n64 : GoodIn wsX11_init (wsX9_init) := ggX11_init_X9_init
theorem dX11_init_0 : decode cX11_init 0 = .ok (.aload_n 0, 1) := by decide +kernel
theorem dX11_init_1 : decode cX11_init 1 = .ok (.invokespecial 1, 3) := by decide +kernel
theorem dX11_init_4 : decode cX11_init 4 = .ok (.aload_n 0, 1) := by decide +kernel
theorem dX11_init_5 : decode cX11_init 5 = .ok (.new 7, 3) := by decide +kernel
theorem dX11_init_8 : decode cX11_init 8 = .ok (.dup, 1) := by decide +kernel
theorem dX11_init_9 : decode cX11_init 9 = .ok (.invokespecial 9, 3) := by decide +kernel
theorem dX11_init_12 : decode cX11_init 12 = .ok (.putfield 10, 3) := by decide +kernel
theorem dX11_init_15 : decode cX11_init 15 = .ok (.aload_n 0, 1) := by decide +kernel
theorem dX11_init_16 : decode cX11_init 16 = .ok (.new 16, 3) := by decide +kernel
theorem dX11_init_19 : decode cX11_init 19 = .ok (.dup, 1) := by decide +kernel
theorem dX11_init_20 : decode cX11_init 20 = .ok (.invokespecial 18, 3) := by decide +kernel
theorem dX11_init_23 : decode cX11_init 23 = .ok (.putfield 19, 3) := by decide +kernel
theorem dX11_init_26 : decode cX11_init 26 = .ok (.aload_n 0, 1) := by decide +kernel
theorem dX11_init_27 : decode cX11_init 27 = .ok (.new 23, 3) := by decide +kernel
theorem dX11_init_30 : decode cX11_init 30 = .ok (.dup, 1) := by decide +kernel
theorem dX11_init_31 : decode cX11_init 31 = .ok (.invokespecial 25, 3) := by decide +kernel
theorem dX11_init_34 : decode cX11_init 34 = .ok (.putfield 26, 3) := by decide +kernel
theorem dX11_init_37 : decode cX11_init 37 = .ok (.aload_n 0, 1) := by decide +kernel
theorem dX11_init_38 : decode cX11_init 38 = .ok (.iconst 4, 1) := by decide +kernel
theorem dX11_init_39 : decode cX11_init 39 = .ok (.anewarray 30, 3) := by decide +kernel
theorem dX11_init_42 : decode cX11_init 42 = .ok (.putfield 32, 3) := by decide +kernel
theorem dX11_init_45 : decode cX11_init 45 = .ok (.aload_n 0, 1) := by decide +kernel
theorem dX11_init_46 : decode cX11_init 46 = .ok (.bipush 6, 2) := by decide +kernel
theorem dX11_init_48 : decode cX11_init 48 = .ok (.anewarray 36, 3) := by decide +kernel
theorem dX11_init_51 : decode cX11_init 51 = .ok (.putfield 38, 3) := by decide +kernel
theorem dX11_init_54 : decode cX11_init 54 = .ok (.aload_n 0, 1) := by decide +kernel
theorem dX11_init_55 : decode cX11_init 55 = .ok (.new 42, 3) := by decide +kernel
theorem dX11_init_58 : decode cX11_init 58 = .ok (.dup, 1) := by decide +kernel
theorem dX11_init_59 : decode cX11_init 59 = .ok (.invokespecial 44, 3) := by decide +kernel
theorem dX11_init_62 : decode cX11_init 62 = .ok (.putfield 45, 3) := by decide +kernel
theorem dX11_init_65 : decode cX11_init 65 = .ok (.aload_n 0, 1) := by decide +kernel
theorem dX11_init_66 : decode cX11_init 66 = .ok (.new 49, 3) := by decide +kernel
theorem dX11_init_69 : decode cX11_init 69 = .ok (.dup, 1) := by decide +kernel
theorem dX11_init_70 : decode cX11_init 70 = .ok (.invokespecial 51, 3) := by decide +kernel
theorem dX11_init_73 : decode cX11_init 73 = .ok (.putfield 52, 3) := by decide +kernel
theorem dX11_init_76 : decode cX11_init 76 = .ok (.aload_n 0, 1) := by decide +kernel
theorem dX11_init_77 : decode cX11_init 77 = .ok (.new 56, 3) := by decide +kernel
theorem dX11_init_80 : decode cX11_init 80 = .ok (.dup, 1) := by decide +kernel
theorem dX11_init_81 : decode cX11_init 81 = .ok (.invokespecial 58, 3) := by decide +kernel
theorem dX11_init_84 : decode cX11_init 84 = .ok (.putfield 59, 3) := by decide +kernel
theorem dX11_init_87 : decode cX11_init 87 = .ok (.iconst 0, 1) := by decide +kernel
theorem dX11_init_88 : decode cX11_init 88 = .ok (.istore_n 1, 1) := by decide +kernel
theorem dX11_init_89 : decode cX11_init 89 = .ok (.iload_n 1, 1) := by decide +kernel
theorem dX11_init_90 : decode cX11_init 90 = .ok (.iconst 4, 1) := by decide +kernel
theorem dX11_init_91 : decode cX11_init 91 = .ok (.if_icmp .ge 22, 3) := by decide +kernel
theorem dX11_init_94 : decode cX11_init 94 = .ok (.aload_n 0, 1) := by decide +kernel
theorem dX11_init_95 : decode cX11_init 95 = .ok (.getfield 32, 3) := by decide +kernel
theorem dX11_init_98 : decode cX11_init 98 = .ok (.iload_n 1, 1) := by decide +kernel
theorem dX11_init_99 : decode cX11_init 99 = .ok (.new 30, 3) := by decide +kernel
theorem dX11_init_102 : decode cX11_init 102 = .ok (.dup, 1) := by decide +kernel
theorem dX11_init_103 : decode cX11_init 103 = .ok (.invokespecial 63, 3) := by decide +kernel
theorem dX11_init_106 : decode cX11_init 106 = .ok (.aastore, 1) := by decide +kernel
theorem dX11_init_107 : decode cX11_init 107 = .ok (.iinc 1 1, 3) := by decide +kernel
theorem dX11_init_110 : decode cX11_init 110 = .ok (.goto (-21), 3) := by decide +kernel
theorem dX11_init_113 : decode cX11_init 113 = .ok (.iconst 0, 1) := by decide +kernel
theorem dX11_init_114 : decode cX11_init 114 = .ok (.istore_n 1, 1) := by decide +kernel
theorem dX11_init_115 : decode cX11_init 115 = .ok (.iload_n 1, 1) := by decide +kernel
theorem dX11_init_116 : decode cX11_init 116 = .ok (.bipush 6, 2) := by decide +kernel
theorem dX11_init_118 : decode cX11_init 118 = .ok (.if_icmp .ge 22, 3) := by decide +kernel
theorem dX11_init_121 : decode cX11_init 121 = .ok (.aload_n 0, 1) := by decide +kernel
theorem dX11_init_122 : decode cX11_init 122 = .ok (.getfield 38, 3) := by decide +kernel
theorem dX11_init_125 : decode cX11_init 125 = .ok (.iload_n 1, 1) := by decide +kernel
theorem dX11_init_126 : decode cX11_init 126 = .ok (.new 36, 3) := by decide +kernel
theorem dX11_init_129 : decode cX11_init 129 = .ok (.dup, 1) := by decide +kernel
theorem dX11_init_130 : decode cX11_init 130 = .ok (.invokespecial 64, 3) := by decide +kernel
theorem dX11_init_133 : decode cX11_init 133 = .ok (.aastore, 1) := by decide +kernel
theorem dX11_init_134 : decode cX11_init 134 = .ok (.iinc 1 1, 3) := by decide +kernel
theorem dX11_init_137 : decode cX11_init 137 = .ok (.goto (-22), 3) := by decide +kernel
theorem dX11_init_140 : decode cX11_init 140 = .ok (.return_, 1) := by decide +kernel
set_option maxRecDepth 20000 in
theorem ggX11_begin_X8_reset : GoodIn wsX11_begin wsX8_reset := goodIn_r _ [12, 13, 14, 15, 16, 55, 56, 57, 58] (by decide +kernel) (by decide +kernel)
set_option maxRecDepth 20000 in
theorem gX11_begin_X8_reset : GoodIn wsX11_begin (wsV RX11 75 RX8 yX8_reset wsX8_reset) := goodIn_app (goodIn_of _ (by decide +kernel)) ggX11_begin_X8_reset
set_option maxRecDepth 20000 in
theorem ggX11_begin_X4_reset : GoodIn wsX11_begin wsX4_reset := goodIn_r _ [21, 22, 23, 59, 60] (by decide +kernel) (by decide +kernel)
set_option maxRecDepth 20000 in
theorem gX11_begin_X4_reset : GoodIn wsX11_begin (wsV RX11 78 RX4 yX4_reset wsX4_reset) := goodIn_app (goodIn_of _ (by decide +kernel)) ggX11_begin_X4_reset
set_option maxRecDepth 20000 in
theorem ggX11_begin_X5_wipe : GoodIn wsX11_begin wsX5_wipe := goodIn_r _ [28, 29, 30, 31, 32, 33, 34, 35, 36, 37, 38, 39, 40, 41, 42, 61, 62, 63, 64, 65, 66, 67, 68, 69, 70, 71, 72, 73, 74, 75, 76, 77, 78] (by decide +kernel) (by decide +kernel)
set_option maxRecDepth 20000 in
theorem gX11_begin_X5_wipe : GoodIn wsX11_begin (wsV RX11 79 RX5 yX5_wipe wsX5_wipe) := goodIn_app (goodIn_of _ (by decide +kernel)) ggX11_begin_X5_wipe
theorem dX11_begin_0 : decode cX11_begin 0 = .ok (.aload_n 0, 1) := by decide +kernel
theorem dX11_begin_1 : decode cX11_begin 1 = .ok (.iconst 0, 1) := by decide +kernel
theorem dX11_begin_2 : decode cX11_begin 2 = .ok (.putfield 65, 3) := by decide +kernel
theorem dX11_begin_5 : decode cX11_begin 5 = .ok (.aload_n 0, 1) := by decide +kernel
theorem dX11_begin_6 : decode cX11_begin 6 = .ok (.iconst 0, 1) := by decide +kernel
theorem dX11_begin_7 : decode cX11_begin 7 = .ok (.putfield 69, 3) := by decide +kernel
theorem dX11_begin_10 : decode cX11_begin 10 = .ok (.aload_n 0, 1) := by decide +kernel
theorem dX11_begin_11 : decode cX11_begin 11 = .ok (.getfield 19, 3) := by decide +kernel
theorem dX11_begin_14 : decode cX11_begin 14 = .ok (.iconst 0, 1) := by decide +kernel
theorem dX11_begin_15 : decode cX11_begin 15 = .ok (.putfield 72, 3) := by decide +kernel
theorem dX11_begin_18 : decode cX11_begin 18 = .ok (.aload_n 0, 1) := by decide +kernel
theorem dX11_begin_19 : decode cX11_begin 19 = .ok (.getfield 10, 3) := by decide +kernel
theorem dX11_begin_22 : decode cX11_begin 22 = .ok (.invokevirtual 75, 3) := by decide +kernel
theorem dX11_begin_25 : decode cX11_begin 25 = .ok (.aload_n 0, 1) := by decide +kernel
theorem dX11_begin_26 : decode cX11_begin 26 = .ok (.getfield 26, 3) := by decide +kernel
theorem dX11_begin_29 : decode cX11_begin 29 = .ok (.invokevirtual 78, 3) := by decide +kernel
theorem dX11_begin_32 : decode cX11_begin 32 = .ok (.aload_n 0, 1) := by decide +kernel
theorem dX11_begin_33 : decode cX11_begin 33 = .ok (.getfield 45, 3) := by decide +kernel
theorem dX11_begin_36 : decode cX11_begin 36 = .ok (.invokevirtual 79, 3) := by decide +kernel
theorem dX11_begin_39 : decode cX11_begin 39 = .ok (.iconst 0, 1) := by decide +kernel
theorem dX11_begin_40 : decode cX11_begin 40 = .ok (.ireturn, 1) := by decide +kernel
set_option maxRecDepth 20000 in
theorem ggX11_rate_X11_isRate : GoodIn wsX11_rate wsX11_isRate := goodIn_r _ [7] (by decide +kernel) (by decide +kernel)
set_option maxRecDepth 20000 in
theorem gX11_rate_X11_isRate : GoodIn wsX11_rate (va_wsS RX11 82 yX11_isRate wsX11_isRate) := goodIn_app (goodIn_of _ (by decide +kernel)) ggX11_rate_X11_isRate
theorem dX11_rate_0 : decode cX11_rate 0 = .ok (.iload_n 1, 1) := by decide +kernel
theorem dX11_rate_1 : decode cX11_rate 1 = .ok (.invokestatic 82, 3) := by decide +kernel
theorem dX11_rate_4 : decode cX11_rate 4 = .ok (.ifCond .eq 26, 3) := by decide +kernel
theorem dX11_rate_7 : decode cX11_rate 7 = .ok (.iload_n 2, 1) := by decide +kernel
theorem dX11_rate_8 : decode cX11_rate 8 = .ok (.ifCond .lt 22, 3) := by decide +kernel
theorem dX11_rate_11 : decode cX11_rate 11 = .ok (.iload_n 2, 1) := by decide +kernel
theorem dX11_rate_12 : decode cX11_rate 12 = .ok (.sipush 10000, 3) := by decide +kernel
theorem dX11_rate_15 : decode cX11_rate 15 = .ok (.if_icmp .gt 15, 3) := by decide +kernel
theorem dX11_rate_18 : decode cX11_rate 18 = .ok (.iload_n 3, 1) := by decide +kernel
theorem dX11_rate_19 : decode cX11_rate 19 = .ok (.iconst 1, 1) := by decide +kernel
theorem dX11_rate_20 : decode cX11_rate 20 = .ok (.if_icmp .lt 10, 3) := by decide +kernel
theorem dX11_rate_23 : decode cX11_rate 23 = .ok (.iload_n 3, 1) := by decide +kernel
theorem dX11_rate_24 : decode cX11_rate 24 = .ok (.sipush 1000, 3) := by decide +kernel
theorem dX11_rate_27 : decode cX11_rate 27 = .ok (.if_icmp .le 5, 3) := by decide +kernel
theorem dX11_rate_30 : decode cX11_rate 30 = .ok (.iconst (-1), 1) := by decide +kernel
theorem dX11_rate_31 : decode cX11_rate 31 = .ok (.ireturn, 1) := by decide +kernel
theorem dX11_rate_32 : decode cX11_rate 32 = .ok (.aload_n 0, 1) := by decide +kernel
theorem dX11_rate_33 : decode cX11_rate 33 = .ok (.getfield 10, 3) := by decide +kernel
theorem dX11_rate_36 : decode cX11_rate 36 = .ok (.getfield 86, 3) := by decide +kernel
theorem dX11_rate_39 : decode cX11_rate 39 = .ok (.iload_n 1, 1) := by decide +kernel
theorem dX11_rate_40 : decode cX11_rate 40 = .ok (.iload_n 2, 1) := by decide +kernel
theorem dX11_rate_41 : decode cX11_rate 41 = .ok (.iastore, 1) := by decide +kernel
theorem dX11_rate_42 : decode cX11_rate 42 = .ok (.aload_n 0, 1) := by decide +kernel
theorem dX11_rate_43 : decode cX11_rate 43 = .ok (.getfield 10, 3) := by decide +kernel
theorem dX11_rate_46 : decode cX11_rate 46 = .ok (.getfield 90, 3) := by decide +kernel
theorem dX11_rate_49 : decode cX11_rate 49 = .ok (.iload_n 1, 1) := by decide +kernel
theorem dX11_rate_50 : decode cX11_rate 50 = .ok (.iload_n 3, 1) := by decide +kernel
theorem dX11_rate_51 : decode cX11_rate 51 = .ok (.iastore, 1) := by decide +kernel
theorem dX11_rate_52 : decode cX11_rate 52 = .ok (.iconst 0, 1) := by decide +kernel
theorem dX11_rate_53 : decode cX11_rate 53 = .ok (.ireturn, 1) := by decide +kernel
set_option maxRecDepth 20000 in
theorem ggX11_line_X11_isLine : GoodIn wsX11_line wsX11_isLine := goodIn_r _ [7, 8, 9] (by decide +kernel) (by decide +kernel)
set_option maxRecDepth 20000 in
theorem gX11_line_X11_isLine : GoodIn wsX11_line (va_wsS RX11 93 yX11_isLine wsX11_isLine) := goodIn_app (goodIn_of _ (by decide +kernel)) ggX11_line_X11_isLine
theorem dX11_line_0 : decode cX11_line 0 = .ok (.iload_n 1, 1) := by decide +kernel
theorem dX11_line_1 : decode cX11_line 1 = .ok (.i2l, 1) := by decide +kernel
theorem dX11_line_2 : decode cX11_line 2 = .ok (.invokestatic 93, 3) := by decide +kernel
theorem dX11_line_5 : decode cX11_line 5 = .ok (.ifCond .ne 5, 3) := by decide +kernel
theorem dX11_line_8 : decode cX11_line 8 = .ok (.iconst (-1), 1) := by decide +kernel
theorem dX11_line_9 : decode cX11_line 9 = .ok (.ireturn, 1) := by decide +kernel
theorem dX11_line_10 : decode cX11_line 10 = .ok (.aload_n 0, 1) := by decide +kernel
theorem dX11_line_11 : decode cX11_line 11 = .ok (.getfield 19, 3) := by decide +kernel
theorem dX11_line_14 : decode cX11_line 14 = .ok (.getfield 72, 3) := by decide +kernel
theorem dX11_line_17 : decode cX11_line 17 = .ok (.bipush 12, 2) := by decide +kernel
theorem dX11_line_19 : decode cX11_line 19 = .ok (.if_icmp .lt 6, 3) := by decide +kernel
theorem dX11_line_22 : decode cX11_line 22 = .ok (.bipush (-2), 2) := by decide +kernel
theorem dX11_line_24 : decode cX11_line 24 = .ok (.ireturn, 1) := by decide +kernel
theorem dX11_line_25 : decode cX11_line 25 = .ok (.aload_n 0, 1) := by decide +kernel
theorem dX11_line_26 : decode cX11_line 26 = .ok (.getfield 19, 3) := by decide +kernel
theorem dX11_line_29 : decode cX11_line 29 = .ok (.getfield 97, 3) := by decide +kernel
theorem dX11_line_32 : decode cX11_line 32 = .ok (.aload_n 0, 1) := by decide +kernel
theorem dX11_line_33 : decode cX11_line 33 = .ok (.getfield 19, 3) := by decide +kernel
theorem dX11_line_36 : decode cX11_line 36 = .ok (.getfield 72, 3) := by decide +kernel
theorem dX11_line_39 : decode cX11_line 39 = .ok (.iload_n 1, 1) := by decide +kernel
theorem dX11_line_40 : decode cX11_line 40 = .ok (.iastore, 1) := by decide +kernel
theorem dX11_line_41 : decode cX11_line 41 = .ok (.aload_n 0, 1) := by decide +kernel
theorem dX11_line_42 : decode cX11_line 42 = .ok (.getfield 19, 3) := by decide +kernel
theorem dX11_line_45 : decode cX11_line 45 = .ok (.dup, 1) := by decide +kernel
theorem dX11_line_46 : decode cX11_line 46 = .ok (.getfield 72, 3) := by decide +kernel
theorem dX11_line_49 : decode cX11_line 49 = .ok (.iconst 1, 1) := by decide +kernel
theorem dX11_line_50 : decode cX11_line 50 = .ok (.iadd, 1) := by decide +kernel
theorem dX11_line_51 : decode cX11_line 51 = .ok (.putfield 72, 3) := by decide +kernel
theorem dX11_line_54 : decode cX11_line 54 = .ok (.aload_n 0, 1) := by decide +kernel
theorem dX11_line_55 : decode cX11_line 55 = .ok (.getfield 19, 3) := by decide +kernel
theorem dX11_line_58 : decode cX11_line 58 = .ok (.getfield 72, 3) := by decide +kernel
theorem dX11_line_61 : decode cX11_line 61 = .ok (.ireturn, 1) := by decide +kernel
theorem dX11_bare_0 : decode cX11_bare 0 = .ok (.aload_n 0, 1) := by decide +kernel
theorem dX11_bare_1 : decode cX11_bare 1 = .ok (.getfield 19, 3) := by decide +kernel
theorem dX11_bare_4 : decode cX11_bare 4 = .ok (.getfield 72, 3) := by decide +kernel
theorem dX11_bare_7 : decode cX11_bare 7 = .ok (.istore_n 1, 1) := by decide +kernel
theorem dX11_bare_8 : decode cX11_bare 8 = .ok (.aload_n 0, 1) := by decide +kernel
theorem dX11_bare_9 : decode cX11_bare 9 = .ok (.getfield 19, 3) := by decide +kernel
theorem dX11_bare_12 : decode cX11_bare 12 = .ok (.iconst 0, 1) := by decide +kernel
theorem dX11_bare_13 : decode cX11_bare 13 = .ok (.putfield 72, 3) := by decide +kernel
theorem dX11_bare_16 : decode cX11_bare 16 = .ok (.iload_n 1, 1) := by decide +kernel
theorem dX11_bare_17 : decode cX11_bare 17 = .ok (.ireturn, 1) := by decide +kernel
theorem dX11_weight_0 : decode cX11_weight 0 = .ok (.iload_n 1, 1) := by decide +kernel
theorem dX11_weight_1 : decode cX11_weight 1 = .ok (.ifCond .lt 20, 3) := by decide +kernel
theorem dX11_weight_4 : decode cX11_weight 4 = .ok (.iload_n 1, 1) := by decide +kernel
theorem dX11_weight_5 : decode cX11_weight 5 = .ok (.iconst 4, 1) := by decide +kernel
theorem dX11_weight_6 : decode cX11_weight 6 = .ok (.if_icmp .ge 15, 3) := by decide +kernel
theorem dX11_weight_9 : decode cX11_weight 9 = .ok (.iload_n 2, 1) := by decide +kernel
theorem dX11_weight_10 : decode cX11_weight 10 = .ok (.iconst (-1), 1) := by decide +kernel
theorem dX11_weight_11 : decode cX11_weight 11 = .ok (.if_icmp .lt 10, 3) := by decide +kernel
theorem dX11_weight_14 : decode cX11_weight 14 = .ok (.iload_n 2, 1) := by decide +kernel
theorem dX11_weight_15 : decode cX11_weight 15 = .ok (.sipush 1000, 3) := by decide +kernel
theorem dX11_weight_18 : decode cX11_weight 18 = .ok (.if_icmp .le 5, 3) := by decide +kernel
theorem dX11_weight_21 : decode cX11_weight 21 = .ok (.iconst (-1), 1) := by decide +kernel
theorem dX11_weight_22 : decode cX11_weight 22 = .ok (.ireturn, 1) := by decide +kernel
theorem dX11_weight_23 : decode cX11_weight 23 = .ok (.iload_n 2, 1) := by decide +kernel
theorem dX11_weight_24 : decode cX11_weight 24 = .ok (.iconst (-1), 1) := by decide +kernel
theorem dX11_weight_25 : decode cX11_weight 25 = .ok (.if_icmp .ne 15, 3) := by decide +kernel
theorem dX11_weight_28 : decode cX11_weight 28 = .ok (.aload_n 0, 1) := by decide +kernel
theorem dX11_weight_29 : decode cX11_weight 29 = .ok (.getfield 10, 3) := by decide +kernel
theorem dX11_weight_32 : decode cX11_weight 32 = .ok (.getfield 100, 3) := by decide +kernel
theorem dX11_weight_35 : decode cX11_weight 35 = .ok (.iload_n 1, 1) := by decide +kernel
theorem dX11_weight_36 : decode cX11_weight 36 = .ok (.iconst 0, 1) := by decide +kernel
theorem dX11_weight_37 : decode cX11_weight 37 = .ok (.iastore, 1) := by decide +kernel
theorem dX11_weight_38 : decode cX11_weight 38 = .ok (.iconst 0, 1) := by decide +kernel
theorem dX11_weight_39 : decode cX11_weight 39 = .ok (.ireturn, 1) := by decide +kernel
theorem dX11_weight_40 : decode cX11_weight 40 = .ok (.aload_n 0, 1) := by decide +kernel
theorem dX11_weight_41 : decode cX11_weight 41 = .ok (.getfield 10, 3) := by decide +kernel
theorem dX11_weight_44 : decode cX11_weight 44 = .ok (.getfield 100, 3) := by decide +kernel
theorem dX11_weight_47 : decode cX11_weight 47 = .ok (.iload_n 1, 1) := by decide +kernel
theorem dX11_weight_48 : decode cX11_weight 48 = .ok (.iaload, 1) := by decide +kernel
theorem dX11_weight_49 : decode cX11_weight 49 = .ok (.bipush 8, 2) := by decide +kernel
theorem dX11_weight_51 : decode cX11_weight 51 = .ok (.if_icmp .lt 6, 3) := by decide +kernel
theorem dX11_weight_54 : decode cX11_weight 54 = .ok (.bipush (-2), 2) := by decide +kernel
theorem dX11_weight_56 : decode cX11_weight 56 = .ok (.ireturn, 1) := by decide +kernel
theorem dX11_weight_57 : decode cX11_weight 57 = .ok (.aload_n 0, 1) := by decide +kernel
theorem dX11_weight_58 : decode cX11_weight 58 = .ok (.getfield 10, 3) := by decide +kernel
theorem dX11_weight_61 : decode cX11_weight 61 = .ok (.getfield 103, 3) := by decide +kernel
theorem dX11_weight_64 : decode cX11_weight 64 = .ok (.iload_n 1, 1) := by decide +kernel
theorem dX11_weight_65 : decode cX11_weight 65 = .ok (.aaload, 1) := by decide +kernel
theorem dX11_weight_66 : decode cX11_weight 66 = .ok (.aload_n 0, 1) := by decide +kernel
theorem dX11_weight_67 : decode cX11_weight 67 = .ok (.getfield 10, 3) := by decide +kernel
theorem dX11_weight_70 : decode cX11_weight 70 = .ok (.getfield 100, 3) := by decide +kernel
theorem dX11_weight_73 : decode cX11_weight 73 = .ok (.iload_n 1, 1) := by decide +kernel
theorem dX11_weight_74 : decode cX11_weight 74 = .ok (.iaload, 1) := by decide +kernel
theorem dX11_weight_75 : decode cX11_weight 75 = .ok (.iload_n 2, 1) := by decide +kernel
theorem dX11_weight_76 : decode cX11_weight 76 = .ok (.iastore, 1) := by decide +kernel
theorem dX11_weight_77 : decode cX11_weight 77 = .ok (.aload_n 0, 1) := by decide +kernel
theorem dX11_weight_78 : decode cX11_weight 78 = .ok (.getfield 10, 3) := by decide +kernel
theorem dX11_weight_81 : decode cX11_weight 81 = .ok (.getfield 100, 3) := by decide +kernel
theorem dX11_weight_84 : decode cX11_weight 84 = .ok (.iload_n 1, 1) := by decide +kernel
theorem dX11_weight_85 : decode cX11_weight 85 = .ok (.dup2, 1) := by decide +kernel
theorem dX11_weight_86 : decode cX11_weight 86 = .ok (.iaload, 1) := by decide +kernel
theorem dX11_weight_87 : decode cX11_weight 87 = .ok (.iconst 1, 1) := by decide +kernel
theorem dX11_weight_88 : decode cX11_weight 88 = .ok (.iadd, 1) := by decide +kernel
theorem dX11_weight_89 : decode cX11_weight 89 = .ok (.iastore, 1) := by decide +kernel
theorem dX11_weight_90 : decode cX11_weight 90 = .ok (.aload_n 0, 1) := by decide +kernel
theorem dX11_weight_91 : decode cX11_weight 91 = .ok (.getfield 10, 3) := by decide +kernel
theorem dX11_weight_94 : decode cX11_weight 94 = .ok (.getfield 100, 3) := by decide +kernel
theorem dX11_weight_97 : decode cX11_weight 97 = .ok (.iload_n 1, 1) := by decide +kernel
theorem dX11_weight_98 : decode cX11_weight 98 = .ok (.iaload, 1) := by decide +kernel
theorem dX11_weight_99 : decode cX11_weight 99 = .ok (.ireturn, 1) := by decide +kernel
set_option maxRecDepth 20000 in
theorem ggX11_program_X6_reset : GoodIn wsX11_program wsX6_reset := goodIn_r _ [7, 8, 9, 10, 21, 22, 23, 24, 25, 26, 27] (by decide +kernel) (by decide +kernel)
set_option maxRecDepth 20000 in
theorem gX11_program_X6_reset : GoodIn wsX11_program (wsV RX11 107 RX6 yX6_reset wsX6_reset) := goodIn_app (goodIn_of _ (by decide +kernel)) ggX11_program_X6_reset
theorem dX11_program_0 : decode cX11_program 0 = .ok (.aload_n 0, 1) := by decide +kernel
theorem dX11_program_1 : decode cX11_program 1 = .ok (.getfield 65, 3) := by decide +kernel
theorem dX11_program_4 : decode cX11_program 4 = .ok (.iconst 4, 1) := by decide +kernel
theorem dX11_program_5 : decode cX11_program 5 = .ok (.if_icmp .lt 6, 3) := by decide +kernel
theorem dX11_program_8 : decode cX11_program 8 = .ok (.bipush (-2), 2) := by decide +kernel
theorem dX11_program_10 : decode cX11_program 10 = .ok (.ireturn, 1) := by decide +kernel
theorem dX11_program_11 : decode cX11_program 11 = .ok (.aload_n 0, 1) := by decide +kernel
theorem dX11_program_12 : decode cX11_program 12 = .ok (.getfield 32, 3) := by decide +kernel
theorem dX11_program_15 : decode cX11_program 15 = .ok (.aload_n 0, 1) := by decide +kernel
theorem dX11_program_16 : decode cX11_program 16 = .ok (.getfield 65, 3) := by decide +kernel
theorem dX11_program_19 : decode cX11_program 19 = .ok (.aaload, 1) := by decide +kernel
theorem dX11_program_20 : decode cX11_program 20 = .ok (.invokevirtual 107, 3) := by decide +kernel
theorem dX11_program_23 : decode cX11_program 23 = .ok (.aload_n 0, 1) := by decide +kernel
theorem dX11_program_24 : decode cX11_program 24 = .ok (.dup, 1) := by decide +kernel
theorem dX11_program_25 : decode cX11_program 25 = .ok (.getfield 65, 3) := by decide +kernel
theorem dX11_program_28 : decode cX11_program 28 = .ok (.iconst 1, 1) := by decide +kernel
theorem dX11_program_29 : decode cX11_program 29 = .ok (.iadd, 1) := by decide +kernel
theorem dX11_program_30 : decode cX11_program 30 = .ok (.putfield 65, 3) := by decide +kernel
theorem dX11_program_33 : decode cX11_program 33 = .ok (.aload_n 0, 1) := by decide +kernel
theorem dX11_program_34 : decode cX11_program 34 = .ok (.getfield 65, 3) := by decide +kernel
theorem dX11_program_37 : decode cX11_program 37 = .ok (.iconst 1, 1) := by decide +kernel
theorem dX11_program_38 : decode cX11_program 38 = .ok (.isub, 1) := by decide +kernel
theorem dX11_program_39 : decode cX11_program 39 = .ok (.ireturn, 1) := by decide +kernel
set_option maxRecDepth 20000 in
theorem ggX11_act_X11_isProgram : GoodIn wsX11_act wsX11_isProgram := goodIn_r _ [11, 12, 22, 23, 24, 25, 26, 27, 28, 29, 30, 31] (by decide +kernel) (by decide +kernel)
set_option maxRecDepth 20000 in
theorem gX11_act_X11_isProgram : GoodIn wsX11_act (wsV RX11 108 RX11 yX11_isProgram wsX11_isProgram) := goodIn_app (goodIn_of _ (by decide +kernel)) ggX11_act_X11_isProgram
set_option maxRecDepth 20000 in
theorem ggX11_act_X11_isSlot : GoodIn wsX11_act wsX11_isSlot := goodIn_r _ [15] (by decide +kernel) (by decide +kernel)
set_option maxRecDepth 20000 in
theorem gX11_act_X11_isSlot : GoodIn wsX11_act (va_wsS RX11 111 yX11_isSlot wsX11_isSlot) := goodIn_app (goodIn_of _ (by decide +kernel)) ggX11_act_X11_isSlot
set_option maxRecDepth 20000 in
theorem ggX11_act_X11_fits : GoodIn wsX11_act wsX11_fits := goodIn_r _ [18, 19, 20, 21] (by decide +kernel) (by decide +kernel)
set_option maxRecDepth 20000 in
theorem gX11_act_X11_fits : GoodIn wsX11_act (va_wsS RX11 114 yX11_fits wsX11_fits) := goodIn_app (goodIn_of _ (by decide +kernel)) ggX11_act_X11_fits
theorem dX11_act_0 : decode cX11_act 0 = .ok (.aload_n 0, 1) := by decide +kernel
theorem dX11_act_1 : decode cX11_act 1 = .ok (.iload_n 1, 1) := by decide +kernel
theorem dX11_act_2 : decode cX11_act 2 = .ok (.invokevirtual 108, 3) := by decide +kernel
theorem dX11_act_5 : decode cX11_act 5 = .ok (.ifCond .eq 31, 3) := by decide +kernel
theorem dX11_act_8 : decode cX11_act 8 = .ok (.iload_n 2, 1) := by decide +kernel
theorem dX11_act_9 : decode cX11_act 9 = .ok (.ifCond .lt 27, 3) := by decide +kernel
theorem dX11_act_12 : decode cX11_act 12 = .ok (.iload_n 2, 1) := by decide +kernel
theorem dX11_act_13 : decode cX11_act 13 = .ok (.bipush 12, 2) := by decide +kernel
theorem dX11_act_15 : decode cX11_act 15 = .ok (.if_icmp .gt 21, 3) := by decide +kernel
theorem dX11_act_18 : decode cX11_act 18 = .ok (.iload_n 3, 1) := by decide +kernel
theorem dX11_act_19 : decode cX11_act 19 = .ok (.invokestatic 111, 3) := by decide +kernel
theorem dX11_act_22 : decode cX11_act 22 = .ok (.ifCond .eq 14, 3) := by decide +kernel
theorem dX11_act_25 : decode cX11_act 25 = .ok (.iload_n 2, 1) := by decide +kernel
theorem dX11_act_26 : decode cX11_act 26 = .ok (.iload 4, 2) := by decide +kernel
theorem dX11_act_28 : decode cX11_act 28 = .ok (.iload 5, 2) := by decide +kernel
theorem dX11_act_30 : decode cX11_act 30 = .ok (.invokestatic 114, 3) := by decide +kernel
theorem dX11_act_33 : decode cX11_act 33 = .ok (.ifCond .ne 5, 3) := by decide +kernel
theorem dX11_act_36 : decode cX11_act 36 = .ok (.iconst (-1), 1) := by decide +kernel
theorem dX11_act_37 : decode cX11_act 37 = .ok (.ireturn, 1) := by decide +kernel
theorem dX11_act_38 : decode cX11_act 38 = .ok (.aload_n 0, 1) := by decide +kernel
theorem dX11_act_39 : decode cX11_act 39 = .ok (.getfield 32, 3) := by decide +kernel
theorem dX11_act_42 : decode cX11_act 42 = .ok (.iload_n 1, 1) := by decide +kernel
theorem dX11_act_43 : decode cX11_act 43 = .ok (.aaload, 1) := by decide +kernel
theorem dX11_act_44 : decode cX11_act 44 = .ok (.astore 6, 2) := by decide +kernel
theorem dX11_act_46 : decode cX11_act 46 = .ok (.aload 6, 2) := by decide +kernel
theorem dX11_act_48 : decode cX11_act 48 = .ok (.getfield 118, 3) := by decide +kernel
theorem dX11_act_51 : decode cX11_act 51 = .ok (.bipush 20, 2) := by decide +kernel
theorem dX11_act_53 : decode cX11_act 53 = .ok (.if_icmp .lt 6, 3) := by decide +kernel
theorem dX11_act_56 : decode cX11_act 56 = .ok (.bipush (-2), 2) := by decide +kernel
theorem dX11_act_58 : decode cX11_act 58 = .ok (.ireturn, 1) := by decide +kernel
theorem dX11_act_59 : decode cX11_act 59 = .ok (.aload 6, 2) := by decide +kernel
theorem dX11_act_61 : decode cX11_act 61 = .ok (.getfield 119, 3) := by decide +kernel
theorem dX11_act_64 : decode cX11_act 64 = .ok (.aload 6, 2) := by decide +kernel
theorem dX11_act_66 : decode cX11_act 66 = .ok (.getfield 118, 3) := by decide +kernel
theorem dX11_act_69 : decode cX11_act 69 = .ok (.iload_n 2, 1) := by decide +kernel
theorem dX11_act_70 : decode cX11_act 70 = .ok (.iastore, 1) := by decide +kernel
theorem dX11_act_71 : decode cX11_act 71 = .ok (.aload 6, 2) := by decide +kernel
theorem dX11_act_73 : decode cX11_act 73 = .ok (.getfield 122, 3) := by decide +kernel
theorem dX11_act_76 : decode cX11_act 76 = .ok (.aload 6, 2) := by decide +kernel
theorem dX11_act_78 : decode cX11_act 78 = .ok (.getfield 118, 3) := by decide +kernel
theorem dX11_act_81 : decode cX11_act 81 = .ok (.iload_n 3, 1) := by decide +kernel
theorem dX11_act_82 : decode cX11_act 82 = .ok (.iastore, 1) := by decide +kernel
theorem dX11_act_83 : decode cX11_act 83 = .ok (.aload 6, 2) := by decide +kernel
theorem dX11_act_85 : decode cX11_act 85 = .ok (.getfield 125, 3) := by decide +kernel
theorem dX11_act_88 : decode cX11_act 88 = .ok (.aload 6, 2) := by decide +kernel
theorem dX11_act_90 : decode cX11_act 90 = .ok (.getfield 118, 3) := by decide +kernel
theorem dX11_act_93 : decode cX11_act 93 = .ok (.iload 4, 2) := by decide +kernel
theorem dX11_act_95 : decode cX11_act 95 = .ok (.iastore, 1) := by decide +kernel
theorem dX11_act_96 : decode cX11_act 96 = .ok (.aload 6, 2) := by decide +kernel
theorem dX11_act_98 : decode cX11_act 98 = .ok (.getfield 128, 3) := by decide +kernel
theorem dX11_act_101 : decode cX11_act 101 = .ok (.aload 6, 2) := by decide +kernel
theorem dX11_act_103 : decode cX11_act 103 = .ok (.getfield 118, 3) := by decide +kernel
theorem dX11_act_106 : decode cX11_act 106 = .ok (.iload 5, 2) := by decide +kernel
theorem dX11_act_108 : decode cX11_act 108 = .ok (.iastore, 1) := by decide +kernel
theorem dX11_act_109 : decode cX11_act 109 = .ok (.aload 6, 2) := by decide +kernel
theorem dX11_act_111 : decode cX11_act 111 = .ok (.dup, 1) := by decide +kernel
theorem dX11_act_112 : decode cX11_act 112 = .ok (.getfield 118, 3) := by decide +kernel
theorem dX11_act_115 : decode cX11_act 115 = .ok (.iconst 1, 1) := by decide +kernel
theorem dX11_act_116 : decode cX11_act 116 = .ok (.iadd, 1) := by decide +kernel
theorem dX11_act_117 : decode cX11_act 117 = .ok (.putfield 118, 3) := by decide +kernel
theorem dX11_act_120 : decode cX11_act 120 = .ok (.aload 6, 2) := by decide +kernel
theorem dX11_act_122 : decode cX11_act 122 = .ok (.getfield 118, 3) := by decide +kernel
theorem dX11_act_125 : decode cX11_act 125 = .ok (.ireturn, 1) := by decide +kernel
set_option maxRecDepth 20000 in
theorem ggX11_set_X11_isAct : GoodIn wsX11_set wsX11_isAct := goodIn_r _ [9, 1, 10, 11, 12, 13, 8, 14, 15, 22, 23, 24, 25, 26, 27, 28, 29, 30, 31, 32, 33, 34, 35, 36, 37, 38] (by decide +kernel) (by decide +kernel)
set_option maxRecDepth 20000 in
theorem gX11_set_X11_isAct : GoodIn wsX11_set (wsV RX11 131 RX11 yX11_isAct wsX11_isAct) := goodIn_app (goodIn_of _ (by decide +kernel)) ggX11_set_X11_isAct
set_option maxRecDepth 20000 in
theorem ggX11_set_X11_fits : GoodIn wsX11_set wsX11_fits := goodIn_r _ [18, 19, 20, 21] (by decide +kernel) (by decide +kernel)
set_option maxRecDepth 20000 in
theorem gX11_set_X11_fits : GoodIn wsX11_set (va_wsS RX11 114 yX11_fits wsX11_fits) := goodIn_app (goodIn_of _ (by decide +kernel)) ggX11_set_X11_fits
theorem dX11_set_0 : decode cX11_set 0 = .ok (.aload_n 0, 1) := by decide +kernel
theorem dX11_set_1 : decode cX11_set 1 = .ok (.iload_n 1, 1) := by decide +kernel
theorem dX11_set_2 : decode cX11_set 2 = .ok (.iload_n 2, 1) := by decide +kernel
theorem dX11_set_3 : decode cX11_set 3 = .ok (.invokevirtual 131, 3) := by decide +kernel
theorem dX11_set_6 : decode cX11_set 6 = .ok (.ifCond .eq 23, 3) := by decide +kernel
theorem dX11_set_9 : decode cX11_set 9 = .ok (.aload_n 0, 1) := by decide +kernel
theorem dX11_set_10 : decode cX11_set 10 = .ok (.getfield 32, 3) := by decide +kernel
theorem dX11_set_13 : decode cX11_set 13 = .ok (.iload_n 1, 1) := by decide +kernel
theorem dX11_set_14 : decode cX11_set 14 = .ok (.aaload, 1) := by decide +kernel
theorem dX11_set_15 : decode cX11_set 15 = .ok (.getfield 119, 3) := by decide +kernel
theorem dX11_set_18 : decode cX11_set 18 = .ok (.iload_n 2, 1) := by decide +kernel
theorem dX11_set_19 : decode cX11_set 19 = .ok (.iaload, 1) := by decide +kernel
theorem dX11_set_20 : decode cX11_set 20 = .ok (.iload_n 3, 1) := by decide +kernel
theorem dX11_set_21 : decode cX11_set 21 = .ok (.iload 4, 2) := by decide +kernel
theorem dX11_set_23 : decode cX11_set 23 = .ok (.invokestatic 114, 3) := by decide +kernel
theorem dX11_set_26 : decode cX11_set 26 = .ok (.ifCond .ne 5, 3) := by decide +kernel
theorem dX11_set_29 : decode cX11_set 29 = .ok (.iconst (-1), 1) := by decide +kernel
theorem dX11_set_30 : decode cX11_set 30 = .ok (.ireturn, 1) := by decide +kernel
theorem dX11_set_31 : decode cX11_set 31 = .ok (.aload_n 0, 1) := by decide +kernel
theorem dX11_set_32 : decode cX11_set 32 = .ok (.getfield 32, 3) := by decide +kernel
theorem dX11_set_35 : decode cX11_set 35 = .ok (.iload_n 1, 1) := by decide +kernel
theorem dX11_set_36 : decode cX11_set 36 = .ok (.aaload, 1) := by decide +kernel
theorem dX11_set_37 : decode cX11_set 37 = .ok (.getfield 125, 3) := by decide +kernel
theorem dX11_set_40 : decode cX11_set 40 = .ok (.iload_n 2, 1) := by decide +kernel
theorem dX11_set_41 : decode cX11_set 41 = .ok (.iload_n 3, 1) := by decide +kernel
theorem dX11_set_42 : decode cX11_set 42 = .ok (.iastore, 1) := by decide +kernel
theorem dX11_set_43 : decode cX11_set 43 = .ok (.aload_n 0, 1) := by decide +kernel
theorem dX11_set_44 : decode cX11_set 44 = .ok (.getfield 32, 3) := by decide +kernel
theorem dX11_set_47 : decode cX11_set 47 = .ok (.iload_n 1, 1) := by decide +kernel
theorem dX11_set_48 : decode cX11_set 48 = .ok (.aaload, 1) := by decide +kernel
theorem dX11_set_49 : decode cX11_set 49 = .ok (.getfield 128, 3) := by decide +kernel
theorem dX11_set_52 : decode cX11_set 52 = .ok (.iload_n 2, 1) := by decide +kernel
theorem dX11_set_53 : decode cX11_set 53 = .ok (.iload 4, 2) := by decide +kernel
theorem dX11_set_55 : decode cX11_set 55 = .ok (.iastore, 1) := by decide +kernel
theorem dX11_set_56 : decode cX11_set 56 = .ok (.iconst 0, 1) := by decide +kernel
theorem dX11_set_57 : decode cX11_set 57 = .ok (.ireturn, 1) := by decide +kernel
set_option maxRecDepth 20000 in
theorem ggX11_told_X11_isAct : GoodIn wsX11_told wsX11_isAct := goodIn_r _ [10, 1, 11, 12, 13, 14, 9, 15, 16, 17, 18, 19, 20, 21, 22, 23, 24, 25, 26, 27, 28, 29, 30, 31, 32, 33] (by decide +kernel) (by decide +kernel)
set_option maxRecDepth 20000 in
theorem gX11_told_X11_isAct : GoodIn wsX11_told (wsV RX11 131 RX11 yX11_isAct wsX11_isAct) := goodIn_app (goodIn_of _ (by decide +kernel)) ggX11_told_X11_isAct
theorem dX11_told_0 : decode cX11_told 0 = .ok (.aload_n 0, 1) := by decide +kernel
theorem dX11_told_1 : decode cX11_told 1 = .ok (.iload_n 1, 1) := by decide +kernel
theorem dX11_told_2 : decode cX11_told 2 = .ok (.iload_n 2, 1) := by decide +kernel
theorem dX11_told_3 : decode cX11_told 3 = .ok (.invokevirtual 131, 3) := by decide +kernel
theorem dX11_told_6 : decode cX11_told 6 = .ok (.ifCond .ne 5, 3) := by decide +kernel
theorem dX11_told_9 : decode cX11_told 9 = .ok (.iconst (-1), 1) := by decide +kernel
theorem dX11_told_10 : decode cX11_told 10 = .ok (.ireturn, 1) := by decide +kernel
theorem dX11_told_11 : decode cX11_told 11 = .ok (.iload_n 3, 1) := by decide +kernel
theorem dX11_told_12 : decode cX11_told 12 = .ok (.tableswitch 80 0 3 #[32, 44, 56, 68], 32) := by decide +kernel
theorem dX11_told_44 : decode cX11_told 44 = .ok (.aload_n 0, 1) := by decide +kernel
theorem dX11_told_45 : decode cX11_told 45 = .ok (.getfield 32, 3) := by decide +kernel
theorem dX11_told_48 : decode cX11_told 48 = .ok (.iload_n 1, 1) := by decide +kernel
theorem dX11_told_49 : decode cX11_told 49 = .ok (.aaload, 1) := by decide +kernel
theorem dX11_told_50 : decode cX11_told 50 = .ok (.getfield 119, 3) := by decide +kernel
theorem dX11_told_53 : decode cX11_told 53 = .ok (.iload_n 2, 1) := by decide +kernel
theorem dX11_told_54 : decode cX11_told 54 = .ok (.iaload, 1) := by decide +kernel
theorem dX11_told_55 : decode cX11_told 55 = .ok (.ireturn, 1) := by decide +kernel
theorem dX11_told_56 : decode cX11_told 56 = .ok (.aload_n 0, 1) := by decide +kernel
theorem dX11_told_57 : decode cX11_told 57 = .ok (.getfield 32, 3) := by decide +kernel
theorem dX11_told_60 : decode cX11_told 60 = .ok (.iload_n 1, 1) := by decide +kernel
theorem dX11_told_61 : decode cX11_told 61 = .ok (.aaload, 1) := by decide +kernel
theorem dX11_told_62 : decode cX11_told 62 = .ok (.getfield 122, 3) := by decide +kernel
theorem dX11_told_65 : decode cX11_told 65 = .ok (.iload_n 2, 1) := by decide +kernel
theorem dX11_told_66 : decode cX11_told 66 = .ok (.iaload, 1) := by decide +kernel
theorem dX11_told_67 : decode cX11_told 67 = .ok (.ireturn, 1) := by decide +kernel
theorem dX11_told_68 : decode cX11_told 68 = .ok (.aload_n 0, 1) := by decide +kernel
theorem dX11_told_69 : decode cX11_told 69 = .ok (.getfield 32, 3) := by decide +kernel
theorem dX11_told_72 : decode cX11_told 72 = .ok (.iload_n 1, 1) := by decide +kernel
theorem dX11_told_73 : decode cX11_told 73 = .ok (.aaload, 1) := by decide +kernel
theorem dX11_told_74 : decode cX11_told 74 = .ok (.getfield 125, 3) := by decide +kernel
theorem dX11_told_77 : decode cX11_told 77 = .ok (.iload_n 2, 1) := by decide +kernel
theorem dX11_told_78 : decode cX11_told 78 = .ok (.iaload, 1) := by decide +kernel
theorem dX11_told_79 : decode cX11_told 79 = .ok (.ireturn, 1) := by decide +kernel
theorem dX11_told_80 : decode cX11_told 80 = .ok (.aload_n 0, 1) := by decide +kernel
theorem dX11_told_81 : decode cX11_told 81 = .ok (.getfield 32, 3) := by decide +kernel
theorem dX11_told_84 : decode cX11_told 84 = .ok (.iload_n 1, 1) := by decide +kernel
theorem dX11_told_85 : decode cX11_told 85 = .ok (.aaload, 1) := by decide +kernel
theorem dX11_told_86 : decode cX11_told 86 = .ok (.getfield 128, 3) := by decide +kernel
theorem dX11_told_89 : decode cX11_told 89 = .ok (.iload_n 2, 1) := by decide +kernel
theorem dX11_told_90 : decode cX11_told 90 = .ok (.iaload, 1) := by decide +kernel
theorem dX11_told_91 : decode cX11_told 91 = .ok (.ireturn, 1) := by decide +kernel
theorem dX11_told_92 : decode cX11_told 92 = .ok (.iconst (-1), 1) := by decide +kernel
theorem dX11_told_93 : decode cX11_told 93 = .ok (.ireturn, 1) := by decide +kernel
set_option maxRecDepth 20000 in
theorem ggX11_run_X11_isProgram : GoodIn wsX11_run wsX11_isProgram := goodIn_r _ [7, 8, 157, 158, 159, 160, 161, 162, 163, 164, 165, 166] (by decide +kernel) (by decide +kernel)
set_option maxRecDepth 20000 in
theorem gX11_run_X11_isProgram : GoodIn wsX11_run (wsV RX11 108 RX11 yX11_isProgram wsX11_isProgram) := goodIn_app (goodIn_of _ (by decide +kernel)) ggX11_run_X11_isProgram
set_option maxRecDepth 20000 in
theorem ggX11_run_X11_runOnce : GoodIn wsX11_run wsX11_runOnce := goodIn_r _ [12, 13, 14, 15, 16, 17, 18, 19, 20, 21, 22, 23, 24, 25, 26, 27, 28, 29, 30, 31, 32, 33, 34, 35, 36, 37, 38, 39, 40, 41, 42, 43, 44, 45, 46, 47, 48, 49, 50, 51, 52, 53, 54, 55, 56, 57, 58, 59, 60, 61, 62, 63, 64, 65, 66, 67, 68, 69, 70, 71, 72, 73, 74, 75, 76, 77, 78, 79, 80, 81, 82, 83, 84, 85, 86, 87, 88, 89, 90, 91, 92, 93, 94, 95, 96, 97, 98, 99, 100, 101, 102, 103, 104, 105, 106, 107, 108, 109, 110, 111, 112, 113, 114, 115, 116, 117, 118, 119, 120, 121, 122, 123, 124, 125, 126, 127, 128, 129, 130, 131, 132, 133, 134, 135, 136, 137, 138, 139, 140, 141, 142, 143, 144, 145, 146, 147, 148, 149, 150, 151, 152, 153, 154, 155, 156, 157, 158, 159, 160, 161, 162, 163, 164, 165, 166, 174, 175, 176, 177, 178, 179, 180, 181, 182, 183, 184, 167, 168, 169, 170, 171, 172, 173, 185, 186, 187, 188, 189, 190, 191, 192, 193, 194, 195, 196, 197, 198, 199] (by decide +kernel) (by decide +kernel)
set_option maxRecDepth 20000 in
theorem gX11_run_X11_runOnce : GoodIn wsX11_run (wsV RX11 135 RX11 yX11_runOnce wsX11_runOnce) := goodIn_app (goodIn_of _ (by decide +kernel)) ggX11_run_X11_runOnce
theorem dX11_run_0 : decode cX11_run 0 = .ok (.aload_n 0, 1) := by decide +kernel
theorem dX11_run_1 : decode cX11_run 1 = .ok (.iload_n 1, 1) := by decide +kernel
theorem dX11_run_2 : decode cX11_run 2 = .ok (.invokevirtual 108, 3) := by decide +kernel
theorem dX11_run_5 : decode cX11_run 5 = .ok (.ifCond .ne 5, 3) := by decide +kernel
theorem dX11_run_8 : decode cX11_run 8 = .ok (.iconst (-1), 1) := by decide +kernel
theorem dX11_run_9 : decode cX11_run 9 = .ok (.ireturn, 1) := by decide +kernel
theorem dX11_run_10 : decode cX11_run 10 = .ok (.aload_n 0, 1) := by decide +kernel
theorem dX11_run_11 : decode cX11_run 11 = .ok (.aload_n 0, 1) := by decide +kernel
theorem dX11_run_12 : decode cX11_run 12 = .ok (.getfield 32, 3) := by decide +kernel
theorem dX11_run_15 : decode cX11_run 15 = .ok (.iload_n 1, 1) := by decide +kernel
theorem dX11_run_16 : decode cX11_run 16 = .ok (.aaload, 1) := by decide +kernel
theorem dX11_run_17 : decode cX11_run 17 = .ok (.invokevirtual 135, 3) := by decide +kernel
theorem dX11_run_20 : decode cX11_run 20 = .ok (.istore_n 2, 1) := by decide +kernel
theorem dX11_run_21 : decode cX11_run 21 = .ok (.iload_n 2, 1) := by decide +kernel
theorem dX11_run_22 : decode cX11_run 22 = .ok (.ifCond .ne 15, 3) := by decide +kernel
theorem dX11_run_25 : decode cX11_run 25 = .ok (.aload_n 0, 1) := by decide +kernel
theorem dX11_run_26 : decode cX11_run 26 = .ok (.getfield 32, 3) := by decide +kernel
theorem dX11_run_29 : decode cX11_run 29 = .ok (.iload_n 1, 1) := by decide +kernel
theorem dX11_run_30 : decode cX11_run 30 = .ok (.aaload, 1) := by decide +kernel
theorem dX11_run_31 : decode cX11_run 31 = .ok (.getfield 118, 3) := by decide +kernel
theorem dX11_run_34 : decode cX11_run 34 = .ok (.goto 4, 3) := by decide +kernel
theorem dX11_run_37 : decode cX11_run 37 = .ok (.iload_n 2, 1) := by decide +kernel
theorem dX11_run_38 : decode cX11_run 38 = .ok (.ireturn, 1) := by decide +kernel
set_option maxRecDepth 20000 in
theorem ggX11_years_X11_isProgram : GoodIn wsX11_years wsX11_isProgram := goodIn_r _ [6, 7, 156, 157, 158, 159, 160, 161, 162, 163, 164, 165] (by decide +kernel) (by decide +kernel)
set_option maxRecDepth 20000 in
theorem gX11_years_X11_isProgram : GoodIn wsX11_years (wsV RX11 108 RX11 yX11_isProgram wsX11_isProgram) := goodIn_app (goodIn_of _ (by decide +kernel)) ggX11_years_X11_isProgram
set_option maxRecDepth 20000 in
theorem ggX11_years_X11_runOnce : GoodIn wsX11_years wsX11_runOnce := goodIn_r _ [11, 12, 13, 14, 15, 16, 17, 18, 19, 20, 21, 22, 23, 24, 25, 26, 27, 28, 29, 30, 31, 32, 33, 34, 35, 36, 37, 38, 39, 40, 41, 42, 43, 44, 45, 46, 47, 48, 49, 50, 51, 52, 53, 54, 55, 56, 57, 58, 59, 60, 61, 62, 63, 64, 65, 66, 67, 68, 69, 70, 71, 72, 73, 74, 75, 76, 77, 78, 79, 80, 81, 82, 83, 84, 85, 86, 87, 88, 89, 90, 91, 92, 93, 94, 95, 96, 97, 98, 99, 100, 101, 102, 103, 104, 105, 106, 107, 108, 109, 110, 111, 112, 113, 114, 115, 116, 117, 118, 119, 120, 121, 122, 123, 124, 125, 126, 127, 128, 129, 130, 131, 132, 133, 134, 135, 136, 137, 138, 139, 140, 141, 142, 143, 144, 145, 146, 147, 148, 149, 150, 151, 152, 153, 154, 155, 156, 157, 158, 159, 160, 161, 162, 163, 164, 165, 166, 167, 168, 169, 170, 171, 172, 173, 174, 175, 176, 177, 178, 179, 180, 181, 182, 183, 184, 185, 186, 187, 188, 189, 190, 191, 192, 193, 194, 195, 196, 197, 198] (by decide +kernel) (by decide +kernel)
set_option maxRecDepth 20000 in
theorem gX11_years_X11_runOnce : GoodIn wsX11_years (wsV RX11 135 RX11 yX11_runOnce wsX11_runOnce) := goodIn_app (goodIn_of _ (by decide +kernel)) ggX11_years_X11_runOnce
theorem dX11_years_0 : decode cX11_years 0 = .ok (.aload_n 0, 1) := by decide +kernel
theorem dX11_years_1 : decode cX11_years 1 = .ok (.iload_n 1, 1) := by decide +kernel
theorem dX11_years_2 : decode cX11_years 2 = .ok (.invokevirtual 108, 3) := by decide +kernel
theorem dX11_years_5 : decode cX11_years 5 = .ok (.ifCond .eq 13, 3) := by decide +kernel
theorem dX11_years_8 : decode cX11_years 8 = .ok (.iload_n 2, 1) := by decide +kernel
theorem dX11_years_9 : decode cX11_years 9 = .ok (.ifCond .lt 9, 3) := by decide +kernel
theorem dX11_years_12 : decode cX11_years 12 = .ok (.iload_n 2, 1) := by decide +kernel
theorem dX11_years_13 : decode cX11_years 13 = .ok (.bipush 40, 2) := by decide +kernel
theorem dX11_years_15 : decode cX11_years 15 = .ok (.if_icmp .le 5, 3) := by decide +kernel
theorem dX11_years_18 : decode cX11_years 18 = .ok (.iconst (-1), 1) := by decide +kernel
theorem dX11_years_19 : decode cX11_years 19 = .ok (.ireturn, 1) := by decide +kernel
theorem dX11_years_20 : decode cX11_years 20 = .ok (.iconst 0, 1) := by decide +kernel
theorem dX11_years_21 : decode cX11_years 21 = .ok (.istore_n 3, 1) := by decide +kernel
theorem dX11_years_22 : decode cX11_years 22 = .ok (.iload_n 3, 1) := by decide +kernel
theorem dX11_years_23 : decode cX11_years 23 = .ok (.iload_n 2, 1) := by decide +kernel
theorem dX11_years_24 : decode cX11_years 24 = .ok (.if_icmp .ge 24, 3) := by decide +kernel
theorem dX11_years_27 : decode cX11_years 27 = .ok (.aload_n 0, 1) := by decide +kernel
theorem dX11_years_28 : decode cX11_years 28 = .ok (.aload_n 0, 1) := by decide +kernel
theorem dX11_years_29 : decode cX11_years 29 = .ok (.getfield 32, 3) := by decide +kernel
theorem dX11_years_32 : decode cX11_years 32 = .ok (.iload_n 1, 1) := by decide +kernel
theorem dX11_years_33 : decode cX11_years 33 = .ok (.aaload, 1) := by decide +kernel
theorem dX11_years_34 : decode cX11_years 34 = .ok (.invokevirtual 135, 3) := by decide +kernel
theorem dX11_years_37 : decode cX11_years 37 = .ok (.ifCond .eq 5, 3) := by decide +kernel
theorem dX11_years_40 : decode cX11_years 40 = .ok (.iload_n 3, 1) := by decide +kernel
theorem dX11_years_41 : decode cX11_years 41 = .ok (.ireturn, 1) := by decide +kernel
theorem dX11_years_42 : decode cX11_years 42 = .ok (.iinc 3 1, 3) := by decide +kernel
theorem dX11_years_45 : decode cX11_years 45 = .ok (.goto (-23), 3) := by decide +kernel
theorem dX11_years_48 : decode cX11_years 48 = .ok (.iload_n 2, 1) := by decide +kernel
theorem dX11_years_49 : decode cX11_years 49 = .ok (.ireturn, 1) := by decide +kernel
theorem dX11_failed_0 : decode cX11_failed 0 = .ok (.aload_n 0, 1) := by decide +kernel
theorem dX11_failed_1 : decode cX11_failed 1 = .ok (.getfield 45, 3) := by decide +kernel
theorem dX11_failed_4 : decode cX11_failed 4 = .ok (.getfield 139, 3) := by decide +kernel
theorem dX11_failed_7 : decode cX11_failed 7 = .ok (.ireturn, 1) := by decide +kernel
theorem dX11_account_0 : decode cX11_account 0 = .ok (.iload_n 1, 1) := by decide +kernel
theorem dX11_account_1 : decode cX11_account 1 = .ok (.ifCond .lt 9, 3) := by decide +kernel
theorem dX11_account_4 : decode cX11_account 4 = .ok (.iload_n 1, 1) := by decide +kernel
theorem dX11_account_5 : decode cX11_account 5 = .ok (.bipush 8, 2) := by decide +kernel
theorem dX11_account_7 : decode cX11_account 7 = .ok (.if_icmp .lt 13, 3) := by decide +kernel
theorem dX11_account_10 : decode cX11_account 10 = .ok (.new 142, 3) := by decide +kernel
theorem dX11_account_13 : decode cX11_account 13 = .ok (.dup, 1) := by decide +kernel
theorem dX11_account_14 : decode cX11_account 14 = .ok (.ldc 144, 2) := by decide +kernel
theorem dX11_account_16 : decode cX11_account 16 = .ok (.invokespecial 146, 3) := by decide +kernel
theorem dX11_account_19 : decode cX11_account 19 = .ok (.athrow, 1) := by decide +kernel
theorem dX11_account_20 : decode cX11_account 20 = .ok (.aload_n 0, 1) := by decide +kernel
theorem dX11_account_21 : decode cX11_account 21 = .ok (.getfield 26, 3) := by decide +kernel
theorem dX11_account_24 : decode cX11_account 24 = .ok (.getfield 149, 3) := by decide +kernel
theorem dX11_account_27 : decode cX11_account 27 = .ok (.iload_n 1, 1) := by decide +kernel
theorem dX11_account_28 : decode cX11_account 28 = .ok (.laload, 1) := by decide +kernel
theorem dX11_account_29 : decode cX11_account 29 = .ok (.lreturn, 1) := by decide +kernel
set_option maxRecDepth 20000 in
theorem ggX11_slot_X11_isSlot : GoodIn wsX11_slot wsX11_isSlot := goodIn_r _ [10] (by decide +kernel) (by decide +kernel)
set_option maxRecDepth 20000 in
theorem gX11_slot_X11_isSlot : GoodIn wsX11_slot (va_wsS RX11 111 yX11_isSlot wsX11_isSlot) := goodIn_app (goodIn_of _ (by decide +kernel)) ggX11_slot_X11_isSlot
theorem dX11_slot_0 : decode cX11_slot 0 = .ok (.iload_n 1, 1) := by decide +kernel
theorem dX11_slot_1 : decode cX11_slot 1 = .ok (.invokestatic 111, 3) := by decide +kernel
theorem dX11_slot_4 : decode cX11_slot 4 = .ok (.ifCond .eq 12, 3) := by decide +kernel
theorem dX11_slot_7 : decode cX11_slot 7 = .ok (.iload_n 2, 1) := by decide +kernel
theorem dX11_slot_8 : decode cX11_slot 8 = .ok (.ifCond .lt 8, 3) := by decide +kernel
theorem dX11_slot_11 : decode cX11_slot 11 = .ok (.iload_n 2, 1) := by decide +kernel
theorem dX11_slot_12 : decode cX11_slot 12 = .ok (.iconst 2, 1) := by decide +kernel
theorem dX11_slot_13 : decode cX11_slot 13 = .ok (.if_icmp .le 13, 3) := by decide +kernel
theorem dX11_slot_16 : decode cX11_slot 16 = .ok (.new 142, 3) := by decide +kernel
theorem dX11_slot_19 : decode cX11_slot 19 = .ok (.dup, 1) := by decide +kernel
theorem dX11_slot_20 : decode cX11_slot 20 = .ok (.ldc 153, 2) := by decide +kernel
theorem dX11_slot_22 : decode cX11_slot 22 = .ok (.invokespecial 146, 3) := by decide +kernel
theorem dX11_slot_25 : decode cX11_slot 25 = .ok (.athrow, 1) := by decide +kernel
theorem dX11_slot_26 : decode cX11_slot 26 = .ok (.iload_n 2, 1) := by decide +kernel
theorem dX11_slot_27 : decode cX11_slot 27 = .ok (.iconst 2, 1) := by decide +kernel
theorem dX11_slot_28 : decode cX11_slot 28 = .ok (.if_icmp .ne 21, 3) := by decide +kernel
theorem dX11_slot_31 : decode cX11_slot 31 = .ok (.aload_n 0, 1) := by decide +kernel
theorem dX11_slot_32 : decode cX11_slot 32 = .ok (.getfield 45, 3) := by decide +kernel
theorem dX11_slot_35 : decode cX11_slot 35 = .ok (.getfield 155, 3) := by decide +kernel
theorem dX11_slot_38 : decode cX11_slot 38 = .ok (.iload_n 1, 1) := by decide +kernel
theorem dX11_slot_39 : decode cX11_slot 39 = .ok (.baload, 1) := by decide +kernel
theorem dX11_slot_40 : decode cX11_slot 40 = .ok (.ifCond .eq 7, 3) := by decide +kernel
theorem dX11_slot_43 : decode cX11_slot 43 = .ok (.lconst 1, 1) := by decide +kernel
theorem dX11_slot_44 : decode cX11_slot 44 = .ok (.goto 4, 3) := by decide +kernel
theorem dX11_slot_47 : decode cX11_slot 47 = .ok (.lconst 0, 1) := by decide +kernel
theorem dX11_slot_48 : decode cX11_slot 48 = .ok (.lreturn, 1) := by decide +kernel
theorem dX11_slot_49 : decode cX11_slot 49 = .ok (.iload_n 2, 1) := by decide +kernel
theorem dX11_slot_50 : decode cX11_slot 50 = .ok (.ifCond .ne 15, 3) := by decide +kernel
theorem dX11_slot_53 : decode cX11_slot 53 = .ok (.aload_n 0, 1) := by decide +kernel
theorem dX11_slot_54 : decode cX11_slot 54 = .ok (.getfield 45, 3) := by decide +kernel
theorem dX11_slot_57 : decode cX11_slot 57 = .ok (.getfield 159, 3) := by decide +kernel
theorem dX11_slot_60 : decode cX11_slot 60 = .ok (.iload_n 1, 1) := by decide +kernel
theorem dX11_slot_61 : decode cX11_slot 61 = .ok (.laload, 1) := by decide +kernel
theorem dX11_slot_62 : decode cX11_slot 62 = .ok (.goto 12, 3) := by decide +kernel
theorem dX11_slot_65 : decode cX11_slot 65 = .ok (.aload_n 0, 1) := by decide +kernel
theorem dX11_slot_66 : decode cX11_slot 66 = .ok (.getfield 45, 3) := by decide +kernel
theorem dX11_slot_69 : decode cX11_slot 69 = .ok (.getfield 162, 3) := by decide +kernel
theorem dX11_slot_72 : decode cX11_slot 72 = .ok (.iload_n 1, 1) := by decide +kernel
theorem dX11_slot_73 : decode cX11_slot 73 = .ok (.laload, 1) := by decide +kernel
theorem dX11_slot_74 : decode cX11_slot 74 = .ok (.lreturn, 1) := by decide +kernel
theorem dX11_part_0 : decode cX11_part 0 = .ok (.iload_n 1, 1) := by decide +kernel
theorem dX11_part_1 : decode cX11_part 1 = .ok (.ifCond .lt 9, 3) := by decide +kernel
theorem dX11_part_4 : decode cX11_part 4 = .ok (.iload_n 1, 1) := by decide +kernel
theorem dX11_part_5 : decode cX11_part 5 = .ok (.bipush 8, 2) := by decide +kernel
theorem dX11_part_7 : decode cX11_part 7 = .ok (.if_icmp .lt 13, 3) := by decide +kernel
theorem dX11_part_10 : decode cX11_part 10 = .ok (.new 142, 3) := by decide +kernel
theorem dX11_part_13 : decode cX11_part 13 = .ok (.dup, 1) := by decide +kernel
theorem dX11_part_14 : decode cX11_part 14 = .ok (.ldc 165, 2) := by decide +kernel
theorem dX11_part_16 : decode cX11_part 16 = .ok (.invokespecial 146, 3) := by decide +kernel
theorem dX11_part_19 : decode cX11_part 19 = .ok (.athrow, 1) := by decide +kernel
theorem dX11_part_20 : decode cX11_part 20 = .ok (.aload_n 0, 1) := by decide +kernel
theorem dX11_part_21 : decode cX11_part 21 = .ok (.getfield 45, 3) := by decide +kernel
theorem dX11_part_24 : decode cX11_part 24 = .ok (.getfield 167, 3) := by decide +kernel
theorem dX11_part_27 : decode cX11_part 27 = .ok (.getfield 171, 3) := by decide +kernel
theorem dX11_part_30 : decode cX11_part 30 = .ok (.iload_n 1, 1) := by decide +kernel
theorem dX11_part_31 : decode cX11_part 31 = .ok (.laload, 1) := by decide +kernel
theorem dX11_part_32 : decode cX11_part 32 = .ok (.lreturn, 1) := by decide +kernel
theorem dX11_got_0 : decode cX11_got 0 = .ok (.iload_n 1, 1) := by decide +kernel
theorem dX11_got_1 : decode cX11_got 1 = .ok (.ifCond .lt 9, 3) := by decide +kernel
theorem dX11_got_4 : decode cX11_got 4 = .ok (.iload_n 1, 1) := by decide +kernel
theorem dX11_got_5 : decode cX11_got 5 = .ok (.bipush 12, 2) := by decide +kernel
theorem dX11_got_7 : decode cX11_got 7 = .ok (.if_icmp .lt 13, 3) := by decide +kernel
theorem dX11_got_10 : decode cX11_got 10 = .ok (.new 142, 3) := by decide +kernel
theorem dX11_got_13 : decode cX11_got 13 = .ok (.dup, 1) := by decide +kernel
theorem dX11_got_14 : decode cX11_got 14 = .ok (.ldc 176, 2) := by decide +kernel
theorem dX11_got_16 : decode cX11_got 16 = .ok (.invokespecial 146, 3) := by decide +kernel
theorem dX11_got_19 : decode cX11_got 19 = .ok (.athrow, 1) := by decide +kernel
theorem dX11_got_20 : decode cX11_got 20 = .ok (.aload_n 0, 1) := by decide +kernel
theorem dX11_got_21 : decode cX11_got 21 = .ok (.getfield 45, 3) := by decide +kernel
theorem dX11_got_24 : decode cX11_got 24 = .ok (.getfield 178, 3) := by decide +kernel
theorem dX11_got_27 : decode cX11_got 27 = .ok (.iload_n 1, 1) := by decide +kernel
theorem dX11_got_28 : decode cX11_got 28 = .ok (.laload, 1) := by decide +kernel
theorem dX11_got_29 : decode cX11_got 29 = .ok (.lreturn, 1) := by decide +kernel
set_option maxRecDepth 20000 in
theorem ggX11_carried_X11_isProgram : GoodIn wsX11_carried wsX11_isProgram := goodIn_r _ [10, 11, 12, 13, 14, 15, 16, 17, 18, 19, 20, 21] (by decide +kernel) (by decide +kernel)
set_option maxRecDepth 20000 in
theorem gX11_carried_X11_isProgram : GoodIn wsX11_carried (wsV RX11 108 RX11 yX11_isProgram wsX11_isProgram) := goodIn_app (goodIn_of _ (by decide +kernel)) ggX11_carried_X11_isProgram
theorem dX11_carried_0 : decode cX11_carried 0 = .ok (.aload_n 0, 1) := by decide +kernel
theorem dX11_carried_1 : decode cX11_carried 1 = .ok (.iload_n 1, 1) := by decide +kernel
theorem dX11_carried_2 : decode cX11_carried 2 = .ok (.invokevirtual 108, 3) := by decide +kernel
theorem dX11_carried_5 : decode cX11_carried 5 = .ok (.ifCond .eq 12, 3) := by decide +kernel
theorem dX11_carried_8 : decode cX11_carried 8 = .ok (.iload_n 2, 1) := by decide +kernel
theorem dX11_carried_9 : decode cX11_carried 9 = .ok (.ifCond .lt 8, 3) := by decide +kernel
theorem dX11_carried_12 : decode cX11_carried 12 = .ok (.iload_n 2, 1) := by decide +kernel
theorem dX11_carried_13 : decode cX11_carried 13 = .ok (.iconst 1, 1) := by decide +kernel
theorem dX11_carried_14 : decode cX11_carried 14 = .ok (.if_icmp .le 13, 3) := by decide +kernel
theorem dX11_carried_17 : decode cX11_carried 17 = .ok (.new 142, 3) := by decide +kernel
theorem dX11_carried_20 : decode cX11_carried 20 = .ok (.dup, 1) := by decide +kernel
theorem dX11_carried_21 : decode cX11_carried 21 = .ok (.ldc 181, 2) := by decide +kernel
theorem dX11_carried_23 : decode cX11_carried 23 = .ok (.invokespecial 146, 3) := by decide +kernel
theorem dX11_carried_26 : decode cX11_carried 26 = .ok (.athrow, 1) := by decide +kernel
theorem dX11_carried_27 : decode cX11_carried 27 = .ok (.iload_n 2, 1) := by decide +kernel
theorem dX11_carried_28 : decode cX11_carried 28 = .ok (.ifCond .ne 15, 3) := by decide +kernel
theorem dX11_carried_31 : decode cX11_carried 31 = .ok (.aload_n 0, 1) := by decide +kernel
theorem dX11_carried_32 : decode cX11_carried 32 = .ok (.getfield 32, 3) := by decide +kernel
theorem dX11_carried_35 : decode cX11_carried 35 = .ok (.iload_n 1, 1) := by decide +kernel
theorem dX11_carried_36 : decode cX11_carried 36 = .ok (.aaload, 1) := by decide +kernel
theorem dX11_carried_37 : decode cX11_carried 37 = .ok (.getfield 183, 3) := by decide +kernel
theorem dX11_carried_40 : decode cX11_carried 40 = .ok (.goto 12, 3) := by decide +kernel
theorem dX11_carried_43 : decode cX11_carried 43 = .ok (.aload_n 0, 1) := by decide +kernel
theorem dX11_carried_44 : decode cX11_carried 44 = .ok (.getfield 32, 3) := by decide +kernel
theorem dX11_carried_47 : decode cX11_carried 47 = .ok (.iload_n 1, 1) := by decide +kernel
theorem dX11_carried_48 : decode cX11_carried 48 = .ok (.aaload, 1) := by decide +kernel
theorem dX11_carried_49 : decode cX11_carried 49 = .ok (.getfield 187, 3) := by decide +kernel
theorem dX11_carried_52 : decode cX11_carried 52 = .ok (.lreturn, 1) := by decide +kernel
set_option maxRecDepth 20000 in
theorem ggX11_least_X11_isProgram : GoodIn wsX11_least wsX11_isProgram := goodIn_r _ [8, 9, 258, 259, 260, 261, 262, 263, 264, 265, 266, 267] (by decide +kernel) (by decide +kernel)
set_option maxRecDepth 20000 in
theorem gX11_least_X11_isProgram : GoodIn wsX11_least (wsV RX11 108 RX11 yX11_isProgram wsX11_isProgram) := goodIn_app (goodIn_of _ (by decide +kernel)) ggX11_least_X11_isProgram
set_option maxRecDepth 20000 in
theorem ggX11_least_X11_isLaw : GoodIn wsX11_least wsX11_isLaw := goodIn_r _ [12] (by decide +kernel) (by decide +kernel)
set_option maxRecDepth 20000 in
theorem gX11_least_X11_isLaw : GoodIn wsX11_least (va_wsS RX11 190 yX11_isLaw wsX11_isLaw) := goodIn_app (goodIn_of _ (by decide +kernel)) ggX11_least_X11_isLaw
set_option maxRecDepth 20000 in
theorem ggX11_least_X11_isSpan : GoodIn wsX11_least wsX11_isSpan := goodIn_r _ [15, 16, 17, 7, 18, 19, 20] (by decide +kernel) (by decide +kernel)
set_option maxRecDepth 20000 in
theorem gX11_least_X11_isSpan : GoodIn wsX11_least (va_wsS RX11 193 yX11_isSpan wsX11_isSpan) := goodIn_app (goodIn_of _ (by decide +kernel)) ggX11_least_X11_isSpan
set_option maxRecDepth 20000 in
theorem ggX11_least_X10_firstBreak : GoodIn wsX11_least wsX10_firstBreak := goodIn_r _ [25, 26, 27, 28, 29, 24, 30, 31, 32, 33, 34, 35, 36, 37, 38, 39, 40, 41, 42, 43, 44, 45, 46, 47, 48, 49, 50, 51, 52, 53, 54, 55, 56, 57, 58, 59, 60, 61, 62, 63, 64, 65, 66, 67, 68, 69, 70, 71, 72, 73, 74, 75, 76, 77, 78, 79, 80, 81, 82, 83, 84, 85, 86, 87, 88, 89, 90, 91, 92, 93, 94, 95, 96, 97, 98, 99, 100, 101, 102, 103, 104, 105, 106, 107, 108, 109, 110, 111, 112, 113, 114, 115, 116, 117, 118, 119, 120, 121, 122, 123, 124, 125, 126, 127, 128, 129, 130, 131, 132, 133, 134, 135, 136, 137, 138, 139, 140, 141, 142, 143, 144, 145, 146, 147, 148, 149, 150, 151, 152, 153, 154, 155, 156, 157, 158, 159, 160, 161, 162, 163, 164, 165, 166, 167, 168, 169, 170, 171, 172, 173, 174, 175, 176, 177, 178, 179, 180, 181, 182, 183, 184, 185, 186, 187, 188, 189, 190, 191, 192, 193, 194, 195, 196, 197, 198, 199, 200, 201, 202, 203, 204, 205, 206, 207, 208, 209, 210, 211, 212, 213, 214, 215, 216, 217, 218, 219, 220, 221, 222, 223, 224, 225, 226, 227, 228, 229, 230, 231, 232, 233, 234, 235, 236, 237, 238, 239, 240, 241, 242, 243, 244, 245, 246, 247, 248, 249, 250, 251, 252, 253, 254, 255, 256, 257, 268, 269, 270, 271, 272, 273, 274, 275, 276, 277, 278, 279, 280, 281, 282, 283, 284, 285, 286, 287, 288, 289, 290, 291, 292, 293, 294, 295, 296, 297, 298, 299, 300, 301, 302, 303, 304, 305, 306, 307, 308] (by decide +kernel) (by decide +kernel)
set_option maxRecDepth 20000 in
theorem gX11_least_X10_firstBreak : GoodIn wsX11_least (wsV RX11 196 RX10 yX10_firstBreak wsX10_firstBreak) := goodIn_app (goodIn_of _ (by decide +kernel)) ggX11_least_X10_firstBreak
theorem dX11_least_0 : decode cX11_least 0 = .ok (.aload_n 0, 1) := by decide +kernel
theorem dX11_least_1 : decode cX11_least 1 = .ok (.iload_n 1, 1) := by decide +kernel
theorem dX11_least_2 : decode cX11_least 2 = .ok (.invokevirtual 108, 3) := by decide +kernel
theorem dX11_least_5 : decode cX11_least 5 = .ok (.ifCond .eq 23, 3) := by decide +kernel
theorem dX11_least_8 : decode cX11_least 8 = .ok (.iload_n 2, 1) := by decide +kernel
theorem dX11_least_9 : decode cX11_least 9 = .ok (.invokestatic 190, 3) := by decide +kernel
theorem dX11_least_12 : decode cX11_least 12 = .ok (.ifCond .eq 16, 3) := by decide +kernel
theorem dX11_least_15 : decode cX11_least 15 = .ok (.iload 4, 2) := by decide +kernel
theorem dX11_least_17 : decode cX11_least 17 = .ok (.iload 5, 2) := by decide +kernel
theorem dX11_least_19 : decode cX11_least 19 = .ok (.sipush 2000, 3) := by decide +kernel
theorem dX11_least_22 : decode cX11_least 22 = .ok (.invokestatic 193, 3) := by decide +kernel
theorem dX11_least_25 : decode cX11_least 25 = .ok (.ifCond .ne 5, 3) := by decide +kernel
theorem dX11_least_28 : decode cX11_least 28 = .ok (.iconst (-1), 1) := by decide +kernel
theorem dX11_least_29 : decode cX11_least 29 = .ok (.ireturn, 1) := by decide +kernel
theorem dX11_least_30 : decode cX11_least 30 = .ok (.iload_n 2, 1) := by decide +kernel
theorem dX11_least_31 : decode cX11_least 31 = .ok (.iconst 2, 1) := by decide +kernel
theorem dX11_least_32 : decode cX11_least 32 = .ok (.if_icmp .ne 14, 3) := by decide +kernel
theorem dX11_least_35 : decode cX11_least 35 = .ok (.aload_n 0, 1) := by decide +kernel
theorem dX11_least_36 : decode cX11_least 36 = .ok (.iload_n 3, 1) := by decide +kernel
theorem dX11_least_37 : decode cX11_least 37 = .ok (.invokevirtual 108, 3) := by decide +kernel
theorem dX11_least_40 : decode cX11_least 40 = .ok (.ifCond .ne 13, 3) := by decide +kernel
theorem dX11_least_43 : decode cX11_least 43 = .ok (.goto 8, 3) := by decide +kernel
theorem dX11_least_46 : decode cX11_least 46 = .ok (.iload_n 3, 1) := by decide +kernel
theorem dX11_least_47 : decode cX11_least 47 = .ok (.iconst (-1), 1) := by decide +kernel
theorem dX11_least_48 : decode cX11_least 48 = .ok (.if_icmp .eq 5, 3) := by decide +kernel
theorem dX11_least_51 : decode cX11_least 51 = .ok (.iconst (-1), 1) := by decide +kernel
theorem dX11_least_52 : decode cX11_least 52 = .ok (.ireturn, 1) := by decide +kernel
theorem dX11_least_53 : decode cX11_least 53 = .ok (.iload_n 2, 1) := by decide +kernel
theorem dX11_least_54 : decode cX11_least 54 = .ok (.iconst 2, 1) := by decide +kernel
theorem dX11_least_55 : decode cX11_least 55 = .ok (.if_icmp .ne 12, 3) := by decide +kernel
theorem dX11_least_58 : decode cX11_least 58 = .ok (.aload_n 0, 1) := by decide +kernel
theorem dX11_least_59 : decode cX11_least 59 = .ok (.getfield 32, 3) := by decide +kernel
theorem dX11_least_62 : decode cX11_least 62 = .ok (.iload_n 3, 1) := by decide +kernel
theorem dX11_least_63 : decode cX11_least 63 = .ok (.aaload, 1) := by decide +kernel
theorem dX11_least_64 : decode cX11_least 64 = .ok (.goto 9, 3) := by decide +kernel
theorem dX11_least_67 : decode cX11_least 67 = .ok (.aload_n 0, 1) := by decide +kernel
theorem dX11_least_68 : decode cX11_least 68 = .ok (.getfield 32, 3) := by decide +kernel
theorem dX11_least_71 : decode cX11_least 71 = .ok (.iload_n 1, 1) := by decide +kernel
theorem dX11_least_72 : decode cX11_least 72 = .ok (.aaload, 1) := by decide +kernel
theorem dX11_least_73 : decode cX11_least 73 = .ok (.astore 6, 2) := by decide +kernel
theorem dX11_least_75 : decode cX11_least 75 = .ok (.aload_n 0, 1) := by decide +kernel
theorem dX11_least_76 : decode cX11_least 76 = .ok (.getfield 52, 3) := by decide +kernel
theorem dX11_least_79 : decode cX11_least 79 = .ok (.aload_n 0, 1) := by decide +kernel
theorem dX11_least_80 : decode cX11_least 80 = .ok (.getfield 10, 3) := by decide +kernel
theorem dX11_least_83 : decode cX11_least 83 = .ok (.aload_n 0, 1) := by decide +kernel
theorem dX11_least_84 : decode cX11_least 84 = .ok (.getfield 32, 3) := by decide +kernel
theorem dX11_least_87 : decode cX11_least 87 = .ok (.iload_n 1, 1) := by decide +kernel
theorem dX11_least_88 : decode cX11_least 88 = .ok (.aaload, 1) := by decide +kernel
theorem dX11_least_89 : decode cX11_least 89 = .ok (.aload 6, 2) := by decide +kernel
theorem dX11_least_91 : decode cX11_least 91 = .ok (.iload_n 2, 1) := by decide +kernel
theorem dX11_least_92 : decode cX11_least 92 = .ok (.iload 4, 2) := by decide +kernel
theorem dX11_least_94 : decode cX11_least 94 = .ok (.iload 5, 2) := by decide +kernel
theorem dX11_least_96 : decode cX11_least 96 = .ok (.invokevirtual 196, 3) := by decide +kernel
theorem dX11_least_99 : decode cX11_least 99 = .ok (.ireturn, 1) := by decide +kernel
set_option maxRecDepth 20000 in
theorem ggX11_order_X11_isProgram : GoodIn wsX11_order wsX11_isProgram := goodIn_r _ [10, 11, 184, 185, 186, 187, 188, 189, 190, 191, 192, 193] (by decide +kernel) (by decide +kernel)
set_option maxRecDepth 20000 in
theorem gX11_order_X11_isProgram : GoodIn wsX11_order (wsV RX11 108 RX11 yX11_isProgram wsX11_isProgram) := goodIn_app (goodIn_of _ (by decide +kernel)) ggX11_order_X11_isProgram
set_option maxRecDepth 20000 in
theorem ggX11_order_X10_firstOrderThatMatters : GoodIn wsX11_order wsX10_firstOrderThatMatters := goodIn_r _ [16, 17, 18, 19, 20, 21, 22, 23, 24, 25, 26, 27, 28, 29, 30, 31, 32, 33, 34, 35, 36, 37, 38, 39, 40, 41, 42, 43, 44, 45, 46, 47, 48, 49, 50, 51, 52, 53, 54, 55, 56, 57, 58, 59, 60, 61, 62, 63, 64, 65, 66, 67, 68, 69, 70, 71, 72, 73, 74, 75, 76, 77, 78, 79, 80, 81, 82, 83, 84, 85, 86, 87, 88, 89, 90, 91, 92, 93, 94, 95, 96, 97, 98, 99, 100, 101, 102, 103, 104, 105, 106, 107, 108, 109, 110, 111, 112, 113, 114, 115, 116, 117, 118, 119, 120, 121, 122, 123, 124, 125, 126, 127, 128, 129, 130, 131, 132, 133, 134, 135, 136, 137, 138, 139, 140, 141, 142, 143, 144, 145, 146, 147, 148, 149, 150, 151, 152, 153, 154, 155, 156, 157, 158, 159, 160, 161, 162, 163, 164, 15, 165, 166, 167, 168, 169, 170, 171, 172, 173, 174, 175, 176, 177, 178, 179, 180, 181, 182, 183, 194, 195, 196, 197, 198, 199, 200, 201, 202, 203, 204, 205, 206, 207, 208, 209, 210, 211, 212, 213, 214, 215, 216, 217, 218, 219, 220, 221, 222, 223, 224, 225, 226, 227, 228, 229, 230] (by decide +kernel) (by decide +kernel)
set_option maxRecDepth 20000 in
theorem gX11_order_X10_firstOrderThatMatters : GoodIn wsX11_order (wsV RX11 200 RX10 yX10_firstOrderThatMatters wsX10_firstOrderThatMatters) := goodIn_app (goodIn_of _ (by decide +kernel)) ggX11_order_X10_firstOrderThatMatters
theorem dX11_order_0 : decode cX11_order 0 = .ok (.aload_n 0, 1) := by decide +kernel
theorem dX11_order_1 : decode cX11_order 1 = .ok (.iload_n 1, 1) := by decide +kernel
theorem dX11_order_2 : decode cX11_order 2 = .ok (.invokevirtual 108, 3) := by decide +kernel
theorem dX11_order_5 : decode cX11_order 5 = .ok (.ifCond .ne 5, 3) := by decide +kernel
theorem dX11_order_8 : decode cX11_order 8 = .ok (.iconst (-1), 1) := by decide +kernel
theorem dX11_order_9 : decode cX11_order 9 = .ok (.ireturn, 1) := by decide +kernel
theorem dX11_order_10 : decode cX11_order 10 = .ok (.aload_n 0, 1) := by decide +kernel
theorem dX11_order_11 : decode cX11_order 11 = .ok (.getfield 19, 3) := by decide +kernel
theorem dX11_order_14 : decode cX11_order 14 = .ok (.getfield 72, 3) := by decide +kernel
theorem dX11_order_17 : decode cX11_order 17 = .ok (.bipush 6, 2) := by decide +kernel
theorem dX11_order_19 : decode cX11_order 19 = .ok (.if_icmp .le 6, 3) := by decide +kernel
theorem dX11_order_22 : decode cX11_order 22 = .ok (.bipush (-2), 2) := by decide +kernel
theorem dX11_order_24 : decode cX11_order 24 = .ok (.ireturn, 1) := by decide +kernel
theorem dX11_order_25 : decode cX11_order 25 = .ok (.aload_n 0, 1) := by decide +kernel
theorem dX11_order_26 : decode cX11_order 26 = .ok (.getfield 52, 3) := by decide +kernel
theorem dX11_order_29 : decode cX11_order 29 = .ok (.aload_n 0, 1) := by decide +kernel
theorem dX11_order_30 : decode cX11_order 30 = .ok (.getfield 10, 3) := by decide +kernel
theorem dX11_order_33 : decode cX11_order 33 = .ok (.aload_n 0, 1) := by decide +kernel
theorem dX11_order_34 : decode cX11_order 34 = .ok (.getfield 32, 3) := by decide +kernel
theorem dX11_order_37 : decode cX11_order 37 = .ok (.iload_n 1, 1) := by decide +kernel
theorem dX11_order_38 : decode cX11_order 38 = .ok (.aaload, 1) := by decide +kernel
theorem dX11_order_39 : decode cX11_order 39 = .ok (.aload_n 0, 1) := by decide +kernel
theorem dX11_order_40 : decode cX11_order 40 = .ok (.getfield 19, 3) := by decide +kernel
theorem dX11_order_43 : decode cX11_order 43 = .ok (.invokevirtual 200, 3) := by decide +kernel
theorem dX11_order_46 : decode cX11_order 46 = .ok (.ireturn, 1) := by decide +kernel
set_option maxRecDepth 20000 in
theorem ggX11_drift_X11_isRate : GoodIn wsX11_drift wsX11_isRate := goodIn_r _ [10] (by decide +kernel) (by decide +kernel)
set_option maxRecDepth 20000 in
theorem gX11_drift_X11_isRate : GoodIn wsX11_drift (va_wsS RX11 82 yX11_isRate wsX11_isRate) := goodIn_app (goodIn_of _ (by decide +kernel)) ggX11_drift_X11_isRate
set_option maxRecDepth 20000 in
theorem ggX11_drift_X11_isMode : GoodIn wsX11_drift wsX11_isMode := goodIn_r _ [13] (by decide +kernel) (by decide +kernel)
set_option maxRecDepth 20000 in
theorem gX11_drift_X11_isMode : GoodIn wsX11_drift (va_wsS RX11 204 yX11_isMode wsX11_isMode) := goodIn_app (goodIn_of _ (by decide +kernel)) ggX11_drift_X11_isMode
set_option maxRecDepth 20000 in
theorem ggX11_drift_X1_measure : GoodIn wsX11_drift wsX1_measure := goodIn_r _ [18, 19, 20, 21, 22, 23, 24, 25, 26, 27, 28, 74, 75, 76, 77, 78, 79] (by decide +kernel) (by decide +kernel)
set_option maxRecDepth 20000 in
theorem gX11_drift_X1_measure : GoodIn wsX11_drift (wsV RX11 211 RX1 yX1_measure wsX1_measure) := goodIn_app (goodIn_of _ (by decide +kernel)) ggX11_drift_X1_measure
set_option maxRecDepth 20000 in
theorem ggX11_drift_X1_greatest : GoodIn wsX11_drift wsX1_greatest := goodIn_r _ [32, 22, 33, 20, 34, 35, 36, 37, 23, 21, 38, 39, 40, 41, 19, 42, 43, 44, 45, 46, 47, 48, 49, 50, 51, 52, 53, 17, 54, 55, 56, 57, 58, 59, 74, 75, 76, 77, 78, 79] (by decide +kernel) (by decide +kernel)
set_option maxRecDepth 20000 in
theorem gX11_drift_X1_greatest : GoodIn wsX11_drift (wsV RX11 215 RX1 yX1_greatest wsX1_greatest) := goodIn_app (goodIn_of _ (by decide +kernel)) ggX11_drift_X1_greatest
theorem dX11_drift_0 : decode cX11_drift 0 = .ok (.iload_n 1, 1) := by decide +kernel
theorem dX11_drift_1 : decode cX11_drift 1 = .ok (.invokestatic 82, 3) := by decide +kernel
theorem dX11_drift_4 : decode cX11_drift 4 = .ok (.ifCond .eq 24, 3) := by decide +kernel
theorem dX11_drift_7 : decode cX11_drift 7 = .ok (.aload_n 0, 1) := by decide +kernel
theorem dX11_drift_8 : decode cX11_drift 8 = .ok (.getfield 10, 3) := by decide +kernel
theorem dX11_drift_11 : decode cX11_drift 11 = .ok (.getfield 90, 3) := by decide +kernel
theorem dX11_drift_14 : decode cX11_drift 14 = .ok (.iload_n 1, 1) := by decide +kernel
theorem dX11_drift_15 : decode cX11_drift 15 = .ok (.iaload, 1) := by decide +kernel
theorem dX11_drift_16 : decode cX11_drift 16 = .ok (.bipush 100, 2) := by decide +kernel
theorem dX11_drift_18 : decode cX11_drift 18 = .ok (.if_icmp .gt 10, 3) := by decide +kernel
theorem dX11_drift_21 : decode cX11_drift 21 = .ok (.iload_n 2, 1) := by decide +kernel
theorem dX11_drift_22 : decode cX11_drift 22 = .ok (.invokestatic 204, 3) := by decide +kernel
theorem dX11_drift_25 : decode cX11_drift 25 = .ok (.ifCond .ne 13, 3) := by decide +kernel
theorem dX11_drift_28 : decode cX11_drift 28 = .ok (.new 142, 3) := by decide +kernel
theorem dX11_drift_31 : decode cX11_drift 31 = .ok (.dup, 1) := by decide +kernel
theorem dX11_drift_32 : decode cX11_drift 32 = .ok (.ldc 207, 2) := by decide +kernel
theorem dX11_drift_34 : decode cX11_drift 34 = .ok (.invokespecial 146, 3) := by decide +kernel
theorem dX11_drift_37 : decode cX11_drift 37 = .ok (.athrow, 1) := by decide +kernel
theorem dX11_drift_38 : decode cX11_drift 38 = .ok (.iload_n 3, 1) := by decide +kernel
theorem dX11_drift_39 : decode cX11_drift 39 = .ok (.iconst 1, 1) := by decide +kernel
theorem dX11_drift_40 : decode cX11_drift 40 = .ok (.if_icmp .lt 33, 3) := by decide +kernel
theorem dX11_drift_43 : decode cX11_drift 43 = .ok (.iload_n 3, 1) := by decide +kernel
theorem dX11_drift_44 : decode cX11_drift 44 = .ok (.bipush 12, 2) := by decide +kernel
theorem dX11_drift_46 : decode cX11_drift 46 = .ok (.if_icmp .gt 27, 3) := by decide +kernel
theorem dX11_drift_49 : decode cX11_drift 49 = .ok (.iload 4, 2) := by decide +kernel
theorem dX11_drift_51 : decode cX11_drift 51 = .ok (.ifCond .lt 22, 3) := by decide +kernel
theorem dX11_drift_54 : decode cX11_drift 54 = .ok (.iload 4, 2) := by decide +kernel
theorem dX11_drift_56 : decode cX11_drift 56 = .ok (.sipush 1000, 3) := by decide +kernel
theorem dX11_drift_59 : decode cX11_drift 59 = .ok (.if_icmp .gt 14, 3) := by decide +kernel
theorem dX11_drift_62 : decode cX11_drift 62 = .ok (.iload 5, 2) := by decide +kernel
theorem dX11_drift_64 : decode cX11_drift 64 = .ok (.ifCond .lt 9, 3) := by decide +kernel
theorem dX11_drift_67 : decode cX11_drift 67 = .ok (.iload 5, 2) := by decide +kernel
theorem dX11_drift_69 : decode cX11_drift 69 = .ok (.iconst 1, 1) := by decide +kernel
theorem dX11_drift_70 : decode cX11_drift 70 = .ok (.if_icmp .le 13, 3) := by decide +kernel
theorem dX11_drift_73 : decode cX11_drift 73 = .ok (.new 142, 3) := by decide +kernel
theorem dX11_drift_76 : decode cX11_drift 76 = .ok (.dup, 1) := by decide +kernel
theorem dX11_drift_77 : decode cX11_drift 77 = .ok (.ldc 209, 2) := by decide +kernel
theorem dX11_drift_79 : decode cX11_drift 79 = .ok (.invokespecial 146, 3) := by decide +kernel
theorem dX11_drift_82 : decode cX11_drift 82 = .ok (.athrow, 1) := by decide +kernel
theorem dX11_drift_83 : decode cX11_drift 83 = .ok (.iload 5, 2) := by decide +kernel
theorem dX11_drift_85 : decode cX11_drift 85 = .ok (.ifCond .ne 7, 3) := by decide +kernel
theorem dX11_drift_88 : decode cX11_drift 88 = .ok (.iconst 1, 1) := by decide +kernel
theorem dX11_drift_89 : decode cX11_drift 89 = .ok (.goto 4, 3) := by decide +kernel
theorem dX11_drift_92 : decode cX11_drift 92 = .ok (.iconst (-1), 1) := by decide +kernel
theorem dX11_drift_93 : decode cX11_drift 93 = .ok (.istore 6, 2) := by decide +kernel
theorem dX11_drift_95 : decode cX11_drift 95 = .ok (.aload_n 0, 1) := by decide +kernel
theorem dX11_drift_96 : decode cX11_drift 96 = .ok (.getfield 59, 3) := by decide +kernel
theorem dX11_drift_99 : decode cX11_drift 99 = .ok (.aload_n 0, 1) := by decide +kernel
theorem dX11_drift_100 : decode cX11_drift 100 = .ok (.getfield 10, 3) := by decide +kernel
theorem dX11_drift_103 : decode cX11_drift 103 = .ok (.getfield 86, 3) := by decide +kernel
theorem dX11_drift_106 : decode cX11_drift 106 = .ok (.iload_n 1, 1) := by decide +kernel
theorem dX11_drift_107 : decode cX11_drift 107 = .ok (.iaload, 1) := by decide +kernel
theorem dX11_drift_108 : decode cX11_drift 108 = .ok (.aload_n 0, 1) := by decide +kernel
theorem dX11_drift_109 : decode cX11_drift 109 = .ok (.getfield 10, 3) := by decide +kernel
theorem dX11_drift_112 : decode cX11_drift 112 = .ok (.getfield 90, 3) := by decide +kernel
theorem dX11_drift_115 : decode cX11_drift 115 = .ok (.iload_n 1, 1) := by decide +kernel
theorem dX11_drift_116 : decode cX11_drift 116 = .ok (.iaload, 1) := by decide +kernel
theorem dX11_drift_117 : decode cX11_drift 117 = .ok (.iload_n 2, 1) := by decide +kernel
theorem dX11_drift_118 : decode cX11_drift 118 = .ok (.iload 4, 2) := by decide +kernel
theorem dX11_drift_120 : decode cX11_drift 120 = .ok (.iload 6, 2) := by decide +kernel
theorem dX11_drift_122 : decode cX11_drift 122 = .ok (.invokevirtual 211, 3) := by decide +kernel
theorem dX11_drift_125 : decode cX11_drift 125 = .ok (.iload 6, 2) := by decide +kernel
theorem dX11_drift_127 : decode cX11_drift 127 = .ok (.aload_n 0, 1) := by decide +kernel
theorem dX11_drift_128 : decode cX11_drift 128 = .ok (.getfield 59, 3) := by decide +kernel
theorem dX11_drift_131 : decode cX11_drift 131 = .ok (.iload_n 3, 1) := by decide +kernel
theorem dX11_drift_132 : decode cX11_drift 132 = .ok (.invokevirtual 215, 3) := by decide +kernel
theorem dX11_drift_135 : decode cX11_drift 135 = .ok (.imul, 1) := by decide +kernel
theorem dX11_drift_136 : decode cX11_drift 136 = .ok (.ireturn, 1) := by decide +kernel
set_option maxRecDepth 20000 in
theorem ggX11_mend_X11_isProgram : GoodIn wsX11_mend wsX11_isProgram := goodIn_r _ [10, 11, 281, 282, 283, 284, 285, 286, 287, 288, 289, 290] (by decide +kernel) (by decide +kernel)
set_option maxRecDepth 20000 in
theorem gX11_mend_X11_isProgram : GoodIn wsX11_mend (wsV RX11 108 RX11 yX11_isProgram wsX11_isProgram) := goodIn_app (goodIn_of _ (by decide +kernel)) ggX11_mend_X11_isProgram
set_option maxRecDepth 20000 in
theorem ggX11_mend_X11_isLaw : GoodIn wsX11_mend wsX11_isLaw := goodIn_r _ [14] (by decide +kernel) (by decide +kernel)
set_option maxRecDepth 20000 in
theorem gX11_mend_X11_isLaw : GoodIn wsX11_mend (va_wsS RX11 190 yX11_isLaw wsX11_isLaw) := goodIn_app (goodIn_of _ (by decide +kernel)) ggX11_mend_X11_isLaw
set_option maxRecDepth 20000 in
theorem ggX11_mend_X11_isSpan : GoodIn wsX11_mend wsX11_isSpan := goodIn_r _ [17, 18, 19, 9, 20, 21, 22] (by decide +kernel) (by decide +kernel)
set_option maxRecDepth 20000 in
theorem gX11_mend_X11_isSpan : GoodIn wsX11_mend (va_wsS RX11 193 yX11_isSpan wsX11_isSpan) := goodIn_app (goodIn_of _ (by decide +kernel)) ggX11_mend_X11_isSpan
set_option maxRecDepth 20000 in
theorem ggX11_mend_X10_firstBreak : GoodIn wsX11_mend wsX10_firstBreak := goodIn_r _ [27, 28, 29, 30, 31, 26, 32, 33, 34, 35, 36, 37, 38, 39, 40, 41, 42, 43, 44, 45, 46, 47, 48, 49, 50, 51, 52, 53, 54, 55, 56, 57, 58, 59, 60, 61, 62, 63, 64, 65, 66, 67, 68, 69, 70, 71, 72, 73, 74, 75, 76, 77, 78, 79, 80, 81, 82, 83, 84, 85, 86, 87, 88, 89, 90, 91, 92, 93, 94, 95, 96, 97, 98, 99, 100, 101, 102, 103, 104, 105, 106, 107, 108, 109, 110, 111, 112, 113, 114, 115, 116, 117, 118, 119, 120, 121, 122, 123, 124, 125, 126, 127, 128, 129, 130, 131, 132, 133, 134, 135, 136, 137, 138, 139, 140, 141, 142, 143, 144, 145, 146, 147, 148, 149, 150, 151, 152, 153, 154, 155, 156, 157, 158, 159, 160, 161, 162, 163, 164, 165, 166, 167, 168, 169, 170, 171, 172, 173, 174, 175, 176, 177, 178, 179, 180, 181, 182, 183, 184, 185, 186, 187, 188, 189, 190, 191, 192, 193, 194, 195, 196, 197, 198, 199, 200, 201, 202, 203, 204, 205, 206, 207, 208, 209, 210, 211, 212, 213, 214, 215, 216, 217, 218, 219, 220, 221, 222, 223, 224, 225, 226, 227, 228, 229, 230, 231, 232, 233, 234, 235, 236, 237, 238, 239, 240, 241, 242, 243, 244, 245, 246, 247, 248, 249, 250, 251, 252, 253, 254, 255, 256, 257, 258, 259, 298, 299, 300, 301, 302, 303, 304, 305, 306, 307, 308, 309, 310, 311, 312, 313, 314, 315, 316, 317, 318, 319, 320, 321, 322, 323, 324, 325, 326, 327, 291, 292, 293, 294, 295, 296, 297, 328, 329, 330, 331] (by decide +kernel) (by decide +kernel)
set_option maxRecDepth 20000 in
theorem gX11_mend_X10_firstBreak : GoodIn wsX11_mend (wsV RX11 196 RX10 yX10_firstBreak wsX10_firstBreak) := goodIn_app (goodIn_of _ (by decide +kernel)) ggX11_mend_X10_firstBreak
set_option maxRecDepth 20000 in
theorem ggX11_mend_X6_choice : GoodIn wsX11_mend wsX6_choice := goodIn_r _ [264, 265, 266, 267, 268, 269, 263, 270, 271, 291, 292, 293, 294, 295, 296, 297] (by decide +kernel) (by decide +kernel)
set_option maxRecDepth 20000 in
theorem gX11_mend_X6_choice : GoodIn wsX11_mend (wsV RX11 220 RX6 yX6_choice wsX6_choice) := goodIn_app (goodIn_of _ (by decide +kernel)) ggX11_mend_X6_choice
set_option maxRecDepth 20000 in
theorem ggX11_mend_X6_choices : GoodIn wsX11_mend wsX6_choices := goodIn_r _ [275, 271, 291, 292, 293, 294, 295, 296, 297] (by decide +kernel) (by decide +kernel)
set_option maxRecDepth 20000 in
theorem gX11_mend_X6_choices : GoodIn wsX11_mend (wsV RX11 223 RX6 yX6_choices wsX6_choices) := goodIn_app (goodIn_of _ (by decide +kernel)) ggX11_mend_X6_choices
set_option maxRecDepth 20000 in
theorem ggX11_mend_X6_choose : GoodIn wsX11_mend wsX6_choose := goodIn_r _ [279, 265, 266, 267, 268, 269, 263, 270, 271, 291, 292, 293, 294, 295, 296, 297] (by decide +kernel) (by decide +kernel)
set_option maxRecDepth 20000 in
theorem gX11_mend_X6_choose : GoodIn wsX11_mend (wsV RX11 226 RX6 yX6_choose wsX6_choose) := goodIn_app (goodIn_of _ (by decide +kernel)) ggX11_mend_X6_choose
set_option maxRecDepth 20000 in
theorem ggX11_mend_X10_breaks : GoodIn wsX11_mend wsX10_breaks := goodIn_r _ [32, 33, 34, 35, 36, 37, 38, 39, 40, 41, 42, 43, 44, 45, 46, 47, 48, 49, 50, 51, 52, 53, 54, 55, 56, 57, 58, 59, 60, 61, 62, 63, 64, 65, 66, 67, 68, 69, 70, 71, 72, 73, 74, 75, 76, 77, 78, 79, 80, 81, 82, 83, 84, 85, 86, 87, 88, 89, 90, 91, 92, 93, 94, 95, 96, 97, 98, 99, 100, 101, 102, 103, 104, 105, 106, 107, 108, 109, 110, 111, 112, 113, 114, 115, 116, 117, 118, 119, 120, 121, 122, 123, 124, 125, 126, 127, 128, 129, 130, 131, 132, 133, 134, 135, 136, 137, 138, 139, 140, 141, 142, 143, 144, 145, 146, 147, 148, 149, 150, 151, 152, 153, 154, 155, 156, 157, 158, 159, 160, 161, 162, 163, 164, 165, 166, 167, 168, 169, 170, 171, 172, 173, 174, 175, 176, 177, 178, 179, 180, 181, 182, 183, 184, 185, 186, 26, 187, 188, 189, 190, 191, 192, 193, 194, 195, 196, 197, 198, 199, 200, 201, 202, 203, 204, 205, 206, 207, 208, 209, 210, 211, 212, 213, 214, 215, 216, 217, 218, 219, 220, 221, 222, 223, 224, 225, 226, 227, 228, 229, 230, 231, 232, 233, 234, 235, 236, 237, 238, 239, 240, 241, 242, 243, 244, 245, 246, 247, 248, 249, 250, 251, 252, 253, 254, 255, 256, 257, 258, 259, 298, 299, 300, 301, 302, 303, 304, 305, 306, 307, 308, 309, 310, 311, 312, 313, 314, 315, 316, 317, 318, 319, 320, 321, 322, 323, 324, 325, 326, 327, 291, 292, 293, 294, 295, 296, 297, 328, 329, 330, 331] (by decide +kernel) (by decide +kernel)
set_option maxRecDepth 20000 in
theorem gX11_mend_X10_breaks : GoodIn wsX11_mend (wsV RX11 230 RX10 yX10_breaks wsX10_breaks) := goodIn_app (goodIn_of _ (by decide +kernel)) ggX11_mend_X10_breaks
theorem dX11_mend_0 : decode cX11_mend 0 = .ok (.aload_n 0, 1) := by decide +kernel
theorem dX11_mend_1 : decode cX11_mend 1 = .ok (.iload_n 1, 1) := by decide +kernel
theorem dX11_mend_2 : decode cX11_mend 2 = .ok (.invokevirtual 108, 3) := by decide +kernel
theorem dX11_mend_5 : decode cX11_mend 5 = .ok (.ifCond .eq 27, 3) := by decide +kernel
theorem dX11_mend_8 : decode cX11_mend 8 = .ok (.iload_n 2, 1) := by decide +kernel
theorem dX11_mend_9 : decode cX11_mend 9 = .ok (.invokestatic 190, 3) := by decide +kernel
theorem dX11_mend_12 : decode cX11_mend 12 = .ok (.ifCond .eq 20, 3) := by decide +kernel
theorem dX11_mend_15 : decode cX11_mend 15 = .ok (.iload_n 2, 1) := by decide +kernel
theorem dX11_mend_16 : decode cX11_mend 16 = .ok (.iconst 2, 1) := by decide +kernel
theorem dX11_mend_17 : decode cX11_mend 17 = .ok (.if_icmp .eq 15, 3) := by decide +kernel
theorem dX11_mend_20 : decode cX11_mend 20 = .ok (.iload_n 3, 1) := by decide +kernel
theorem dX11_mend_21 : decode cX11_mend 21 = .ok (.iload 4, 2) := by decide +kernel
theorem dX11_mend_23 : decode cX11_mend 23 = .ok (.sipush 300, 3) := by decide +kernel
theorem dX11_mend_26 : decode cX11_mend 26 = .ok (.invokestatic 193, 3) := by decide +kernel
theorem dX11_mend_29 : decode cX11_mend 29 = .ok (.ifCond .ne 5, 3) := by decide +kernel
theorem dX11_mend_32 : decode cX11_mend 32 = .ok (.iconst (-1), 1) := by decide +kernel
theorem dX11_mend_33 : decode cX11_mend 33 = .ok (.ireturn, 1) := by decide +kernel
theorem dX11_mend_34 : decode cX11_mend 34 = .ok (.aload_n 0, 1) := by decide +kernel
theorem dX11_mend_35 : decode cX11_mend 35 = .ok (.getfield 32, 3) := by decide +kernel
theorem dX11_mend_38 : decode cX11_mend 38 = .ok (.iload_n 1, 1) := by decide +kernel
theorem dX11_mend_39 : decode cX11_mend 39 = .ok (.aaload, 1) := by decide +kernel
theorem dX11_mend_40 : decode cX11_mend 40 = .ok (.astore 5, 2) := by decide +kernel
theorem dX11_mend_42 : decode cX11_mend 42 = .ok (.aload_n 0, 1) := by decide +kernel
theorem dX11_mend_43 : decode cX11_mend 43 = .ok (.getfield 52, 3) := by decide +kernel
theorem dX11_mend_46 : decode cX11_mend 46 = .ok (.aload_n 0, 1) := by decide +kernel
theorem dX11_mend_47 : decode cX11_mend 47 = .ok (.getfield 10, 3) := by decide +kernel
theorem dX11_mend_50 : decode cX11_mend 50 = .ok (.aload 5, 2) := by decide +kernel
theorem dX11_mend_52 : decode cX11_mend 52 = .ok (.aload 5, 2) := by decide +kernel
theorem dX11_mend_54 : decode cX11_mend 54 = .ok (.iload_n 2, 1) := by decide +kernel
theorem dX11_mend_55 : decode cX11_mend 55 = .ok (.iload_n 3, 1) := by decide +kernel
theorem dX11_mend_56 : decode cX11_mend 56 = .ok (.iload 4, 2) := by decide +kernel
theorem dX11_mend_58 : decode cX11_mend 58 = .ok (.invokevirtual 196, 3) := by decide +kernel
theorem dX11_mend_61 : decode cX11_mend 61 = .ok (.istore 6, 2) := by decide +kernel
theorem dX11_mend_63 : decode cX11_mend 63 = .ok (.iload 6, 2) := by decide +kernel
theorem dX11_mend_65 : decode cX11_mend 65 = .ok (.ldc 219, 2) := by decide +kernel
theorem dX11_mend_67 : decode cX11_mend 67 = .ok (.if_icmp .ne 6, 3) := by decide +kernel
theorem dX11_mend_70 : decode cX11_mend 70 = .ok (.ldc 219, 2) := by decide +kernel
theorem dX11_mend_72 : decode cX11_mend 72 = .ok (.ireturn, 1) := by decide +kernel
theorem dX11_mend_73 : decode cX11_mend 73 = .ok (.iconst 0, 1) := by decide +kernel
theorem dX11_mend_74 : decode cX11_mend 74 = .ok (.istore 7, 2) := by decide +kernel
theorem dX11_mend_76 : decode cX11_mend 76 = .ok (.iload 7, 2) := by decide +kernel
theorem dX11_mend_78 : decode cX11_mend 78 = .ok (.aload 5, 2) := by decide +kernel
theorem dX11_mend_80 : decode cX11_mend 80 = .ok (.getfield 118, 3) := by decide +kernel
theorem dX11_mend_83 : decode cX11_mend 83 = .ok (.if_icmp .ge 129, 3) := by decide +kernel
theorem dX11_mend_86 : decode cX11_mend 86 = .ok (.aload 5, 2) := by decide +kernel
theorem dX11_mend_88 : decode cX11_mend 88 = .ok (.iload 7, 2) := by decide +kernel
theorem dX11_mend_90 : decode cX11_mend 90 = .ok (.invokevirtual 220, 3) := by decide +kernel
theorem dX11_mend_93 : decode cX11_mend 93 = .ok (.istore 8, 2) := by decide +kernel
theorem dX11_mend_95 : decode cX11_mend 95 = .ok (.aload 5, 2) := by decide +kernel
theorem dX11_mend_97 : decode cX11_mend 97 = .ok (.iload 7, 2) := by decide +kernel
theorem dX11_mend_99 : decode cX11_mend 99 = .ok (.invokevirtual 223, 3) := by decide +kernel
theorem dX11_mend_102 : decode cX11_mend 102 = .ok (.istore 9, 2) := by decide +kernel
theorem dX11_mend_104 : decode cX11_mend 104 = .ok (.iconst 0, 1) := by decide +kernel
theorem dX11_mend_105 : decode cX11_mend 105 = .ok (.istore 10, 2) := by decide +kernel
theorem dX11_mend_107 : decode cX11_mend 107 = .ok (.iload 10, 2) := by decide +kernel
theorem dX11_mend_109 : decode cX11_mend 109 = .ok (.iload 9, 2) := by decide +kernel
theorem dX11_mend_111 : decode cX11_mend 111 = .ok (.if_icmp .ge 95, 3) := by decide +kernel
theorem dX11_mend_114 : decode cX11_mend 114 = .ok (.iload 10, 2) := by decide +kernel
theorem dX11_mend_116 : decode cX11_mend 116 = .ok (.iload 8, 2) := by decide +kernel
theorem dX11_mend_118 : decode cX11_mend 118 = .ok (.if_icmp .ne 6, 3) := by decide +kernel
theorem dX11_mend_121 : decode cX11_mend 121 = .ok (.goto 79, 3) := by decide +kernel
theorem dX11_mend_124 : decode cX11_mend 124 = .ok (.aload 5, 2) := by decide +kernel
theorem dX11_mend_126 : decode cX11_mend 126 = .ok (.iload 7, 2) := by decide +kernel
theorem dX11_mend_128 : decode cX11_mend 128 = .ok (.iload 10, 2) := by decide +kernel
theorem dX11_mend_130 : decode cX11_mend 130 = .ok (.invokevirtual 226, 3) := by decide +kernel
theorem dX11_mend_133 : decode cX11_mend 133 = .ok (.aload_n 0, 1) := by decide +kernel
theorem dX11_mend_134 : decode cX11_mend 134 = .ok (.getfield 52, 3) := by decide +kernel
theorem dX11_mend_137 : decode cX11_mend 137 = .ok (.aload_n 0, 1) := by decide +kernel
theorem dX11_mend_138 : decode cX11_mend 138 = .ok (.getfield 10, 3) := by decide +kernel
theorem dX11_mend_141 : decode cX11_mend 141 = .ok (.aload 5, 2) := by decide +kernel
theorem dX11_mend_143 : decode cX11_mend 143 = .ok (.aload 5, 2) := by decide +kernel
theorem dX11_mend_145 : decode cX11_mend 145 = .ok (.iload_n 2, 1) := by decide +kernel
theorem dX11_mend_146 : decode cX11_mend 146 = .ok (.iload 6, 2) := by decide +kernel
theorem dX11_mend_148 : decode cX11_mend 148 = .ok (.invokevirtual 230, 3) := by decide +kernel
theorem dX11_mend_151 : decode cX11_mend 151 = .ok (.ifCond .ne 24, 3) := by decide +kernel
theorem dX11_mend_154 : decode cX11_mend 154 = .ok (.aload_n 0, 1) := by decide +kernel
theorem dX11_mend_155 : decode cX11_mend 155 = .ok (.getfield 52, 3) := by decide +kernel
theorem dX11_mend_158 : decode cX11_mend 158 = .ok (.aload_n 0, 1) := by decide +kernel
theorem dX11_mend_159 : decode cX11_mend 159 = .ok (.getfield 10, 3) := by decide +kernel
theorem dX11_mend_162 : decode cX11_mend 162 = .ok (.aload 5, 2) := by decide +kernel
theorem dX11_mend_164 : decode cX11_mend 164 = .ok (.aload 5, 2) := by decide +kernel
theorem dX11_mend_166 : decode cX11_mend 166 = .ok (.iload_n 2, 1) := by decide +kernel
theorem dX11_mend_167 : decode cX11_mend 167 = .ok (.iload_n 3, 1) := by decide +kernel
theorem dX11_mend_168 : decode cX11_mend 168 = .ok (.iload 4, 2) := by decide +kernel
theorem dX11_mend_170 : decode cX11_mend 170 = .ok (.invokevirtual 196, 3) := by decide +kernel
theorem dX11_mend_173 : decode cX11_mend 173 = .ok (.istore 6, 2) := by decide +kernel
theorem dX11_mend_175 : decode cX11_mend 175 = .ok (.aload 5, 2) := by decide +kernel
theorem dX11_mend_177 : decode cX11_mend 177 = .ok (.iload 7, 2) := by decide +kernel
theorem dX11_mend_179 : decode cX11_mend 179 = .ok (.iload 8, 2) := by decide +kernel
theorem dX11_mend_181 : decode cX11_mend 181 = .ok (.invokevirtual 226, 3) := by decide +kernel
theorem dX11_mend_184 : decode cX11_mend 184 = .ok (.iload 6, 2) := by decide +kernel
theorem dX11_mend_186 : decode cX11_mend 186 = .ok (.ldc 219, 2) := by decide +kernel
theorem dX11_mend_188 : decode cX11_mend 188 = .ok (.if_icmp .ne 12, 3) := by decide +kernel
theorem dX11_mend_191 : decode cX11_mend 191 = .ok (.bipush 10, 2) := by decide +kernel
theorem dX11_mend_193 : decode cX11_mend 193 = .ok (.iload 7, 2) := by decide +kernel
theorem dX11_mend_195 : decode cX11_mend 195 = .ok (.imul, 1) := by decide +kernel
theorem dX11_mend_196 : decode cX11_mend 196 = .ok (.iload 10, 2) := by decide +kernel
theorem dX11_mend_198 : decode cX11_mend 198 = .ok (.iadd, 1) := by decide +kernel
theorem dX11_mend_199 : decode cX11_mend 199 = .ok (.ireturn, 1) := by decide +kernel
theorem dX11_mend_200 : decode cX11_mend 200 = .ok (.iinc 10 1, 3) := by decide +kernel
theorem dX11_mend_203 : decode cX11_mend 203 = .ok (.goto (-96), 3) := by decide +kernel
theorem dX11_mend_206 : decode cX11_mend 206 = .ok (.iinc 7 1, 3) := by decide +kernel
theorem dX11_mend_209 : decode cX11_mend 209 = .ok (.goto (-133), 3) := by decide +kernel
theorem dX11_mend_212 : decode cX11_mend 212 = .ok (.bipush (-3), 2) := by decide +kernel
theorem dX11_mend_214 : decode cX11_mend 214 = .ok (.ireturn, 1) := by decide +kernel
set_option maxRecDepth 20000 in
theorem ggX11_same_X11_isProgram : GoodIn wsX11_same wsX11_isProgram := goodIn_r _ [6, 7, 18, 19, 20, 21, 22, 23, 24, 25, 26, 27] (by decide +kernel) (by decide +kernel)
set_option maxRecDepth 20000 in
theorem gX11_same_X11_isProgram : GoodIn wsX11_same (wsV RX11 108 RX11 yX11_isProgram wsX11_isProgram) := goodIn_app (goodIn_of _ (by decide +kernel)) ggX11_same_X11_isProgram
set_option maxRecDepth 20000 in
theorem ggX11_same_X6_hasActsOf : GoodIn wsX11_same wsX6_hasActsOf := goodIn_r _ [12, 13, 14, 15, 16, 17, 28, 29, 30, 31, 32, 33, 34] (by decide +kernel) (by decide +kernel)
set_option maxRecDepth 20000 in
theorem gX11_same_X6_hasActsOf : GoodIn wsX11_same (wsV RX11 234 RX6 yX6_hasActsOf wsX6_hasActsOf) := goodIn_app (goodIn_of _ (by decide +kernel)) ggX11_same_X6_hasActsOf
theorem dX11_same_0 : decode cX11_same 0 = .ok (.aload_n 0, 1) := by decide +kernel
theorem dX11_same_1 : decode cX11_same 1 = .ok (.iload_n 1, 1) := by decide +kernel
theorem dX11_same_2 : decode cX11_same 2 = .ok (.invokevirtual 108, 3) := by decide +kernel
theorem dX11_same_5 : decode cX11_same 5 = .ok (.ifCond .eq 11, 3) := by decide +kernel
theorem dX11_same_8 : decode cX11_same 8 = .ok (.aload_n 0, 1) := by decide +kernel
theorem dX11_same_9 : decode cX11_same 9 = .ok (.iload_n 2, 1) := by decide +kernel
theorem dX11_same_10 : decode cX11_same 10 = .ok (.invokevirtual 108, 3) := by decide +kernel
theorem dX11_same_13 : decode cX11_same 13 = .ok (.ifCond .ne 5, 3) := by decide +kernel
theorem dX11_same_16 : decode cX11_same 16 = .ok (.iconst (-1), 1) := by decide +kernel
theorem dX11_same_17 : decode cX11_same 17 = .ok (.ireturn, 1) := by decide +kernel
theorem dX11_same_18 : decode cX11_same 18 = .ok (.aload_n 0, 1) := by decide +kernel
theorem dX11_same_19 : decode cX11_same 19 = .ok (.getfield 32, 3) := by decide +kernel
theorem dX11_same_22 : decode cX11_same 22 = .ok (.iload_n 1, 1) := by decide +kernel
theorem dX11_same_23 : decode cX11_same 23 = .ok (.aaload, 1) := by decide +kernel
theorem dX11_same_24 : decode cX11_same 24 = .ok (.aload_n 0, 1) := by decide +kernel
theorem dX11_same_25 : decode cX11_same 25 = .ok (.getfield 32, 3) := by decide +kernel
theorem dX11_same_28 : decode cX11_same 28 = .ok (.iload_n 2, 1) := by decide +kernel
theorem dX11_same_29 : decode cX11_same 29 = .ok (.aaload, 1) := by decide +kernel
theorem dX11_same_30 : decode cX11_same 30 = .ok (.invokevirtual 234, 3) := by decide +kernel
theorem dX11_same_33 : decode cX11_same 33 = .ok (.ifCond .eq 7, 3) := by decide +kernel
theorem dX11_same_36 : decode cX11_same 36 = .ok (.iconst 1, 1) := by decide +kernel
theorem dX11_same_37 : decode cX11_same 37 = .ok (.goto 4, 3) := by decide +kernel
theorem dX11_same_40 : decode cX11_same 40 = .ok (.iconst 0, 1) := by decide +kernel
theorem dX11_same_41 : decode cX11_same 41 = .ok (.ireturn, 1) := by decide +kernel
set_option maxRecDepth 20000 in
theorem ggX11_rounded_X11_isMode : GoodIn wsX11_rounded wsX11_isMode := goodIn_r _ [9] (by decide +kernel) (by decide +kernel)
set_option maxRecDepth 20000 in
theorem gX11_rounded_X11_isMode : GoodIn wsX11_rounded (va_wsS RX11 204 yX11_isMode wsX11_isMode) := goodIn_app (goodIn_of _ (by decide +kernel)) ggX11_rounded_X11_isMode
set_option maxRecDepth 20000 in
theorem ggX11_rounded_X3_rounding : GoodIn wsX11_rounded wsX3_rounding := goodIn_r _ [13, 14] (by decide +kernel) (by decide +kernel)
set_option maxRecDepth 20000 in
theorem gX11_rounded_X3_rounding : GoodIn wsX11_rounded (va_wsS RX11 247 yX3_rounding wsX3_rounding) := goodIn_app (goodIn_of _ (by decide +kernel)) ggX11_rounded_X3_rounding
theorem dX11_rounded_0 : decode cX11_rounded 0 = .ok (.iload_n 3, 1) := by decide +kernel
theorem dX11_rounded_1 : decode cX11_rounded 1 = .ok (.iconst 1, 1) := by decide +kernel
theorem dX11_rounded_2 : decode cX11_rounded 2 = .ok (.if_icmp .lt 22, 3) := by decide +kernel
theorem dX11_rounded_5 : decode cX11_rounded 5 = .ok (.iload_n 3, 1) := by decide +kernel
theorem dX11_rounded_6 : decode cX11_rounded 6 = .ok (.ldc 238, 2) := by decide +kernel
theorem dX11_rounded_8 : decode cX11_rounded 8 = .ok (.if_icmp .gt 16, 3) := by decide +kernel
theorem dX11_rounded_11 : decode cX11_rounded 11 = .ok (.iload 4, 2) := by decide +kernel
theorem dX11_rounded_13 : decode cX11_rounded 13 = .ok (.iconst 1, 1) := by decide +kernel
theorem dX11_rounded_14 : decode cX11_rounded 14 = .ok (.if_icmp .lt 10, 3) := by decide +kernel
theorem dX11_rounded_17 : decode cX11_rounded 17 = .ok (.iload 4, 2) := by decide +kernel
theorem dX11_rounded_19 : decode cX11_rounded 19 = .ok (.ldc 238, 2) := by decide +kernel
theorem dX11_rounded_21 : decode cX11_rounded 21 = .ok (.if_icmp .le 13, 3) := by decide +kernel
theorem dX11_rounded_24 : decode cX11_rounded 24 = .ok (.new 142, 3) := by decide +kernel
theorem dX11_rounded_27 : decode cX11_rounded 27 = .ok (.dup, 1) := by decide +kernel
theorem dX11_rounded_28 : decode cX11_rounded 28 = .ok (.ldc 239, 2) := by decide +kernel
theorem dX11_rounded_30 : decode cX11_rounded 30 = .ok (.invokespecial 146, 3) := by decide +kernel
theorem dX11_rounded_33 : decode cX11_rounded 33 = .ok (.athrow, 1) := by decide +kernel
theorem dX11_rounded_34 : decode cX11_rounded 34 = .ok (.lload_n 1, 1) := by decide +kernel
theorem dX11_rounded_35 : decode cX11_rounded 35 = .ok (.ldc2_w 241, 3) := by decide +kernel
theorem dX11_rounded_38 : decode cX11_rounded 38 = .ok (.lcmp, 1) := by decide +kernel
theorem dX11_rounded_39 : decode cX11_rounded 39 = .ok (.ifCond .gt 19, 3) := by decide +kernel
theorem dX11_rounded_42 : decode cX11_rounded 42 = .ok (.lload_n 1, 1) := by decide +kernel
theorem dX11_rounded_43 : decode cX11_rounded 43 = .ok (.ldc2_w 243, 3) := by decide +kernel
theorem dX11_rounded_46 : decode cX11_rounded 46 = .ok (.lcmp, 1) := by decide +kernel
theorem dX11_rounded_47 : decode cX11_rounded 47 = .ok (.ifCond .lt 11, 3) := by decide +kernel
theorem dX11_rounded_50 : decode cX11_rounded 50 = .ok (.iload 5, 2) := by decide +kernel
theorem dX11_rounded_52 : decode cX11_rounded 52 = .ok (.invokestatic 204, 3) := by decide +kernel
theorem dX11_rounded_55 : decode cX11_rounded 55 = .ok (.ifCond .ne 13, 3) := by decide +kernel
theorem dX11_rounded_58 : decode cX11_rounded 58 = .ok (.new 142, 3) := by decide +kernel
theorem dX11_rounded_61 : decode cX11_rounded 61 = .ok (.dup, 1) := by decide +kernel
theorem dX11_rounded_62 : decode cX11_rounded 62 = .ok (.ldc 245, 2) := by decide +kernel
theorem dX11_rounded_64 : decode cX11_rounded 64 = .ok (.invokespecial 146, 3) := by decide +kernel
theorem dX11_rounded_67 : decode cX11_rounded 67 = .ok (.athrow, 1) := by decide +kernel
theorem dX11_rounded_68 : decode cX11_rounded 68 = .ok (.lload_n 1, 1) := by decide +kernel
theorem dX11_rounded_69 : decode cX11_rounded 69 = .ok (.iload_n 3, 1) := by decide +kernel
theorem dX11_rounded_70 : decode cX11_rounded 70 = .ok (.i2l, 1) := by decide +kernel
theorem dX11_rounded_71 : decode cX11_rounded 71 = .ok (.iload 4, 2) := by decide +kernel
theorem dX11_rounded_73 : decode cX11_rounded 73 = .ok (.i2l, 1) := by decide +kernel
theorem dX11_rounded_74 : decode cX11_rounded 74 = .ok (.iload 5, 2) := by decide +kernel
theorem dX11_rounded_76 : decode cX11_rounded 76 = .ok (.invokestatic 247, 3) := by decide +kernel
theorem dX11_rounded_79 : decode cX11_rounded 79 = .ok (.lreturn, 1) := by decide +kernel
set_option maxRecDepth 20000 in
theorem ggX11_tape_X11_isTape : GoodIn wsX11_tape wsX11_isTape := goodIn_r _ [5] (by decide +kernel) (by decide +kernel)
set_option maxRecDepth 20000 in
theorem gX11_tape_X11_isTape : GoodIn wsX11_tape (va_wsS RX11 253 yX11_isTape wsX11_isTape) := goodIn_app (goodIn_of _ (by decide +kernel)) ggX11_tape_X11_isTape
set_option maxRecDepth 20000 in
theorem ggX11_tape_X11_refuse : GoodIn wsX11_tape wsX11_refuse := goodIn_r _ [9, 10, 19, 20, 21, 22, 23, 24, 25, 26, 27, 28] (by decide +kernel) (by decide +kernel)
set_option maxRecDepth 20000 in
theorem gX11_tape_X11_refuse : GoodIn wsX11_tape (wsV RX11 256 RX11 yX11_refuse wsX11_refuse) := goodIn_app (goodIn_of _ (by decide +kernel)) ggX11_tape_X11_refuse
set_option maxRecDepth 20000 in
theorem ggX11_tape_X9_holdRow : GoodIn wsX11_tape wsX9_holdRow := goodIn_r _ [15, 16, 17, 18, 29, 30, 31, 32, 33, 34, 35] (by decide +kernel) (by decide +kernel)
set_option maxRecDepth 20000 in
theorem gX11_tape_X9_holdRow : GoodIn wsX11_tape (wsV RX11 259 RX9 yX9_holdRow wsX9_holdRow) := goodIn_app (goodIn_of _ (by decide +kernel)) ggX11_tape_X9_holdRow
theorem dX11_tape_0 : decode cX11_tape 0 = .ok (.iload_n 1, 1) := by decide +kernel
theorem dX11_tape_1 : decode cX11_tape 1 = .ok (.invokestatic 253, 3) := by decide +kernel
theorem dX11_tape_4 : decode cX11_tape 4 = .ok (.ifCond .eq 19, 3) := by decide +kernel
theorem dX11_tape_7 : decode cX11_tape 7 = .ok (.iload_n 2, 1) := by decide +kernel
theorem dX11_tape_8 : decode cX11_tape 8 = .ok (.iconst 1, 1) := by decide +kernel
theorem dX11_tape_9 : decode cX11_tape 9 = .ok (.if_icmp .lt 14, 3) := by decide +kernel
theorem dX11_tape_12 : decode cX11_tape 12 = .ok (.iload_n 2, 1) := by decide +kernel
theorem dX11_tape_13 : decode cX11_tape 13 = .ok (.iconst 4, 1) := by decide +kernel
theorem dX11_tape_14 : decode cX11_tape 14 = .ok (.if_icmp .gt 9, 3) := by decide +kernel
theorem dX11_tape_17 : decode cX11_tape 17 = .ok (.iload_n 3, 1) := by decide +kernel
theorem dX11_tape_18 : decode cX11_tape 18 = .ok (.bipush 64, 2) := by decide +kernel
theorem dX11_tape_20 : decode cX11_tape 20 = .ok (.if_icmp .le 5, 3) := by decide +kernel
theorem dX11_tape_23 : decode cX11_tape 23 = .ok (.iconst (-1), 1) := by decide +kernel
theorem dX11_tape_24 : decode cX11_tape 24 = .ok (.ireturn, 1) := by decide +kernel
theorem dX11_tape_25 : decode cX11_tape 25 = .ok (.iload_n 3, 1) := by decide +kernel
theorem dX11_tape_26 : decode cX11_tape 26 = .ok (.ifCond .ge 10, 3) := by decide +kernel
theorem dX11_tape_29 : decode cX11_tape 29 = .ok (.aload_n 0, 1) := by decide +kernel
theorem dX11_tape_30 : decode cX11_tape 30 = .ok (.bipush (-14), 2) := by decide +kernel
theorem dX11_tape_32 : decode cX11_tape 32 = .ok (.invokevirtual 256, 3) := by decide +kernel
theorem dX11_tape_35 : decode cX11_tape 35 = .ok (.ireturn, 1) := by decide +kernel
theorem dX11_tape_36 : decode cX11_tape 36 = .ok (.aload_n 0, 1) := by decide +kernel
theorem dX11_tape_37 : decode cX11_tape 37 = .ok (.getfield 38, 3) := by decide +kernel
theorem dX11_tape_40 : decode cX11_tape 40 = .ok (.iload_n 1, 1) := by decide +kernel
theorem dX11_tape_41 : decode cX11_tape 41 = .ok (.aaload, 1) := by decide +kernel
theorem dX11_tape_42 : decode cX11_tape 42 = .ok (.iload_n 2, 1) := by decide +kernel
theorem dX11_tape_43 : decode cX11_tape 43 = .ok (.iload_n 3, 1) := by decide +kernel
theorem dX11_tape_44 : decode cX11_tape 44 = .ok (.invokevirtual 259, 3) := by decide +kernel
theorem dX11_tape_47 : decode cX11_tape 47 = .ok (.iload_n 3, 1) := by decide +kernel
theorem dX11_tape_48 : decode cX11_tape 48 = .ok (.ireturn, 1) := by decide +kernel
set_option maxRecDepth 20000 in
theorem ggX11_image_X11_isTape : GoodIn wsX11_image wsX11_isTape := goodIn_r _ [15] (by decide +kernel) (by decide +kernel)
set_option maxRecDepth 20000 in
theorem gX11_image_X11_isTape : GoodIn wsX11_image (va_wsS RX11 253 yX11_isTape wsX11_isTape) := goodIn_app (goodIn_of _ (by decide +kernel)) ggX11_image_X11_isTape
set_option maxRecDepth 20000 in
theorem ggX11_image_X4_become : GoodIn wsX11_image wsX4_become := goodIn_r _ [20, 21, 22, 47, 48] (by decide +kernel) (by decide +kernel)
set_option maxRecDepth 20000 in
theorem gX11_image_X4_become : GoodIn wsX11_image (wsV RX11 268 RX4 yX4_become wsX4_become) := goodIn_app (goodIn_of _ (by decide +kernel)) ggX11_image_X4_become
theorem dX11_image_0 : decode cX11_image 0 = .ok (.iload_n 1, 1) := by decide +kernel
theorem dX11_image_1 : decode cX11_image 1 = .ok (.invokestatic 253, 3) := by decide +kernel
theorem dX11_image_4 : decode cX11_image 4 = .ok (.ifCond .ne 5, 3) := by decide +kernel
theorem dX11_image_7 : decode cX11_image 7 = .ok (.iconst (-1), 1) := by decide +kernel
theorem dX11_image_8 : decode cX11_image 8 = .ok (.ireturn, 1) := by decide +kernel
theorem dX11_image_9 : decode cX11_image 9 = .ok (.aload_n 0, 1) := by decide +kernel
theorem dX11_image_10 : decode cX11_image 10 = .ok (.getfield 38, 3) := by decide +kernel
theorem dX11_image_13 : decode cX11_image 13 = .ok (.iload_n 1, 1) := by decide +kernel
theorem dX11_image_14 : decode cX11_image 14 = .ok (.aaload, 1) := by decide +kernel
theorem dX11_image_15 : decode cX11_image 15 = .ok (.astore_n 2, 1) := by decide +kernel
theorem dX11_image_16 : decode cX11_image 16 = .ok (.aload_n 2, 1) := by decide +kernel
theorem dX11_image_17 : decode cX11_image 17 = .ok (.iconst 5, 1) := by decide +kernel
theorem dX11_image_18 : decode cX11_image 18 = .ok (.putfield 262, 3) := by decide +kernel
theorem dX11_image_21 : decode cX11_image 21 = .ok (.aload_n 2, 1) := by decide +kernel
theorem dX11_image_22 : decode cX11_image 22 = .ok (.aload_n 0, 1) := by decide +kernel
theorem dX11_image_23 : decode cX11_image 23 = .ok (.getfield 65, 3) := by decide +kernel
theorem dX11_image_26 : decode cX11_image 26 = .ok (.putfield 265, 3) := by decide +kernel
theorem dX11_image_29 : decode cX11_image 29 = .ok (.aload_n 2, 1) := by decide +kernel
theorem dX11_image_30 : decode cX11_image 30 = .ok (.getfield 267, 3) := by decide +kernel
theorem dX11_image_33 : decode cX11_image 33 = .ok (.aload_n 0, 1) := by decide +kernel
theorem dX11_image_34 : decode cX11_image 34 = .ok (.getfield 26, 3) := by decide +kernel
theorem dX11_image_37 : decode cX11_image 37 = .ok (.invokevirtual 268, 3) := by decide +kernel
theorem dX11_image_40 : decode cX11_image 40 = .ok (.iconst 0, 1) := by decide +kernel
theorem dX11_image_41 : decode cX11_image 41 = .ok (.istore_n 3, 1) := by decide +kernel
theorem dX11_image_42 : decode cX11_image 42 = .ok (.iload_n 3, 1) := by decide +kernel
theorem dX11_image_43 : decode cX11_image 43 = .ok (.aload_n 0, 1) := by decide +kernel
theorem dX11_image_44 : decode cX11_image 44 = .ok (.getfield 65, 3) := by decide +kernel
theorem dX11_image_47 : decode cX11_image 47 = .ok (.if_icmp .ge 39, 3) := by decide +kernel
theorem dX11_image_50 : decode cX11_image 50 = .ok (.aload_n 2, 1) := by decide +kernel
theorem dX11_image_51 : decode cX11_image 51 = .ok (.getfield 272, 3) := by decide +kernel
theorem dX11_image_54 : decode cX11_image 54 = .ok (.iload_n 3, 1) := by decide +kernel
theorem dX11_image_55 : decode cX11_image 55 = .ok (.aload_n 0, 1) := by decide +kernel
theorem dX11_image_56 : decode cX11_image 56 = .ok (.getfield 32, 3) := by decide +kernel
theorem dX11_image_59 : decode cX11_image 59 = .ok (.iload_n 3, 1) := by decide +kernel
theorem dX11_image_60 : decode cX11_image 60 = .ok (.aaload, 1) := by decide +kernel
theorem dX11_image_61 : decode cX11_image 61 = .ok (.getfield 183, 3) := by decide +kernel
theorem dX11_image_64 : decode cX11_image 64 = .ok (.lastore, 1) := by decide +kernel
theorem dX11_image_65 : decode cX11_image 65 = .ok (.aload_n 2, 1) := by decide +kernel
theorem dX11_image_66 : decode cX11_image 66 = .ok (.getfield 275, 3) := by decide +kernel
theorem dX11_image_69 : decode cX11_image 69 = .ok (.iload_n 3, 1) := by decide +kernel
theorem dX11_image_70 : decode cX11_image 70 = .ok (.aload_n 0, 1) := by decide +kernel
theorem dX11_image_71 : decode cX11_image 71 = .ok (.getfield 32, 3) := by decide +kernel
theorem dX11_image_74 : decode cX11_image 74 = .ok (.iload_n 3, 1) := by decide +kernel
theorem dX11_image_75 : decode cX11_image 75 = .ok (.aaload, 1) := by decide +kernel
theorem dX11_image_76 : decode cX11_image 76 = .ok (.getfield 187, 3) := by decide +kernel
theorem dX11_image_79 : decode cX11_image 79 = .ok (.lastore, 1) := by decide +kernel
theorem dX11_image_80 : decode cX11_image 80 = .ok (.iinc 3 1, 3) := by decide +kernel
theorem dX11_image_83 : decode cX11_image 83 = .ok (.goto (-41), 3) := by decide +kernel
theorem dX11_image_86 : decode cX11_image 86 = .ok (.aload_n 0, 1) := by decide +kernel
theorem dX11_image_87 : decode cX11_image 87 = .ok (.getfield 65, 3) := by decide +kernel
theorem dX11_image_90 : decode cX11_image 90 = .ok (.ireturn, 1) := by decide +kernel
set_option maxRecDepth 20000 in
theorem ggX11_back_X11_isTape : GoodIn wsX11_back wsX11_isTape := goodIn_r _ [16] (by decide +kernel) (by decide +kernel)
set_option maxRecDepth 20000 in
theorem gX11_back_X11_isTape : GoodIn wsX11_back (va_wsS RX11 253 yX11_isTape wsX11_isTape) := goodIn_app (goodIn_of _ (by decide +kernel)) ggX11_back_X11_isTape
set_option maxRecDepth 20000 in
theorem ggX11_back_X11_refuse : GoodIn wsX11_back wsX11_refuse := goodIn_r _ [20, 21, 29, 30, 31, 32, 33, 34, 35, 36, 37, 38] (by decide +kernel) (by decide +kernel)
set_option maxRecDepth 20000 in
theorem gX11_back_X11_refuse : GoodIn wsX11_back (wsV RX11 256 RX11 yX11_refuse wsX11_refuse) := goodIn_app (goodIn_of _ (by decide +kernel)) ggX11_back_X11_refuse
set_option maxRecDepth 20000 in
theorem ggX11_back_X4_become : GoodIn wsX11_back wsX4_become := goodIn_r _ [26, 27, 28, 53, 54] (by decide +kernel) (by decide +kernel)
set_option maxRecDepth 20000 in
theorem gX11_back_X4_become : GoodIn wsX11_back (wsV RX11 268 RX4 yX4_become wsX4_become) := goodIn_app (goodIn_of _ (by decide +kernel)) ggX11_back_X4_become
theorem dX11_back_0 : decode cX11_back 0 = .ok (.iload_n 1, 1) := by decide +kernel
theorem dX11_back_1 : decode cX11_back 1 = .ok (.invokestatic 253, 3) := by decide +kernel
theorem dX11_back_4 : decode cX11_back 4 = .ok (.ifCond .ne 5, 3) := by decide +kernel
theorem dX11_back_7 : decode cX11_back 7 = .ok (.iconst (-1), 1) := by decide +kernel
theorem dX11_back_8 : decode cX11_back 8 = .ok (.ireturn, 1) := by decide +kernel
theorem dX11_back_9 : decode cX11_back 9 = .ok (.aload_n 0, 1) := by decide +kernel
theorem dX11_back_10 : decode cX11_back 10 = .ok (.getfield 38, 3) := by decide +kernel
theorem dX11_back_13 : decode cX11_back 13 = .ok (.iload_n 1, 1) := by decide +kernel
theorem dX11_back_14 : decode cX11_back 14 = .ok (.aaload, 1) := by decide +kernel
theorem dX11_back_15 : decode cX11_back 15 = .ok (.astore_n 2, 1) := by decide +kernel
theorem dX11_back_16 : decode cX11_back 16 = .ok (.aload_n 2, 1) := by decide +kernel
theorem dX11_back_17 : decode cX11_back 17 = .ok (.getfield 262, 3) := by decide +kernel
theorem dX11_back_20 : decode cX11_back 20 = .ok (.ifCond .ne 10, 3) := by decide +kernel
theorem dX11_back_23 : decode cX11_back 23 = .ok (.aload_n 0, 1) := by decide +kernel
theorem dX11_back_24 : decode cX11_back 24 = .ok (.bipush (-11), 2) := by decide +kernel
theorem dX11_back_26 : decode cX11_back 26 = .ok (.invokevirtual 256, 3) := by decide +kernel
theorem dX11_back_29 : decode cX11_back 29 = .ok (.ireturn, 1) := by decide +kernel
theorem dX11_back_30 : decode cX11_back 30 = .ok (.aload_n 2, 1) := by decide +kernel
theorem dX11_back_31 : decode cX11_back 31 = .ok (.getfield 262, 3) := by decide +kernel
theorem dX11_back_34 : decode cX11_back 34 = .ok (.iconst 5, 1) := by decide +kernel
theorem dX11_back_35 : decode cX11_back 35 = .ok (.if_icmp .eq 10, 3) := by decide +kernel
theorem dX11_back_38 : decode cX11_back 38 = .ok (.aload_n 0, 1) := by decide +kernel
theorem dX11_back_39 : decode cX11_back 39 = .ok (.bipush (-12), 2) := by decide +kernel
theorem dX11_back_41 : decode cX11_back 41 = .ok (.invokevirtual 256, 3) := by decide +kernel
theorem dX11_back_44 : decode cX11_back 44 = .ok (.ireturn, 1) := by decide +kernel
theorem dX11_back_45 : decode cX11_back 45 = .ok (.aload_n 2, 1) := by decide +kernel
theorem dX11_back_46 : decode cX11_back 46 = .ok (.getfield 265, 3) := by decide +kernel
theorem dX11_back_49 : decode cX11_back 49 = .ok (.aload_n 0, 1) := by decide +kernel
theorem dX11_back_50 : decode cX11_back 50 = .ok (.getfield 65, 3) := by decide +kernel
theorem dX11_back_53 : decode cX11_back 53 = .ok (.if_icmp .le 6, 3) := by decide +kernel
theorem dX11_back_56 : decode cX11_back 56 = .ok (.bipush (-3), 2) := by decide +kernel
theorem dX11_back_58 : decode cX11_back 58 = .ok (.ireturn, 1) := by decide +kernel
theorem dX11_back_59 : decode cX11_back 59 = .ok (.aload_n 0, 1) := by decide +kernel
theorem dX11_back_60 : decode cX11_back 60 = .ok (.getfield 26, 3) := by decide +kernel
theorem dX11_back_63 : decode cX11_back 63 = .ok (.aload_n 2, 1) := by decide +kernel
theorem dX11_back_64 : decode cX11_back 64 = .ok (.getfield 267, 3) := by decide +kernel
theorem dX11_back_67 : decode cX11_back 67 = .ok (.invokevirtual 268, 3) := by decide +kernel
theorem dX11_back_70 : decode cX11_back 70 = .ok (.iconst 0, 1) := by decide +kernel
theorem dX11_back_71 : decode cX11_back 71 = .ok (.istore_n 3, 1) := by decide +kernel
theorem dX11_back_72 : decode cX11_back 72 = .ok (.iload_n 3, 1) := by decide +kernel
theorem dX11_back_73 : decode cX11_back 73 = .ok (.aload_n 0, 1) := by decide +kernel
theorem dX11_back_74 : decode cX11_back 74 = .ok (.getfield 65, 3) := by decide +kernel
theorem dX11_back_77 : decode cX11_back 77 = .ok (.if_icmp .ge 72, 3) := by decide +kernel
theorem dX11_back_80 : decode cX11_back 80 = .ok (.iload_n 3, 1) := by decide +kernel
theorem dX11_back_81 : decode cX11_back 81 = .ok (.aload_n 2, 1) := by decide +kernel
theorem dX11_back_82 : decode cX11_back 82 = .ok (.getfield 265, 3) := by decide +kernel
theorem dX11_back_85 : decode cX11_back 85 = .ok (.if_icmp .ge 7, 3) := by decide +kernel
theorem dX11_back_88 : decode cX11_back 88 = .ok (.iconst 1, 1) := by decide +kernel
theorem dX11_back_89 : decode cX11_back 89 = .ok (.goto 4, 3) := by decide +kernel
theorem dX11_back_92 : decode cX11_back 92 = .ok (.iconst 0, 1) := by decide +kernel
theorem dX11_back_93 : decode cX11_back 93 = .ok (.istore 4, 2) := by decide +kernel
theorem dX11_back_95 : decode cX11_back 95 = .ok (.aload_n 0, 1) := by decide +kernel
theorem dX11_back_96 : decode cX11_back 96 = .ok (.getfield 32, 3) := by decide +kernel
theorem dX11_back_99 : decode cX11_back 99 = .ok (.iload_n 3, 1) := by decide +kernel
theorem dX11_back_100 : decode cX11_back 100 = .ok (.aaload, 1) := by decide +kernel
theorem dX11_back_101 : decode cX11_back 101 = .ok (.iload 4, 2) := by decide +kernel
theorem dX11_back_103 : decode cX11_back 103 = .ok (.ifCond .eq 12, 3) := by decide +kernel
theorem dX11_back_106 : decode cX11_back 106 = .ok (.aload_n 2, 1) := by decide +kernel
theorem dX11_back_107 : decode cX11_back 107 = .ok (.getfield 272, 3) := by decide +kernel
theorem dX11_back_110 : decode cX11_back 110 = .ok (.iload_n 3, 1) := by decide +kernel
theorem dX11_back_111 : decode cX11_back 111 = .ok (.laload, 1) := by decide +kernel
theorem dX11_back_112 : decode cX11_back 112 = .ok (.goto 4, 3) := by decide +kernel
theorem dX11_back_115 : decode cX11_back 115 = .ok (.lconst 0, 1) := by decide +kernel
theorem dX11_back_116 : decode cX11_back 116 = .ok (.putfield 183, 3) := by decide +kernel
theorem dX11_back_119 : decode cX11_back 119 = .ok (.aload_n 0, 1) := by decide +kernel
theorem dX11_back_120 : decode cX11_back 120 = .ok (.getfield 32, 3) := by decide +kernel
theorem dX11_back_123 : decode cX11_back 123 = .ok (.iload_n 3, 1) := by decide +kernel
theorem dX11_back_124 : decode cX11_back 124 = .ok (.aaload, 1) := by decide +kernel
theorem dX11_back_125 : decode cX11_back 125 = .ok (.iload 4, 2) := by decide +kernel
theorem dX11_back_127 : decode cX11_back 127 = .ok (.ifCond .eq 12, 3) := by decide +kernel
theorem dX11_back_130 : decode cX11_back 130 = .ok (.aload_n 2, 1) := by decide +kernel
theorem dX11_back_131 : decode cX11_back 131 = .ok (.getfield 275, 3) := by decide +kernel
theorem dX11_back_134 : decode cX11_back 134 = .ok (.iload_n 3, 1) := by decide +kernel
theorem dX11_back_135 : decode cX11_back 135 = .ok (.laload, 1) := by decide +kernel
theorem dX11_back_136 : decode cX11_back 136 = .ok (.goto 4, 3) := by decide +kernel
theorem dX11_back_139 : decode cX11_back 139 = .ok (.lconst 1, 1) := by decide +kernel
theorem dX11_back_140 : decode cX11_back 140 = .ok (.putfield 187, 3) := by decide +kernel
theorem dX11_back_143 : decode cX11_back 143 = .ok (.iinc 3 1, 3) := by decide +kernel
theorem dX11_back_146 : decode cX11_back 146 = .ok (.goto (-74), 3) := by decide +kernel
theorem dX11_back_149 : decode cX11_back 149 = .ok (.aload_n 0, 1) := by decide +kernel
theorem dX11_back_150 : decode cX11_back 150 = .ok (.getfield 26, 3) := by decide +kernel
theorem dX11_back_153 : decode cX11_back 153 = .ok (.getfield 278, 3) := by decide +kernel
theorem dX11_back_156 : decode cX11_back 156 = .ok (.ireturn, 1) := by decide +kernel
set_option maxRecDepth 20000 in
theorem ggX11_toss_X11_isTape : GoodIn wsX11_toss wsX11_isTape := goodIn_r _ [8] (by decide +kernel) (by decide +kernel)
set_option maxRecDepth 20000 in
theorem gX11_toss_X11_isTape : GoodIn wsX11_toss (va_wsS RX11 253 yX11_isTape wsX11_isTape) := goodIn_app (goodIn_of _ (by decide +kernel)) ggX11_toss_X11_isTape
set_option maxRecDepth 20000 in
theorem ggX11_toss_X11_refuse : GoodIn wsX11_toss wsX11_refuse := goodIn_r _ [12, 13, 14, 15, 16, 17, 18, 19, 20, 21, 22, 23] (by decide +kernel) (by decide +kernel)
set_option maxRecDepth 20000 in
theorem gX11_toss_X11_refuse : GoodIn wsX11_toss (wsV RX11 256 RX11 yX11_refuse wsX11_refuse) := goodIn_app (goodIn_of _ (by decide +kernel)) ggX11_toss_X11_refuse
theorem dX11_toss_0 : decode cX11_toss 0 = .ok (.iload_n 1, 1) := by decide +kernel
theorem dX11_toss_1 : decode cX11_toss 1 = .ok (.invokestatic 253, 3) := by decide +kernel
theorem dX11_toss_4 : decode cX11_toss 4 = .ok (.ifCond .ne 5, 3) := by decide +kernel
theorem dX11_toss_7 : decode cX11_toss 7 = .ok (.iconst (-1), 1) := by decide +kernel
theorem dX11_toss_8 : decode cX11_toss 8 = .ok (.ireturn, 1) := by decide +kernel
theorem dX11_toss_9 : decode cX11_toss 9 = .ok (.aload_n 0, 1) := by decide +kernel
theorem dX11_toss_10 : decode cX11_toss 10 = .ok (.getfield 38, 3) := by decide +kernel
theorem dX11_toss_13 : decode cX11_toss 13 = .ok (.iload_n 1, 1) := by decide +kernel
theorem dX11_toss_14 : decode cX11_toss 14 = .ok (.aaload, 1) := by decide +kernel
theorem dX11_toss_15 : decode cX11_toss 15 = .ok (.getfield 262, 3) := by decide +kernel
theorem dX11_toss_18 : decode cX11_toss 18 = .ok (.ifCond .ne 10, 3) := by decide +kernel
theorem dX11_toss_21 : decode cX11_toss 21 = .ok (.aload_n 0, 1) := by decide +kernel
theorem dX11_toss_22 : decode cX11_toss 22 = .ok (.bipush (-11), 2) := by decide +kernel
theorem dX11_toss_24 : decode cX11_toss 24 = .ok (.invokevirtual 256, 3) := by decide +kernel
theorem dX11_toss_27 : decode cX11_toss 27 = .ok (.ireturn, 1) := by decide +kernel
theorem dX11_toss_28 : decode cX11_toss 28 = .ok (.aload_n 0, 1) := by decide +kernel
theorem dX11_toss_29 : decode cX11_toss 29 = .ok (.getfield 38, 3) := by decide +kernel
theorem dX11_toss_32 : decode cX11_toss 32 = .ok (.iload_n 1, 1) := by decide +kernel
theorem dX11_toss_33 : decode cX11_toss 33 = .ok (.aaload, 1) := by decide +kernel
theorem dX11_toss_34 : decode cX11_toss 34 = .ok (.getfield 262, 3) := by decide +kernel
theorem dX11_toss_37 : decode cX11_toss 37 = .ok (.iconst 5, 1) := by decide +kernel
theorem dX11_toss_38 : decode cX11_toss 38 = .ok (.if_icmp .eq 10, 3) := by decide +kernel
theorem dX11_toss_41 : decode cX11_toss 41 = .ok (.aload_n 0, 1) := by decide +kernel
theorem dX11_toss_42 : decode cX11_toss 42 = .ok (.bipush (-12), 2) := by decide +kernel
theorem dX11_toss_44 : decode cX11_toss 44 = .ok (.invokevirtual 256, 3) := by decide +kernel
theorem dX11_toss_47 : decode cX11_toss 47 = .ok (.ireturn, 1) := by decide +kernel
theorem dX11_toss_48 : decode cX11_toss 48 = .ok (.aload_n 0, 1) := by decide +kernel
theorem dX11_toss_49 : decode cX11_toss 49 = .ok (.getfield 38, 3) := by decide +kernel
theorem dX11_toss_52 : decode cX11_toss 52 = .ok (.iload_n 1, 1) := by decide +kernel
theorem dX11_toss_53 : decode cX11_toss 53 = .ok (.aaload, 1) := by decide +kernel
theorem dX11_toss_54 : decode cX11_toss 54 = .ok (.getfield 267, 3) := by decide +kernel
theorem dX11_toss_57 : decode cX11_toss 57 = .ok (.getfield 278, 3) := by decide +kernel
theorem dX11_toss_60 : decode cX11_toss 60 = .ok (.ifCond .le 18, 3) := by decide +kernel
theorem dX11_toss_63 : decode cX11_toss 63 = .ok (.aload_n 0, 1) := by decide +kernel
theorem dX11_toss_64 : decode cX11_toss 64 = .ok (.getfield 38, 3) := by decide +kernel
theorem dX11_toss_67 : decode cX11_toss 67 = .ok (.iload_n 1, 1) := by decide +kernel
theorem dX11_toss_68 : decode cX11_toss 68 = .ok (.aaload, 1) := by decide +kernel
theorem dX11_toss_69 : decode cX11_toss 69 = .ok (.getfield 267, 3) := by decide +kernel
theorem dX11_toss_72 : decode cX11_toss 72 = .ok (.getfield 278, 3) := by decide +kernel
theorem dX11_toss_75 : decode cX11_toss 75 = .ok (.goto 9, 3) := by decide +kernel
theorem dX11_toss_78 : decode cX11_toss 78 = .ok (.aload_n 0, 1) := by decide +kernel
theorem dX11_toss_79 : decode cX11_toss 79 = .ok (.bipush (-15), 2) := by decide +kernel
theorem dX11_toss_81 : decode cX11_toss 81 = .ok (.invokevirtual 256, 3) := by decide +kernel
theorem dX11_toss_84 : decode cX11_toss 84 = .ok (.ireturn, 1) := by decide +kernel
set_option maxRecDepth 20000 in
theorem ggX11_load_X11_isTape : GoodIn wsX11_load wsX11_isTape := goodIn_r _ [10] (by decide +kernel) (by decide +kernel)
set_option maxRecDepth 20000 in
theorem gX11_load_X11_isTape : GoodIn wsX11_load (va_wsS RX11 253 yX11_isTape wsX11_isTape) := goodIn_app (goodIn_of _ (by decide +kernel)) ggX11_load_X11_isTape
set_option maxRecDepth 20000 in
theorem ggX11_load_X11_refuse : GoodIn wsX11_load wsX11_refuse := goodIn_r _ [14, 15, 27, 28, 29, 30, 31, 32, 33, 34, 35, 36] (by decide +kernel) (by decide +kernel)
set_option maxRecDepth 20000 in
theorem gX11_load_X11_refuse : GoodIn wsX11_load (wsV RX11 256 RX11 yX11_refuse wsX11_refuse) := goodIn_app (goodIn_of _ (by decide +kernel)) ggX11_load_X11_refuse
set_option maxRecDepth 20000 in
theorem ggX11_load_X9_hasPlaces : GoodIn wsX11_load wsX9_hasPlaces := goodIn_r _ [20, 21, 37, 38, 39, 40, 41, 42, 43] (by decide +kernel) (by decide +kernel)
set_option maxRecDepth 20000 in
theorem gX11_load_X9_hasPlaces : GoodIn wsX11_load (wsV RX11 281 RX9 yX9_hasPlaces wsX9_hasPlaces) := goodIn_app (goodIn_of _ (by decide +kernel)) ggX11_load_X9_hasPlaces
set_option maxRecDepth 20000 in
theorem ggX11_load_X11_isLine : GoodIn wsX11_load wsX11_isLine := goodIn_r _ [24, 25, 26] (by decide +kernel) (by decide +kernel)
set_option maxRecDepth 20000 in
theorem gX11_load_X11_isLine : GoodIn wsX11_load (va_wsS RX11 93 yX11_isLine wsX11_isLine) := goodIn_app (goodIn_of _ (by decide +kernel)) ggX11_load_X11_isLine
theorem dX11_load_0 : decode cX11_load 0 = .ok (.iload_n 1, 1) := by decide +kernel
theorem dX11_load_1 : decode cX11_load 1 = .ok (.invokestatic 253, 3) := by decide +kernel
theorem dX11_load_4 : decode cX11_load 4 = .ok (.ifCond .eq 13, 3) := by decide +kernel
theorem dX11_load_7 : decode cX11_load 7 = .ok (.iload_n 3, 1) := by decide +kernel
theorem dX11_load_8 : decode cX11_load 8 = .ok (.ifCond .lt 9, 3) := by decide +kernel
theorem dX11_load_11 : decode cX11_load 11 = .ok (.iload_n 3, 1) := by decide +kernel
theorem dX11_load_12 : decode cX11_load 12 = .ok (.bipush 12, 2) := by decide +kernel
theorem dX11_load_14 : decode cX11_load 14 = .ok (.if_icmp .le 5, 3) := by decide +kernel
theorem dX11_load_17 : decode cX11_load 17 = .ok (.iconst (-1), 1) := by decide +kernel
theorem dX11_load_18 : decode cX11_load 18 = .ok (.ireturn, 1) := by decide +kernel
theorem dX11_load_19 : decode cX11_load 19 = .ok (.aload_n 0, 1) := by decide +kernel
theorem dX11_load_20 : decode cX11_load 20 = .ok (.getfield 38, 3) := by decide +kernel
theorem dX11_load_23 : decode cX11_load 23 = .ok (.iload_n 1, 1) := by decide +kernel
theorem dX11_load_24 : decode cX11_load 24 = .ok (.aaload, 1) := by decide +kernel
theorem dX11_load_25 : decode cX11_load 25 = .ok (.astore 4, 2) := by decide +kernel
theorem dX11_load_27 : decode cX11_load 27 = .ok (.aload 4, 2) := by decide +kernel
theorem dX11_load_29 : decode cX11_load 29 = .ok (.getfield 262, 3) := by decide +kernel
theorem dX11_load_32 : decode cX11_load 32 = .ok (.ifCond .ne 10, 3) := by decide +kernel
theorem dX11_load_35 : decode cX11_load 35 = .ok (.aload_n 0, 1) := by decide +kernel
theorem dX11_load_36 : decode cX11_load 36 = .ok (.bipush (-11), 2) := by decide +kernel
theorem dX11_load_38 : decode cX11_load 38 = .ok (.invokevirtual 256, 3) := by decide +kernel
theorem dX11_load_41 : decode cX11_load 41 = .ok (.ireturn, 1) := by decide +kernel
theorem dX11_load_42 : decode cX11_load 42 = .ok (.aload 4, 2) := by decide +kernel
theorem dX11_load_44 : decode cX11_load 44 = .ok (.getfield 262, 3) := by decide +kernel
theorem dX11_load_47 : decode cX11_load 47 = .ok (.iconst 1, 1) := by decide +kernel
theorem dX11_load_48 : decode cX11_load 48 = .ok (.if_icmp .eq 12, 3) := by decide +kernel
theorem dX11_load_51 : decode cX11_load 51 = .ok (.aload 4, 2) := by decide +kernel
theorem dX11_load_53 : decode cX11_load 53 = .ok (.getfield 262, 3) := by decide +kernel
theorem dX11_load_56 : decode cX11_load 56 = .ok (.iconst 5, 1) := by decide +kernel
theorem dX11_load_57 : decode cX11_load 57 = .ok (.if_icmp .ne 10, 3) := by decide +kernel
theorem dX11_load_60 : decode cX11_load 60 = .ok (.aload_n 0, 1) := by decide +kernel
theorem dX11_load_61 : decode cX11_load 61 = .ok (.bipush (-12), 2) := by decide +kernel
theorem dX11_load_63 : decode cX11_load 63 = .ok (.invokevirtual 256, 3) := by decide +kernel
theorem dX11_load_66 : decode cX11_load 66 = .ok (.ireturn, 1) := by decide +kernel
theorem dX11_load_67 : decode cX11_load 67 = .ok (.aload 4, 2) := by decide +kernel
theorem dX11_load_69 : decode cX11_load 69 = .ok (.iload_n 2, 1) := by decide +kernel
theorem dX11_load_70 : decode cX11_load 70 = .ok (.iload_n 3, 1) := by decide +kernel
theorem dX11_load_71 : decode cX11_load 71 = .ok (.invokevirtual 281, 3) := by decide +kernel
theorem dX11_load_74 : decode cX11_load 74 = .ok (.ifCond .ne 10, 3) := by decide +kernel
theorem dX11_load_77 : decode cX11_load 77 = .ok (.aload_n 0, 1) := by decide +kernel
theorem dX11_load_78 : decode cX11_load 78 = .ok (.bipush (-13), 2) := by decide +kernel
theorem dX11_load_80 : decode cX11_load 80 = .ok (.invokevirtual 256, 3) := by decide +kernel
theorem dX11_load_83 : decode cX11_load 83 = .ok (.ireturn, 1) := by decide +kernel
theorem dX11_load_84 : decode cX11_load 84 = .ok (.iconst 0, 1) := by decide +kernel
theorem dX11_load_85 : decode cX11_load 85 = .ok (.istore 5, 2) := by decide +kernel
theorem dX11_load_87 : decode cX11_load 87 = .ok (.iload 5, 2) := by decide +kernel
theorem dX11_load_89 : decode cX11_load 89 = .ok (.iload_n 3, 1) := by decide +kernel
theorem dX11_load_90 : decode cX11_load 90 = .ok (.if_icmp .ge 28, 3) := by decide +kernel
theorem dX11_load_93 : decode cX11_load 93 = .ok (.aload 4, 2) := by decide +kernel
theorem dX11_load_95 : decode cX11_load 95 = .ok (.getfield 284, 3) := by decide +kernel
theorem dX11_load_98 : decode cX11_load 98 = .ok (.iload_n 2, 1) := by decide +kernel
theorem dX11_load_99 : decode cX11_load 99 = .ok (.iload 5, 2) := by decide +kernel
theorem dX11_load_101 : decode cX11_load 101 = .ok (.iadd, 1) := by decide +kernel
theorem dX11_load_102 : decode cX11_load 102 = .ok (.laload, 1) := by decide +kernel
theorem dX11_load_103 : decode cX11_load 103 = .ok (.invokestatic 93, 3) := by decide +kernel
theorem dX11_load_106 : decode cX11_load 106 = .ok (.ifCond .ne 6, 3) := by decide +kernel
theorem dX11_load_109 : decode cX11_load 109 = .ok (.bipush (-3), 2) := by decide +kernel
theorem dX11_load_111 : decode cX11_load 111 = .ok (.ireturn, 1) := by decide +kernel
theorem dX11_load_112 : decode cX11_load 112 = .ok (.iinc 5 1, 3) := by decide +kernel
theorem dX11_load_115 : decode cX11_load 115 = .ok (.goto (-28), 3) := by decide +kernel
theorem dX11_load_118 : decode cX11_load 118 = .ok (.iconst 0, 1) := by decide +kernel
theorem dX11_load_119 : decode cX11_load 119 = .ok (.istore 5, 2) := by decide +kernel
theorem dX11_load_121 : decode cX11_load 121 = .ok (.iload 5, 2) := by decide +kernel
theorem dX11_load_123 : decode cX11_load 123 = .ok (.iload_n 3, 1) := by decide +kernel
theorem dX11_load_124 : decode cX11_load 124 = .ok (.if_icmp .ge 30, 3) := by decide +kernel
theorem dX11_load_127 : decode cX11_load 127 = .ok (.aload_n 0, 1) := by decide +kernel
theorem dX11_load_128 : decode cX11_load 128 = .ok (.getfield 19, 3) := by decide +kernel
theorem dX11_load_131 : decode cX11_load 131 = .ok (.getfield 97, 3) := by decide +kernel
theorem dX11_load_134 : decode cX11_load 134 = .ok (.iload 5, 2) := by decide +kernel
theorem dX11_load_136 : decode cX11_load 136 = .ok (.aload 4, 2) := by decide +kernel
theorem dX11_load_138 : decode cX11_load 138 = .ok (.getfield 284, 3) := by decide +kernel
theorem dX11_load_141 : decode cX11_load 141 = .ok (.iload_n 2, 1) := by decide +kernel
theorem dX11_load_142 : decode cX11_load 142 = .ok (.iload 5, 2) := by decide +kernel
theorem dX11_load_144 : decode cX11_load 144 = .ok (.iadd, 1) := by decide +kernel
theorem dX11_load_145 : decode cX11_load 145 = .ok (.laload, 1) := by decide +kernel
theorem dX11_load_146 : decode cX11_load 146 = .ok (.l2i, 1) := by decide +kernel
theorem dX11_load_147 : decode cX11_load 147 = .ok (.iastore, 1) := by decide +kernel
theorem dX11_load_148 : decode cX11_load 148 = .ok (.iinc 5 1, 3) := by decide +kernel
theorem dX11_load_151 : decode cX11_load 151 = .ok (.goto (-30), 3) := by decide +kernel
theorem dX11_load_154 : decode cX11_load 154 = .ok (.aload_n 0, 1) := by decide +kernel
theorem dX11_load_155 : decode cX11_load 155 = .ok (.getfield 19, 3) := by decide +kernel
theorem dX11_load_158 : decode cX11_load 158 = .ok (.iload_n 3, 1) := by decide +kernel
theorem dX11_load_159 : decode cX11_load 159 = .ok (.putfield 72, 3) := by decide +kernel
theorem dX11_load_162 : decode cX11_load 162 = .ok (.iload_n 3, 1) := by decide +kernel
theorem dX11_load_163 : decode cX11_load 163 = .ok (.ireturn, 1) := by decide +kernel
set_option maxRecDepth 20000 in
theorem ggX11_clear_X11_isTape : GoodIn wsX11_clear wsX11_isTape := goodIn_r _ [6] (by decide +kernel) (by decide +kernel)
set_option maxRecDepth 20000 in
theorem gX11_clear_X11_isTape : GoodIn wsX11_clear (va_wsS RX11 253 yX11_isTape wsX11_isTape) := goodIn_app (goodIn_of _ (by decide +kernel)) ggX11_clear_X11_isTape
theorem dX11_clear_0 : decode cX11_clear 0 = .ok (.iload_n 1, 1) := by decide +kernel
theorem dX11_clear_1 : decode cX11_clear 1 = .ok (.invokestatic 253, 3) := by decide +kernel
theorem dX11_clear_4 : decode cX11_clear 4 = .ok (.ifCond .ne 5, 3) := by decide +kernel
theorem dX11_clear_7 : decode cX11_clear 7 = .ok (.iconst (-1), 1) := by decide +kernel
theorem dX11_clear_8 : decode cX11_clear 8 = .ok (.ireturn, 1) := by decide +kernel
theorem dX11_clear_9 : decode cX11_clear 9 = .ok (.aload_n 0, 1) := by decide +kernel
theorem dX11_clear_10 : decode cX11_clear 10 = .ok (.getfield 38, 3) := by decide +kernel
theorem dX11_clear_13 : decode cX11_clear 13 = .ok (.iload_n 1, 1) := by decide +kernel
theorem dX11_clear_14 : decode cX11_clear 14 = .ok (.aaload, 1) := by decide +kernel
theorem dX11_clear_15 : decode cX11_clear 15 = .ok (.getfield 262, 3) := by decide +kernel
theorem dX11_clear_18 : decode cX11_clear 18 = .ok (.istore_n 2, 1) := by decide +kernel
theorem dX11_clear_19 : decode cX11_clear 19 = .ok (.aload_n 0, 1) := by decide +kernel
theorem dX11_clear_20 : decode cX11_clear 20 = .ok (.getfield 38, 3) := by decide +kernel
theorem dX11_clear_23 : decode cX11_clear 23 = .ok (.iload_n 1, 1) := by decide +kernel
theorem dX11_clear_24 : decode cX11_clear 24 = .ok (.aaload, 1) := by decide +kernel
theorem dX11_clear_25 : decode cX11_clear 25 = .ok (.iconst 0, 1) := by decide +kernel
theorem dX11_clear_26 : decode cX11_clear 26 = .ok (.putfield 262, 3) := by decide +kernel
theorem dX11_clear_29 : decode cX11_clear 29 = .ok (.iload_n 2, 1) := by decide +kernel
theorem dX11_clear_30 : decode cX11_clear 30 = .ok (.ireturn, 1) := by decide +kernel
set_option maxRecDepth 20000 in
theorem ggX11_put_X11_isTape : GoodIn wsX11_put wsX11_isTape := goodIn_r _ [7] (by decide +kernel) (by decide +kernel)
set_option maxRecDepth 20000 in
theorem gX11_put_X11_isTape : GoodIn wsX11_put (va_wsS RX11 253 yX11_isTape wsX11_isTape) := goodIn_app (goodIn_of _ (by decide +kernel)) ggX11_put_X11_isTape
set_option maxRecDepth 20000 in
theorem ggX11_put_X11_refuse : GoodIn wsX11_put wsX11_refuse := goodIn_r _ [11, 12, 24, 25, 26, 27, 28, 29, 30, 31, 32, 33] (by decide +kernel) (by decide +kernel)
set_option maxRecDepth 20000 in
theorem gX11_put_X11_refuse : GoodIn wsX11_put (wsV RX11 256 RX11 yX11_refuse wsX11_refuse) := goodIn_app (goodIn_of _ (by decide +kernel)) ggX11_put_X11_refuse
set_option maxRecDepth 20000 in
theorem ggX11_put_X9_hasPlaces : GoodIn wsX11_put wsX9_hasPlaces := goodIn_r _ [17, 18, 34, 35, 36, 37, 38, 39, 40] (by decide +kernel) (by decide +kernel)
set_option maxRecDepth 20000 in
theorem gX11_put_X9_hasPlaces : GoodIn wsX11_put (wsV RX11 281 RX9 yX9_hasPlaces wsX9_hasPlaces) := goodIn_app (goodIn_of _ (by decide +kernel)) ggX11_put_X9_hasPlaces
set_option maxRecDepth 20000 in
theorem ggX11_put_X9_narrowed : GoodIn wsX11_put wsX9_narrowed := goodIn_r _ [22, 23, 34, 35, 36, 37, 38, 39, 40] (by decide +kernel) (by decide +kernel)
set_option maxRecDepth 20000 in
theorem gX11_put_X9_narrowed : GoodIn wsX11_put (wsV RX11 287 RX9 yX9_narrowed wsX9_narrowed) := goodIn_app (goodIn_of _ (by decide +kernel)) ggX11_put_X9_narrowed
theorem dX11_put_0 : decode cX11_put 0 = .ok (.iload_n 1, 1) := by decide +kernel
theorem dX11_put_1 : decode cX11_put 1 = .ok (.invokestatic 253, 3) := by decide +kernel
theorem dX11_put_4 : decode cX11_put 4 = .ok (.ifCond .ne 5, 3) := by decide +kernel
theorem dX11_put_7 : decode cX11_put 7 = .ok (.iconst (-1), 1) := by decide +kernel
theorem dX11_put_8 : decode cX11_put 8 = .ok (.ireturn, 1) := by decide +kernel
theorem dX11_put_9 : decode cX11_put 9 = .ok (.aload_n 0, 1) := by decide +kernel
theorem dX11_put_10 : decode cX11_put 10 = .ok (.getfield 38, 3) := by decide +kernel
theorem dX11_put_13 : decode cX11_put 13 = .ok (.iload_n 1, 1) := by decide +kernel
theorem dX11_put_14 : decode cX11_put 14 = .ok (.aaload, 1) := by decide +kernel
theorem dX11_put_15 : decode cX11_put 15 = .ok (.astore 5, 2) := by decide +kernel
theorem dX11_put_17 : decode cX11_put 17 = .ok (.aload 5, 2) := by decide +kernel
theorem dX11_put_19 : decode cX11_put 19 = .ok (.getfield 262, 3) := by decide +kernel
theorem dX11_put_22 : decode cX11_put 22 = .ok (.ifCond .ne 10, 3) := by decide +kernel
theorem dX11_put_25 : decode cX11_put 25 = .ok (.aload_n 0, 1) := by decide +kernel
theorem dX11_put_26 : decode cX11_put 26 = .ok (.bipush (-11), 2) := by decide +kernel
theorem dX11_put_28 : decode cX11_put 28 = .ok (.invokevirtual 256, 3) := by decide +kernel
theorem dX11_put_31 : decode cX11_put 31 = .ok (.ireturn, 1) := by decide +kernel
theorem dX11_put_32 : decode cX11_put 32 = .ok (.aload 5, 2) := by decide +kernel
theorem dX11_put_34 : decode cX11_put 34 = .ok (.getfield 262, 3) := by decide +kernel
theorem dX11_put_37 : decode cX11_put 37 = .ok (.iconst 5, 1) := by decide +kernel
theorem dX11_put_38 : decode cX11_put 38 = .ok (.if_icmp .ne 10, 3) := by decide +kernel
theorem dX11_put_41 : decode cX11_put 41 = .ok (.aload_n 0, 1) := by decide +kernel
theorem dX11_put_42 : decode cX11_put 42 = .ok (.bipush (-12), 2) := by decide +kernel
theorem dX11_put_44 : decode cX11_put 44 = .ok (.invokevirtual 256, 3) := by decide +kernel
theorem dX11_put_47 : decode cX11_put 47 = .ok (.ireturn, 1) := by decide +kernel
theorem dX11_put_48 : decode cX11_put 48 = .ok (.aload 5, 2) := by decide +kernel
theorem dX11_put_50 : decode cX11_put 50 = .ok (.iload_n 2, 1) := by decide +kernel
theorem dX11_put_51 : decode cX11_put 51 = .ok (.iconst 1, 1) := by decide +kernel
theorem dX11_put_52 : decode cX11_put 52 = .ok (.invokevirtual 281, 3) := by decide +kernel
theorem dX11_put_55 : decode cX11_put 55 = .ok (.ifCond .ne 10, 3) := by decide +kernel
theorem dX11_put_58 : decode cX11_put 58 = .ok (.aload_n 0, 1) := by decide +kernel
theorem dX11_put_59 : decode cX11_put 59 = .ok (.bipush (-13), 2) := by decide +kernel
theorem dX11_put_61 : decode cX11_put 61 = .ok (.invokevirtual 256, 3) := by decide +kernel
theorem dX11_put_64 : decode cX11_put 64 = .ok (.ireturn, 1) := by decide +kernel
theorem dX11_put_65 : decode cX11_put 65 = .ok (.aload 5, 2) := by decide +kernel
theorem dX11_put_67 : decode cX11_put 67 = .ok (.getfield 284, 3) := by decide +kernel
theorem dX11_put_70 : decode cX11_put 70 = .ok (.iload_n 2, 1) := by decide +kernel
theorem dX11_put_71 : decode cX11_put 71 = .ok (.aload 5, 2) := by decide +kernel
theorem dX11_put_73 : decode cX11_put 73 = .ok (.lload_n 3, 1) := by decide +kernel
theorem dX11_put_74 : decode cX11_put 74 = .ok (.invokevirtual 287, 3) := by decide +kernel
theorem dX11_put_77 : decode cX11_put 77 = .ok (.lastore, 1) := by decide +kernel
theorem dX11_put_78 : decode cX11_put 78 = .ok (.iconst 1, 1) := by decide +kernel
theorem dX11_put_79 : decode cX11_put 79 = .ok (.ireturn, 1) := by decide +kernel
set_option maxRecDepth 20000 in
theorem ggX11_at_X11_isTape : GoodIn wsX11_at wsX11_isTape := goodIn_r _ [10] (by decide +kernel) (by decide +kernel)
set_option maxRecDepth 20000 in
theorem gX11_at_X11_isTape : GoodIn wsX11_at (va_wsS RX11 253 yX11_isTape wsX11_isTape) := goodIn_app (goodIn_of _ (by decide +kernel)) ggX11_at_X11_isTape
set_option maxRecDepth 20000 in
theorem ggX11_at_X9_isRow : GoodIn wsX11_at wsX9_isRow := goodIn_r _ [15, 16, 32, 33, 34, 35, 36, 37, 38] (by decide +kernel) (by decide +kernel)
set_option maxRecDepth 20000 in
theorem gX11_at_X9_isRow : GoodIn wsX11_at (wsV RX11 293 RX9 yX9_isRow wsX9_isRow) := goodIn_app (goodIn_of _ (by decide +kernel)) ggX11_at_X9_isRow
set_option maxRecDepth 20000 in
theorem ggX11_at_X9_hasPlaces : GoodIn wsX11_at wsX9_hasPlaces := goodIn_r _ [20, 21, 32, 33, 34, 35, 36, 37, 38] (by decide +kernel) (by decide +kernel)
set_option maxRecDepth 20000 in
theorem gX11_at_X9_hasPlaces : GoodIn wsX11_at (wsV RX11 281 RX9 yX9_hasPlaces wsX9_hasPlaces) := goodIn_app (goodIn_of _ (by decide +kernel)) ggX11_at_X9_hasPlaces
theorem dX11_at_0 : decode cX11_at 0 = .ok (.iload_n 1, 1) := by decide +kernel
theorem dX11_at_1 : decode cX11_at 1 = .ok (.invokestatic 253, 3) := by decide +kernel
theorem dX11_at_4 : decode cX11_at 4 = .ok (.ifCond .ne 14, 3) := by decide +kernel
theorem dX11_at_7 : decode cX11_at 7 = .ok (.new 142, 3) := by decide +kernel
theorem dX11_at_10 : decode cX11_at 10 = .ok (.dup, 1) := by decide +kernel
theorem dX11_at_11 : decode cX11_at 11 = .ok (.ldc_w 291, 3) := by decide +kernel
theorem dX11_at_14 : decode cX11_at 14 = .ok (.invokespecial 146, 3) := by decide +kernel
theorem dX11_at_17 : decode cX11_at 17 = .ok (.athrow, 1) := by decide +kernel
theorem dX11_at_18 : decode cX11_at 18 = .ok (.aload_n 0, 1) := by decide +kernel
theorem dX11_at_19 : decode cX11_at 19 = .ok (.getfield 38, 3) := by decide +kernel
theorem dX11_at_22 : decode cX11_at 22 = .ok (.iload_n 1, 1) := by decide +kernel
theorem dX11_at_23 : decode cX11_at 23 = .ok (.aaload, 1) := by decide +kernel
theorem dX11_at_24 : decode cX11_at 24 = .ok (.invokevirtual 293, 3) := by decide +kernel
theorem dX11_at_27 : decode cX11_at 27 = .ok (.ifCond .eq 17, 3) := by decide +kernel
theorem dX11_at_30 : decode cX11_at 30 = .ok (.aload_n 0, 1) := by decide +kernel
theorem dX11_at_31 : decode cX11_at 31 = .ok (.getfield 38, 3) := by decide +kernel
theorem dX11_at_34 : decode cX11_at 34 = .ok (.iload_n 1, 1) := by decide +kernel
theorem dX11_at_35 : decode cX11_at 35 = .ok (.aaload, 1) := by decide +kernel
theorem dX11_at_36 : decode cX11_at 36 = .ok (.iload_n 2, 1) := by decide +kernel
theorem dX11_at_37 : decode cX11_at 37 = .ok (.iconst 1, 1) := by decide +kernel
theorem dX11_at_38 : decode cX11_at 38 = .ok (.invokevirtual 281, 3) := by decide +kernel
theorem dX11_at_41 : decode cX11_at 41 = .ok (.ifCond .ne 14, 3) := by decide +kernel
theorem dX11_at_44 : decode cX11_at 44 = .ok (.new 297, 3) := by decide +kernel
theorem dX11_at_47 : decode cX11_at 47 = .ok (.dup, 1) := by decide +kernel
theorem dX11_at_48 : decode cX11_at 48 = .ok (.ldc_w 299, 3) := by decide +kernel
theorem dX11_at_51 : decode cX11_at 51 = .ok (.invokespecial 301, 3) := by decide +kernel
theorem dX11_at_54 : decode cX11_at 54 = .ok (.athrow, 1) := by decide +kernel
theorem dX11_at_55 : decode cX11_at 55 = .ok (.aload_n 0, 1) := by decide +kernel
theorem dX11_at_56 : decode cX11_at 56 = .ok (.getfield 38, 3) := by decide +kernel
theorem dX11_at_59 : decode cX11_at 59 = .ok (.iload_n 1, 1) := by decide +kernel
theorem dX11_at_60 : decode cX11_at 60 = .ok (.aaload, 1) := by decide +kernel
theorem dX11_at_61 : decode cX11_at 61 = .ok (.getfield 284, 3) := by decide +kernel
theorem dX11_at_64 : decode cX11_at 64 = .ok (.iload_n 2, 1) := by decide +kernel
theorem dX11_at_65 : decode cX11_at 65 = .ok (.laload, 1) := by decide +kernel
theorem dX11_at_66 : decode cX11_at 66 = .ok (.lreturn, 1) := by decide +kernel
set_option maxRecDepth 20000 in
theorem ggX11_copy_X11_isTape : GoodIn wsX11_copy wsX11_isTape := goodIn_r _ [11] (by decide +kernel) (by decide +kernel)
set_option maxRecDepth 20000 in
theorem gX11_copy_X11_isTape : GoodIn wsX11_copy (va_wsS RX11 253 yX11_isTape wsX11_isTape) := goodIn_app (goodIn_of _ (by decide +kernel)) ggX11_copy_X11_isTape
set_option maxRecDepth 20000 in
theorem ggX11_copy_X11_refuse : GoodIn wsX11_copy wsX11_refuse := goodIn_r _ [15, 16, 23, 24, 25, 26, 27, 28, 29, 30, 31, 32] (by decide +kernel) (by decide +kernel)
set_option maxRecDepth 20000 in
theorem gX11_copy_X11_refuse : GoodIn wsX11_copy (wsV RX11 256 RX11 yX11_refuse wsX11_refuse) := goodIn_app (goodIn_of _ (by decide +kernel)) ggX11_copy_X11_refuse
set_option maxRecDepth 20000 in
theorem ggX11_copy_X9_hasPlaces : GoodIn wsX11_copy wsX9_hasPlaces := goodIn_r _ [21, 22, 33, 34, 35, 36, 37, 38, 39] (by decide +kernel) (by decide +kernel)
set_option maxRecDepth 20000 in
theorem gX11_copy_X9_hasPlaces : GoodIn wsX11_copy (wsV RX11 281 RX9 yX9_hasPlaces wsX9_hasPlaces) := goodIn_app (goodIn_of _ (by decide +kernel)) ggX11_copy_X9_hasPlaces
theorem dX11_copy_0 : decode cX11_copy 0 = .ok (.iload_n 1, 1) := by decide +kernel
theorem dX11_copy_1 : decode cX11_copy 1 = .ok (.invokestatic 253, 3) := by decide +kernel
theorem dX11_copy_4 : decode cX11_copy 4 = .ok (.ifCond .eq 10, 3) := by decide +kernel
theorem dX11_copy_7 : decode cX11_copy 7 = .ok (.iload_n 3, 1) := by decide +kernel
theorem dX11_copy_8 : decode cX11_copy 8 = .ok (.invokestatic 253, 3) := by decide +kernel
theorem dX11_copy_11 : decode cX11_copy 11 = .ok (.ifCond .ne 5, 3) := by decide +kernel
theorem dX11_copy_14 : decode cX11_copy 14 = .ok (.iconst (-1), 1) := by decide +kernel
theorem dX11_copy_15 : decode cX11_copy 15 = .ok (.ireturn, 1) := by decide +kernel
theorem dX11_copy_16 : decode cX11_copy 16 = .ok (.aload_n 0, 1) := by decide +kernel
theorem dX11_copy_17 : decode cX11_copy 17 = .ok (.getfield 38, 3) := by decide +kernel
theorem dX11_copy_20 : decode cX11_copy 20 = .ok (.iload_n 1, 1) := by decide +kernel
theorem dX11_copy_21 : decode cX11_copy 21 = .ok (.aaload, 1) := by decide +kernel
theorem dX11_copy_22 : decode cX11_copy 22 = .ok (.astore 6, 2) := by decide +kernel
theorem dX11_copy_24 : decode cX11_copy 24 = .ok (.aload_n 0, 1) := by decide +kernel
theorem dX11_copy_25 : decode cX11_copy 25 = .ok (.getfield 38, 3) := by decide +kernel
theorem dX11_copy_28 : decode cX11_copy 28 = .ok (.iload_n 3, 1) := by decide +kernel
theorem dX11_copy_29 : decode cX11_copy 29 = .ok (.aaload, 1) := by decide +kernel
theorem dX11_copy_30 : decode cX11_copy 30 = .ok (.astore 7, 2) := by decide +kernel
theorem dX11_copy_32 : decode cX11_copy 32 = .ok (.aload 6, 2) := by decide +kernel
theorem dX11_copy_34 : decode cX11_copy 34 = .ok (.getfield 262, 3) := by decide +kernel
theorem dX11_copy_37 : decode cX11_copy 37 = .ok (.ifCond .eq 11, 3) := by decide +kernel
theorem dX11_copy_40 : decode cX11_copy 40 = .ok (.aload 7, 2) := by decide +kernel
theorem dX11_copy_42 : decode cX11_copy 42 = .ok (.getfield 262, 3) := by decide +kernel
theorem dX11_copy_45 : decode cX11_copy 45 = .ok (.ifCond .ne 10, 3) := by decide +kernel
theorem dX11_copy_48 : decode cX11_copy 48 = .ok (.aload_n 0, 1) := by decide +kernel
theorem dX11_copy_49 : decode cX11_copy 49 = .ok (.bipush (-11), 2) := by decide +kernel
theorem dX11_copy_51 : decode cX11_copy 51 = .ok (.invokevirtual 256, 3) := by decide +kernel
theorem dX11_copy_54 : decode cX11_copy 54 = .ok (.ireturn, 1) := by decide +kernel
theorem dX11_copy_55 : decode cX11_copy 55 = .ok (.aload 6, 2) := by decide +kernel
theorem dX11_copy_57 : decode cX11_copy 57 = .ok (.getfield 262, 3) := by decide +kernel
theorem dX11_copy_60 : decode cX11_copy 60 = .ok (.iconst 5, 1) := by decide +kernel
theorem dX11_copy_61 : decode cX11_copy 61 = .ok (.if_icmp .eq 16, 3) := by decide +kernel
theorem dX11_copy_64 : decode cX11_copy 64 = .ok (.aload 6, 2) := by decide +kernel
theorem dX11_copy_66 : decode cX11_copy 66 = .ok (.getfield 262, 3) := by decide +kernel
theorem dX11_copy_69 : decode cX11_copy 69 = .ok (.aload 7, 2) := by decide +kernel
theorem dX11_copy_71 : decode cX11_copy 71 = .ok (.getfield 262, 3) := by decide +kernel
theorem dX11_copy_74 : decode cX11_copy 74 = .ok (.if_icmp .eq 10, 3) := by decide +kernel
theorem dX11_copy_77 : decode cX11_copy 77 = .ok (.aload_n 0, 1) := by decide +kernel
theorem dX11_copy_78 : decode cX11_copy 78 = .ok (.bipush (-12), 2) := by decide +kernel
theorem dX11_copy_80 : decode cX11_copy 80 = .ok (.invokevirtual 256, 3) := by decide +kernel
theorem dX11_copy_83 : decode cX11_copy 83 = .ok (.ireturn, 1) := by decide +kernel
theorem dX11_copy_84 : decode cX11_copy 84 = .ok (.aload 6, 2) := by decide +kernel
theorem dX11_copy_86 : decode cX11_copy 86 = .ok (.iload_n 2, 1) := by decide +kernel
theorem dX11_copy_87 : decode cX11_copy 87 = .ok (.iload 5, 2) := by decide +kernel
theorem dX11_copy_89 : decode cX11_copy 89 = .ok (.invokevirtual 281, 3) := by decide +kernel
theorem dX11_copy_92 : decode cX11_copy 92 = .ok (.ifCond .eq 15, 3) := by decide +kernel
theorem dX11_copy_95 : decode cX11_copy 95 = .ok (.aload 7, 2) := by decide +kernel
theorem dX11_copy_97 : decode cX11_copy 97 = .ok (.iload 4, 2) := by decide +kernel
theorem dX11_copy_99 : decode cX11_copy 99 = .ok (.iload 5, 2) := by decide +kernel
theorem dX11_copy_101 : decode cX11_copy 101 = .ok (.invokevirtual 281, 3) := by decide +kernel
theorem dX11_copy_104 : decode cX11_copy 104 = .ok (.ifCond .ne 10, 3) := by decide +kernel
theorem dX11_copy_107 : decode cX11_copy 107 = .ok (.aload_n 0, 1) := by decide +kernel
theorem dX11_copy_108 : decode cX11_copy 108 = .ok (.bipush (-13), 2) := by decide +kernel
theorem dX11_copy_110 : decode cX11_copy 110 = .ok (.invokevirtual 256, 3) := by decide +kernel
theorem dX11_copy_113 : decode cX11_copy 113 = .ok (.ireturn, 1) := by decide +kernel
theorem dX11_copy_114 : decode cX11_copy 114 = .ok (.aload 6, 2) := by decide +kernel
theorem dX11_copy_116 : decode cX11_copy 116 = .ok (.getfield 284, 3) := by decide +kernel
theorem dX11_copy_119 : decode cX11_copy 119 = .ok (.iload_n 2, 1) := by decide +kernel
theorem dX11_copy_120 : decode cX11_copy 120 = .ok (.aload 7, 2) := by decide +kernel
theorem dX11_copy_122 : decode cX11_copy 122 = .ok (.getfield 284, 3) := by decide +kernel
theorem dX11_copy_125 : decode cX11_copy 125 = .ok (.iload 4, 2) := by decide +kernel
theorem dX11_copy_127 : decode cX11_copy 127 = .ok (.iload 5, 2) := by decide +kernel
theorem dX11_copy_129 : decode cX11_copy 129 = .ok (.invokestatic 302, 3) := by decide +kernel
theorem dX11_copy_132 : decode cX11_copy 132 = .ok (.iload 5, 2) := by decide +kernel
theorem dX11_copy_134 : decode cX11_copy 134 = .ok (.ireturn, 1) := by decide +kernel
theorem dX11_count_0 : decode cX11_count 0 = .ok (.iload_n 1, 1) := by decide +kernel
theorem dX11_count_1 : decode cX11_count 1 = .ok (.bipush 10, 2) := by decide +kernel
theorem dX11_count_3 : decode cX11_count 3 = .ok (.if_icmp .lt 27, 3) := by decide +kernel
theorem dX11_count_6 : decode cX11_count 6 = .ok (.iload_n 1, 1) := by decide +kernel
theorem dX11_count_7 : decode cX11_count 7 = .ok (.bipush 10, 2) := by decide +kernel
theorem dX11_count_9 : decode cX11_count 9 = .ok (.aload_n 0, 1) := by decide +kernel
theorem dX11_count_10 : decode cX11_count 10 = .ok (.getfield 65, 3) := by decide +kernel
theorem dX11_count_13 : decode cX11_count 13 = .ok (.iadd, 1) := by decide +kernel
theorem dX11_count_14 : decode cX11_count 14 = .ok (.if_icmp .ge 16, 3) := by decide +kernel
theorem dX11_count_17 : decode cX11_count 17 = .ok (.aload_n 0, 1) := by decide +kernel
theorem dX11_count_18 : decode cX11_count 18 = .ok (.getfield 32, 3) := by decide +kernel
theorem dX11_count_21 : decode cX11_count 21 = .ok (.iload_n 1, 1) := by decide +kernel
theorem dX11_count_22 : decode cX11_count 22 = .ok (.bipush 10, 2) := by decide +kernel
theorem dX11_count_24 : decode cX11_count 24 = .ok (.isub, 1) := by decide +kernel
theorem dX11_count_25 : decode cX11_count 25 = .ok (.aaload, 1) := by decide +kernel
theorem dX11_count_26 : decode cX11_count 26 = .ok (.getfield 118, 3) := by decide +kernel
theorem dX11_count_29 : decode cX11_count 29 = .ok (.ireturn, 1) := by decide +kernel
theorem dX11_count_30 : decode cX11_count 30 = .ok (.iload_n 1, 1) := by decide +kernel
theorem dX11_count_31 : decode cX11_count 31 = .ok (.bipush 20, 2) := by decide +kernel
theorem dX11_count_33 : decode cX11_count 33 = .ok (.if_icmp .lt 22, 3) := by decide +kernel
theorem dX11_count_36 : decode cX11_count 36 = .ok (.iload_n 1, 1) := by decide +kernel
theorem dX11_count_37 : decode cX11_count 37 = .ok (.bipush 24, 2) := by decide +kernel
theorem dX11_count_39 : decode cX11_count 39 = .ok (.if_icmp .ge 16, 3) := by decide +kernel
theorem dX11_count_42 : decode cX11_count 42 = .ok (.aload_n 0, 1) := by decide +kernel
theorem dX11_count_43 : decode cX11_count 43 = .ok (.getfield 10, 3) := by decide +kernel
theorem dX11_count_46 : decode cX11_count 46 = .ok (.getfield 100, 3) := by decide +kernel
theorem dX11_count_49 : decode cX11_count 49 = .ok (.iload_n 1, 1) := by decide +kernel
theorem dX11_count_50 : decode cX11_count 50 = .ok (.bipush 20, 2) := by decide +kernel
theorem dX11_count_52 : decode cX11_count 52 = .ok (.isub, 1) := by decide +kernel
theorem dX11_count_53 : decode cX11_count 53 = .ok (.iaload, 1) := by decide +kernel
theorem dX11_count_54 : decode cX11_count 54 = .ok (.ireturn, 1) := by decide +kernel
theorem dX11_count_55 : decode cX11_count 55 = .ok (.iload_n 1, 1) := by decide +kernel
theorem dX11_count_56 : decode cX11_count 56 = .ok (.tableswitch 58 0 3 #[32, 40, 45, 53], 32) := by decide +kernel
theorem dX11_count_88 : decode cX11_count 88 = .ok (.aload_n 0, 1) := by decide +kernel
theorem dX11_count_89 : decode cX11_count 89 = .ok (.getfield 19, 3) := by decide +kernel
theorem dX11_count_92 : decode cX11_count 92 = .ok (.getfield 72, 3) := by decide +kernel
theorem dX11_count_95 : decode cX11_count 95 = .ok (.ireturn, 1) := by decide +kernel
theorem dX11_count_96 : decode cX11_count 96 = .ok (.aload_n 0, 1) := by decide +kernel
theorem dX11_count_97 : decode cX11_count 97 = .ok (.getfield 65, 3) := by decide +kernel
theorem dX11_count_100 : decode cX11_count 100 = .ok (.ireturn, 1) := by decide +kernel
theorem dX11_count_101 : decode cX11_count 101 = .ok (.aload_n 0, 1) := by decide +kernel
theorem dX11_count_102 : decode cX11_count 102 = .ok (.getfield 26, 3) := by decide +kernel
theorem dX11_count_105 : decode cX11_count 105 = .ok (.getfield 278, 3) := by decide +kernel
theorem dX11_count_108 : decode cX11_count 108 = .ok (.ireturn, 1) := by decide +kernel
theorem dX11_count_109 : decode cX11_count 109 = .ok (.aload_n 0, 1) := by decide +kernel
theorem dX11_count_110 : decode cX11_count 110 = .ok (.getfield 69, 3) := by decide +kernel
theorem dX11_count_113 : decode cX11_count 113 = .ok (.ireturn, 1) := by decide +kernel
theorem dX11_count_114 : decode cX11_count 114 = .ok (.iconst (-1), 1) := by decide +kernel
theorem dX11_count_115 : decode cX11_count 115 = .ok (.ireturn, 1) := by decide +kernel
set_option maxRecDepth 20000 in
theorem ggX11_runOnce_X0_become : GoodIn wsX11_runOnce wsX0_become := goodIn_r _ [15, 16, 17, 173, 174] (by decide +kernel) (by decide +kernel)
set_option maxRecDepth 20000 in
theorem gX11_runOnce_X0_become : GoodIn wsX11_runOnce (wsV RX11 309 RX0 yX0_become wsX0_become) := goodIn_app (goodIn_of _ (by decide +kernel)) ggX11_runOnce_X0_become
set_option maxRecDepth 20000 in
theorem ggX11_runOnce_X4_become : GoodIn wsX11_runOnce wsX4_become := goodIn_r _ [22, 23, 24, 175, 176] (by decide +kernel) (by decide +kernel)
set_option maxRecDepth 20000 in
theorem gX11_runOnce_X4_become : GoodIn wsX11_runOnce (wsV RX11 268 RX4 yX4_become wsX4_become) := goodIn_app (goodIn_of _ (by decide +kernel)) ggX11_runOnce_X4_become
set_option maxRecDepth 20000 in
theorem ggX11_runOnce_X5_perform : GoodIn wsX11_runOnce wsX5_perform := goodIn_r _ [29, 30, 31, 32, 33, 34, 28, 35, 36, 37, 38, 39, 40, 41, 42, 43, 44, 45, 46, 47, 48, 49, 50, 51, 52, 53, 54, 55, 56, 57, 58, 59, 60, 61, 62, 63, 64, 65, 66, 67, 68, 69, 70, 71, 72, 73, 74, 75, 76, 77, 78, 79, 80, 81, 82, 83, 84, 85, 86, 87, 88, 89, 90, 91, 92, 93, 94, 95, 96, 97, 98, 99, 100, 101, 102, 103, 104, 105, 106, 107, 108, 109, 110, 111, 112, 113, 114, 115, 116, 117, 118, 119, 120, 121, 122, 123, 124, 125, 126, 127, 128, 129, 130, 131, 132, 133, 134, 135, 136, 137, 138, 139, 140, 141, 142, 143, 144, 166, 167, 168, 169, 170, 171, 172, 155, 156, 157, 158, 159, 160, 161, 162, 163, 164, 165, 177, 178, 179, 180, 181, 182, 183, 184, 185, 186, 187, 173, 174, 175, 176] (by decide +kernel) (by decide +kernel)
set_option maxRecDepth 20000 in
theorem gX11_runOnce_X5_perform : GoodIn wsX11_runOnce (wsV RX11 315 RX5 yX5_perform wsX5_perform) := goodIn_app (goodIn_of _ (by decide +kernel)) ggX11_runOnce_X5_perform
theorem dX11_runOnce_0 : decode cX11_runOnce 0 = .ok (.aload_n 0, 1) := by decide +kernel
theorem dX11_runOnce_1 : decode cX11_runOnce 1 = .ok (.getfield 45, 3) := by decide +kernel
theorem dX11_runOnce_4 : decode cX11_runOnce 4 = .ok (.getfield 308, 3) := by decide +kernel
theorem dX11_runOnce_7 : decode cX11_runOnce 7 = .ok (.aload_n 0, 1) := by decide +kernel
theorem dX11_runOnce_8 : decode cX11_runOnce 8 = .ok (.getfield 19, 3) := by decide +kernel
theorem dX11_runOnce_11 : decode cX11_runOnce 11 = .ok (.invokevirtual 309, 3) := by decide +kernel
theorem dX11_runOnce_14 : decode cX11_runOnce 14 = .ok (.aload_n 0, 1) := by decide +kernel
theorem dX11_runOnce_15 : decode cX11_runOnce 15 = .ok (.getfield 45, 3) := by decide +kernel
theorem dX11_runOnce_18 : decode cX11_runOnce 18 = .ok (.getfield 312, 3) := by decide +kernel
theorem dX11_runOnce_21 : decode cX11_runOnce 21 = .ok (.aload_n 0, 1) := by decide +kernel
theorem dX11_runOnce_22 : decode cX11_runOnce 22 = .ok (.getfield 26, 3) := by decide +kernel
theorem dX11_runOnce_25 : decode cX11_runOnce 25 = .ok (.invokevirtual 268, 3) := by decide +kernel
theorem dX11_runOnce_28 : decode cX11_runOnce 28 = .ok (.aload_n 0, 1) := by decide +kernel
theorem dX11_runOnce_29 : decode cX11_runOnce 29 = .ok (.getfield 45, 3) := by decide +kernel
theorem dX11_runOnce_32 : decode cX11_runOnce 32 = .ok (.aload_n 1, 1) := by decide +kernel
theorem dX11_runOnce_33 : decode cX11_runOnce 33 = .ok (.getfield 183, 3) := by decide +kernel
theorem dX11_runOnce_36 : decode cX11_runOnce 36 = .ok (.putfield 313, 3) := by decide +kernel
theorem dX11_runOnce_39 : decode cX11_runOnce 39 = .ok (.aload_n 0, 1) := by decide +kernel
theorem dX11_runOnce_40 : decode cX11_runOnce 40 = .ok (.getfield 45, 3) := by decide +kernel
theorem dX11_runOnce_43 : decode cX11_runOnce 43 = .ok (.aload_n 1, 1) := by decide +kernel
theorem dX11_runOnce_44 : decode cX11_runOnce 44 = .ok (.getfield 187, 3) := by decide +kernel
theorem dX11_runOnce_47 : decode cX11_runOnce 47 = .ok (.putfield 314, 3) := by decide +kernel
theorem dX11_runOnce_50 : decode cX11_runOnce 50 = .ok (.aload_n 0, 1) := by decide +kernel
theorem dX11_runOnce_51 : decode cX11_runOnce 51 = .ok (.getfield 45, 3) := by decide +kernel
theorem dX11_runOnce_54 : decode cX11_runOnce 54 = .ok (.aload_n 1, 1) := by decide +kernel
theorem dX11_runOnce_55 : decode cX11_runOnce 55 = .ok (.aload_n 0, 1) := by decide +kernel
theorem dX11_runOnce_56 : decode cX11_runOnce 56 = .ok (.getfield 10, 3) := by decide +kernel
theorem dX11_runOnce_59 : decode cX11_runOnce 59 = .ok (.invokevirtual 315, 3) := by decide +kernel
theorem dX11_runOnce_62 : decode cX11_runOnce 62 = .ok (.istore_n 2, 1) := by decide +kernel
theorem dX11_runOnce_63 : decode cX11_runOnce 63 = .ok (.iload_n 2, 1) := by decide +kernel
theorem dX11_runOnce_64 : decode cX11_runOnce 64 = .ok (.ifCond .ne 39, 3) := by decide +kernel
theorem dX11_runOnce_67 : decode cX11_runOnce 67 = .ok (.aload_n 0, 1) := by decide +kernel
theorem dX11_runOnce_68 : decode cX11_runOnce 68 = .ok (.getfield 26, 3) := by decide +kernel
theorem dX11_runOnce_71 : decode cX11_runOnce 71 = .ok (.aload_n 0, 1) := by decide +kernel
theorem dX11_runOnce_72 : decode cX11_runOnce 72 = .ok (.getfield 45, 3) := by decide +kernel
theorem dX11_runOnce_75 : decode cX11_runOnce 75 = .ok (.getfield 312, 3) := by decide +kernel
theorem dX11_runOnce_78 : decode cX11_runOnce 78 = .ok (.invokevirtual 268, 3) := by decide +kernel
theorem dX11_runOnce_81 : decode cX11_runOnce 81 = .ok (.aload_n 1, 1) := by decide +kernel
theorem dX11_runOnce_82 : decode cX11_runOnce 82 = .ok (.aload_n 0, 1) := by decide +kernel
theorem dX11_runOnce_83 : decode cX11_runOnce 83 = .ok (.getfield 45, 3) := by decide +kernel
theorem dX11_runOnce_86 : decode cX11_runOnce 86 = .ok (.getfield 313, 3) := by decide +kernel
theorem dX11_runOnce_89 : decode cX11_runOnce 89 = .ok (.putfield 183, 3) := by decide +kernel
theorem dX11_runOnce_92 : decode cX11_runOnce 92 = .ok (.aload_n 1, 1) := by decide +kernel
theorem dX11_runOnce_93 : decode cX11_runOnce 93 = .ok (.aload_n 0, 1) := by decide +kernel
theorem dX11_runOnce_94 : decode cX11_runOnce 94 = .ok (.getfield 45, 3) := by decide +kernel
theorem dX11_runOnce_97 : decode cX11_runOnce 97 = .ok (.getfield 314, 3) := by decide +kernel
theorem dX11_runOnce_100 : decode cX11_runOnce 100 = .ok (.putfield 187, 3) := by decide +kernel
theorem dX11_runOnce_103 : decode cX11_runOnce 103 = .ok (.iload_n 2, 1) := by decide +kernel
theorem dX11_runOnce_104 : decode cX11_runOnce 104 = .ok (.ireturn, 1) := by decide +kernel
theorem dX11_refuse_0 : decode cX11_refuse 0 = .ok (.aload_n 0, 1) := by decide +kernel
theorem dX11_refuse_1 : decode cX11_refuse 1 = .ok (.dup, 1) := by decide +kernel
theorem dX11_refuse_2 : decode cX11_refuse 2 = .ok (.getfield 69, 3) := by decide +kernel
theorem dX11_refuse_5 : decode cX11_refuse 5 = .ok (.iconst 1, 1) := by decide +kernel
theorem dX11_refuse_6 : decode cX11_refuse 6 = .ok (.iadd, 1) := by decide +kernel
theorem dX11_refuse_7 : decode cX11_refuse 7 = .ok (.putfield 69, 3) := by decide +kernel
theorem dX11_refuse_10 : decode cX11_refuse 10 = .ok (.iload_n 1, 1) := by decide +kernel
theorem dX11_refuse_11 : decode cX11_refuse 11 = .ok (.ireturn, 1) := by decide +kernel
theorem dX11_isProgram_0 : decode cX11_isProgram 0 = .ok (.iload_n 1, 1) := by decide +kernel
theorem dX11_isProgram_1 : decode cX11_isProgram 1 = .ok (.ifCond .lt 15, 3) := by decide +kernel
theorem dX11_isProgram_4 : decode cX11_isProgram 4 = .ok (.iload_n 1, 1) := by decide +kernel
theorem dX11_isProgram_5 : decode cX11_isProgram 5 = .ok (.aload_n 0, 1) := by decide +kernel
theorem dX11_isProgram_6 : decode cX11_isProgram 6 = .ok (.getfield 65, 3) := by decide +kernel
theorem dX11_isProgram_9 : decode cX11_isProgram 9 = .ok (.if_icmp .ge 7, 3) := by decide +kernel
theorem dX11_isProgram_12 : decode cX11_isProgram 12 = .ok (.iconst 1, 1) := by decide +kernel
theorem dX11_isProgram_13 : decode cX11_isProgram 13 = .ok (.goto 4, 3) := by decide +kernel
theorem dX11_isProgram_16 : decode cX11_isProgram 16 = .ok (.iconst 0, 1) := by decide +kernel
theorem dX11_isProgram_17 : decode cX11_isProgram 17 = .ok (.ireturn, 1) := by decide +kernel
set_option maxRecDepth 20000 in
theorem ggX11_isAct_X11_isProgram : GoodIn wsX11_isAct wsX11_isProgram := goodIn_r _ [7, 8, 9, 10, 11, 12, 13, 14, 15, 16, 17, 18] (by decide +kernel) (by decide +kernel)
set_option maxRecDepth 20000 in
theorem gX11_isAct_X11_isProgram : GoodIn wsX11_isAct (wsV RX11 108 RX11 yX11_isProgram wsX11_isProgram) := goodIn_app (goodIn_of _ (by decide +kernel)) ggX11_isAct_X11_isProgram
theorem dX11_isAct_0 : decode cX11_isAct 0 = .ok (.aload_n 0, 1) := by decide +kernel
theorem dX11_isAct_1 : decode cX11_isAct 1 = .ok (.iload_n 1, 1) := by decide +kernel
theorem dX11_isAct_2 : decode cX11_isAct 2 = .ok (.invokevirtual 108, 3) := by decide +kernel
theorem dX11_isAct_5 : decode cX11_isAct 5 = .ok (.ifCond .eq 24, 3) := by decide +kernel
theorem dX11_isAct_8 : decode cX11_isAct 8 = .ok (.iload_n 2, 1) := by decide +kernel
theorem dX11_isAct_9 : decode cX11_isAct 9 = .ok (.ifCond .lt 20, 3) := by decide +kernel
theorem dX11_isAct_12 : decode cX11_isAct 12 = .ok (.iload_n 2, 1) := by decide +kernel
theorem dX11_isAct_13 : decode cX11_isAct 13 = .ok (.aload_n 0, 1) := by decide +kernel
theorem dX11_isAct_14 : decode cX11_isAct 14 = .ok (.getfield 32, 3) := by decide +kernel
theorem dX11_isAct_17 : decode cX11_isAct 17 = .ok (.iload_n 1, 1) := by decide +kernel
theorem dX11_isAct_18 : decode cX11_isAct 18 = .ok (.aaload, 1) := by decide +kernel
theorem dX11_isAct_19 : decode cX11_isAct 19 = .ok (.getfield 118, 3) := by decide +kernel
theorem dX11_isAct_22 : decode cX11_isAct 22 = .ok (.if_icmp .ge 7, 3) := by decide +kernel
theorem dX11_isAct_25 : decode cX11_isAct 25 = .ok (.iconst 1, 1) := by decide +kernel
theorem dX11_isAct_26 : decode cX11_isAct 26 = .ok (.goto 4, 3) := by decide +kernel
theorem dX11_isAct_29 : decode cX11_isAct 29 = .ok (.iconst 0, 1) := by decide +kernel
theorem dX11_isAct_30 : decode cX11_isAct 30 = .ok (.ireturn, 1) := by decide +kernel
theorem dX11_isRate_0 : decode cX11_isRate 0 = .ok (.iload_n 0, 1) := by decide +kernel
theorem dX11_isRate_1 : decode cX11_isRate 1 = .ok (.ifCond .lt 13, 3) := by decide +kernel
theorem dX11_isRate_4 : decode cX11_isRate 4 = .ok (.iload_n 0, 1) := by decide +kernel
theorem dX11_isRate_5 : decode cX11_isRate 5 = .ok (.bipush 8, 2) := by decide +kernel
theorem dX11_isRate_7 : decode cX11_isRate 7 = .ok (.if_icmp .ge 7, 3) := by decide +kernel
theorem dX11_isRate_10 : decode cX11_isRate 10 = .ok (.iconst 1, 1) := by decide +kernel
theorem dX11_isRate_11 : decode cX11_isRate 11 = .ok (.goto 4, 3) := by decide +kernel
theorem dX11_isRate_14 : decode cX11_isRate 14 = .ok (.iconst 0, 1) := by decide +kernel
theorem dX11_isRate_15 : decode cX11_isRate 15 = .ok (.ireturn, 1) := by decide +kernel
theorem dX11_isLine_0 : decode cX11_isLine 0 = .ok (.lload_n 0, 1) := by decide +kernel
theorem dX11_isLine_1 : decode cX11_isLine 1 = .ok (.ldc2_w 319, 3) := by decide +kernel
theorem dX11_isLine_4 : decode cX11_isLine 4 = .ok (.lcmp, 1) := by decide +kernel
theorem dX11_isLine_5 : decode cX11_isLine 5 = .ok (.ifCond .lt 15, 3) := by decide +kernel
theorem dX11_isLine_8 : decode cX11_isLine 8 = .ok (.lload_n 0, 1) := by decide +kernel
theorem dX11_isLine_9 : decode cX11_isLine 9 = .ok (.ldc2_w 321, 3) := by decide +kernel
theorem dX11_isLine_12 : decode cX11_isLine 12 = .ok (.lcmp, 1) := by decide +kernel
theorem dX11_isLine_13 : decode cX11_isLine 13 = .ok (.ifCond .gt 7, 3) := by decide +kernel
theorem dX11_isLine_16 : decode cX11_isLine 16 = .ok (.iconst 1, 1) := by decide +kernel
theorem dX11_isLine_17 : decode cX11_isLine 17 = .ok (.goto 4, 3) := by decide +kernel
theorem dX11_isLine_20 : decode cX11_isLine 20 = .ok (.iconst 0, 1) := by decide +kernel
theorem dX11_isLine_21 : decode cX11_isLine 21 = .ok (.ireturn, 1) := by decide +kernel
theorem dX11_isSlot_0 : decode cX11_isSlot 0 = .ok (.iload_n 0, 1) := by decide +kernel
theorem dX11_isSlot_1 : decode cX11_isSlot 1 = .ok (.ifCond .lt 13, 3) := by decide +kernel
theorem dX11_isSlot_4 : decode cX11_isSlot 4 = .ok (.iload_n 0, 1) := by decide +kernel
theorem dX11_isSlot_5 : decode cX11_isSlot 5 = .ok (.bipush 8, 2) := by decide +kernel
theorem dX11_isSlot_7 : decode cX11_isSlot 7 = .ok (.if_icmp .ge 7, 3) := by decide +kernel
theorem dX11_isSlot_10 : decode cX11_isSlot 10 = .ok (.iconst 1, 1) := by decide +kernel
theorem dX11_isSlot_11 : decode cX11_isSlot 11 = .ok (.goto 4, 3) := by decide +kernel
theorem dX11_isSlot_14 : decode cX11_isSlot 14 = .ok (.iconst 0, 1) := by decide +kernel
theorem dX11_isSlot_15 : decode cX11_isSlot 15 = .ok (.ireturn, 1) := by decide +kernel
theorem dX11_isMode_0 : decode cX11_isMode 0 = .ok (.iload_n 0, 1) := by decide +kernel
theorem dX11_isMode_1 : decode cX11_isMode 1 = .ok (.ifCond .lt 13, 3) := by decide +kernel
theorem dX11_isMode_4 : decode cX11_isMode 4 = .ok (.iload_n 0, 1) := by decide +kernel
theorem dX11_isMode_5 : decode cX11_isMode 5 = .ok (.bipush 6, 2) := by decide +kernel
theorem dX11_isMode_7 : decode cX11_isMode 7 = .ok (.if_icmp .ge 7, 3) := by decide +kernel
theorem dX11_isMode_10 : decode cX11_isMode 10 = .ok (.iconst 1, 1) := by decide +kernel
theorem dX11_isMode_11 : decode cX11_isMode 11 = .ok (.goto 4, 3) := by decide +kernel
theorem dX11_isMode_14 : decode cX11_isMode 14 = .ok (.iconst 0, 1) := by decide +kernel
theorem dX11_isMode_15 : decode cX11_isMode 15 = .ok (.ireturn, 1) := by decide +kernel
theorem dX11_isLaw_0 : decode cX11_isLaw 0 = .ok (.iload_n 0, 1) := by decide +kernel
theorem dX11_isLaw_1 : decode cX11_isLaw 1 = .ok (.ifCond .lt 13, 3) := by decide +kernel
theorem dX11_isLaw_4 : decode cX11_isLaw 4 = .ok (.iload_n 0, 1) := by decide +kernel
theorem dX11_isLaw_5 : decode cX11_isLaw 5 = .ok (.bipush 7, 2) := by decide +kernel
theorem dX11_isLaw_7 : decode cX11_isLaw 7 = .ok (.if_icmp .ge 7, 3) := by decide +kernel
theorem dX11_isLaw_10 : decode cX11_isLaw 10 = .ok (.iconst 1, 1) := by decide +kernel
theorem dX11_isLaw_11 : decode cX11_isLaw 11 = .ok (.goto 4, 3) := by decide +kernel
theorem dX11_isLaw_14 : decode cX11_isLaw 14 = .ok (.iconst 0, 1) := by decide +kernel
theorem dX11_isLaw_15 : decode cX11_isLaw 15 = .ok (.ireturn, 1) := by decide +kernel
theorem dX11_isTape_0 : decode cX11_isTape 0 = .ok (.iload_n 0, 1) := by decide +kernel
theorem dX11_isTape_1 : decode cX11_isTape 1 = .ok (.ifCond .lt 13, 3) := by decide +kernel
theorem dX11_isTape_4 : decode cX11_isTape 4 = .ok (.iload_n 0, 1) := by decide +kernel
theorem dX11_isTape_5 : decode cX11_isTape 5 = .ok (.bipush 6, 2) := by decide +kernel
theorem dX11_isTape_7 : decode cX11_isTape 7 = .ok (.if_icmp .ge 7, 3) := by decide +kernel
theorem dX11_isTape_10 : decode cX11_isTape 10 = .ok (.iconst 1, 1) := by decide +kernel
theorem dX11_isTape_11 : decode cX11_isTape 11 = .ok (.goto 4, 3) := by decide +kernel
theorem dX11_isTape_14 : decode cX11_isTape 14 = .ok (.iconst 0, 1) := by decide +kernel
theorem dX11_isTape_15 : decode cX11_isTape 15 = .ok (.ireturn, 1) := by decide +kernel
set_option maxRecDepth 20000 in
theorem ggX11_isSpan_X11_isLine : GoodIn wsX11_isSpan wsX11_isLine := goodIn_r _ [4, 5, 6] (by decide +kernel) (by decide +kernel)
set_option maxRecDepth 20000 in
theorem gX11_isSpan_X11_isLine : GoodIn wsX11_isSpan (va_wsS RX11 93 yX11_isLine wsX11_isLine) := goodIn_app (goodIn_of _ (by decide +kernel)) ggX11_isSpan_X11_isLine
theorem dX11_isSpan_0 : decode cX11_isSpan 0 = .ok (.iload_n 0, 1) := by decide +kernel
theorem dX11_isSpan_1 : decode cX11_isSpan 1 = .ok (.i2l, 1) := by decide +kernel
theorem dX11_isSpan_2 : decode cX11_isSpan 2 = .ok (.invokestatic 93, 3) := by decide +kernel
theorem dX11_isSpan_5 : decode cX11_isSpan 5 = .ok (.ifCond .eq 27, 3) := by decide +kernel
theorem dX11_isSpan_8 : decode cX11_isSpan 8 = .ok (.iload_n 1, 1) := by decide +kernel
theorem dX11_isSpan_9 : decode cX11_isSpan 9 = .ok (.i2l, 1) := by decide +kernel
theorem dX11_isSpan_10 : decode cX11_isSpan 10 = .ok (.invokestatic 93, 3) := by decide +kernel
theorem dX11_isSpan_13 : decode cX11_isSpan 13 = .ok (.ifCond .eq 19, 3) := by decide +kernel
theorem dX11_isSpan_16 : decode cX11_isSpan 16 = .ok (.iload_n 1, 1) := by decide +kernel
theorem dX11_isSpan_17 : decode cX11_isSpan 17 = .ok (.iload_n 0, 1) := by decide +kernel
theorem dX11_isSpan_18 : decode cX11_isSpan 18 = .ok (.if_icmp .lt 14, 3) := by decide +kernel
theorem dX11_isSpan_21 : decode cX11_isSpan 21 = .ok (.iload_n 1, 1) := by decide +kernel
theorem dX11_isSpan_22 : decode cX11_isSpan 22 = .ok (.iload_n 0, 1) := by decide +kernel
theorem dX11_isSpan_23 : decode cX11_isSpan 23 = .ok (.isub, 1) := by decide +kernel
theorem dX11_isSpan_24 : decode cX11_isSpan 24 = .ok (.iload_n 2, 1) := by decide +kernel
theorem dX11_isSpan_25 : decode cX11_isSpan 25 = .ok (.if_icmp .gt 7, 3) := by decide +kernel
theorem dX11_isSpan_28 : decode cX11_isSpan 28 = .ok (.iconst 1, 1) := by decide +kernel
theorem dX11_isSpan_29 : decode cX11_isSpan 29 = .ok (.goto 4, 3) := by decide +kernel
theorem dX11_isSpan_32 : decode cX11_isSpan 32 = .ok (.iconst 0, 1) := by decide +kernel
theorem dX11_isSpan_33 : decode cX11_isSpan 33 = .ok (.ireturn, 1) := by decide +kernel
theorem dX11_fits_0 : decode cX11_fits 0 = .ok (.iload_n 1, 1) := by decide +kernel
theorem dX11_fits_1 : decode cX11_fits 1 = .ok (.ifCond .lt 34, 3) := by decide +kernel
theorem dX11_fits_4 : decode cX11_fits 4 = .ok (.iload_n 1, 1) := by decide +kernel
theorem dX11_fits_5 : decode cX11_fits 5 = .ok (.getstatic 323, 3) := by decide +kernel
theorem dX11_fits_8 : decode cX11_fits 8 = .ok (.iload_n 0, 1) := by decide +kernel
theorem dX11_fits_9 : decode cX11_fits 9 = .ok (.iaload, 1) := by decide +kernel
theorem dX11_fits_10 : decode cX11_fits 10 = .ok (.if_icmp .gt 25, 3) := by decide +kernel
theorem dX11_fits_13 : decode cX11_fits 13 = .ok (.iload_n 2, 1) := by decide +kernel
theorem dX11_fits_14 : decode cX11_fits 14 = .ok (.getstatic 326, 3) := by decide +kernel
theorem dX11_fits_17 : decode cX11_fits 17 = .ok (.iload_n 0, 1) := by decide +kernel
theorem dX11_fits_18 : decode cX11_fits 18 = .ok (.iaload, 1) := by decide +kernel
theorem dX11_fits_19 : decode cX11_fits 19 = .ok (.if_icmp .lt 16, 3) := by decide +kernel
theorem dX11_fits_22 : decode cX11_fits 22 = .ok (.iload_n 2, 1) := by decide +kernel
theorem dX11_fits_23 : decode cX11_fits 23 = .ok (.getstatic 329, 3) := by decide +kernel
theorem dX11_fits_26 : decode cX11_fits 26 = .ok (.iload_n 0, 1) := by decide +kernel
theorem dX11_fits_27 : decode cX11_fits 27 = .ok (.iaload, 1) := by decide +kernel
theorem dX11_fits_28 : decode cX11_fits 28 = .ok (.if_icmp .gt 7, 3) := by decide +kernel
theorem dX11_fits_31 : decode cX11_fits 31 = .ok (.iconst 1, 1) := by decide +kernel
theorem dX11_fits_32 : decode cX11_fits 32 = .ok (.goto 4, 3) := by decide +kernel
theorem dX11_fits_35 : decode cX11_fits 35 = .ok (.iconst 0, 1) := by decide +kernel
theorem dX11_fits_36 : decode cX11_fits 36 = .ok (.ireturn, 1) := by decide +kernel
set_option maxRecDepth 20000 in
theorem ggX12_init_X12_resets : GoodIn wsX12_init wsX12_resets := goodIn_r _ [50, 5, 6, 8, 9, 22, 51, 52, 53, 15, 54, 55, 21, 56, 57, 58, 49, 59, 18, 19, 26, 20, 60, 61, 62, 63, 64, 65, 66, 67, 68, 69, 70, 71, 72, 73, 74, 75, 76, 77, 78, 79, 80, 81, 82, 83, 84, 85, 86, 87, 88, 89, 90, 91, 92, 93, 94, 95, 96, 97, 98, 99, 100, 101, 102, 103, 104, 105, 106, 107, 108, 109, 110, 111, 112, 113] (by decide +kernel) (by decide +kernel)
set_option maxRecDepth 20000 in
theorem gX12_init_X12_resets : GoodIn wsX12_init (wsV RX12 128 RX12 yX12_resets wsX12_resets) := goodIn_app (goodIn_of _ (by decide +kernel)) ggX12_init_X12_resets
theorem dX12_init_0 : decode cX12_init 0 = .ok (.aload_n 0, 1) := by decide +kernel
theorem dX12_init_1 : decode cX12_init 1 = .ok (.invokespecial 1, 3) := by decide +kernel
theorem dX12_init_4 : decode cX12_init 4 = .ok (.aload_n 0, 1) := by decide +kernel
theorem dX12_init_5 : decode cX12_init 5 = .ok (.bipush 8, 2) := by decide +kernel
theorem dX12_init_7 : decode cX12_init 7 = .ok (.newarray .int, 2) := by decide +kernel
theorem dX12_init_9 : decode cX12_init 9 = .ok (.putfield 7, 3) := by decide +kernel
theorem dX12_init_12 : decode cX12_init 12 = .ok (.aload_n 0, 1) := by decide +kernel
theorem dX12_init_13 : decode cX12_init 13 = .ok (.bipush 8, 2) := by decide +kernel
theorem dX12_init_15 : decode cX12_init 15 = .ok (.newarray .int, 2) := by decide +kernel
theorem dX12_init_17 : decode cX12_init 17 = .ok (.putfield 13, 3) := by decide +kernel
theorem dX12_init_20 : decode cX12_init 20 = .ok (.aload_n 0, 1) := by decide +kernel
theorem dX12_init_21 : decode cX12_init 21 = .ok (.bipush 12, 2) := by decide +kernel
theorem dX12_init_23 : decode cX12_init 23 = .ok (.newarray .int, 2) := by decide +kernel
theorem dX12_init_25 : decode cX12_init 25 = .ok (.putfield 16, 3) := by decide +kernel
theorem dX12_init_28 : decode cX12_init 28 = .ok (.aload_n 0, 1) := by decide +kernel
theorem dX12_init_29 : decode cX12_init 29 = .ok (.iconst 4, 1) := by decide +kernel
theorem dX12_init_30 : decode cX12_init 30 = .ok (.newarray .int, 2) := by decide +kernel
theorem dX12_init_32 : decode cX12_init 32 = .ok (.putfield 19, 3) := by decide +kernel
theorem dX12_init_35 : decode cX12_init 35 = .ok (.aload_n 0, 1) := by decide +kernel
theorem dX12_init_36 : decode cX12_init 36 = .ok (.bipush 32, 2) := by decide +kernel
theorem dX12_init_38 : decode cX12_init 38 = .ok (.newarray .int, 2) := by decide +kernel
theorem dX12_init_40 : decode cX12_init 40 = .ok (.putfield 22, 3) := by decide +kernel
theorem dX12_init_43 : decode cX12_init 43 = .ok (.aload_n 0, 1) := by decide +kernel
theorem dX12_init_44 : decode cX12_init 44 = .ok (.iconst 4, 1) := by decide +kernel
theorem dX12_init_45 : decode cX12_init 45 = .ok (.newarray .int, 2) := by decide +kernel
theorem dX12_init_47 : decode cX12_init 47 = .ok (.putfield 25, 3) := by decide +kernel
theorem dX12_init_50 : decode cX12_init 50 = .ok (.aload_n 0, 1) := by decide +kernel
theorem dX12_init_51 : decode cX12_init 51 = .ok (.bipush 80, 2) := by decide +kernel
theorem dX12_init_53 : decode cX12_init 53 = .ok (.newarray .int, 2) := by decide +kernel
theorem dX12_init_55 : decode cX12_init 55 = .ok (.putfield 28, 3) := by decide +kernel
theorem dX12_init_58 : decode cX12_init 58 = .ok (.aload_n 0, 1) := by decide +kernel
theorem dX12_init_59 : decode cX12_init 59 = .ok (.bipush 80, 2) := by decide +kernel
theorem dX12_init_61 : decode cX12_init 61 = .ok (.newarray .int, 2) := by decide +kernel
theorem dX12_init_63 : decode cX12_init 63 = .ok (.putfield 31, 3) := by decide +kernel
theorem dX12_init_66 : decode cX12_init 66 = .ok (.aload_n 0, 1) := by decide +kernel
theorem dX12_init_67 : decode cX12_init 67 = .ok (.bipush 80, 2) := by decide +kernel
theorem dX12_init_69 : decode cX12_init 69 = .ok (.newarray .int, 2) := by decide +kernel
theorem dX12_init_71 : decode cX12_init 71 = .ok (.putfield 34, 3) := by decide +kernel
theorem dX12_init_74 : decode cX12_init 74 = .ok (.aload_n 0, 1) := by decide +kernel
theorem dX12_init_75 : decode cX12_init 75 = .ok (.bipush 80, 2) := by decide +kernel
theorem dX12_init_77 : decode cX12_init 77 = .ok (.newarray .int, 2) := by decide +kernel
theorem dX12_init_79 : decode cX12_init 79 = .ok (.putfield 37, 3) := by decide +kernel
theorem dX12_init_82 : decode cX12_init 82 = .ok (.aload_n 0, 1) := by decide +kernel
theorem dX12_init_83 : decode cX12_init 83 = .ok (.bipush (-2), 2) := by decide +kernel
theorem dX12_init_85 : decode cX12_init 85 = .ok (.putfield 40, 3) := by decide +kernel
theorem dX12_init_88 : decode cX12_init 88 = .ok (.aload_n 0, 1) := by decide +kernel
theorem dX12_init_89 : decode cX12_init 89 = .ok (.bipush 12, 2) := by decide +kernel
theorem dX12_init_91 : decode cX12_init 91 = .ok (.newarray .int, 2) := by decide +kernel
theorem dX12_init_93 : decode cX12_init 93 = .ok (.putfield 44, 3) := by decide +kernel
theorem dX12_init_96 : decode cX12_init 96 = .ok (.aload_n 0, 1) := by decide +kernel
theorem dX12_init_97 : decode cX12_init 97 = .ok (.bipush 16, 2) := by decide +kernel
theorem dX12_init_99 : decode cX12_init 99 = .ok (.newarray .long, 2) := by decide +kernel
theorem dX12_init_101 : decode cX12_init 101 = .ok (.putfield 47, 3) := by decide +kernel
theorem dX12_init_104 : decode cX12_init 104 = .ok (.aload_n 0, 1) := by decide +kernel
theorem dX12_init_105 : decode cX12_init 105 = .ok (.bipush 16, 2) := by decide +kernel
theorem dX12_init_107 : decode cX12_init 107 = .ok (.newarray .long, 2) := by decide +kernel
theorem dX12_init_109 : decode cX12_init 109 = .ok (.putfield 51, 3) := by decide +kernel
theorem dX12_init_112 : decode cX12_init 112 = .ok (.aload_n 0, 1) := by decide +kernel
theorem dX12_init_113 : decode cX12_init 113 = .ok (.bipush 16, 2) := by decide +kernel
theorem dX12_init_115 : decode cX12_init 115 = .ok (.newarray .long, 2) := by decide +kernel
theorem dX12_init_117 : decode cX12_init 117 = .ok (.putfield 54, 3) := by decide +kernel
theorem dX12_init_120 : decode cX12_init 120 = .ok (.aload_n 0, 1) := by decide +kernel
theorem dX12_init_121 : decode cX12_init 121 = .ok (.bipush 24, 2) := by decide +kernel
theorem dX12_init_123 : decode cX12_init 123 = .ok (.newarray .long, 2) := by decide +kernel
theorem dX12_init_125 : decode cX12_init 125 = .ok (.putfield 57, 3) := by decide +kernel
theorem dX12_init_128 : decode cX12_init 128 = .ok (.aload_n 0, 1) := by decide +kernel
theorem dX12_init_129 : decode cX12_init 129 = .ok (.bipush 16, 2) := by decide +kernel
theorem dX12_init_131 : decode cX12_init 131 = .ok (.newarray .long, 2) := by decide +kernel
theorem dX12_init_133 : decode cX12_init 133 = .ok (.putfield 60, 3) := by decide +kernel
theorem dX12_init_136 : decode cX12_init 136 = .ok (.aload_n 0, 1) := by decide +kernel
theorem dX12_init_137 : decode cX12_init 137 = .ok (.bipush 8, 2) := by decide +kernel
theorem dX12_init_139 : decode cX12_init 139 = .ok (.newarray .long, 2) := by decide +kernel
theorem dX12_init_141 : decode cX12_init 141 = .ok (.putfield 63, 3) := by decide +kernel
theorem dX12_init_144 : decode cX12_init 144 = .ok (.aload_n 0, 1) := by decide +kernel
theorem dX12_init_145 : decode cX12_init 145 = .ok (.bipush 8, 2) := by decide +kernel
theorem dX12_init_147 : decode cX12_init 147 = .ok (.newarray .long, 2) := by decide +kernel
theorem dX12_init_149 : decode cX12_init 149 = .ok (.putfield 66, 3) := by decide +kernel
theorem dX12_init_152 : decode cX12_init 152 = .ok (.aload_n 0, 1) := by decide +kernel
theorem dX12_init_153 : decode cX12_init 153 = .ok (.bipush 16, 2) := by decide +kernel
theorem dX12_init_155 : decode cX12_init 155 = .ok (.newarray .boolean, 2) := by decide +kernel
theorem dX12_init_157 : decode cX12_init 157 = .ok (.putfield 69, 3) := by decide +kernel
theorem dX12_init_160 : decode cX12_init 160 = .ok (.aload_n 0, 1) := by decide +kernel
theorem dX12_init_161 : decode cX12_init 161 = .ok (.bipush 6, 2) := by decide +kernel
theorem dX12_init_163 : decode cX12_init 163 = .ok (.newarray .int, 2) := by decide +kernel
theorem dX12_init_165 : decode cX12_init 165 = .ok (.putfield 73, 3) := by decide +kernel
theorem dX12_init_168 : decode cX12_init 168 = .ok (.aload_n 0, 1) := by decide +kernel
theorem dX12_init_169 : decode cX12_init 169 = .ok (.bipush 6, 2) := by decide +kernel
theorem dX12_init_171 : decode cX12_init 171 = .ok (.newarray .int, 2) := by decide +kernel
theorem dX12_init_173 : decode cX12_init 173 = .ok (.putfield 76, 3) := by decide +kernel
theorem dX12_init_176 : decode cX12_init 176 = .ok (.aload_n 0, 1) := by decide +kernel
theorem dX12_init_177 : decode cX12_init 177 = .ok (.sipush 384, 3) := by decide +kernel
theorem dX12_init_180 : decode cX12_init 180 = .ok (.newarray .long, 2) := by decide +kernel
theorem dX12_init_182 : decode cX12_init 182 = .ok (.putfield 79, 3) := by decide +kernel
theorem dX12_init_185 : decode cX12_init 185 = .ok (.aload_n 0, 1) := by decide +kernel
theorem dX12_init_186 : decode cX12_init 186 = .ok (.bipush 6, 2) := by decide +kernel
theorem dX12_init_188 : decode cX12_init 188 = .ok (.newarray .int, 2) := by decide +kernel
theorem dX12_init_190 : decode cX12_init 190 = .ok (.putfield 82, 3) := by decide +kernel
theorem dX12_init_193 : decode cX12_init 193 = .ok (.aload_n 0, 1) := by decide +kernel
theorem dX12_init_194 : decode cX12_init 194 = .ok (.bipush 6, 2) := by decide +kernel
theorem dX12_init_196 : decode cX12_init 196 = .ok (.newarray .int, 2) := by decide +kernel
theorem dX12_init_198 : decode cX12_init 198 = .ok (.putfield 85, 3) := by decide +kernel
theorem dX12_init_201 : decode cX12_init 201 = .ok (.aload_n 0, 1) := by decide +kernel
theorem dX12_init_202 : decode cX12_init 202 = .ok (.bipush 48, 2) := by decide +kernel
theorem dX12_init_204 : decode cX12_init 204 = .ok (.newarray .long, 2) := by decide +kernel
theorem dX12_init_206 : decode cX12_init 206 = .ok (.putfield 88, 3) := by decide +kernel
theorem dX12_init_209 : decode cX12_init 209 = .ok (.aload_n 0, 1) := by decide +kernel
theorem dX12_init_210 : decode cX12_init 210 = .ok (.bipush 24, 2) := by decide +kernel
theorem dX12_init_212 : decode cX12_init 212 = .ok (.newarray .long, 2) := by decide +kernel
theorem dX12_init_214 : decode cX12_init 214 = .ok (.putfield 91, 3) := by decide +kernel
theorem dX12_init_217 : decode cX12_init 217 = .ok (.aload_n 0, 1) := by decide +kernel
theorem dX12_init_218 : decode cX12_init 218 = .ok (.bipush 24, 2) := by decide +kernel
theorem dX12_init_220 : decode cX12_init 220 = .ok (.newarray .long, 2) := by decide +kernel
theorem dX12_init_222 : decode cX12_init 222 = .ok (.putfield 94, 3) := by decide +kernel
theorem dX12_init_225 : decode cX12_init 225 = .ok (.aload_n 0, 1) := by decide +kernel
theorem dX12_init_226 : decode cX12_init 226 = .ok (.bipush 8, 2) := by decide +kernel
theorem dX12_init_228 : decode cX12_init 228 = .ok (.newarray .long, 2) := by decide +kernel
theorem dX12_init_230 : decode cX12_init 230 = .ok (.putfield 97, 3) := by decide +kernel
theorem dX12_init_233 : decode cX12_init 233 = .ok (.aload_n 0, 1) := by decide +kernel
theorem dX12_init_234 : decode cX12_init 234 = .ok (.bipush 8, 2) := by decide +kernel
theorem dX12_init_236 : decode cX12_init 236 = .ok (.newarray .long, 2) := by decide +kernel
theorem dX12_init_238 : decode cX12_init 238 = .ok (.putfield 100, 3) := by decide +kernel
theorem dX12_init_241 : decode cX12_init 241 = .ok (.aload_n 0, 1) := by decide +kernel
theorem dX12_init_242 : decode cX12_init 242 = .ok (.bipush 8, 2) := by decide +kernel
theorem dX12_init_244 : decode cX12_init 244 = .ok (.newarray .double, 2) := by decide +kernel
theorem dX12_init_246 : decode cX12_init 246 = .ok (.putfield 103, 3) := by decide +kernel
theorem dX12_init_249 : decode cX12_init 249 = .ok (.aload_n 0, 1) := by decide +kernel
theorem dX12_init_250 : decode cX12_init 250 = .ok (.bipush 8, 2) := by decide +kernel
theorem dX12_init_252 : decode cX12_init 252 = .ok (.newarray .double, 2) := by decide +kernel
theorem dX12_init_254 : decode cX12_init 254 = .ok (.putfield 107, 3) := by decide +kernel
theorem dX12_init_257 : decode cX12_init 257 = .ok (.aload_n 0, 1) := by decide +kernel
theorem dX12_init_258 : decode cX12_init 258 = .ok (.bipush 6, 2) := by decide +kernel
theorem dX12_init_260 : decode cX12_init 260 = .ok (.newarray .int, 2) := by decide +kernel
theorem dX12_init_262 : decode cX12_init 262 = .ok (.putfield 110, 3) := by decide +kernel
theorem dX12_init_265 : decode cX12_init 265 = .ok (.aload_n 0, 1) := by decide +kernel
theorem dX12_init_266 : decode cX12_init 266 = .ok (.bipush 12, 2) := by decide +kernel
theorem dX12_init_268 : decode cX12_init 268 = .ok (.newarray .long, 2) := by decide +kernel
theorem dX12_init_270 : decode cX12_init 270 = .ok (.putfield 113, 3) := by decide +kernel
theorem dX12_init_273 : decode cX12_init 273 = .ok (.aload_n 0, 1) := by decide +kernel
theorem dX12_init_274 : decode cX12_init 274 = .ok (.sipush 200, 3) := by decide +kernel
theorem dX12_init_277 : decode cX12_init 277 = .ok (.newarray .long, 2) := by decide +kernel
theorem dX12_init_279 : decode cX12_init 279 = .ok (.putfield 116, 3) := by decide +kernel
theorem dX12_init_282 : decode cX12_init 282 = .ok (.aload_n 0, 1) := by decide +kernel
theorem dX12_init_283 : decode cX12_init 283 = .ok (.sipush 200, 3) := by decide +kernel
theorem dX12_init_286 : decode cX12_init 286 = .ok (.newarray .long, 2) := by decide +kernel
theorem dX12_init_288 : decode cX12_init 288 = .ok (.putfield 119, 3) := by decide +kernel
theorem dX12_init_291 : decode cX12_init 291 = .ok (.aload_n 0, 1) := by decide +kernel
theorem dX12_init_292 : decode cX12_init 292 = .ok (.sipush 200, 3) := by decide +kernel
theorem dX12_init_295 : decode cX12_init 295 = .ok (.newarray .boolean, 2) := by decide +kernel
theorem dX12_init_297 : decode cX12_init 297 = .ok (.putfield 122, 3) := by decide +kernel
theorem dX12_init_300 : decode cX12_init 300 = .ok (.aload_n 0, 1) := by decide +kernel
theorem dX12_init_301 : decode cX12_init 301 = .ok (.bipush 64, 2) := by decide +kernel
theorem dX12_init_303 : decode cX12_init 303 = .ok (.newarray .long, 2) := by decide +kernel
theorem dX12_init_305 : decode cX12_init 305 = .ok (.putfield 125, 3) := by decide +kernel
theorem dX12_init_308 : decode cX12_init 308 = .ok (.aload_n 0, 1) := by decide +kernel
theorem dX12_init_309 : decode cX12_init 309 = .ok (.invokevirtual 128, 3) := by decide +kernel
theorem dX12_init_312 : decode cX12_init 312 = .ok (.return_, 1) := by decide +kernel
theorem dX12_thrown_0 : decode cX12_thrown 0 = .ok (.aload_n 0, 1) := by decide +kernel
theorem dX12_thrown_1 : decode cX12_thrown 1 = .ok (.getfield 131, 3) := by decide +kernel
theorem dX12_thrown_4 : decode cX12_thrown 4 = .ok (.ireturn, 1) := by decide +kernel
theorem dX12_in_0 : decode cX12_in 0 = .ok (.iload_n 0, 1) := by decide +kernel
theorem dX12_in_1 : decode cX12_in 1 = .ok (.iload_n 1, 1) := by decide +kernel
theorem dX12_in_2 : decode cX12_in 2 = .ok (.if_icmp .lt 12, 3) := by decide +kernel
theorem dX12_in_5 : decode cX12_in 5 = .ok (.iload_n 0, 1) := by decide +kernel
theorem dX12_in_6 : decode cX12_in 6 = .ok (.iload_n 2, 1) := by decide +kernel
theorem dX12_in_7 : decode cX12_in 7 = .ok (.if_icmp .gt 7, 3) := by decide +kernel
theorem dX12_in_10 : decode cX12_in 10 = .ok (.iconst 1, 1) := by decide +kernel
theorem dX12_in_11 : decode cX12_in 11 = .ok (.goto 4, 3) := by decide +kernel
theorem dX12_in_14 : decode cX12_in 14 = .ok (.iconst 0, 1) := by decide +kernel
theorem dX12_in_15 : decode cX12_in 15 = .ok (.ireturn, 1) := by decide +kernel
theorem dX12_refuse_0 : decode cX12_refuse 0 = .ok (.aload_n 0, 1) := by decide +kernel
theorem dX12_refuse_1 : decode cX12_refuse 1 = .ok (.dup, 1) := by decide +kernel
theorem dX12_refuse_2 : decode cX12_refuse 2 = .ok (.getfield 134, 3) := by decide +kernel
theorem dX12_refuse_5 : decode cX12_refuse 5 = .ok (.iconst 1, 1) := by decide +kernel
theorem dX12_refuse_6 : decode cX12_refuse 6 = .ok (.iadd, 1) := by decide +kernel
theorem dX12_refuse_7 : decode cX12_refuse 7 = .ok (.putfield 134, 3) := by decide +kernel
theorem dX12_refuse_10 : decode cX12_refuse 10 = .ok (.iload_n 1, 1) := by decide +kernel
theorem dX12_refuse_11 : decode cX12_refuse 11 = .ok (.ireturn, 1) := by decide +kernel
set_option maxRecDepth 20000 in
theorem ggX12_resets_X12_clears : GoodIn wsX12_resets wsX12_clears := goodIn_r _ [17, 18, 11, 19, 20, 21, 22, 23, 24, 25, 26, 27, 28, 29, 30, 31, 32, 33, 34, 35, 36, 37, 38, 39, 40, 41, 42, 43, 44, 45, 46, 47, 48, 49, 50, 51, 52, 53, 54, 55, 56, 57, 58, 59, 60, 61, 62, 63, 64, 65, 66, 67, 68, 69, 70, 71, 72, 73, 74, 75] (by decide +kernel) (by decide +kernel)
set_option maxRecDepth 20000 in
theorem gX12_resets_X12_clears : GoodIn wsX12_resets (wsV RX12 149 RX12 yX12_clears wsX12_clears) := goodIn_app (goodIn_of _ (by decide +kernel)) ggX12_resets_X12_clears
theorem dX12_resets_0 : decode cX12_resets 0 = .ok (.iconst 0, 1) := by decide +kernel
theorem dX12_resets_1 : decode cX12_resets 1 = .ok (.istore_n 1, 1) := by decide +kernel
theorem dX12_resets_2 : decode cX12_resets 2 = .ok (.iload_n 1, 1) := by decide +kernel
theorem dX12_resets_3 : decode cX12_resets 3 = .ok (.bipush 8, 2) := by decide +kernel
theorem dX12_resets_5 : decode cX12_resets 5 = .ok (.if_icmp .ge 23, 3) := by decide +kernel
theorem dX12_resets_8 : decode cX12_resets 8 = .ok (.aload_n 0, 1) := by decide +kernel
theorem dX12_resets_9 : decode cX12_resets 9 = .ok (.getfield 7, 3) := by decide +kernel
theorem dX12_resets_12 : decode cX12_resets 12 = .ok (.iload_n 1, 1) := by decide +kernel
theorem dX12_resets_13 : decode cX12_resets 13 = .ok (.iconst 0, 1) := by decide +kernel
theorem dX12_resets_14 : decode cX12_resets 14 = .ok (.iastore, 1) := by decide +kernel
theorem dX12_resets_15 : decode cX12_resets 15 = .ok (.aload_n 0, 1) := by decide +kernel
theorem dX12_resets_16 : decode cX12_resets 16 = .ok (.getfield 13, 3) := by decide +kernel
theorem dX12_resets_19 : decode cX12_resets 19 = .ok (.iload_n 1, 1) := by decide +kernel
theorem dX12_resets_20 : decode cX12_resets 20 = .ok (.iconst 1, 1) := by decide +kernel
theorem dX12_resets_21 : decode cX12_resets 21 = .ok (.iastore, 1) := by decide +kernel
theorem dX12_resets_22 : decode cX12_resets 22 = .ok (.iinc 1 1, 3) := by decide +kernel
theorem dX12_resets_25 : decode cX12_resets 25 = .ok (.goto (-23), 3) := by decide +kernel
theorem dX12_resets_28 : decode cX12_resets 28 = .ok (.iconst 0, 1) := by decide +kernel
theorem dX12_resets_29 : decode cX12_resets 29 = .ok (.istore_n 1, 1) := by decide +kernel
theorem dX12_resets_30 : decode cX12_resets 30 = .ok (.iload_n 1, 1) := by decide +kernel
theorem dX12_resets_31 : decode cX12_resets 31 = .ok (.iconst 4, 1) := by decide +kernel
theorem dX12_resets_32 : decode cX12_resets 32 = .ok (.if_icmp .ge 38, 3) := by decide +kernel
theorem dX12_resets_35 : decode cX12_resets 35 = .ok (.aload_n 0, 1) := by decide +kernel
theorem dX12_resets_36 : decode cX12_resets 36 = .ok (.getfield 19, 3) := by decide +kernel
theorem dX12_resets_39 : decode cX12_resets 39 = .ok (.iload_n 1, 1) := by decide +kernel
theorem dX12_resets_40 : decode cX12_resets 40 = .ok (.iconst 2, 1) := by decide +kernel
theorem dX12_resets_41 : decode cX12_resets 41 = .ok (.iastore, 1) := by decide +kernel
theorem dX12_resets_42 : decode cX12_resets 42 = .ok (.aload_n 0, 1) := by decide +kernel
theorem dX12_resets_43 : decode cX12_resets 43 = .ok (.getfield 22, 3) := by decide +kernel
theorem dX12_resets_46 : decode cX12_resets 46 = .ok (.bipush 8, 2) := by decide +kernel
theorem dX12_resets_48 : decode cX12_resets 48 = .ok (.iload_n 1, 1) := by decide +kernel
theorem dX12_resets_49 : decode cX12_resets 49 = .ok (.imul, 1) := by decide +kernel
theorem dX12_resets_50 : decode cX12_resets 50 = .ok (.iconst 1, 1) := by decide +kernel
theorem dX12_resets_51 : decode cX12_resets 51 = .ok (.iastore, 1) := by decide +kernel
theorem dX12_resets_52 : decode cX12_resets 52 = .ok (.aload_n 0, 1) := by decide +kernel
theorem dX12_resets_53 : decode cX12_resets 53 = .ok (.getfield 22, 3) := by decide +kernel
theorem dX12_resets_56 : decode cX12_resets 56 = .ok (.bipush 8, 2) := by decide +kernel
theorem dX12_resets_58 : decode cX12_resets 58 = .ok (.iload_n 1, 1) := by decide +kernel
theorem dX12_resets_59 : decode cX12_resets 59 = .ok (.imul, 1) := by decide +kernel
theorem dX12_resets_60 : decode cX12_resets 60 = .ok (.iconst 1, 1) := by decide +kernel
theorem dX12_resets_61 : decode cX12_resets 61 = .ok (.iadd, 1) := by decide +kernel
theorem dX12_resets_62 : decode cX12_resets 62 = .ok (.iconst 1, 1) := by decide +kernel
theorem dX12_resets_63 : decode cX12_resets 63 = .ok (.iastore, 1) := by decide +kernel
theorem dX12_resets_64 : decode cX12_resets 64 = .ok (.iinc 1 1, 3) := by decide +kernel
theorem dX12_resets_67 : decode cX12_resets 67 = .ok (.goto (-37), 3) := by decide +kernel
theorem dX12_resets_70 : decode cX12_resets 70 = .ok (.iconst 0, 1) := by decide +kernel
theorem dX12_resets_71 : decode cX12_resets 71 = .ok (.istore_n 1, 1) := by decide +kernel
theorem dX12_resets_72 : decode cX12_resets 72 = .ok (.iload_n 1, 1) := by decide +kernel
theorem dX12_resets_73 : decode cX12_resets 73 = .ok (.bipush 8, 2) := by decide +kernel
theorem dX12_resets_75 : decode cX12_resets 75 = .ok (.if_icmp .ge 16, 3) := by decide +kernel
theorem dX12_resets_78 : decode cX12_resets 78 = .ok (.aload_n 0, 1) := by decide +kernel
theorem dX12_resets_79 : decode cX12_resets 79 = .ok (.getfield 60, 3) := by decide +kernel
theorem dX12_resets_82 : decode cX12_resets 82 = .ok (.iload_n 1, 1) := by decide +kernel
theorem dX12_resets_83 : decode cX12_resets 83 = .ok (.lconst 0, 1) := by decide +kernel
theorem dX12_resets_84 : decode cX12_resets 84 = .ok (.lastore, 1) := by decide +kernel
theorem dX12_resets_85 : decode cX12_resets 85 = .ok (.iinc 1 1, 3) := by decide +kernel
theorem dX12_resets_88 : decode cX12_resets 88 = .ok (.goto (-16), 3) := by decide +kernel
theorem dX12_resets_91 : decode cX12_resets 91 = .ok (.aload_n 0, 1) := by decide +kernel
theorem dX12_resets_92 : decode cX12_resets 92 = .ok (.iconst 0, 1) := by decide +kernel
theorem dX12_resets_93 : decode cX12_resets 93 = .ok (.putfield 137, 3) := by decide +kernel
theorem dX12_resets_96 : decode cX12_resets 96 = .ok (.aload_n 0, 1) := by decide +kernel
theorem dX12_resets_97 : decode cX12_resets 97 = .ok (.iconst 0, 1) := by decide +kernel
theorem dX12_resets_98 : decode cX12_resets 98 = .ok (.putfield 140, 3) := by decide +kernel
theorem dX12_resets_101 : decode cX12_resets 101 = .ok (.aload_n 0, 1) := by decide +kernel
theorem dX12_resets_102 : decode cX12_resets 102 = .ok (.iconst 0, 1) := by decide +kernel
theorem dX12_resets_103 : decode cX12_resets 103 = .ok (.putfield 143, 3) := by decide +kernel
theorem dX12_resets_106 : decode cX12_resets 106 = .ok (.aload_n 0, 1) := by decide +kernel
theorem dX12_resets_107 : decode cX12_resets 107 = .ok (.bipush (-2), 2) := by decide +kernel
theorem dX12_resets_109 : decode cX12_resets 109 = .ok (.putfield 40, 3) := by decide +kernel
theorem dX12_resets_112 : decode cX12_resets 112 = .ok (.aload_n 0, 1) := by decide +kernel
theorem dX12_resets_113 : decode cX12_resets 113 = .ok (.iconst 0, 1) := by decide +kernel
theorem dX12_resets_114 : decode cX12_resets 114 = .ok (.putfield 134, 3) := by decide +kernel
theorem dX12_resets_117 : decode cX12_resets 117 = .ok (.aload_n 0, 1) := by decide +kernel
theorem dX12_resets_118 : decode cX12_resets 118 = .ok (.iconst 0, 1) := by decide +kernel
theorem dX12_resets_119 : decode cX12_resets 119 = .ok (.putfield 146, 3) := by decide +kernel
theorem dX12_resets_122 : decode cX12_resets 122 = .ok (.aload_n 0, 1) := by decide +kernel
theorem dX12_resets_123 : decode cX12_resets 123 = .ok (.invokevirtual 149, 3) := by decide +kernel
theorem dX12_resets_126 : decode cX12_resets 126 = .ok (.iconst 0, 1) := by decide +kernel
theorem dX12_resets_127 : decode cX12_resets 127 = .ok (.istore_n 1, 1) := by decide +kernel
theorem dX12_resets_128 : decode cX12_resets 128 = .ok (.iload_n 1, 1) := by decide +kernel
theorem dX12_resets_129 : decode cX12_resets 129 = .ok (.bipush 12, 2) := by decide +kernel
theorem dX12_resets_131 : decode cX12_resets 131 = .ok (.if_icmp .ge 16, 3) := by decide +kernel
theorem dX12_resets_134 : decode cX12_resets 134 = .ok (.aload_n 0, 1) := by decide +kernel
theorem dX12_resets_135 : decode cX12_resets 135 = .ok (.getfield 57, 3) := by decide +kernel
theorem dX12_resets_138 : decode cX12_resets 138 = .ok (.iload_n 1, 1) := by decide +kernel
theorem dX12_resets_139 : decode cX12_resets 139 = .ok (.lconst 0, 1) := by decide +kernel
theorem dX12_resets_140 : decode cX12_resets 140 = .ok (.lastore, 1) := by decide +kernel
theorem dX12_resets_141 : decode cX12_resets 141 = .ok (.iinc 1 1, 3) := by decide +kernel
theorem dX12_resets_144 : decode cX12_resets 144 = .ok (.goto (-16), 3) := by decide +kernel
theorem dX12_resets_147 : decode cX12_resets 147 = .ok (.return_, 1) := by decide +kernel
theorem dX12_clears_0 : decode cX12_clears 0 = .ok (.iconst 0, 1) := by decide +kernel
theorem dX12_clears_1 : decode cX12_clears 1 = .ok (.istore_n 1, 1) := by decide +kernel
theorem dX12_clears_2 : decode cX12_clears 2 = .ok (.iload_n 1, 1) := by decide +kernel
theorem dX12_clears_3 : decode cX12_clears 3 = .ok (.bipush 8, 2) := by decide +kernel
theorem dX12_clears_5 : decode cX12_clears 5 = .ok (.if_icmp .ge 69, 3) := by decide +kernel
theorem dX12_clears_8 : decode cX12_clears 8 = .ok (.aload_n 0, 1) := by decide +kernel
theorem dX12_clears_9 : decode cX12_clears 9 = .ok (.getfield 47, 3) := by decide +kernel
theorem dX12_clears_12 : decode cX12_clears 12 = .ok (.bipush 8, 2) := by decide +kernel
theorem dX12_clears_14 : decode cX12_clears 14 = .ok (.aload_n 0, 1) := by decide +kernel
theorem dX12_clears_15 : decode cX12_clears 15 = .ok (.getfield 146, 3) := by decide +kernel
theorem dX12_clears_18 : decode cX12_clears 18 = .ok (.imul, 1) := by decide +kernel
theorem dX12_clears_19 : decode cX12_clears 19 = .ok (.iload_n 1, 1) := by decide +kernel
theorem dX12_clears_20 : decode cX12_clears 20 = .ok (.iadd, 1) := by decide +kernel
theorem dX12_clears_21 : decode cX12_clears 21 = .ok (.lconst 0, 1) := by decide +kernel
theorem dX12_clears_22 : decode cX12_clears 22 = .ok (.lastore, 1) := by decide +kernel
theorem dX12_clears_23 : decode cX12_clears 23 = .ok (.aload_n 0, 1) := by decide +kernel
theorem dX12_clears_24 : decode cX12_clears 24 = .ok (.getfield 51, 3) := by decide +kernel
theorem dX12_clears_27 : decode cX12_clears 27 = .ok (.bipush 8, 2) := by decide +kernel
theorem dX12_clears_29 : decode cX12_clears 29 = .ok (.aload_n 0, 1) := by decide +kernel
theorem dX12_clears_30 : decode cX12_clears 30 = .ok (.getfield 146, 3) := by decide +kernel
theorem dX12_clears_33 : decode cX12_clears 33 = .ok (.imul, 1) := by decide +kernel
theorem dX12_clears_34 : decode cX12_clears 34 = .ok (.iload_n 1, 1) := by decide +kernel
theorem dX12_clears_35 : decode cX12_clears 35 = .ok (.iadd, 1) := by decide +kernel
theorem dX12_clears_36 : decode cX12_clears 36 = .ok (.lconst 1, 1) := by decide +kernel
theorem dX12_clears_37 : decode cX12_clears 37 = .ok (.lastore, 1) := by decide +kernel
theorem dX12_clears_38 : decode cX12_clears 38 = .ok (.aload_n 0, 1) := by decide +kernel
theorem dX12_clears_39 : decode cX12_clears 39 = .ok (.getfield 69, 3) := by decide +kernel
theorem dX12_clears_42 : decode cX12_clears 42 = .ok (.bipush 8, 2) := by decide +kernel
theorem dX12_clears_44 : decode cX12_clears 44 = .ok (.aload_n 0, 1) := by decide +kernel
theorem dX12_clears_45 : decode cX12_clears 45 = .ok (.getfield 146, 3) := by decide +kernel
theorem dX12_clears_48 : decode cX12_clears 48 = .ok (.imul, 1) := by decide +kernel
theorem dX12_clears_49 : decode cX12_clears 49 = .ok (.iload_n 1, 1) := by decide +kernel
theorem dX12_clears_50 : decode cX12_clears 50 = .ok (.iadd, 1) := by decide +kernel
theorem dX12_clears_51 : decode cX12_clears 51 = .ok (.iconst 0, 1) := by decide +kernel
theorem dX12_clears_52 : decode cX12_clears 52 = .ok (.bastore, 1) := by decide +kernel
theorem dX12_clears_53 : decode cX12_clears 53 = .ok (.aload_n 0, 1) := by decide +kernel
theorem dX12_clears_54 : decode cX12_clears 54 = .ok (.getfield 54, 3) := by decide +kernel
theorem dX12_clears_57 : decode cX12_clears 57 = .ok (.bipush 8, 2) := by decide +kernel
theorem dX12_clears_59 : decode cX12_clears 59 = .ok (.aload_n 0, 1) := by decide +kernel
theorem dX12_clears_60 : decode cX12_clears 60 = .ok (.getfield 146, 3) := by decide +kernel
theorem dX12_clears_63 : decode cX12_clears 63 = .ok (.imul, 1) := by decide +kernel
theorem dX12_clears_64 : decode cX12_clears 64 = .ok (.iload_n 1, 1) := by decide +kernel
theorem dX12_clears_65 : decode cX12_clears 65 = .ok (.iadd, 1) := by decide +kernel
theorem dX12_clears_66 : decode cX12_clears 66 = .ok (.lconst 0, 1) := by decide +kernel
theorem dX12_clears_67 : decode cX12_clears 67 = .ok (.lastore, 1) := by decide +kernel
theorem dX12_clears_68 : decode cX12_clears 68 = .ok (.iinc 1 1, 3) := by decide +kernel
theorem dX12_clears_71 : decode cX12_clears 71 = .ok (.goto (-69), 3) := by decide +kernel
theorem dX12_clears_74 : decode cX12_clears 74 = .ok (.aload_n 0, 1) := by decide +kernel
theorem dX12_clears_75 : decode cX12_clears 75 = .ok (.iconst 0, 1) := by decide +kernel
theorem dX12_clears_76 : decode cX12_clears 76 = .ok (.putfield 152, 3) := by decide +kernel
theorem dX12_clears_79 : decode cX12_clears 79 = .ok (.aload_n 0, 1) := by decide +kernel
theorem dX12_clears_80 : decode cX12_clears 80 = .ok (.iconst 0, 1) := by decide +kernel
theorem dX12_clears_81 : decode cX12_clears 81 = .ok (.putfield 156, 3) := by decide +kernel
theorem dX12_clears_84 : decode cX12_clears 84 = .ok (.return_, 1) := by decide +kernel
set_option maxRecDepth 20000 in
theorem ggX12_begin_X12_resets : GoodIn wsX12_begin wsX12_resets := goodIn_r _ [5, 6, 7, 8, 9, 10, 11, 12, 13, 14, 15, 16, 17, 18, 19, 20, 4, 21, 22, 23, 24, 25, 26, 27, 28, 29, 30, 31, 32, 33, 34, 35, 36, 37, 38, 39, 40, 41, 42, 43, 44, 45, 46, 47, 48, 49, 50, 51, 52, 53, 54, 55, 56, 57, 58, 59, 60, 61, 62, 63, 64, 65, 66, 67, 68, 69, 70, 71, 72, 73, 74, 75, 76, 77, 78, 79] (by decide +kernel) (by decide +kernel)
set_option maxRecDepth 20000 in
theorem gX12_begin_X12_resets : GoodIn wsX12_begin (wsV RX12 128 RX12 yX12_resets wsX12_resets) := goodIn_app (goodIn_of _ (by decide +kernel)) ggX12_begin_X12_resets
theorem dX12_begin_0 : decode cX12_begin 0 = .ok (.aload_n 0, 1) := by decide +kernel
theorem dX12_begin_1 : decode cX12_begin 1 = .ok (.invokevirtual 128, 3) := by decide +kernel
theorem dX12_begin_4 : decode cX12_begin 4 = .ok (.iconst 0, 1) := by decide +kernel
theorem dX12_begin_5 : decode cX12_begin 5 = .ok (.ireturn, 1) := by decide +kernel
set_option maxRecDepth 20000 in
theorem ggX12_rate_X12_in : GoodIn wsX12_rate wsX12_in := goodIn_r _ [6] (by decide +kernel) (by decide +kernel)
set_option maxRecDepth 20000 in
theorem gX12_rate_X12_in : GoodIn wsX12_rate (va_wsS RX12 159 yX12_in wsX12_in) := goodIn_app (goodIn_of _ (by decide +kernel)) ggX12_rate_X12_in
theorem dX12_rate_0 : decode cX12_rate 0 = .ok (.iload_n 1, 1) := by decide +kernel
theorem dX12_rate_1 : decode cX12_rate 1 = .ok (.iconst 0, 1) := by decide +kernel
theorem dX12_rate_2 : decode cX12_rate 2 = .ok (.bipush 7, 2) := by decide +kernel
theorem dX12_rate_4 : decode cX12_rate 4 = .ok (.invokestatic 159, 3) := by decide +kernel
theorem dX12_rate_7 : decode cX12_rate 7 = .ok (.ifCond .eq 25, 3) := by decide +kernel
theorem dX12_rate_10 : decode cX12_rate 10 = .ok (.iload_n 2, 1) := by decide +kernel
theorem dX12_rate_11 : decode cX12_rate 11 = .ok (.iconst 0, 1) := by decide +kernel
theorem dX12_rate_12 : decode cX12_rate 12 = .ok (.sipush 10000, 3) := by decide +kernel
theorem dX12_rate_15 : decode cX12_rate 15 = .ok (.invokestatic 159, 3) := by decide +kernel
theorem dX12_rate_18 : decode cX12_rate 18 = .ok (.ifCond .eq 14, 3) := by decide +kernel
theorem dX12_rate_21 : decode cX12_rate 21 = .ok (.iload_n 3, 1) := by decide +kernel
theorem dX12_rate_22 : decode cX12_rate 22 = .ok (.iconst 1, 1) := by decide +kernel
theorem dX12_rate_23 : decode cX12_rate 23 = .ok (.sipush 1000, 3) := by decide +kernel
theorem dX12_rate_26 : decode cX12_rate 26 = .ok (.invokestatic 159, 3) := by decide +kernel
theorem dX12_rate_29 : decode cX12_rate 29 = .ok (.ifCond .ne 5, 3) := by decide +kernel
theorem dX12_rate_32 : decode cX12_rate 32 = .ok (.iconst (-1), 1) := by decide +kernel
theorem dX12_rate_33 : decode cX12_rate 33 = .ok (.ireturn, 1) := by decide +kernel
theorem dX12_rate_34 : decode cX12_rate 34 = .ok (.aload_n 0, 1) := by decide +kernel
theorem dX12_rate_35 : decode cX12_rate 35 = .ok (.getfield 7, 3) := by decide +kernel
theorem dX12_rate_38 : decode cX12_rate 38 = .ok (.iload_n 1, 1) := by decide +kernel
theorem dX12_rate_39 : decode cX12_rate 39 = .ok (.iload_n 2, 1) := by decide +kernel
theorem dX12_rate_40 : decode cX12_rate 40 = .ok (.iastore, 1) := by decide +kernel
theorem dX12_rate_41 : decode cX12_rate 41 = .ok (.aload_n 0, 1) := by decide +kernel
theorem dX12_rate_42 : decode cX12_rate 42 = .ok (.getfield 13, 3) := by decide +kernel
theorem dX12_rate_45 : decode cX12_rate 45 = .ok (.iload_n 1, 1) := by decide +kernel
theorem dX12_rate_46 : decode cX12_rate 46 = .ok (.iload_n 3, 1) := by decide +kernel
theorem dX12_rate_47 : decode cX12_rate 47 = .ok (.iastore, 1) := by decide +kernel
theorem dX12_rate_48 : decode cX12_rate 48 = .ok (.iconst 0, 1) := by decide +kernel
theorem dX12_rate_49 : decode cX12_rate 49 = .ok (.ireturn, 1) := by decide +kernel
theorem dX12_isLine_0 : decode cX12_isLine 0 = .ok (.lload_n 0, 1) := by decide +kernel
theorem dX12_isLine_1 : decode cX12_isLine 1 = .ok (.ldc2_w 163, 3) := by decide +kernel
theorem dX12_isLine_4 : decode cX12_isLine 4 = .ok (.lcmp, 1) := by decide +kernel
theorem dX12_isLine_5 : decode cX12_isLine 5 = .ok (.ifCond .lt 15, 3) := by decide +kernel
theorem dX12_isLine_8 : decode cX12_isLine 8 = .ok (.lload_n 0, 1) := by decide +kernel
theorem dX12_isLine_9 : decode cX12_isLine 9 = .ok (.ldc2_w 165, 3) := by decide +kernel
theorem dX12_isLine_12 : decode cX12_isLine 12 = .ok (.lcmp, 1) := by decide +kernel
theorem dX12_isLine_13 : decode cX12_isLine 13 = .ok (.ifCond .gt 7, 3) := by decide +kernel
theorem dX12_isLine_16 : decode cX12_isLine 16 = .ok (.iconst 1, 1) := by decide +kernel
theorem dX12_isLine_17 : decode cX12_isLine 17 = .ok (.goto 4, 3) := by decide +kernel
theorem dX12_isLine_20 : decode cX12_isLine 20 = .ok (.iconst 0, 1) := by decide +kernel
theorem dX12_isLine_21 : decode cX12_isLine 21 = .ok (.ireturn, 1) := by decide +kernel
set_option maxRecDepth 20000 in
theorem ggX12_line_X12_isLine : GoodIn wsX12_line wsX12_isLine := goodIn_r _ [6, 7, 8] (by decide +kernel) (by decide +kernel)
set_option maxRecDepth 20000 in
theorem gX12_line_X12_isLine : GoodIn wsX12_line (va_wsS RX12 167 yX12_isLine wsX12_isLine) := goodIn_app (goodIn_of _ (by decide +kernel)) ggX12_line_X12_isLine
theorem dX12_line_0 : decode cX12_line 0 = .ok (.iload_n 1, 1) := by decide +kernel
theorem dX12_line_1 : decode cX12_line 1 = .ok (.i2l, 1) := by decide +kernel
theorem dX12_line_2 : decode cX12_line 2 = .ok (.invokestatic 167, 3) := by decide +kernel
theorem dX12_line_5 : decode cX12_line 5 = .ok (.ifCond .ne 5, 3) := by decide +kernel
theorem dX12_line_8 : decode cX12_line 8 = .ok (.iconst (-1), 1) := by decide +kernel
theorem dX12_line_9 : decode cX12_line 9 = .ok (.ireturn, 1) := by decide +kernel
theorem dX12_line_10 : decode cX12_line 10 = .ok (.aload_n 0, 1) := by decide +kernel
theorem dX12_line_11 : decode cX12_line 11 = .ok (.getfield 137, 3) := by decide +kernel
theorem dX12_line_14 : decode cX12_line 14 = .ok (.bipush 12, 2) := by decide +kernel
theorem dX12_line_16 : decode cX12_line 16 = .ok (.if_icmp .ne 6, 3) := by decide +kernel
theorem dX12_line_19 : decode cX12_line 19 = .ok (.bipush (-2), 2) := by decide +kernel
theorem dX12_line_21 : decode cX12_line 21 = .ok (.ireturn, 1) := by decide +kernel
theorem dX12_line_22 : decode cX12_line 22 = .ok (.aload_n 0, 1) := by decide +kernel
theorem dX12_line_23 : decode cX12_line 23 = .ok (.getfield 16, 3) := by decide +kernel
theorem dX12_line_26 : decode cX12_line 26 = .ok (.aload_n 0, 1) := by decide +kernel
theorem dX12_line_27 : decode cX12_line 27 = .ok (.getfield 137, 3) := by decide +kernel
theorem dX12_line_30 : decode cX12_line 30 = .ok (.iload_n 1, 1) := by decide +kernel
theorem dX12_line_31 : decode cX12_line 31 = .ok (.iastore, 1) := by decide +kernel
theorem dX12_line_32 : decode cX12_line 32 = .ok (.aload_n 0, 1) := by decide +kernel
theorem dX12_line_33 : decode cX12_line 33 = .ok (.dup, 1) := by decide +kernel
theorem dX12_line_34 : decode cX12_line 34 = .ok (.getfield 137, 3) := by decide +kernel
theorem dX12_line_37 : decode cX12_line 37 = .ok (.iconst 1, 1) := by decide +kernel
theorem dX12_line_38 : decode cX12_line 38 = .ok (.iadd, 1) := by decide +kernel
theorem dX12_line_39 : decode cX12_line 39 = .ok (.putfield 137, 3) := by decide +kernel
theorem dX12_line_42 : decode cX12_line 42 = .ok (.aload_n 0, 1) := by decide +kernel
theorem dX12_line_43 : decode cX12_line 43 = .ok (.getfield 137, 3) := by decide +kernel
theorem dX12_line_46 : decode cX12_line 46 = .ok (.ireturn, 1) := by decide +kernel
theorem dX12_bare_0 : decode cX12_bare 0 = .ok (.aload_n 0, 1) := by decide +kernel
theorem dX12_bare_1 : decode cX12_bare 1 = .ok (.getfield 137, 3) := by decide +kernel
theorem dX12_bare_4 : decode cX12_bare 4 = .ok (.istore_n 1, 1) := by decide +kernel
theorem dX12_bare_5 : decode cX12_bare 5 = .ok (.aload_n 0, 1) := by decide +kernel
theorem dX12_bare_6 : decode cX12_bare 6 = .ok (.iconst 0, 1) := by decide +kernel
theorem dX12_bare_7 : decode cX12_bare 7 = .ok (.putfield 137, 3) := by decide +kernel
theorem dX12_bare_10 : decode cX12_bare 10 = .ok (.iload_n 1, 1) := by decide +kernel
theorem dX12_bare_11 : decode cX12_bare 11 = .ok (.ireturn, 1) := by decide +kernel
set_option maxRecDepth 20000 in
theorem ggX12_weight_X12_in : GoodIn wsX12_weight wsX12_in := goodIn_r _ [6] (by decide +kernel) (by decide +kernel)
set_option maxRecDepth 20000 in
theorem gX12_weight_X12_in : GoodIn wsX12_weight (va_wsS RX12 159 yX12_in wsX12_in) := goodIn_app (goodIn_of _ (by decide +kernel)) ggX12_weight_X12_in
theorem dX12_weight_0 : decode cX12_weight 0 = .ok (.iload_n 1, 1) := by decide +kernel
theorem dX12_weight_1 : decode cX12_weight 1 = .ok (.iconst 0, 1) := by decide +kernel
theorem dX12_weight_2 : decode cX12_weight 2 = .ok (.iconst 3, 1) := by decide +kernel
theorem dX12_weight_3 : decode cX12_weight 3 = .ok (.invokestatic 159, 3) := by decide +kernel
theorem dX12_weight_6 : decode cX12_weight 6 = .ok (.ifCond .eq 14, 3) := by decide +kernel
theorem dX12_weight_9 : decode cX12_weight 9 = .ok (.iload_n 2, 1) := by decide +kernel
theorem dX12_weight_10 : decode cX12_weight 10 = .ok (.iconst (-1), 1) := by decide +kernel
theorem dX12_weight_11 : decode cX12_weight 11 = .ok (.sipush 1000, 3) := by decide +kernel
theorem dX12_weight_14 : decode cX12_weight 14 = .ok (.invokestatic 159, 3) := by decide +kernel
theorem dX12_weight_17 : decode cX12_weight 17 = .ok (.ifCond .ne 5, 3) := by decide +kernel
theorem dX12_weight_20 : decode cX12_weight 20 = .ok (.iconst (-1), 1) := by decide +kernel
theorem dX12_weight_21 : decode cX12_weight 21 = .ok (.ireturn, 1) := by decide +kernel
theorem dX12_weight_22 : decode cX12_weight 22 = .ok (.iload_n 2, 1) := by decide +kernel
theorem dX12_weight_23 : decode cX12_weight 23 = .ok (.iconst (-1), 1) := by decide +kernel
theorem dX12_weight_24 : decode cX12_weight 24 = .ok (.if_icmp .ne 12, 3) := by decide +kernel
theorem dX12_weight_27 : decode cX12_weight 27 = .ok (.aload_n 0, 1) := by decide +kernel
theorem dX12_weight_28 : decode cX12_weight 28 = .ok (.getfield 19, 3) := by decide +kernel
theorem dX12_weight_31 : decode cX12_weight 31 = .ok (.iload_n 1, 1) := by decide +kernel
theorem dX12_weight_32 : decode cX12_weight 32 = .ok (.iconst 0, 1) := by decide +kernel
theorem dX12_weight_33 : decode cX12_weight 33 = .ok (.iastore, 1) := by decide +kernel
theorem dX12_weight_34 : decode cX12_weight 34 = .ok (.iconst 0, 1) := by decide +kernel
theorem dX12_weight_35 : decode cX12_weight 35 = .ok (.ireturn, 1) := by decide +kernel
theorem dX12_weight_36 : decode cX12_weight 36 = .ok (.aload_n 0, 1) := by decide +kernel
theorem dX12_weight_37 : decode cX12_weight 37 = .ok (.getfield 19, 3) := by decide +kernel
theorem dX12_weight_40 : decode cX12_weight 40 = .ok (.iload_n 1, 1) := by decide +kernel
theorem dX12_weight_41 : decode cX12_weight 41 = .ok (.iaload, 1) := by decide +kernel
theorem dX12_weight_42 : decode cX12_weight 42 = .ok (.bipush 8, 2) := by decide +kernel
theorem dX12_weight_44 : decode cX12_weight 44 = .ok (.if_icmp .ne 6, 3) := by decide +kernel
theorem dX12_weight_47 : decode cX12_weight 47 = .ok (.bipush (-2), 2) := by decide +kernel
theorem dX12_weight_49 : decode cX12_weight 49 = .ok (.ireturn, 1) := by decide +kernel
theorem dX12_weight_50 : decode cX12_weight 50 = .ok (.aload_n 0, 1) := by decide +kernel
theorem dX12_weight_51 : decode cX12_weight 51 = .ok (.getfield 22, 3) := by decide +kernel
theorem dX12_weight_54 : decode cX12_weight 54 = .ok (.bipush 8, 2) := by decide +kernel
theorem dX12_weight_56 : decode cX12_weight 56 = .ok (.iload_n 1, 1) := by decide +kernel
theorem dX12_weight_57 : decode cX12_weight 57 = .ok (.imul, 1) := by decide +kernel
theorem dX12_weight_58 : decode cX12_weight 58 = .ok (.aload_n 0, 1) := by decide +kernel
theorem dX12_weight_59 : decode cX12_weight 59 = .ok (.getfield 19, 3) := by decide +kernel
theorem dX12_weight_62 : decode cX12_weight 62 = .ok (.iload_n 1, 1) := by decide +kernel
theorem dX12_weight_63 : decode cX12_weight 63 = .ok (.iaload, 1) := by decide +kernel
theorem dX12_weight_64 : decode cX12_weight 64 = .ok (.iadd, 1) := by decide +kernel
theorem dX12_weight_65 : decode cX12_weight 65 = .ok (.iload_n 2, 1) := by decide +kernel
theorem dX12_weight_66 : decode cX12_weight 66 = .ok (.iastore, 1) := by decide +kernel
theorem dX12_weight_67 : decode cX12_weight 67 = .ok (.aload_n 0, 1) := by decide +kernel
theorem dX12_weight_68 : decode cX12_weight 68 = .ok (.getfield 19, 3) := by decide +kernel
theorem dX12_weight_71 : decode cX12_weight 71 = .ok (.iload_n 1, 1) := by decide +kernel
theorem dX12_weight_72 : decode cX12_weight 72 = .ok (.dup2, 1) := by decide +kernel
theorem dX12_weight_73 : decode cX12_weight 73 = .ok (.iaload, 1) := by decide +kernel
theorem dX12_weight_74 : decode cX12_weight 74 = .ok (.iconst 1, 1) := by decide +kernel
theorem dX12_weight_75 : decode cX12_weight 75 = .ok (.iadd, 1) := by decide +kernel
theorem dX12_weight_76 : decode cX12_weight 76 = .ok (.iastore, 1) := by decide +kernel
theorem dX12_weight_77 : decode cX12_weight 77 = .ok (.aload_n 0, 1) := by decide +kernel
theorem dX12_weight_78 : decode cX12_weight 78 = .ok (.getfield 19, 3) := by decide +kernel
theorem dX12_weight_81 : decode cX12_weight 81 = .ok (.iload_n 1, 1) := by decide +kernel
theorem dX12_weight_82 : decode cX12_weight 82 = .ok (.iaload, 1) := by decide +kernel
theorem dX12_weight_83 : decode cX12_weight 83 = .ok (.ireturn, 1) := by decide +kernel
theorem dX12_program_0 : decode cX12_program 0 = .ok (.aload_n 0, 1) := by decide +kernel
theorem dX12_program_1 : decode cX12_program 1 = .ok (.getfield 140, 3) := by decide +kernel
theorem dX12_program_4 : decode cX12_program 4 = .ok (.iconst 4, 1) := by decide +kernel
theorem dX12_program_5 : decode cX12_program 5 = .ok (.if_icmp .ne 6, 3) := by decide +kernel
theorem dX12_program_8 : decode cX12_program 8 = .ok (.bipush (-2), 2) := by decide +kernel
theorem dX12_program_10 : decode cX12_program 10 = .ok (.ireturn, 1) := by decide +kernel
theorem dX12_program_11 : decode cX12_program 11 = .ok (.aload_n 0, 1) := by decide +kernel
theorem dX12_program_12 : decode cX12_program 12 = .ok (.getfield 25, 3) := by decide +kernel
theorem dX12_program_15 : decode cX12_program 15 = .ok (.aload_n 0, 1) := by decide +kernel
theorem dX12_program_16 : decode cX12_program 16 = .ok (.getfield 140, 3) := by decide +kernel
theorem dX12_program_19 : decode cX12_program 19 = .ok (.iconst 0, 1) := by decide +kernel
theorem dX12_program_20 : decode cX12_program 20 = .ok (.iastore, 1) := by decide +kernel
theorem dX12_program_21 : decode cX12_program 21 = .ok (.aload_n 0, 1) := by decide +kernel
theorem dX12_program_22 : decode cX12_program 22 = .ok (.getfield 63, 3) := by decide +kernel
theorem dX12_program_25 : decode cX12_program 25 = .ok (.aload_n 0, 1) := by decide +kernel
theorem dX12_program_26 : decode cX12_program 26 = .ok (.getfield 140, 3) := by decide +kernel
theorem dX12_program_29 : decode cX12_program 29 = .ok (.lconst 0, 1) := by decide +kernel
theorem dX12_program_30 : decode cX12_program 30 = .ok (.lastore, 1) := by decide +kernel
theorem dX12_program_31 : decode cX12_program 31 = .ok (.aload_n 0, 1) := by decide +kernel
theorem dX12_program_32 : decode cX12_program 32 = .ok (.getfield 66, 3) := by decide +kernel
theorem dX12_program_35 : decode cX12_program 35 = .ok (.aload_n 0, 1) := by decide +kernel
theorem dX12_program_36 : decode cX12_program 36 = .ok (.getfield 140, 3) := by decide +kernel
theorem dX12_program_39 : decode cX12_program 39 = .ok (.lconst 1, 1) := by decide +kernel
theorem dX12_program_40 : decode cX12_program 40 = .ok (.lastore, 1) := by decide +kernel
theorem dX12_program_41 : decode cX12_program 41 = .ok (.aload_n 0, 1) := by decide +kernel
theorem dX12_program_42 : decode cX12_program 42 = .ok (.dup, 1) := by decide +kernel
theorem dX12_program_43 : decode cX12_program 43 = .ok (.getfield 140, 3) := by decide +kernel
theorem dX12_program_46 : decode cX12_program 46 = .ok (.iconst 1, 1) := by decide +kernel
theorem dX12_program_47 : decode cX12_program 47 = .ok (.iadd, 1) := by decide +kernel
theorem dX12_program_48 : decode cX12_program 48 = .ok (.putfield 140, 3) := by decide +kernel
theorem dX12_program_51 : decode cX12_program 51 = .ok (.aload_n 0, 1) := by decide +kernel
theorem dX12_program_52 : decode cX12_program 52 = .ok (.getfield 140, 3) := by decide +kernel
theorem dX12_program_55 : decode cX12_program 55 = .ok (.iconst 1, 1) := by decide +kernel
theorem dX12_program_56 : decode cX12_program 56 = .ok (.isub, 1) := by decide +kernel
theorem dX12_program_57 : decode cX12_program 57 = .ok (.ireturn, 1) := by decide +kernel
set_option maxRecDepth 20000 in
theorem ggX12_isProgram_X12_in : GoodIn wsX12_isProgram wsX12_in := goodIn_r _ [5] (by decide +kernel) (by decide +kernel)
set_option maxRecDepth 20000 in
theorem gX12_isProgram_X12_in : GoodIn wsX12_isProgram (va_wsS RX12 159 yX12_in wsX12_in) := goodIn_app (goodIn_of _ (by decide +kernel)) ggX12_isProgram_X12_in
theorem dX12_isProgram_0 : decode cX12_isProgram 0 = .ok (.iload_n 1, 1) := by decide +kernel
theorem dX12_isProgram_1 : decode cX12_isProgram 1 = .ok (.iconst 0, 1) := by decide +kernel
theorem dX12_isProgram_2 : decode cX12_isProgram 2 = .ok (.aload_n 0, 1) := by decide +kernel
theorem dX12_isProgram_3 : decode cX12_isProgram 3 = .ok (.getfield 140, 3) := by decide +kernel
theorem dX12_isProgram_6 : decode cX12_isProgram 6 = .ok (.iconst 1, 1) := by decide +kernel
theorem dX12_isProgram_7 : decode cX12_isProgram 7 = .ok (.isub, 1) := by decide +kernel
theorem dX12_isProgram_8 : decode cX12_isProgram 8 = .ok (.invokestatic 159, 3) := by decide +kernel
theorem dX12_isProgram_11 : decode cX12_isProgram 11 = .ok (.ireturn, 1) := by decide +kernel
set_option maxRecDepth 20000 in
theorem ggX12_fits_X12_in : GoodIn wsX12_fits wsX12_in := goodIn_r _ [5] (by decide +kernel) (by decide +kernel)
set_option maxRecDepth 20000 in
theorem gX12_fits_X12_in : GoodIn wsX12_fits (va_wsS RX12 159 yX12_in wsX12_in) := goodIn_app (goodIn_of _ (by decide +kernel)) ggX12_fits_X12_in
theorem dX12_fits_0 : decode cX12_fits 0 = .ok (.iload_n 2, 1) := by decide +kernel
theorem dX12_fits_1 : decode cX12_fits 1 = .ok (.iconst 0, 1) := by decide +kernel
theorem dX12_fits_2 : decode cX12_fits 2 = .ok (.iconst 5, 1) := by decide +kernel
theorem dX12_fits_3 : decode cX12_fits 3 = .ok (.invokestatic 159, 3) := by decide +kernel
theorem dX12_fits_6 : decode cX12_fits 6 = .ok (.istore_n 3, 1) := by decide +kernel
theorem dX12_fits_7 : decode cX12_fits 7 = .ok (.iload_n 0, 1) := by decide +kernel
theorem dX12_fits_8 : decode cX12_fits 8 = .ok (.tableswitch 275 1 12 #[64, 64, 84, 110, 135, 160, 184, 275, 204, 135, 229, 249], 64) := by decide +kernel
theorem dX12_fits_72 : decode cX12_fits 72 = .ok (.iload_n 1, 1) := by decide +kernel
theorem dX12_fits_73 : decode cX12_fits 73 = .ok (.iconst 0, 1) := by decide +kernel
theorem dX12_fits_74 : decode cX12_fits 74 = .ok (.bipush 7, 2) := by decide +kernel
theorem dX12_fits_76 : decode cX12_fits 76 = .ok (.invokestatic 159, 3) := by decide +kernel
theorem dX12_fits_79 : decode cX12_fits 79 = .ok (.ifCond .eq 11, 3) := by decide +kernel
theorem dX12_fits_82 : decode cX12_fits 82 = .ok (.iload_n 3, 1) := by decide +kernel
theorem dX12_fits_83 : decode cX12_fits 83 = .ok (.ifCond .eq 7, 3) := by decide +kernel
theorem dX12_fits_86 : decode cX12_fits 86 = .ok (.iconst 1, 1) := by decide +kernel
theorem dX12_fits_87 : decode cX12_fits 87 = .ok (.goto 4, 3) := by decide +kernel
theorem dX12_fits_90 : decode cX12_fits 90 = .ok (.iconst 0, 1) := by decide +kernel
theorem dX12_fits_91 : decode cX12_fits 91 = .ok (.ireturn, 1) := by decide +kernel
theorem dX12_fits_92 : decode cX12_fits 92 = .ok (.iload_n 1, 1) := by decide +kernel
theorem dX12_fits_93 : decode cX12_fits 93 = .ok (.iconst 0, 1) := by decide +kernel
theorem dX12_fits_94 : decode cX12_fits 94 = .ok (.bipush 7, 2) := by decide +kernel
theorem dX12_fits_96 : decode cX12_fits 96 = .ok (.invokestatic 159, 3) := by decide +kernel
theorem dX12_fits_99 : decode cX12_fits 99 = .ok (.ifCond .eq 17, 3) := by decide +kernel
theorem dX12_fits_102 : decode cX12_fits 102 = .ok (.iload_n 2, 1) := by decide +kernel
theorem dX12_fits_103 : decode cX12_fits 103 = .ok (.iconst 0, 1) := by decide +kernel
theorem dX12_fits_104 : decode cX12_fits 104 = .ok (.bipush 7, 2) := by decide +kernel
theorem dX12_fits_106 : decode cX12_fits 106 = .ok (.invokestatic 159, 3) := by decide +kernel
theorem dX12_fits_109 : decode cX12_fits 109 = .ok (.ifCond .eq 7, 3) := by decide +kernel
theorem dX12_fits_112 : decode cX12_fits 112 = .ok (.iconst 1, 1) := by decide +kernel
theorem dX12_fits_113 : decode cX12_fits 113 = .ok (.goto 4, 3) := by decide +kernel
theorem dX12_fits_116 : decode cX12_fits 116 = .ok (.iconst 0, 1) := by decide +kernel
theorem dX12_fits_117 : decode cX12_fits 117 = .ok (.ireturn, 1) := by decide +kernel
theorem dX12_fits_118 : decode cX12_fits 118 = .ok (.iload_n 1, 1) := by decide +kernel
theorem dX12_fits_119 : decode cX12_fits 119 = .ok (.iconst 0, 1) := by decide +kernel
theorem dX12_fits_120 : decode cX12_fits 120 = .ok (.iconst 5, 1) := by decide +kernel
theorem dX12_fits_121 : decode cX12_fits 121 = .ok (.invokestatic 159, 3) := by decide +kernel
theorem dX12_fits_124 : decode cX12_fits 124 = .ok (.ifCond .eq 17, 3) := by decide +kernel
theorem dX12_fits_127 : decode cX12_fits 127 = .ok (.iload_n 2, 1) := by decide +kernel
theorem dX12_fits_128 : decode cX12_fits 128 = .ok (.iconst 1, 1) := by decide +kernel
theorem dX12_fits_129 : decode cX12_fits 129 = .ok (.bipush 100, 2) := by decide +kernel
theorem dX12_fits_131 : decode cX12_fits 131 = .ok (.invokestatic 159, 3) := by decide +kernel
theorem dX12_fits_134 : decode cX12_fits 134 = .ok (.ifCond .eq 7, 3) := by decide +kernel
theorem dX12_fits_137 : decode cX12_fits 137 = .ok (.iconst 1, 1) := by decide +kernel
theorem dX12_fits_138 : decode cX12_fits 138 = .ok (.goto 4, 3) := by decide +kernel
theorem dX12_fits_141 : decode cX12_fits 141 = .ok (.iconst 0, 1) := by decide +kernel
theorem dX12_fits_142 : decode cX12_fits 142 = .ok (.ireturn, 1) := by decide +kernel
theorem dX12_fits_143 : decode cX12_fits 143 = .ok (.iload_n 1, 1) := by decide +kernel
theorem dX12_fits_144 : decode cX12_fits 144 = .ok (.iconst 0, 1) := by decide +kernel
theorem dX12_fits_145 : decode cX12_fits 145 = .ok (.bipush 7, 2) := by decide +kernel
theorem dX12_fits_147 : decode cX12_fits 147 = .ok (.invokestatic 159, 3) := by decide +kernel
theorem dX12_fits_150 : decode cX12_fits 150 = .ok (.ifCond .eq 16, 3) := by decide +kernel
theorem dX12_fits_153 : decode cX12_fits 153 = .ok (.iload_n 2, 1) := by decide +kernel
theorem dX12_fits_154 : decode cX12_fits 154 = .ok (.iconst 0, 1) := by decide +kernel
theorem dX12_fits_155 : decode cX12_fits 155 = .ok (.iconst 1, 1) := by decide +kernel
theorem dX12_fits_156 : decode cX12_fits 156 = .ok (.invokestatic 159, 3) := by decide +kernel
theorem dX12_fits_159 : decode cX12_fits 159 = .ok (.ifCond .eq 7, 3) := by decide +kernel
theorem dX12_fits_162 : decode cX12_fits 162 = .ok (.iconst 1, 1) := by decide +kernel
theorem dX12_fits_163 : decode cX12_fits 163 = .ok (.goto 4, 3) := by decide +kernel
theorem dX12_fits_166 : decode cX12_fits 166 = .ok (.iconst 0, 1) := by decide +kernel
theorem dX12_fits_167 : decode cX12_fits 167 = .ok (.ireturn, 1) := by decide +kernel
theorem dX12_fits_168 : decode cX12_fits 168 = .ok (.iload_n 1, 1) := by decide +kernel
theorem dX12_fits_169 : decode cX12_fits 169 = .ok (.iconst 0, 1) := by decide +kernel
theorem dX12_fits_170 : decode cX12_fits 170 = .ok (.iconst 3, 1) := by decide +kernel
theorem dX12_fits_171 : decode cX12_fits 171 = .ok (.invokestatic 159, 3) := by decide +kernel
theorem dX12_fits_174 : decode cX12_fits 174 = .ok (.ifCond .eq 16, 3) := by decide +kernel
theorem dX12_fits_177 : decode cX12_fits 177 = .ok (.iload_n 2, 1) := by decide +kernel
theorem dX12_fits_178 : decode cX12_fits 178 = .ok (.iconst 0, 1) := by decide +kernel
theorem dX12_fits_179 : decode cX12_fits 179 = .ok (.iconst 3, 1) := by decide +kernel
theorem dX12_fits_180 : decode cX12_fits 180 = .ok (.invokestatic 159, 3) := by decide +kernel
theorem dX12_fits_183 : decode cX12_fits 183 = .ok (.ifCond .eq 7, 3) := by decide +kernel
theorem dX12_fits_186 : decode cX12_fits 186 = .ok (.iconst 1, 1) := by decide +kernel
theorem dX12_fits_187 : decode cX12_fits 187 = .ok (.goto 4, 3) := by decide +kernel
theorem dX12_fits_190 : decode cX12_fits 190 = .ok (.iconst 0, 1) := by decide +kernel
theorem dX12_fits_191 : decode cX12_fits 191 = .ok (.ireturn, 1) := by decide +kernel
theorem dX12_fits_192 : decode cX12_fits 192 = .ok (.iload_n 1, 1) := by decide +kernel
theorem dX12_fits_193 : decode cX12_fits 193 = .ok (.iconst 0, 1) := by decide +kernel
theorem dX12_fits_194 : decode cX12_fits 194 = .ok (.bipush 7, 2) := by decide +kernel
theorem dX12_fits_196 : decode cX12_fits 196 = .ok (.invokestatic 159, 3) := by decide +kernel
theorem dX12_fits_199 : decode cX12_fits 199 = .ok (.ifCond .eq 11, 3) := by decide +kernel
theorem dX12_fits_202 : decode cX12_fits 202 = .ok (.iload_n 2, 1) := by decide +kernel
theorem dX12_fits_203 : decode cX12_fits 203 = .ok (.ifCond .ne 7, 3) := by decide +kernel
theorem dX12_fits_206 : decode cX12_fits 206 = .ok (.iconst 1, 1) := by decide +kernel
theorem dX12_fits_207 : decode cX12_fits 207 = .ok (.goto 4, 3) := by decide +kernel
theorem dX12_fits_210 : decode cX12_fits 210 = .ok (.iconst 0, 1) := by decide +kernel
theorem dX12_fits_211 : decode cX12_fits 211 = .ok (.ireturn, 1) := by decide +kernel
theorem dX12_fits_212 : decode cX12_fits 212 = .ok (.iload_n 1, 1) := by decide +kernel
theorem dX12_fits_213 : decode cX12_fits 213 = .ok (.iconst 0, 1) := by decide +kernel
theorem dX12_fits_214 : decode cX12_fits 214 = .ok (.iconst 1, 1) := by decide +kernel
theorem dX12_fits_215 : decode cX12_fits 215 = .ok (.invokestatic 159, 3) := by decide +kernel
theorem dX12_fits_218 : decode cX12_fits 218 = .ok (.ifCond .eq 17, 3) := by decide +kernel
theorem dX12_fits_221 : decode cX12_fits 221 = .ok (.iload_n 2, 1) := by decide +kernel
theorem dX12_fits_222 : decode cX12_fits 222 = .ok (.iconst 0, 1) := by decide +kernel
theorem dX12_fits_223 : decode cX12_fits 223 = .ok (.ldc 171, 2) := by decide +kernel
theorem dX12_fits_225 : decode cX12_fits 225 = .ok (.invokestatic 159, 3) := by decide +kernel
theorem dX12_fits_228 : decode cX12_fits 228 = .ok (.ifCond .eq 7, 3) := by decide +kernel
theorem dX12_fits_231 : decode cX12_fits 231 = .ok (.iconst 1, 1) := by decide +kernel
theorem dX12_fits_232 : decode cX12_fits 232 = .ok (.goto 4, 3) := by decide +kernel
theorem dX12_fits_235 : decode cX12_fits 235 = .ok (.iconst 0, 1) := by decide +kernel
theorem dX12_fits_236 : decode cX12_fits 236 = .ok (.ireturn, 1) := by decide +kernel
theorem dX12_fits_237 : decode cX12_fits 237 = .ok (.iload_n 1, 1) := by decide +kernel
theorem dX12_fits_238 : decode cX12_fits 238 = .ok (.iconst 0, 1) := by decide +kernel
theorem dX12_fits_239 : decode cX12_fits 239 = .ok (.bipush 7, 2) := by decide +kernel
theorem dX12_fits_241 : decode cX12_fits 241 = .ok (.invokestatic 159, 3) := by decide +kernel
theorem dX12_fits_244 : decode cX12_fits 244 = .ok (.ifCond .eq 11, 3) := by decide +kernel
theorem dX12_fits_247 : decode cX12_fits 247 = .ok (.iload_n 3, 1) := by decide +kernel
theorem dX12_fits_248 : decode cX12_fits 248 = .ok (.ifCond .eq 7, 3) := by decide +kernel
theorem dX12_fits_251 : decode cX12_fits 251 = .ok (.iconst 1, 1) := by decide +kernel
theorem dX12_fits_252 : decode cX12_fits 252 = .ok (.goto 4, 3) := by decide +kernel
theorem dX12_fits_255 : decode cX12_fits 255 = .ok (.iconst 0, 1) := by decide +kernel
theorem dX12_fits_256 : decode cX12_fits 256 = .ok (.ireturn, 1) := by decide +kernel
theorem dX12_fits_257 : decode cX12_fits 257 = .ok (.iload_n 1, 1) := by decide +kernel
theorem dX12_fits_258 : decode cX12_fits 258 = .ok (.iconst 0, 1) := by decide +kernel
theorem dX12_fits_259 : decode cX12_fits 259 = .ok (.bipush 7, 2) := by decide +kernel
theorem dX12_fits_261 : decode cX12_fits 261 = .ok (.invokestatic 159, 3) := by decide +kernel
theorem dX12_fits_264 : decode cX12_fits 264 = .ok (.ifCond .eq 17, 3) := by decide +kernel
theorem dX12_fits_267 : decode cX12_fits 267 = .ok (.iload_n 2, 1) := by decide +kernel
theorem dX12_fits_268 : decode cX12_fits 268 = .ok (.iconst 1, 1) := by decide +kernel
theorem dX12_fits_269 : decode cX12_fits 269 = .ok (.bipush 30, 2) := by decide +kernel
theorem dX12_fits_271 : decode cX12_fits 271 = .ok (.invokestatic 159, 3) := by decide +kernel
theorem dX12_fits_274 : decode cX12_fits 274 = .ok (.ifCond .eq 7, 3) := by decide +kernel
theorem dX12_fits_277 : decode cX12_fits 277 = .ok (.iconst 1, 1) := by decide +kernel
theorem dX12_fits_278 : decode cX12_fits 278 = .ok (.goto 4, 3) := by decide +kernel
theorem dX12_fits_281 : decode cX12_fits 281 = .ok (.iconst 0, 1) := by decide +kernel
theorem dX12_fits_282 : decode cX12_fits 282 = .ok (.ireturn, 1) := by decide +kernel
theorem dX12_fits_283 : decode cX12_fits 283 = .ok (.iload_n 1, 1) := by decide +kernel
theorem dX12_fits_284 : decode cX12_fits 284 = .ok (.ifCond .ne 11, 3) := by decide +kernel
theorem dX12_fits_287 : decode cX12_fits 287 = .ok (.iload_n 2, 1) := by decide +kernel
theorem dX12_fits_288 : decode cX12_fits 288 = .ok (.ifCond .ne 7, 3) := by decide +kernel
theorem dX12_fits_291 : decode cX12_fits 291 = .ok (.iconst 1, 1) := by decide +kernel
theorem dX12_fits_292 : decode cX12_fits 292 = .ok (.goto 4, 3) := by decide +kernel
theorem dX12_fits_295 : decode cX12_fits 295 = .ok (.iconst 0, 1) := by decide +kernel
theorem dX12_fits_296 : decode cX12_fits 296 = .ok (.ireturn, 1) := by decide +kernel
set_option maxRecDepth 20000 in
theorem ggX12_act_X12_isProgram : GoodIn wsX12_act wsX12_isProgram := goodIn_r _ [10, 11, 12, 13, 9, 14, 19, 20, 21, 22, 23, 24, 25, 26, 27, 28, 29, 30, 31, 32, 33, 34, 35, 36, 37, 38, 39, 40, 41, 42, 43, 44, 45, 46, 47, 48, 49, 50, 51, 52, 53, 54, 55, 56, 57, 58, 59, 60, 61, 62, 63, 64, 65, 66, 67, 68, 69, 70] (by decide +kernel) (by decide +kernel)
set_option maxRecDepth 20000 in
theorem gX12_act_X12_isProgram : GoodIn wsX12_act (wsV RX12 172 RX12 yX12_isProgram wsX12_isProgram) := goodIn_app (goodIn_of _ (by decide +kernel)) ggX12_act_X12_isProgram
set_option maxRecDepth 20000 in
theorem ggX12_act_X12_in : GoodIn wsX12_act wsX12_in := goodIn_r _ [14] (by decide +kernel) (by decide +kernel)
set_option maxRecDepth 20000 in
theorem gX12_act_X12_in : GoodIn wsX12_act (va_wsS RX12 159 yX12_in wsX12_in) := goodIn_app (goodIn_of _ (by decide +kernel)) ggX12_act_X12_in
set_option maxRecDepth 20000 in
theorem ggX12_act_X12_fits : GoodIn wsX12_act wsX12_fits := goodIn_r _ [17, 18, 12, 13, 9, 14] (by decide +kernel) (by decide +kernel)
set_option maxRecDepth 20000 in
theorem gX12_act_X12_fits : GoodIn wsX12_act (va_wsS RX12 176 yX12_fits wsX12_fits) := goodIn_app (goodIn_of _ (by decide +kernel)) ggX12_act_X12_fits
theorem dX12_act_0 : decode cX12_act 0 = .ok (.aload_n 0, 1) := by decide +kernel
theorem dX12_act_1 : decode cX12_act 1 = .ok (.iload_n 1, 1) := by decide +kernel
theorem dX12_act_2 : decode cX12_act 2 = .ok (.invokevirtual 172, 3) := by decide +kernel
theorem dX12_act_5 : decode cX12_act 5 = .ok (.ifCond .eq 34, 3) := by decide +kernel
theorem dX12_act_8 : decode cX12_act 8 = .ok (.iload_n 2, 1) := by decide +kernel
theorem dX12_act_9 : decode cX12_act 9 = .ok (.iconst 0, 1) := by decide +kernel
theorem dX12_act_10 : decode cX12_act 10 = .ok (.bipush 12, 2) := by decide +kernel
theorem dX12_act_12 : decode cX12_act 12 = .ok (.invokestatic 159, 3) := by decide +kernel
theorem dX12_act_15 : decode cX12_act 15 = .ok (.ifCond .eq 24, 3) := by decide +kernel
theorem dX12_act_18 : decode cX12_act 18 = .ok (.iload_n 3, 1) := by decide +kernel
theorem dX12_act_19 : decode cX12_act 19 = .ok (.iconst 0, 1) := by decide +kernel
theorem dX12_act_20 : decode cX12_act 20 = .ok (.bipush 7, 2) := by decide +kernel
theorem dX12_act_22 : decode cX12_act 22 = .ok (.invokestatic 159, 3) := by decide +kernel
theorem dX12_act_25 : decode cX12_act 25 = .ok (.ifCond .eq 14, 3) := by decide +kernel
theorem dX12_act_28 : decode cX12_act 28 = .ok (.iload_n 2, 1) := by decide +kernel
theorem dX12_act_29 : decode cX12_act 29 = .ok (.iload 4, 2) := by decide +kernel
theorem dX12_act_31 : decode cX12_act 31 = .ok (.iload 5, 2) := by decide +kernel
theorem dX12_act_33 : decode cX12_act 33 = .ok (.invokestatic 176, 3) := by decide +kernel
theorem dX12_act_36 : decode cX12_act 36 = .ok (.ifCond .ne 5, 3) := by decide +kernel
theorem dX12_act_39 : decode cX12_act 39 = .ok (.iconst (-1), 1) := by decide +kernel
theorem dX12_act_40 : decode cX12_act 40 = .ok (.ireturn, 1) := by decide +kernel
theorem dX12_act_41 : decode cX12_act 41 = .ok (.aload_n 0, 1) := by decide +kernel
theorem dX12_act_42 : decode cX12_act 42 = .ok (.getfield 25, 3) := by decide +kernel
theorem dX12_act_45 : decode cX12_act 45 = .ok (.iload_n 1, 1) := by decide +kernel
theorem dX12_act_46 : decode cX12_act 46 = .ok (.iaload, 1) := by decide +kernel
theorem dX12_act_47 : decode cX12_act 47 = .ok (.bipush 20, 2) := by decide +kernel
theorem dX12_act_49 : decode cX12_act 49 = .ok (.if_icmp .ne 6, 3) := by decide +kernel
theorem dX12_act_52 : decode cX12_act 52 = .ok (.bipush (-2), 2) := by decide +kernel
theorem dX12_act_54 : decode cX12_act 54 = .ok (.ireturn, 1) := by decide +kernel
theorem dX12_act_55 : decode cX12_act 55 = .ok (.bipush 20, 2) := by decide +kernel
theorem dX12_act_57 : decode cX12_act 57 = .ok (.iload_n 1, 1) := by decide +kernel
theorem dX12_act_58 : decode cX12_act 58 = .ok (.imul, 1) := by decide +kernel
theorem dX12_act_59 : decode cX12_act 59 = .ok (.aload_n 0, 1) := by decide +kernel
theorem dX12_act_60 : decode cX12_act 60 = .ok (.getfield 25, 3) := by decide +kernel
theorem dX12_act_63 : decode cX12_act 63 = .ok (.iload_n 1, 1) := by decide +kernel
theorem dX12_act_64 : decode cX12_act 64 = .ok (.iaload, 1) := by decide +kernel
theorem dX12_act_65 : decode cX12_act 65 = .ok (.iadd, 1) := by decide +kernel
theorem dX12_act_66 : decode cX12_act 66 = .ok (.istore 6, 2) := by decide +kernel
theorem dX12_act_68 : decode cX12_act 68 = .ok (.aload_n 0, 1) := by decide +kernel
theorem dX12_act_69 : decode cX12_act 69 = .ok (.getfield 28, 3) := by decide +kernel
theorem dX12_act_72 : decode cX12_act 72 = .ok (.iload 6, 2) := by decide +kernel
theorem dX12_act_74 : decode cX12_act 74 = .ok (.iload_n 2, 1) := by decide +kernel
theorem dX12_act_75 : decode cX12_act 75 = .ok (.iastore, 1) := by decide +kernel
theorem dX12_act_76 : decode cX12_act 76 = .ok (.aload_n 0, 1) := by decide +kernel
theorem dX12_act_77 : decode cX12_act 77 = .ok (.getfield 31, 3) := by decide +kernel
theorem dX12_act_80 : decode cX12_act 80 = .ok (.iload 6, 2) := by decide +kernel
theorem dX12_act_82 : decode cX12_act 82 = .ok (.iload_n 3, 1) := by decide +kernel
theorem dX12_act_83 : decode cX12_act 83 = .ok (.iastore, 1) := by decide +kernel
theorem dX12_act_84 : decode cX12_act 84 = .ok (.aload_n 0, 1) := by decide +kernel
theorem dX12_act_85 : decode cX12_act 85 = .ok (.getfield 34, 3) := by decide +kernel
theorem dX12_act_88 : decode cX12_act 88 = .ok (.iload 6, 2) := by decide +kernel
theorem dX12_act_90 : decode cX12_act 90 = .ok (.iload 4, 2) := by decide +kernel
theorem dX12_act_92 : decode cX12_act 92 = .ok (.iastore, 1) := by decide +kernel
theorem dX12_act_93 : decode cX12_act 93 = .ok (.aload_n 0, 1) := by decide +kernel
theorem dX12_act_94 : decode cX12_act 94 = .ok (.getfield 37, 3) := by decide +kernel
theorem dX12_act_97 : decode cX12_act 97 = .ok (.iload 6, 2) := by decide +kernel
theorem dX12_act_99 : decode cX12_act 99 = .ok (.iload 5, 2) := by decide +kernel
theorem dX12_act_101 : decode cX12_act 101 = .ok (.iastore, 1) := by decide +kernel
theorem dX12_act_102 : decode cX12_act 102 = .ok (.aload_n 0, 1) := by decide +kernel
theorem dX12_act_103 : decode cX12_act 103 = .ok (.getfield 25, 3) := by decide +kernel
theorem dX12_act_106 : decode cX12_act 106 = .ok (.iload_n 1, 1) := by decide +kernel
theorem dX12_act_107 : decode cX12_act 107 = .ok (.dup2, 1) := by decide +kernel
theorem dX12_act_108 : decode cX12_act 108 = .ok (.iaload, 1) := by decide +kernel
theorem dX12_act_109 : decode cX12_act 109 = .ok (.iconst 1, 1) := by decide +kernel
theorem dX12_act_110 : decode cX12_act 110 = .ok (.iadd, 1) := by decide +kernel
theorem dX12_act_111 : decode cX12_act 111 = .ok (.iastore, 1) := by decide +kernel
theorem dX12_act_112 : decode cX12_act 112 = .ok (.aload_n 0, 1) := by decide +kernel
theorem dX12_act_113 : decode cX12_act 113 = .ok (.getfield 25, 3) := by decide +kernel
theorem dX12_act_116 : decode cX12_act 116 = .ok (.iload_n 1, 1) := by decide +kernel
theorem dX12_act_117 : decode cX12_act 117 = .ok (.iaload, 1) := by decide +kernel
theorem dX12_act_118 : decode cX12_act 118 = .ok (.ireturn, 1) := by decide +kernel
set_option maxRecDepth 20000 in
theorem ggX12_isAct_X12_isProgram : GoodIn wsX12_isAct wsX12_isProgram := goodIn_r _ [6, 7, 8, 9, 5, 10, 11, 12, 13, 14, 15, 16, 17, 18, 19, 20, 21, 22, 23, 24, 25, 26, 27, 28, 29, 30, 31, 32, 33, 34, 35, 36, 37, 38, 39, 40, 41, 42, 43, 44, 45, 46, 47, 48, 49, 50, 51, 52, 53, 54, 55, 56, 57, 58, 59, 60, 61, 62] (by decide +kernel) (by decide +kernel)
set_option maxRecDepth 20000 in
theorem gX12_isAct_X12_isProgram : GoodIn wsX12_isAct (wsV RX12 172 RX12 yX12_isProgram wsX12_isProgram) := goodIn_app (goodIn_of _ (by decide +kernel)) ggX12_isAct_X12_isProgram
set_option maxRecDepth 20000 in
theorem ggX12_isAct_X12_in : GoodIn wsX12_isAct wsX12_in := goodIn_r _ [10] (by decide +kernel) (by decide +kernel)
set_option maxRecDepth 20000 in
theorem gX12_isAct_X12_in : GoodIn wsX12_isAct (va_wsS RX12 159 yX12_in wsX12_in) := goodIn_app (goodIn_of _ (by decide +kernel)) ggX12_isAct_X12_in
theorem dX12_isAct_0 : decode cX12_isAct 0 = .ok (.aload_n 0, 1) := by decide +kernel
theorem dX12_isAct_1 : decode cX12_isAct 1 = .ok (.iload_n 1, 1) := by decide +kernel
theorem dX12_isAct_2 : decode cX12_isAct 2 = .ok (.invokevirtual 172, 3) := by decide +kernel
theorem dX12_isAct_5 : decode cX12_isAct 5 = .ok (.ifCond .eq 23, 3) := by decide +kernel
theorem dX12_isAct_8 : decode cX12_isAct 8 = .ok (.iload_n 2, 1) := by decide +kernel
theorem dX12_isAct_9 : decode cX12_isAct 9 = .ok (.iconst 0, 1) := by decide +kernel
theorem dX12_isAct_10 : decode cX12_isAct 10 = .ok (.aload_n 0, 1) := by decide +kernel
theorem dX12_isAct_11 : decode cX12_isAct 11 = .ok (.getfield 25, 3) := by decide +kernel
theorem dX12_isAct_14 : decode cX12_isAct 14 = .ok (.iload_n 1, 1) := by decide +kernel
theorem dX12_isAct_15 : decode cX12_isAct 15 = .ok (.iaload, 1) := by decide +kernel
theorem dX12_isAct_16 : decode cX12_isAct 16 = .ok (.iconst 1, 1) := by decide +kernel
theorem dX12_isAct_17 : decode cX12_isAct 17 = .ok (.isub, 1) := by decide +kernel
theorem dX12_isAct_18 : decode cX12_isAct 18 = .ok (.invokestatic 159, 3) := by decide +kernel
theorem dX12_isAct_21 : decode cX12_isAct 21 = .ok (.ifCond .eq 7, 3) := by decide +kernel
theorem dX12_isAct_24 : decode cX12_isAct 24 = .ok (.iconst 1, 1) := by decide +kernel
theorem dX12_isAct_25 : decode cX12_isAct 25 = .ok (.goto 4, 3) := by decide +kernel
theorem dX12_isAct_28 : decode cX12_isAct 28 = .ok (.iconst 0, 1) := by decide +kernel
theorem dX12_isAct_29 : decode cX12_isAct 29 = .ok (.ireturn, 1) := by decide +kernel
set_option maxRecDepth 20000 in
theorem ggX12_set_X12_isAct : GoodIn wsX12_set wsX12_isAct := goodIn_r _ [8, 9, 10, 11, 12, 7, 13, 14, 15, 16, 17, 22, 23, 24, 25, 26, 27, 28, 29, 30, 31, 32, 33, 34, 35, 36, 37, 38, 39, 40, 41, 42, 43, 44, 45, 46, 47, 48, 49, 50, 51, 52, 53, 54, 55, 56, 57, 58, 59, 60, 61, 62, 63, 64, 65, 66, 67, 68, 69, 70, 71, 72, 73] (by decide +kernel) (by decide +kernel)
set_option maxRecDepth 20000 in
theorem gX12_set_X12_isAct : GoodIn wsX12_set (wsV RX12 179 RX12 yX12_isAct wsX12_isAct) := goodIn_app (goodIn_of _ (by decide +kernel)) ggX12_set_X12_isAct
set_option maxRecDepth 20000 in
theorem ggX12_set_X12_fits : GoodIn wsX12_set wsX12_fits := goodIn_r _ [20, 21, 15, 16, 7, 17] (by decide +kernel) (by decide +kernel)
set_option maxRecDepth 20000 in
theorem gX12_set_X12_fits : GoodIn wsX12_set (va_wsS RX12 176 yX12_fits wsX12_fits) := goodIn_app (goodIn_of _ (by decide +kernel)) ggX12_set_X12_fits
theorem dX12_set_0 : decode cX12_set 0 = .ok (.aload_n 0, 1) := by decide +kernel
theorem dX12_set_1 : decode cX12_set 1 = .ok (.iload_n 1, 1) := by decide +kernel
theorem dX12_set_2 : decode cX12_set 2 = .ok (.iload_n 2, 1) := by decide +kernel
theorem dX12_set_3 : decode cX12_set 3 = .ok (.invokevirtual 179, 3) := by decide +kernel
theorem dX12_set_6 : decode cX12_set 6 = .ok (.ifCond .eq 23, 3) := by decide +kernel
theorem dX12_set_9 : decode cX12_set 9 = .ok (.aload_n 0, 1) := by decide +kernel
theorem dX12_set_10 : decode cX12_set 10 = .ok (.getfield 28, 3) := by decide +kernel
theorem dX12_set_13 : decode cX12_set 13 = .ok (.bipush 20, 2) := by decide +kernel
theorem dX12_set_15 : decode cX12_set 15 = .ok (.iload_n 1, 1) := by decide +kernel
theorem dX12_set_16 : decode cX12_set 16 = .ok (.imul, 1) := by decide +kernel
theorem dX12_set_17 : decode cX12_set 17 = .ok (.iload_n 2, 1) := by decide +kernel
theorem dX12_set_18 : decode cX12_set 18 = .ok (.iadd, 1) := by decide +kernel
theorem dX12_set_19 : decode cX12_set 19 = .ok (.iaload, 1) := by decide +kernel
theorem dX12_set_20 : decode cX12_set 20 = .ok (.iload_n 3, 1) := by decide +kernel
theorem dX12_set_21 : decode cX12_set 21 = .ok (.iload 4, 2) := by decide +kernel
theorem dX12_set_23 : decode cX12_set 23 = .ok (.invokestatic 176, 3) := by decide +kernel
theorem dX12_set_26 : decode cX12_set 26 = .ok (.ifCond .ne 5, 3) := by decide +kernel
theorem dX12_set_29 : decode cX12_set 29 = .ok (.iconst (-1), 1) := by decide +kernel
theorem dX12_set_30 : decode cX12_set 30 = .ok (.ireturn, 1) := by decide +kernel
theorem dX12_set_31 : decode cX12_set 31 = .ok (.aload_n 0, 1) := by decide +kernel
theorem dX12_set_32 : decode cX12_set 32 = .ok (.getfield 34, 3) := by decide +kernel
theorem dX12_set_35 : decode cX12_set 35 = .ok (.bipush 20, 2) := by decide +kernel
theorem dX12_set_37 : decode cX12_set 37 = .ok (.iload_n 1, 1) := by decide +kernel
theorem dX12_set_38 : decode cX12_set 38 = .ok (.imul, 1) := by decide +kernel
theorem dX12_set_39 : decode cX12_set 39 = .ok (.iload_n 2, 1) := by decide +kernel
theorem dX12_set_40 : decode cX12_set 40 = .ok (.iadd, 1) := by decide +kernel
theorem dX12_set_41 : decode cX12_set 41 = .ok (.iload_n 3, 1) := by decide +kernel
theorem dX12_set_42 : decode cX12_set 42 = .ok (.iastore, 1) := by decide +kernel
theorem dX12_set_43 : decode cX12_set 43 = .ok (.aload_n 0, 1) := by decide +kernel
theorem dX12_set_44 : decode cX12_set 44 = .ok (.getfield 37, 3) := by decide +kernel
theorem dX12_set_47 : decode cX12_set 47 = .ok (.bipush 20, 2) := by decide +kernel
theorem dX12_set_49 : decode cX12_set 49 = .ok (.iload_n 1, 1) := by decide +kernel
theorem dX12_set_50 : decode cX12_set 50 = .ok (.imul, 1) := by decide +kernel
theorem dX12_set_51 : decode cX12_set 51 = .ok (.iload_n 2, 1) := by decide +kernel
theorem dX12_set_52 : decode cX12_set 52 = .ok (.iadd, 1) := by decide +kernel
theorem dX12_set_53 : decode cX12_set 53 = .ok (.iload 4, 2) := by decide +kernel
theorem dX12_set_55 : decode cX12_set 55 = .ok (.iastore, 1) := by decide +kernel
theorem dX12_set_56 : decode cX12_set 56 = .ok (.iconst 0, 1) := by decide +kernel
theorem dX12_set_57 : decode cX12_set 57 = .ok (.ireturn, 1) := by decide +kernel
set_option maxRecDepth 20000 in
theorem ggX12_told_X12_isAct : GoodIn wsX12_told wsX12_isAct := goodIn_r _ [9, 10, 11, 12, 13, 8, 14, 15, 16, 17, 18, 19, 20, 21, 22, 23, 24, 25, 26, 27, 28, 29, 30, 31, 32, 33, 34, 35, 36, 37, 38, 39, 40, 41, 42, 43, 44, 45, 46, 47, 48, 49, 50, 51, 52, 53, 54, 55, 56, 57, 58, 59, 60, 61, 62, 63, 64, 65, 66, 67, 68, 69, 70] (by decide +kernel) (by decide +kernel)
set_option maxRecDepth 20000 in
theorem gX12_told_X12_isAct : GoodIn wsX12_told (wsV RX12 179 RX12 yX12_isAct wsX12_isAct) := goodIn_app (goodIn_of _ (by decide +kernel)) ggX12_told_X12_isAct
theorem dX12_told_0 : decode cX12_told 0 = .ok (.aload_n 0, 1) := by decide +kernel
theorem dX12_told_1 : decode cX12_told 1 = .ok (.iload_n 1, 1) := by decide +kernel
theorem dX12_told_2 : decode cX12_told 2 = .ok (.iload_n 2, 1) := by decide +kernel
theorem dX12_told_3 : decode cX12_told 3 = .ok (.invokevirtual 179, 3) := by decide +kernel
theorem dX12_told_6 : decode cX12_told 6 = .ok (.ifCond .ne 5, 3) := by decide +kernel
theorem dX12_told_9 : decode cX12_told 9 = .ok (.iconst (-1), 1) := by decide +kernel
theorem dX12_told_10 : decode cX12_told 10 = .ok (.ireturn, 1) := by decide +kernel
theorem dX12_told_11 : decode cX12_told 11 = .ok (.bipush 20, 2) := by decide +kernel
theorem dX12_told_13 : decode cX12_told 13 = .ok (.iload_n 1, 1) := by decide +kernel
theorem dX12_told_14 : decode cX12_told 14 = .ok (.imul, 1) := by decide +kernel
theorem dX12_told_15 : decode cX12_told 15 = .ok (.iload_n 2, 1) := by decide +kernel
theorem dX12_told_16 : decode cX12_told 16 = .ok (.iadd, 1) := by decide +kernel
theorem dX12_told_17 : decode cX12_told 17 = .ok (.istore 4, 2) := by decide +kernel
theorem dX12_told_19 : decode cX12_told 19 = .ok (.iload_n 3, 1) := by decide +kernel
theorem dX12_told_20 : decode cX12_told 20 = .ok (.ifCond .ne 13, 3) := by decide +kernel
theorem dX12_told_23 : decode cX12_told 23 = .ok (.aload_n 0, 1) := by decide +kernel
theorem dX12_told_24 : decode cX12_told 24 = .ok (.getfield 28, 3) := by decide +kernel
theorem dX12_told_27 : decode cX12_told 27 = .ok (.iload 4, 2) := by decide +kernel
theorem dX12_told_29 : decode cX12_told 29 = .ok (.iaload, 1) := by decide +kernel
theorem dX12_told_30 : decode cX12_told 30 = .ok (.goto 49, 3) := by decide +kernel
theorem dX12_told_33 : decode cX12_told 33 = .ok (.iload_n 3, 1) := by decide +kernel
theorem dX12_told_34 : decode cX12_told 34 = .ok (.iconst 1, 1) := by decide +kernel
theorem dX12_told_35 : decode cX12_told 35 = .ok (.if_icmp .ne 13, 3) := by decide +kernel
theorem dX12_told_38 : decode cX12_told 38 = .ok (.aload_n 0, 1) := by decide +kernel
theorem dX12_told_39 : decode cX12_told 39 = .ok (.getfield 31, 3) := by decide +kernel
theorem dX12_told_42 : decode cX12_told 42 = .ok (.iload 4, 2) := by decide +kernel
theorem dX12_told_44 : decode cX12_told 44 = .ok (.iaload, 1) := by decide +kernel
theorem dX12_told_45 : decode cX12_told 45 = .ok (.goto 34, 3) := by decide +kernel
theorem dX12_told_48 : decode cX12_told 48 = .ok (.iload_n 3, 1) := by decide +kernel
theorem dX12_told_49 : decode cX12_told 49 = .ok (.iconst 2, 1) := by decide +kernel
theorem dX12_told_50 : decode cX12_told 50 = .ok (.if_icmp .ne 13, 3) := by decide +kernel
theorem dX12_told_53 : decode cX12_told 53 = .ok (.aload_n 0, 1) := by decide +kernel
theorem dX12_told_54 : decode cX12_told 54 = .ok (.getfield 34, 3) := by decide +kernel
theorem dX12_told_57 : decode cX12_told 57 = .ok (.iload 4, 2) := by decide +kernel
theorem dX12_told_59 : decode cX12_told 59 = .ok (.iaload, 1) := by decide +kernel
theorem dX12_told_60 : decode cX12_told 60 = .ok (.goto 19, 3) := by decide +kernel
theorem dX12_told_63 : decode cX12_told 63 = .ok (.iload_n 3, 1) := by decide +kernel
theorem dX12_told_64 : decode cX12_told 64 = .ok (.iconst 3, 1) := by decide +kernel
theorem dX12_told_65 : decode cX12_told 65 = .ok (.if_icmp .ne 13, 3) := by decide +kernel
theorem dX12_told_68 : decode cX12_told 68 = .ok (.aload_n 0, 1) := by decide +kernel
theorem dX12_told_69 : decode cX12_told 69 = .ok (.getfield 37, 3) := by decide +kernel
theorem dX12_told_72 : decode cX12_told 72 = .ok (.iload 4, 2) := by decide +kernel
theorem dX12_told_74 : decode cX12_told 74 = .ok (.iaload, 1) := by decide +kernel
theorem dX12_told_75 : decode cX12_told 75 = .ok (.goto 4, 3) := by decide +kernel
theorem dX12_told_78 : decode cX12_told 78 = .ok (.iconst (-1), 1) := by decide +kernel
theorem dX12_told_79 : decode cX12_told 79 = .ok (.ireturn, 1) := by decide +kernel
theorem dX12_common_0 : decode cX12_common 0 = .ok (.lload_n 0, 1) := by decide +kernel
theorem dX12_common_1 : decode cX12_common 1 = .ok (.lconst 0, 1) := by decide +kernel
theorem dX12_common_2 : decode cX12_common 2 = .ok (.lcmp, 1) := by decide +kernel
theorem dX12_common_3 : decode cX12_common 3 = .ok (.ifCond .ge 8, 3) := by decide +kernel
theorem dX12_common_6 : decode cX12_common 6 = .ok (.lload_n 0, 1) := by decide +kernel
theorem dX12_common_7 : decode cX12_common 7 = .ok (.lneg, 1) := by decide +kernel
theorem dX12_common_8 : decode cX12_common 8 = .ok (.goto 4, 3) := by decide +kernel
theorem dX12_common_11 : decode cX12_common 11 = .ok (.lload_n 0, 1) := by decide +kernel
theorem dX12_common_12 : decode cX12_common 12 = .ok (.lstore 4, 2) := by decide +kernel
theorem dX12_common_14 : decode cX12_common 14 = .ok (.lload_n 2, 1) := by decide +kernel
theorem dX12_common_15 : decode cX12_common 15 = .ok (.lstore 6, 2) := by decide +kernel
theorem dX12_common_17 : decode cX12_common 17 = .ok (.lload 6, 2) := by decide +kernel
theorem dX12_common_19 : decode cX12_common 19 = .ok (.lconst 0, 1) := by decide +kernel
theorem dX12_common_20 : decode cX12_common 20 = .ok (.lcmp, 1) := by decide +kernel
theorem dX12_common_21 : decode cX12_common 21 = .ok (.ifCond .eq 21, 3) := by decide +kernel
theorem dX12_common_24 : decode cX12_common 24 = .ok (.lload 4, 2) := by decide +kernel
theorem dX12_common_26 : decode cX12_common 26 = .ok (.lload 6, 2) := by decide +kernel
theorem dX12_common_28 : decode cX12_common 28 = .ok (.lrem, 1) := by decide +kernel
theorem dX12_common_29 : decode cX12_common 29 = .ok (.lstore 8, 2) := by decide +kernel
theorem dX12_common_31 : decode cX12_common 31 = .ok (.lload 6, 2) := by decide +kernel
theorem dX12_common_33 : decode cX12_common 33 = .ok (.lstore 4, 2) := by decide +kernel
theorem dX12_common_35 : decode cX12_common 35 = .ok (.lload 8, 2) := by decide +kernel
theorem dX12_common_37 : decode cX12_common 37 = .ok (.lstore 6, 2) := by decide +kernel
theorem dX12_common_39 : decode cX12_common 39 = .ok (.goto (-22), 3) := by decide +kernel
theorem dX12_common_42 : decode cX12_common 42 = .ok (.lload 4, 2) := by decide +kernel
theorem dX12_common_44 : decode cX12_common 44 = .ok (.lreturn, 1) := by decide +kernel
theorem dX12_floor_0 : decode cX12_floor 0 = .ok (.lload_n 0, 1) := by decide +kernel
theorem dX12_floor_1 : decode cX12_floor 1 = .ok (.lload_n 2, 1) := by decide +kernel
theorem dX12_floor_2 : decode cX12_floor 2 = .ok (.ldiv, 1) := by decide +kernel
theorem dX12_floor_3 : decode cX12_floor 3 = .ok (.lstore 4, 2) := by decide +kernel
theorem dX12_floor_5 : decode cX12_floor 5 = .ok (.lload 4, 2) := by decide +kernel
theorem dX12_floor_7 : decode cX12_floor 7 = .ok (.lload_n 2, 1) := by decide +kernel
theorem dX12_floor_8 : decode cX12_floor 8 = .ok (.lmul, 1) := by decide +kernel
theorem dX12_floor_9 : decode cX12_floor 9 = .ok (.lload_n 0, 1) := by decide +kernel
theorem dX12_floor_10 : decode cX12_floor 10 = .ok (.lcmp, 1) := by decide +kernel
theorem dX12_floor_11 : decode cX12_floor 11 = .ok (.ifCond .le 10, 3) := by decide +kernel
theorem dX12_floor_14 : decode cX12_floor 14 = .ok (.lload 4, 2) := by decide +kernel
theorem dX12_floor_16 : decode cX12_floor 16 = .ok (.lconst 1, 1) := by decide +kernel
theorem dX12_floor_17 : decode cX12_floor 17 = .ok (.lsub, 1) := by decide +kernel
theorem dX12_floor_18 : decode cX12_floor 18 = .ok (.goto 5, 3) := by decide +kernel
theorem dX12_floor_21 : decode cX12_floor 21 = .ok (.lload 4, 2) := by decide +kernel
theorem dX12_floor_23 : decode cX12_floor 23 = .ok (.lreturn, 1) := by decide +kernel
set_option maxRecDepth 20000 in
theorem ggX12_times_X12_floor : GoodIn wsX12_times wsX12_floor := goodIn_r _ [5] (by decide +kernel) (by decide +kernel)
set_option maxRecDepth 20000 in
theorem gX12_times_X12_floor : GoodIn wsX12_times (va_wsS RX12 183 yX12_floor wsX12_floor) := goodIn_app (goodIn_of _ (by decide +kernel)) ggX12_times_X12_floor
theorem dX12_times_0 : decode cX12_times 0 = .ok (.lload_n 0, 1) := by decide +kernel
theorem dX12_times_1 : decode cX12_times 1 = .ok (.lload_n 2, 1) := by decide +kernel
theorem dX12_times_2 : decode cX12_times 2 = .ok (.invokestatic 183, 3) := by decide +kernel
theorem dX12_times_5 : decode cX12_times 5 = .ok (.lstore 5, 2) := by decide +kernel
theorem dX12_times_7 : decode cX12_times 7 = .ok (.lload_n 0, 1) := by decide +kernel
theorem dX12_times_8 : decode cX12_times 8 = .ok (.lload 5, 2) := by decide +kernel
theorem dX12_times_10 : decode cX12_times 10 = .ok (.lload_n 2, 1) := by decide +kernel
theorem dX12_times_11 : decode cX12_times 11 = .ok (.lmul, 1) := by decide +kernel
theorem dX12_times_12 : decode cX12_times 12 = .ok (.lsub, 1) := by decide +kernel
theorem dX12_times_13 : decode cX12_times 13 = .ok (.lstore 7, 2) := by decide +kernel
theorem dX12_times_15 : decode cX12_times 15 = .ok (.lload 7, 2) := by decide +kernel
theorem dX12_times_17 : decode cX12_times 17 = .ok (.lconst 0, 1) := by decide +kernel
theorem dX12_times_18 : decode cX12_times 18 = .ok (.lcmp, 1) := by decide +kernel
theorem dX12_times_19 : decode cX12_times 19 = .ok (.ifCond .ne 6, 3) := by decide +kernel
theorem dX12_times_22 : decode cX12_times 22 = .ok (.lload 5, 2) := by decide +kernel
theorem dX12_times_24 : decode cX12_times 24 = .ok (.lreturn, 1) := by decide +kernel
theorem dX12_times_25 : decode cX12_times 25 = .ok (.iload 4, 2) := by decide +kernel
theorem dX12_times_27 : decode cX12_times 27 = .ok (.tableswitch 149 0 4 #[33, 71, 114, 130, 146], 33) := by decide +kernel
theorem dX12_times_60 : decode cX12_times 60 = .ok (.ldc2_w 187, 3) := by decide +kernel
theorem dX12_times_63 : decode cX12_times 63 = .ok (.lload 7, 2) := by decide +kernel
theorem dX12_times_65 : decode cX12_times 65 = .ok (.lmul, 1) := by decide +kernel
theorem dX12_times_66 : decode cX12_times 66 = .ok (.lload_n 2, 1) := by decide +kernel
theorem dX12_times_67 : decode cX12_times 67 = .ok (.lcmp, 1) := by decide +kernel
theorem dX12_times_68 : decode cX12_times 68 = .ok (.ifCond .gt 20, 3) := by decide +kernel
theorem dX12_times_71 : decode cX12_times 71 = .ok (.ldc2_w 187, 3) := by decide +kernel
theorem dX12_times_74 : decode cX12_times 74 = .ok (.lload 7, 2) := by decide +kernel
theorem dX12_times_76 : decode cX12_times 76 = .ok (.lmul, 1) := by decide +kernel
theorem dX12_times_77 : decode cX12_times 77 = .ok (.lload_n 2, 1) := by decide +kernel
theorem dX12_times_78 : decode cX12_times 78 = .ok (.lcmp, 1) := by decide +kernel
theorem dX12_times_79 : decode cX12_times 79 = .ok (.ifCond .ne 16, 3) := by decide +kernel
theorem dX12_times_82 : decode cX12_times 82 = .ok (.lload_n 0, 1) := by decide +kernel
theorem dX12_times_83 : decode cX12_times 83 = .ok (.lconst 0, 1) := by decide +kernel
theorem dX12_times_84 : decode cX12_times 84 = .ok (.lcmp, 1) := by decide +kernel
theorem dX12_times_85 : decode cX12_times 85 = .ok (.ifCond .le 10, 3) := by decide +kernel
theorem dX12_times_88 : decode cX12_times 88 = .ok (.lload 5, 2) := by decide +kernel
theorem dX12_times_90 : decode cX12_times 90 = .ok (.lconst 1, 1) := by decide +kernel
theorem dX12_times_91 : decode cX12_times 91 = .ok (.ladd, 1) := by decide +kernel
theorem dX12_times_92 : decode cX12_times 92 = .ok (.goto 5, 3) := by decide +kernel
theorem dX12_times_95 : decode cX12_times 95 = .ok (.lload 5, 2) := by decide +kernel
theorem dX12_times_97 : decode cX12_times 97 = .ok (.lreturn, 1) := by decide +kernel
theorem dX12_times_98 : decode cX12_times 98 = .ok (.ldc2_w 187, 3) := by decide +kernel
theorem dX12_times_101 : decode cX12_times 101 = .ok (.lload 7, 2) := by decide +kernel
theorem dX12_times_103 : decode cX12_times 103 = .ok (.lmul, 1) := by decide +kernel
theorem dX12_times_104 : decode cX12_times 104 = .ok (.lload_n 2, 1) := by decide +kernel
theorem dX12_times_105 : decode cX12_times 105 = .ok (.lcmp, 1) := by decide +kernel
theorem dX12_times_106 : decode cX12_times 106 = .ok (.ifCond .gt 25, 3) := by decide +kernel
theorem dX12_times_109 : decode cX12_times 109 = .ok (.ldc2_w 187, 3) := by decide +kernel
theorem dX12_times_112 : decode cX12_times 112 = .ok (.lload 7, 2) := by decide +kernel
theorem dX12_times_114 : decode cX12_times 114 = .ok (.lmul, 1) := by decide +kernel
theorem dX12_times_115 : decode cX12_times 115 = .ok (.lload_n 2, 1) := by decide +kernel
theorem dX12_times_116 : decode cX12_times 116 = .ok (.lcmp, 1) := by decide +kernel
theorem dX12_times_117 : decode cX12_times 117 = .ok (.ifCond .ne 21, 3) := by decide +kernel
theorem dX12_times_120 : decode cX12_times 120 = .ok (.lload 5, 2) := by decide +kernel
theorem dX12_times_122 : decode cX12_times 122 = .ok (.ldc2_w 187, 3) := by decide +kernel
theorem dX12_times_125 : decode cX12_times 125 = .ok (.lrem, 1) := by decide +kernel
theorem dX12_times_126 : decode cX12_times 126 = .ok (.lconst 0, 1) := by decide +kernel
theorem dX12_times_127 : decode cX12_times 127 = .ok (.lcmp, 1) := by decide +kernel
theorem dX12_times_128 : decode cX12_times 128 = .ok (.ifCond .eq 10, 3) := by decide +kernel
theorem dX12_times_131 : decode cX12_times 131 = .ok (.lload 5, 2) := by decide +kernel
theorem dX12_times_133 : decode cX12_times 133 = .ok (.lconst 1, 1) := by decide +kernel
theorem dX12_times_134 : decode cX12_times 134 = .ok (.ladd, 1) := by decide +kernel
theorem dX12_times_135 : decode cX12_times 135 = .ok (.goto 5, 3) := by decide +kernel
theorem dX12_times_138 : decode cX12_times 138 = .ok (.lload 5, 2) := by decide +kernel
theorem dX12_times_140 : decode cX12_times 140 = .ok (.lreturn, 1) := by decide +kernel
theorem dX12_times_141 : decode cX12_times 141 = .ok (.lload_n 0, 1) := by decide +kernel
theorem dX12_times_142 : decode cX12_times 142 = .ok (.lconst 0, 1) := by decide +kernel
theorem dX12_times_143 : decode cX12_times 143 = .ok (.lcmp, 1) := by decide +kernel
theorem dX12_times_144 : decode cX12_times 144 = .ok (.ifCond .le 8, 3) := by decide +kernel
theorem dX12_times_147 : decode cX12_times 147 = .ok (.lload 5, 2) := by decide +kernel
theorem dX12_times_149 : decode cX12_times 149 = .ok (.goto 7, 3) := by decide +kernel
