theorem dX0_init_0 : decode cX0_init 0 = .ok (.aload_n 0, 1) := by decide +kernel
theorem dX0_init_1 : decode cX0_init 1 = .ok (.invokespecial 3, 3) := by decide +kernel
theorem dX0_init_4 : decode cX0_init 4 = .ok (.aload_n 0, 1) := by decide +kernel
theorem dX0_init_5 : decode cX0_init 5 = .ok (.bipush 12, 2) := by decide +kernel
theorem dX0_init_7 : decode cX0_init 7 = .ok (.newarray .int, 2) := by decide +kernel
theorem dX0_init_9 : decode cX0_init 9 = .ok (.putfield 9, 3) := by decide +kernel
theorem dX0_init_12 : decode cX0_init 12 = .ok (.return_, 1) := by decide +kernel
theorem dX0_become_0 : decode cX0_become 0 = .ok (.iconst 0, 1) := by decide +kernel
theorem dX0_become_1 : decode cX0_become 1 = .ok (.istore_n 2, 1) := by decide +kernel
theorem dX0_become_2 : decode cX0_become 2 = .ok (.iload_n 2, 1) := by decide +kernel
theorem dX0_become_3 : decode cX0_become 3 = .ok (.aload_n 1, 1) := by decide +kernel
theorem dX0_become_4 : decode cX0_become 4 = .ok (.getfield 15, 3) := by decide +kernel
theorem dX0_become_7 : decode cX0_become 7 = .ok (.if_icmp .ge 21, 3) := by decide +kernel
theorem dX0_become_10 : decode cX0_become 10 = .ok (.aload_n 0, 1) := by decide +kernel
theorem dX0_become_11 : decode cX0_become 11 = .ok (.getfield 9, 3) := by decide +kernel
theorem dX0_become_14 : decode cX0_become 14 = .ok (.iload_n 2, 1) := by decide +kernel
theorem dX0_become_15 : decode cX0_become 15 = .ok (.aload_n 1, 1) := by decide +kernel
theorem dX0_become_16 : decode cX0_become 16 = .ok (.getfield 9, 3) := by decide +kernel
theorem dX0_become_19 : decode cX0_become 19 = .ok (.iload_n 2, 1) := by decide +kernel
theorem dX0_become_20 : decode cX0_become 20 = .ok (.iaload, 1) := by decide +kernel
theorem dX0_become_21 : decode cX0_become 21 = .ok (.iastore, 1) := by decide +kernel
theorem dX0_become_22 : decode cX0_become 22 = .ok (.iinc 2 1, 3) := by decide +kernel
theorem dX0_become_25 : decode cX0_become 25 = .ok (.goto (-23), 3) := by decide +kernel
theorem dX0_become_28 : decode cX0_become 28 = .ok (.aload_n 0, 1) := by decide +kernel
theorem dX0_become_29 : decode cX0_become 29 = .ok (.aload_n 1, 1) := by decide +kernel
theorem dX0_become_30 : decode cX0_become 30 = .ok (.getfield 15, 3) := by decide +kernel
theorem dX0_become_33 : decode cX0_become 33 = .ok (.putfield 15, 3) := by decide +kernel
theorem dX0_become_36 : decode cX0_become 36 = .ok (.return_, 1) := by decide +kernel
theorem dX0_becomeOneLine_0 : decode cX0_becomeOneLine 0 = .ok (.aload_n 0, 1) := by decide +kernel
theorem dX0_becomeOneLine_1 : decode cX0_becomeOneLine 1 = .ok (.getfield 9, 3) := by decide +kernel
theorem dX0_becomeOneLine_4 : decode cX0_becomeOneLine 4 = .ok (.iconst 0, 1) := by decide +kernel
theorem dX0_becomeOneLine_5 : decode cX0_becomeOneLine 5 = .ok (.iload_n 1, 1) := by decide +kernel
theorem dX0_becomeOneLine_6 : decode cX0_becomeOneLine 6 = .ok (.iastore, 1) := by decide +kernel
theorem dX0_becomeOneLine_7 : decode cX0_becomeOneLine 7 = .ok (.aload_n 0, 1) := by decide +kernel
theorem dX0_becomeOneLine_8 : decode cX0_becomeOneLine 8 = .ok (.iconst 1, 1) := by decide +kernel
theorem dX0_becomeOneLine_9 : decode cX0_becomeOneLine 9 = .ok (.putfield 15, 3) := by decide +kernel
theorem dX0_becomeOneLine_12 : decode cX0_becomeOneLine 12 = .ok (.return_, 1) := by decide +kernel
theorem dX1_init_0 : decode cX1_init 0 = .ok (.aload_n 0, 1) := by decide +kernel
theorem dX1_init_1 : decode cX1_init 1 = .ok (.invokespecial 3, 3) := by decide +kernel
theorem dX1_init_4 : decode cX1_init 4 = .ok (.aload_n 0, 1) := by decide +kernel
theorem dX1_init_5 : decode cX1_init 5 = .ok (.sipush 200, 3) := by decide +kernel
theorem dX1_init_8 : decode cX1_init 8 = .ok (.newarray .int, 2) := by decide +kernel
theorem dX1_init_10 : decode cX1_init 10 = .ok (.putfield 9, 3) := by decide +kernel
theorem dX1_init_13 : decode cX1_init 13 = .ok (.aload_n 0, 1) := by decide +kernel
theorem dX1_init_14 : decode cX1_init 14 = .ok (.sipush 200, 3) := by decide +kernel
theorem dX1_init_17 : decode cX1_init 17 = .ok (.newarray .int, 2) := by decide +kernel
theorem dX1_init_19 : decode cX1_init 19 = .ok (.putfield 15, 3) := by decide +kernel
theorem dX1_init_22 : decode cX1_init 22 = .ok (.aload_n 0, 1) := by decide +kernel
theorem dX1_init_23 : decode cX1_init 23 = .ok (.sipush 200, 3) := by decide +kernel
theorem dX1_init_26 : decode cX1_init 26 = .ok (.newarray .int, 2) := by decide +kernel
theorem dX1_init_28 : decode cX1_init 28 = .ok (.putfield 18, 3) := by decide +kernel
theorem dX1_init_31 : decode cX1_init 31 = .ok (.aload_n 0, 1) := by decide +kernel
theorem dX1_init_32 : decode cX1_init 32 = .ok (.sipush 200, 3) := by decide +kernel
theorem dX1_init_35 : decode cX1_init 35 = .ok (.newarray .int, 2) := by decide +kernel
theorem dX1_init_37 : decode cX1_init 37 = .ok (.putfield 21, 3) := by decide +kernel
theorem dX1_init_40 : decode cX1_init 40 = .ok (.aload_n 0, 1) := by decide +kernel
theorem dX1_init_41 : decode cX1_init 41 = .ok (.iconst 1, 1) := by decide +kernel
theorem dX1_init_42 : decode cX1_init 42 = .ok (.putfield 24, 3) := by decide +kernel
theorem dX1_init_45 : decode cX1_init 45 = .ok (.aload_n 0, 1) := by decide +kernel
theorem dX1_init_46 : decode cX1_init 46 = .ok (.iconst 1, 1) := by decide +kernel
theorem dX1_init_47 : decode cX1_init 47 = .ok (.putfield 28, 3) := by decide +kernel
theorem dX1_init_50 : decode cX1_init 50 = .ok (.return_, 1) := by decide +kernel
set_option maxRecDepth 20000 in
theorem ggX1_measure_X3_rounding : GoodIn wsX1_measure wsX3_rounding := goodIn_r _ [9, 10] (by decide +kernel) (by decide +kernel)
set_option maxRecDepth 20000 in
theorem gX1_measure_X3_rounding : GoodIn wsX1_measure (va_wsS RX1 31 yX3_rounding wsX3_rounding) := goodIn_app (goodIn_of _ (by decide +kernel)) ggX1_measure_X3_rounding
theorem dX1_measure_0 : decode cX1_measure 0 = .ok (.aload_n 0, 1) := by decide +kernel
theorem dX1_measure_1 : decode cX1_measure 1 = .ok (.iload_n 2, 1) := by decide +kernel
theorem dX1_measure_2 : decode cX1_measure 2 = .ok (.putfield 28, 3) := by decide +kernel
theorem dX1_measure_5 : decode cX1_measure 5 = .ok (.aload_n 0, 1) := by decide +kernel
theorem dX1_measure_6 : decode cX1_measure 6 = .ok (.iload_n 3, 1) := by decide +kernel
theorem dX1_measure_7 : decode cX1_measure 7 = .ok (.iconst 1, 1) := by decide +kernel
theorem dX1_measure_8 : decode cX1_measure 8 = .ok (.if_icmp .ne 12, 3) := by decide +kernel
theorem dX1_measure_11 : decode cX1_measure 11 = .ok (.iconst 2, 1) := by decide +kernel
theorem dX1_measure_12 : decode cX1_measure 12 = .ok (.aload_n 0, 1) := by decide +kernel
theorem dX1_measure_13 : decode cX1_measure 13 = .ok (.getfield 28, 3) := by decide +kernel
theorem dX1_measure_16 : decode cX1_measure 16 = .ok (.imul, 1) := by decide +kernel
theorem dX1_measure_17 : decode cX1_measure 17 = .ok (.goto 7, 3) := by decide +kernel
theorem dX1_measure_20 : decode cX1_measure 20 = .ok (.aload_n 0, 1) := by decide +kernel
theorem dX1_measure_21 : decode cX1_measure 21 = .ok (.getfield 28, 3) := by decide +kernel
theorem dX1_measure_24 : decode cX1_measure 24 = .ok (.putfield 24, 3) := by decide +kernel
theorem dX1_measure_27 : decode cX1_measure 27 = .ok (.iconst 0, 1) := by decide +kernel
theorem dX1_measure_28 : decode cX1_measure 28 = .ok (.istore 6, 2) := by decide +kernel
theorem dX1_measure_30 : decode cX1_measure 30 = .ok (.iload 6, 2) := by decide +kernel
theorem dX1_measure_32 : decode cX1_measure 32 = .ok (.aload_n 0, 1) := by decide +kernel
theorem dX1_measure_33 : decode cX1_measure 33 = .ok (.getfield 24, 3) := by decide +kernel
theorem dX1_measure_36 : decode cX1_measure 36 = .ok (.if_icmp .ge 75, 3) := by decide +kernel
theorem dX1_measure_39 : decode cX1_measure 39 = .ok (.iload 6, 2) := by decide +kernel
theorem dX1_measure_41 : decode cX1_measure 41 = .ok (.i2l, 1) := by decide +kernel
theorem dX1_measure_42 : decode cX1_measure 42 = .ok (.iload_n 1, 1) := by decide +kernel
theorem dX1_measure_43 : decode cX1_measure 43 = .ok (.i2l, 1) := by decide +kernel
theorem dX1_measure_44 : decode cX1_measure 44 = .ok (.lmul, 1) := by decide +kernel
theorem dX1_measure_45 : decode cX1_measure 45 = .ok (.lstore 7, 2) := by decide +kernel
theorem dX1_measure_47 : decode cX1_measure 47 = .ok (.aload_n 0, 1) := by decide +kernel
theorem dX1_measure_48 : decode cX1_measure 48 = .ok (.getfield 9, 3) := by decide +kernel
theorem dX1_measure_51 : decode cX1_measure 51 = .ok (.iload 6, 2) := by decide +kernel
theorem dX1_measure_53 : decode cX1_measure 53 = .ok (.iload 5, 2) := by decide +kernel
theorem dX1_measure_55 : decode cX1_measure 55 = .ok (.aload_n 0, 1) := by decide +kernel
theorem dX1_measure_56 : decode cX1_measure 56 = .ok (.getfield 28, 3) := by decide +kernel
theorem dX1_measure_59 : decode cX1_measure 59 = .ok (.i2l, 1) := by decide +kernel
theorem dX1_measure_60 : decode cX1_measure 60 = .ok (.lload 7, 2) := by decide +kernel
theorem dX1_measure_62 : decode cX1_measure 62 = .ok (.aload_n 0, 1) := by decide +kernel
theorem dX1_measure_63 : decode cX1_measure 63 = .ok (.getfield 28, 3) := by decide +kernel
theorem dX1_measure_66 : decode cX1_measure 66 = .ok (.i2l, 1) := by decide +kernel
theorem dX1_measure_67 : decode cX1_measure 67 = .ok (.lconst 1, 1) := by decide +kernel
theorem dX1_measure_68 : decode cX1_measure 68 = .ok (.iload_n 3, 1) := by decide +kernel
theorem dX1_measure_69 : decode cX1_measure 69 = .ok (.invokestatic 31, 3) := by decide +kernel
theorem dX1_measure_72 : decode cX1_measure 72 = .ok (.lmul, 1) := by decide +kernel
theorem dX1_measure_73 : decode cX1_measure 73 = .ok (.lload 7, 2) := by decide +kernel
theorem dX1_measure_75 : decode cX1_measure 75 = .ok (.lsub, 1) := by decide +kernel
theorem dX1_measure_76 : decode cX1_measure 76 = .ok (.l2i, 1) := by decide +kernel
theorem dX1_measure_77 : decode cX1_measure 77 = .ok (.imul, 1) := by decide +kernel
theorem dX1_measure_78 : decode cX1_measure 78 = .ok (.iastore, 1) := by decide +kernel
theorem dX1_measure_79 : decode cX1_measure 79 = .ok (.aload_n 0, 1) := by decide +kernel
theorem dX1_measure_80 : decode cX1_measure 80 = .ok (.getfield 15, 3) := by decide +kernel
theorem dX1_measure_83 : decode cX1_measure 83 = .ok (.iload 6, 2) := by decide +kernel
theorem dX1_measure_85 : decode cX1_measure 85 = .ok (.iload 6, 2) := by decide +kernel
theorem dX1_measure_87 : decode cX1_measure 87 = .ok (.iload 4, 2) := by decide +kernel
theorem dX1_measure_89 : decode cX1_measure 89 = .ok (.if_icmp .gt 13, 3) := by decide +kernel
theorem dX1_measure_92 : decode cX1_measure 92 = .ok (.aload_n 0, 1) := by decide +kernel
theorem dX1_measure_93 : decode cX1_measure 93 = .ok (.getfield 9, 3) := by decide +kernel
theorem dX1_measure_96 : decode cX1_measure 96 = .ok (.iload 6, 2) := by decide +kernel
theorem dX1_measure_98 : decode cX1_measure 98 = .ok (.iaload, 1) := by decide +kernel
theorem dX1_measure_99 : decode cX1_measure 99 = .ok (.goto 5, 3) := by decide +kernel
theorem dX1_measure_102 : decode cX1_measure 102 = .ok (.ldc 37, 2) := by decide +kernel
theorem dX1_measure_104 : decode cX1_measure 104 = .ok (.iastore, 1) := by decide +kernel
theorem dX1_measure_105 : decode cX1_measure 105 = .ok (.iinc 6 1, 3) := by decide +kernel
theorem dX1_measure_108 : decode cX1_measure 108 = .ok (.goto (-78), 3) := by decide +kernel
theorem dX1_measure_111 : decode cX1_measure 111 = .ok (.return_, 1) := by decide +kernel
set_option maxRecDepth 20000 in
theorem ggX1_greatest_J6_highestOneBit_0f7a4 : GoodIn wsX1_greatest wsJ6_highestOneBit_0f7a4 := goodIn_r _ [18, 19, 20, 21, 17, 22, 23] (by decide +kernel) (by decide +kernel)
set_option maxRecDepth 20000 in
theorem gX1_greatest_J6_highestOneBit_0f7a4 : GoodIn wsX1_greatest (va_wsS RX1 44 yJ6_highestOneBit_0f7a4 wsJ6_highestOneBit_0f7a4) := goodIn_app (goodIn_of _ (by decide +kernel)) ggX1_greatest_J6_highestOneBit_0f7a4
set_option maxRecDepth 20000 in
theorem ggX1_greatest_X1_joinWith : GoodIn wsX1_greatest wsX1_joinWith := goodIn_r _ [28, 3, 29, 8, 2, 30, 31, 32, 27, 33, 34, 35, 36, 37, 38, 39] (by decide +kernel) (by decide +kernel)
set_option maxRecDepth 20000 in
theorem gX1_greatest_X1_joinWith : GoodIn wsX1_greatest (wsV RX1 50 RX1 yX1_joinWith wsX1_joinWith) := goodIn_app (goodIn_of _ (by decide +kernel)) ggX1_greatest_X1_joinWith
theorem dX1_greatest_0 : decode cX1_greatest 0 = .ok (.aload_n 0, 1) := by decide +kernel
theorem dX1_greatest_1 : decode cX1_greatest 1 = .ok (.getfield 15, 3) := by decide +kernel
theorem dX1_greatest_4 : decode cX1_greatest 4 = .ok (.iconst 0, 1) := by decide +kernel
theorem dX1_greatest_5 : decode cX1_greatest 5 = .ok (.aload_n 0, 1) := by decide +kernel
theorem dX1_greatest_6 : decode cX1_greatest 6 = .ok (.getfield 18, 3) := by decide +kernel
theorem dX1_greatest_9 : decode cX1_greatest 9 = .ok (.iconst 0, 1) := by decide +kernel
theorem dX1_greatest_10 : decode cX1_greatest 10 = .ok (.aload_n 0, 1) := by decide +kernel
theorem dX1_greatest_11 : decode cX1_greatest 11 = .ok (.getfield 24, 3) := by decide +kernel
theorem dX1_greatest_14 : decode cX1_greatest 14 = .ok (.invokestatic 38, 3) := by decide +kernel
theorem dX1_greatest_17 : decode cX1_greatest 17 = .ok (.iload_n 1, 1) := by decide +kernel
theorem dX1_greatest_18 : decode cX1_greatest 18 = .ok (.invokestatic 44, 3) := by decide +kernel
theorem dX1_greatest_21 : decode cX1_greatest 21 = .ok (.iconst 1, 1) := by decide +kernel
theorem dX1_greatest_22 : decode cX1_greatest 22 = .ok (.ishr, 1) := by decide +kernel
theorem dX1_greatest_23 : decode cX1_greatest 23 = .ok (.istore_n 2, 1) := by decide +kernel
theorem dX1_greatest_24 : decode cX1_greatest 24 = .ok (.iload_n 2, 1) := by decide +kernel
theorem dX1_greatest_25 : decode cX1_greatest 25 = .ok (.ifCond .le 32, 3) := by decide +kernel
theorem dX1_greatest_28 : decode cX1_greatest 28 = .ok (.aload_n 0, 1) := by decide +kernel
theorem dX1_greatest_29 : decode cX1_greatest 29 = .ok (.aload_n 0, 1) := by decide +kernel
theorem dX1_greatest_30 : decode cX1_greatest 30 = .ok (.getfield 18, 3) := by decide +kernel
theorem dX1_greatest_33 : decode cX1_greatest 33 = .ok (.invokevirtual 50, 3) := by decide +kernel
theorem dX1_greatest_36 : decode cX1_greatest 36 = .ok (.iload_n 1, 1) := by decide +kernel
theorem dX1_greatest_37 : decode cX1_greatest 37 = .ok (.iload_n 2, 1) := by decide +kernel
theorem dX1_greatest_38 : decode cX1_greatest 38 = .ok (.iand, 1) := by decide +kernel
theorem dX1_greatest_39 : decode cX1_greatest 39 = .ok (.ifCond .eq 11, 3) := by decide +kernel
theorem dX1_greatest_42 : decode cX1_greatest 42 = .ok (.aload_n 0, 1) := by decide +kernel
theorem dX1_greatest_43 : decode cX1_greatest 43 = .ok (.aload_n 0, 1) := by decide +kernel
theorem dX1_greatest_44 : decode cX1_greatest 44 = .ok (.getfield 15, 3) := by decide +kernel
theorem dX1_greatest_47 : decode cX1_greatest 47 = .ok (.invokevirtual 50, 3) := by decide +kernel
theorem dX1_greatest_50 : decode cX1_greatest 50 = .ok (.iload_n 2, 1) := by decide +kernel
theorem dX1_greatest_51 : decode cX1_greatest 51 = .ok (.iconst 1, 1) := by decide +kernel
theorem dX1_greatest_52 : decode cX1_greatest 52 = .ok (.ishr, 1) := by decide +kernel
theorem dX1_greatest_53 : decode cX1_greatest 53 = .ok (.istore_n 2, 1) := by decide +kernel
theorem dX1_greatest_54 : decode cX1_greatest 54 = .ok (.goto (-30), 3) := by decide +kernel
theorem dX1_greatest_57 : decode cX1_greatest 57 = .ok (.ldc 37, 2) := by decide +kernel
theorem dX1_greatest_59 : decode cX1_greatest 59 = .ok (.istore_n 2, 1) := by decide +kernel
theorem dX1_greatest_60 : decode cX1_greatest 60 = .ok (.iconst 0, 1) := by decide +kernel
theorem dX1_greatest_61 : decode cX1_greatest 61 = .ok (.istore_n 3, 1) := by decide +kernel
theorem dX1_greatest_62 : decode cX1_greatest 62 = .ok (.iload_n 3, 1) := by decide +kernel
theorem dX1_greatest_63 : decode cX1_greatest 63 = .ok (.aload_n 0, 1) := by decide +kernel
theorem dX1_greatest_64 : decode cX1_greatest 64 = .ok (.getfield 24, 3) := by decide +kernel
theorem dX1_greatest_67 : decode cX1_greatest 67 = .ok (.if_icmp .ge 38, 3) := by decide +kernel
theorem dX1_greatest_70 : decode cX1_greatest 70 = .ok (.aload_n 0, 1) := by decide +kernel
theorem dX1_greatest_71 : decode cX1_greatest 71 = .ok (.getfield 18, 3) := by decide +kernel
theorem dX1_greatest_74 : decode cX1_greatest 74 = .ok (.iload_n 3, 1) := by decide +kernel
theorem dX1_greatest_75 : decode cX1_greatest 75 = .ok (.iaload, 1) := by decide +kernel
theorem dX1_greatest_76 : decode cX1_greatest 76 = .ok (.ldc 37, 2) := by decide +kernel
theorem dX1_greatest_78 : decode cX1_greatest 78 = .ok (.if_icmp .eq 21, 3) := by decide +kernel
theorem dX1_greatest_81 : decode cX1_greatest 81 = .ok (.iload_n 2, 1) := by decide +kernel
theorem dX1_greatest_82 : decode cX1_greatest 82 = .ok (.aload_n 0, 1) := by decide +kernel
theorem dX1_greatest_83 : decode cX1_greatest 83 = .ok (.getfield 18, 3) := by decide +kernel
theorem dX1_greatest_86 : decode cX1_greatest 86 = .ok (.iload_n 3, 1) := by decide +kernel
theorem dX1_greatest_87 : decode cX1_greatest 87 = .ok (.iaload, 1) := by decide +kernel
theorem dX1_greatest_88 : decode cX1_greatest 88 = .ok (.aload_n 0, 1) := by decide +kernel
theorem dX1_greatest_89 : decode cX1_greatest 89 = .ok (.getfield 9, 3) := by decide +kernel
theorem dX1_greatest_92 : decode cX1_greatest 92 = .ok (.iload_n 3, 1) := by decide +kernel
theorem dX1_greatest_93 : decode cX1_greatest 93 = .ok (.iaload, 1) := by decide +kernel
theorem dX1_greatest_94 : decode cX1_greatest 94 = .ok (.isub, 1) := by decide +kernel
theorem dX1_greatest_95 : decode cX1_greatest 95 = .ok (.invokestatic 54, 3) := by decide +kernel
theorem dX1_greatest_98 : decode cX1_greatest 98 = .ok (.istore_n 2, 1) := by decide +kernel
theorem dX1_greatest_99 : decode cX1_greatest 99 = .ok (.iinc 3 1, 3) := by decide +kernel
theorem dX1_greatest_102 : decode cX1_greatest 102 = .ok (.goto (-40), 3) := by decide +kernel
theorem dX1_greatest_105 : decode cX1_greatest 105 = .ok (.aload_n 0, 1) := by decide +kernel
theorem dX1_greatest_106 : decode cX1_greatest 106 = .ok (.getfield 28, 3) := by decide +kernel
theorem dX1_greatest_109 : decode cX1_greatest 109 = .ok (.ifCond .le 12, 3) := by decide +kernel
theorem dX1_greatest_112 : decode cX1_greatest 112 = .ok (.iload_n 2, 1) := by decide +kernel
theorem dX1_greatest_113 : decode cX1_greatest 113 = .ok (.aload_n 0, 1) := by decide +kernel
theorem dX1_greatest_114 : decode cX1_greatest 114 = .ok (.getfield 28, 3) := by decide +kernel
theorem dX1_greatest_117 : decode cX1_greatest 117 = .ok (.idiv, 1) := by decide +kernel
theorem dX1_greatest_118 : decode cX1_greatest 118 = .ok (.goto 4, 3) := by decide +kernel
theorem dX1_greatest_121 : decode cX1_greatest 121 = .ok (.iconst 0, 1) := by decide +kernel
theorem dX1_greatest_122 : decode cX1_greatest 122 = .ok (.ireturn, 1) := by decide +kernel
set_option maxRecDepth 20000 in
theorem ggX1_joinWith_X1_joinFrom : GoodIn wsX1_joinWith wsX1_joinFrom := goodIn_r _ [9, 1, 3, 4, 2, 10, 11, 12, 13, 14, 15] (by decide +kernel) (by decide +kernel)
set_option maxRecDepth 20000 in
theorem gX1_joinWith_X1_joinFrom : GoodIn wsX1_joinWith (wsV RX1 60 RX1 yX1_joinFrom wsX1_joinFrom) := goodIn_app (goodIn_of _ (by decide +kernel)) ggX1_joinWith_X1_joinFrom
theorem dX1_joinWith_0 : decode cX1_joinWith 0 = .ok (.iconst 0, 1) := by decide +kernel
theorem dX1_joinWith_1 : decode cX1_joinWith 1 = .ok (.istore_n 2, 1) := by decide +kernel
theorem dX1_joinWith_2 : decode cX1_joinWith 2 = .ok (.iload_n 2, 1) := by decide +kernel
theorem dX1_joinWith_3 : decode cX1_joinWith 3 = .ok (.aload_n 0, 1) := by decide +kernel
theorem dX1_joinWith_4 : decode cX1_joinWith 4 = .ok (.getfield 24, 3) := by decide +kernel
theorem dX1_joinWith_7 : decode cX1_joinWith 7 = .ok (.if_icmp .ge 17, 3) := by decide +kernel
theorem dX1_joinWith_10 : decode cX1_joinWith 10 = .ok (.aload_n 0, 1) := by decide +kernel
theorem dX1_joinWith_11 : decode cX1_joinWith 11 = .ok (.getfield 21, 3) := by decide +kernel
theorem dX1_joinWith_14 : decode cX1_joinWith 14 = .ok (.iload_n 2, 1) := by decide +kernel
theorem dX1_joinWith_15 : decode cX1_joinWith 15 = .ok (.ldc 37, 2) := by decide +kernel
theorem dX1_joinWith_17 : decode cX1_joinWith 17 = .ok (.iastore, 1) := by decide +kernel
theorem dX1_joinWith_18 : decode cX1_joinWith 18 = .ok (.iinc 2 1, 3) := by decide +kernel
theorem dX1_joinWith_21 : decode cX1_joinWith 21 = .ok (.goto (-19), 3) := by decide +kernel
theorem dX1_joinWith_24 : decode cX1_joinWith 24 = .ok (.iconst 0, 1) := by decide +kernel
theorem dX1_joinWith_25 : decode cX1_joinWith 25 = .ok (.istore_n 2, 1) := by decide +kernel
theorem dX1_joinWith_26 : decode cX1_joinWith 26 = .ok (.iload_n 2, 1) := by decide +kernel
theorem dX1_joinWith_27 : decode cX1_joinWith 27 = .ok (.aload_n 0, 1) := by decide +kernel
theorem dX1_joinWith_28 : decode cX1_joinWith 28 = .ok (.getfield 24, 3) := by decide +kernel
theorem dX1_joinWith_31 : decode cX1_joinWith 31 = .ok (.if_icmp .ge 26, 3) := by decide +kernel
theorem dX1_joinWith_34 : decode cX1_joinWith 34 = .ok (.aload_n 0, 1) := by decide +kernel
theorem dX1_joinWith_35 : decode cX1_joinWith 35 = .ok (.getfield 18, 3) := by decide +kernel
theorem dX1_joinWith_38 : decode cX1_joinWith 38 = .ok (.iload_n 2, 1) := by decide +kernel
theorem dX1_joinWith_39 : decode cX1_joinWith 39 = .ok (.iaload, 1) := by decide +kernel
theorem dX1_joinWith_40 : decode cX1_joinWith 40 = .ok (.ldc 37, 2) := by decide +kernel
theorem dX1_joinWith_42 : decode cX1_joinWith 42 = .ok (.if_icmp .eq 9, 3) := by decide +kernel
theorem dX1_joinWith_45 : decode cX1_joinWith 45 = .ok (.aload_n 0, 1) := by decide +kernel
theorem dX1_joinWith_46 : decode cX1_joinWith 46 = .ok (.iload_n 2, 1) := by decide +kernel
theorem dX1_joinWith_47 : decode cX1_joinWith 47 = .ok (.aload_n 1, 1) := by decide +kernel
theorem dX1_joinWith_48 : decode cX1_joinWith 48 = .ok (.invokevirtual 60, 3) := by decide +kernel
theorem dX1_joinWith_51 : decode cX1_joinWith 51 = .ok (.iinc 2 1, 3) := by decide +kernel
theorem dX1_joinWith_54 : decode cX1_joinWith 54 = .ok (.goto (-28), 3) := by decide +kernel
theorem dX1_joinWith_57 : decode cX1_joinWith 57 = .ok (.aload_n 0, 1) := by decide +kernel
theorem dX1_joinWith_58 : decode cX1_joinWith 58 = .ok (.getfield 18, 3) := by decide +kernel
theorem dX1_joinWith_61 : decode cX1_joinWith 61 = .ok (.astore_n 2, 1) := by decide +kernel
theorem dX1_joinWith_62 : decode cX1_joinWith 62 = .ok (.aload_n 0, 1) := by decide +kernel
theorem dX1_joinWith_63 : decode cX1_joinWith 63 = .ok (.aload_n 0, 1) := by decide +kernel
theorem dX1_joinWith_64 : decode cX1_joinWith 64 = .ok (.getfield 21, 3) := by decide +kernel
theorem dX1_joinWith_67 : decode cX1_joinWith 67 = .ok (.putfield 18, 3) := by decide +kernel
theorem dX1_joinWith_70 : decode cX1_joinWith 70 = .ok (.aload_n 0, 1) := by decide +kernel
theorem dX1_joinWith_71 : decode cX1_joinWith 71 = .ok (.aload_n 2, 1) := by decide +kernel
theorem dX1_joinWith_72 : decode cX1_joinWith 72 = .ok (.putfield 21, 3) := by decide +kernel
theorem dX1_joinWith_75 : decode cX1_joinWith 75 = .ok (.return_, 1) := by decide +kernel
theorem dX1_joinFrom_0 : decode cX1_joinFrom 0 = .ok (.iload_n 1, 1) := by decide +kernel
theorem dX1_joinFrom_1 : decode cX1_joinFrom 1 = .ok (.istore_n 3, 1) := by decide +kernel
theorem dX1_joinFrom_2 : decode cX1_joinFrom 2 = .ok (.iconst 0, 1) := by decide +kernel
theorem dX1_joinFrom_3 : decode cX1_joinFrom 3 = .ok (.istore 4, 2) := by decide +kernel
theorem dX1_joinFrom_5 : decode cX1_joinFrom 5 = .ok (.iload 4, 2) := by decide +kernel
theorem dX1_joinFrom_7 : decode cX1_joinFrom 7 = .ok (.aload_n 0, 1) := by decide +kernel
theorem dX1_joinFrom_8 : decode cX1_joinFrom 8 = .ok (.getfield 24, 3) := by decide +kernel
theorem dX1_joinFrom_11 : decode cX1_joinFrom 11 = .ok (.if_icmp .ge 73, 3) := by decide +kernel
theorem dX1_joinFrom_14 : decode cX1_joinFrom 14 = .ok (.aload_n 2, 1) := by decide +kernel
theorem dX1_joinFrom_15 : decode cX1_joinFrom 15 = .ok (.iload 4, 2) := by decide +kernel
theorem dX1_joinFrom_17 : decode cX1_joinFrom 17 = .ok (.iaload, 1) := by decide +kernel
theorem dX1_joinFrom_18 : decode cX1_joinFrom 18 = .ok (.ldc 37, 2) := by decide +kernel
theorem dX1_joinFrom_20 : decode cX1_joinFrom 20 = .ok (.if_icmp .eq 40, 3) := by decide +kernel
theorem dX1_joinFrom_23 : decode cX1_joinFrom 23 = .ok (.aload_n 0, 1) := by decide +kernel
theorem dX1_joinFrom_24 : decode cX1_joinFrom 24 = .ok (.getfield 18, 3) := by decide +kernel
theorem dX1_joinFrom_27 : decode cX1_joinFrom 27 = .ok (.iload_n 1, 1) := by decide +kernel
theorem dX1_joinFrom_28 : decode cX1_joinFrom 28 = .ok (.iaload, 1) := by decide +kernel
theorem dX1_joinFrom_29 : decode cX1_joinFrom 29 = .ok (.aload_n 2, 1) := by decide +kernel
theorem dX1_joinFrom_30 : decode cX1_joinFrom 30 = .ok (.iload 4, 2) := by decide +kernel
theorem dX1_joinFrom_32 : decode cX1_joinFrom 32 = .ok (.iaload, 1) := by decide +kernel
theorem dX1_joinFrom_33 : decode cX1_joinFrom 33 = .ok (.iadd, 1) := by decide +kernel
theorem dX1_joinFrom_34 : decode cX1_joinFrom 34 = .ok (.aload_n 0, 1) := by decide +kernel
theorem dX1_joinFrom_35 : decode cX1_joinFrom 35 = .ok (.getfield 21, 3) := by decide +kernel
theorem dX1_joinFrom_38 : decode cX1_joinFrom 38 = .ok (.iload_n 3, 1) := by decide +kernel
theorem dX1_joinFrom_39 : decode cX1_joinFrom 39 = .ok (.iaload, 1) := by decide +kernel
theorem dX1_joinFrom_40 : decode cX1_joinFrom 40 = .ok (.if_icmp .le 20, 3) := by decide +kernel
theorem dX1_joinFrom_43 : decode cX1_joinFrom 43 = .ok (.aload_n 0, 1) := by decide +kernel
theorem dX1_joinFrom_44 : decode cX1_joinFrom 44 = .ok (.getfield 21, 3) := by decide +kernel
theorem dX1_joinFrom_47 : decode cX1_joinFrom 47 = .ok (.iload_n 3, 1) := by decide +kernel
theorem dX1_joinFrom_48 : decode cX1_joinFrom 48 = .ok (.aload_n 0, 1) := by decide +kernel
theorem dX1_joinFrom_49 : decode cX1_joinFrom 49 = .ok (.getfield 18, 3) := by decide +kernel
theorem dX1_joinFrom_52 : decode cX1_joinFrom 52 = .ok (.iload_n 1, 1) := by decide +kernel
theorem dX1_joinFrom_53 : decode cX1_joinFrom 53 = .ok (.iaload, 1) := by decide +kernel
theorem dX1_joinFrom_54 : decode cX1_joinFrom 54 = .ok (.aload_n 2, 1) := by decide +kernel
theorem dX1_joinFrom_55 : decode cX1_joinFrom 55 = .ok (.iload 4, 2) := by decide +kernel
theorem dX1_joinFrom_57 : decode cX1_joinFrom 57 = .ok (.iaload, 1) := by decide +kernel
theorem dX1_joinFrom_58 : decode cX1_joinFrom 58 = .ok (.iadd, 1) := by decide +kernel
theorem dX1_joinFrom_59 : decode cX1_joinFrom 59 = .ok (.iastore, 1) := by decide +kernel
theorem dX1_joinFrom_60 : decode cX1_joinFrom 60 = .ok (.iload_n 3, 1) := by decide +kernel
theorem dX1_joinFrom_61 : decode cX1_joinFrom 61 = .ok (.iconst 1, 1) := by decide +kernel
theorem dX1_joinFrom_62 : decode cX1_joinFrom 62 = .ok (.iadd, 1) := by decide +kernel
theorem dX1_joinFrom_63 : decode cX1_joinFrom 63 = .ok (.aload_n 0, 1) := by decide +kernel
theorem dX1_joinFrom_64 : decode cX1_joinFrom 64 = .ok (.getfield 24, 3) := by decide +kernel
theorem dX1_joinFrom_67 : decode cX1_joinFrom 67 = .ok (.if_icmp .ge 9, 3) := by decide +kernel
theorem dX1_joinFrom_70 : decode cX1_joinFrom 70 = .ok (.iload_n 3, 1) := by decide +kernel
theorem dX1_joinFrom_71 : decode cX1_joinFrom 71 = .ok (.iconst 1, 1) := by decide +kernel
theorem dX1_joinFrom_72 : decode cX1_joinFrom 72 = .ok (.iadd, 1) := by decide +kernel
theorem dX1_joinFrom_73 : decode cX1_joinFrom 73 = .ok (.goto 4, 3) := by decide +kernel
theorem dX1_joinFrom_76 : decode cX1_joinFrom 76 = .ok (.iconst 0, 1) := by decide +kernel
theorem dX1_joinFrom_77 : decode cX1_joinFrom 77 = .ok (.istore_n 3, 1) := by decide +kernel
theorem dX1_joinFrom_78 : decode cX1_joinFrom 78 = .ok (.iinc 4 1, 3) := by decide +kernel
theorem dX1_joinFrom_81 : decode cX1_joinFrom 81 = .ok (.goto (-76), 3) := by decide +kernel
theorem dX1_joinFrom_84 : decode cX1_joinFrom 84 = .ok (.return_, 1) := by decide +kernel
set_option maxRecDepth 20000 in
theorem ggX2_init_X4_init : GoodIn wsX2_init wsX4_init := goodIn_r _ [15, 16, 2, 3, 17, 18, 26, 27] (by decide +kernel) (by decide +kernel)
set_option maxRecDepth 20000 in
theorem gX2_init_X4_init_n11 : GoodIn wsX2_init (wsX4_init) := ggX2_init_X4_init
set_option maxRecDepth 20000 in
theorem ggX2_init_X7_init : GoodIn wsX2_init wsX7_init := goodIn_r _ [20, 21, 2, 3, 17, 22, 23, 24, 25, 32, 33, 34, 35, 36, 37, 38] (by decide +kernel) (by decide +kernel)
set_option maxRecDepth 20000 in
theorem gX2_init_X7_init_n20 : GoodIn wsX2_init (wsX7_init) := ggX2_init_X7_init
theorem dX2_init_0 : decode cX2_init 0 = .ok (.aload_n 0, 1) := by decide +kernel
theorem dX2_init_1 : decode cX2_init 1 = .ok (.invokespecial 3, 3) := by decide +kernel
theorem dX2_init_4 : decode cX2_init 4 = .ok (.aload_n 0, 1) := by decide +kernel
theorem dX2_init_5 : decode cX2_init 5 = .ok (.new 9, 3) := by decide +kernel
theorem dX2_init_8 : decode cX2_init 8 = .ok (.dup, 1) := by decide +kernel
theorem dX2_init_9 : decode cX2_init 9 = .ok (.invokespecial 11, 3) := by decide +kernel
theorem dX2_init_12 : decode cX2_init 12 = .ok (.putfield 12, 3) := by decide +kernel
theorem dX2_init_15 : decode cX2_init 15 = .ok (.aload_n 0, 1) := by decide +kernel
theorem dX2_init_16 : decode cX2_init 16 = .ok (.new 18, 3) := by decide +kernel
theorem dX2_init_19 : decode cX2_init 19 = .ok (.dup, 1) := by decide +kernel
theorem dX2_init_20 : decode cX2_init 20 = .ok (.invokespecial 20, 3) := by decide +kernel
theorem dX2_init_23 : decode cX2_init 23 = .ok (.putfield 21, 3) := by decide +kernel
theorem dX2_init_26 : decode cX2_init 26 = .ok (.aload_n 0, 1) := by decide +kernel
theorem dX2_init_27 : decode cX2_init 27 = .ok (.bipush 8, 2) := by decide +kernel
theorem dX2_init_29 : decode cX2_init 29 = .ok (.newarray .double, 2) := by decide +kernel
theorem dX2_init_31 : decode cX2_init 31 = .ok (.putfield 25, 3) := by decide +kernel
theorem dX2_init_34 : decode cX2_init 34 = .ok (.return_, 1) := by decide +kernel
set_option maxRecDepth 20000 in
theorem ggX2_perform_X4_reset : GoodIn wsX2_perform wsX4_reset := goodIn_r _ [11, 12, 13, 112, 113] (by decide +kernel) (by decide +kernel)
set_option maxRecDepth 20000 in
theorem gX2_perform_X4_reset : GoodIn wsX2_perform (wsV RX2 29 RX4 yX4_reset wsX4_reset) := goodIn_app (goodIn_of _ (by decide +kernel)) ggX2_perform_X4_reset
set_option maxRecDepth 20000 in
theorem ggX2_perform_X7_wipe : GoodIn wsX2_perform wsX7_wipe := goodIn_r _ [18, 19, 20, 114, 115, 116, 117, 118, 119, 120] (by decide +kernel) (by decide +kernel)
set_option maxRecDepth 20000 in
theorem gX2_perform_X7_wipe : GoodIn wsX2_perform (wsV RX2 32 RX7 yX7_wipe wsX7_wipe) := goodIn_app (goodIn_of _ (by decide +kernel)) ggX2_perform_X7_wipe
set_option maxRecDepth 20000 in
theorem ggX2_perform_X2_step : GoodIn wsX2_perform wsX2_step := goodIn_r _ [25, 6, 26, 27, 28, 4, 2, 29, 30, 31, 1, 32, 33, 34, 24, 35, 36, 37, 38, 39, 40, 41, 42, 43, 44, 45, 46, 47, 48, 49, 50, 51, 52, 53, 54, 55, 56, 57, 58, 59, 60, 61, 17, 62, 20, 63, 64, 19, 65, 66, 67, 15, 16, 18, 68, 69, 70, 71, 72, 73, 74, 75, 76, 77, 78, 79, 80, 81, 82, 83, 84, 85, 86, 87, 88, 89, 90, 91, 3, 92, 93, 94, 95, 96, 97, 98, 99, 100, 105, 106, 107, 108, 109, 110, 111, 101, 102, 103, 104, 121, 122, 123, 124, 114, 115, 116, 117, 118, 119, 120, 112, 113] (by decide +kernel) (by decide +kernel)
set_option maxRecDepth 20000 in
theorem gX2_perform_X2_step : GoodIn wsX2_perform (wsV RX2 45 RX2 yX2_step wsX2_step) := goodIn_app (goodIn_of _ (by decide +kernel)) ggX2_perform_X2_step
set_option maxRecDepth 20000 in
theorem ggX2_perform_X2_within : GoodIn wsX2_perform wsX2_within := goodIn_r _ [98, 99, 100] (by decide +kernel) (by decide +kernel)
set_option maxRecDepth 20000 in
theorem gX2_perform_X2_within : GoodIn wsX2_perform (va_wsS RX2 53 yX2_within wsX2_within) := goodIn_app (goodIn_of _ (by decide +kernel)) ggX2_perform_X2_within
theorem dX2_perform_0 : decode cX2_perform 0 = .ok (.aload_n 0, 1) := by decide +kernel
theorem dX2_perform_1 : decode cX2_perform 1 = .ok (.getfield 12, 3) := by decide +kernel
theorem dX2_perform_4 : decode cX2_perform 4 = .ok (.invokevirtual 29, 3) := by decide +kernel
theorem dX2_perform_7 : decode cX2_perform 7 = .ok (.aload_n 0, 1) := by decide +kernel
theorem dX2_perform_8 : decode cX2_perform 8 = .ok (.getfield 21, 3) := by decide +kernel
theorem dX2_perform_11 : decode cX2_perform 11 = .ok (.invokevirtual 32, 3) := by decide +kernel
theorem dX2_perform_14 : decode cX2_perform 14 = .ok (.aload_n 0, 1) := by decide +kernel
theorem dX2_perform_15 : decode cX2_perform 15 = .ok (.dconst 0, 1) := by decide +kernel
theorem dX2_perform_16 : decode cX2_perform 16 = .ok (.putfield 35, 3) := by decide +kernel
theorem dX2_perform_19 : decode cX2_perform 19 = .ok (.iconst 0, 1) := by decide +kernel
theorem dX2_perform_20 : decode cX2_perform 20 = .ok (.istore 4, 2) := by decide +kernel
theorem dX2_perform_22 : decode cX2_perform 22 = .ok (.iload 4, 2) := by decide +kernel
theorem dX2_perform_24 : decode cX2_perform 24 = .ok (.bipush 8, 2) := by decide +kernel
theorem dX2_perform_26 : decode cX2_perform 26 = .ok (.if_icmp .ge 17, 3) := by decide +kernel
theorem dX2_perform_29 : decode cX2_perform 29 = .ok (.aload_n 0, 1) := by decide +kernel
theorem dX2_perform_30 : decode cX2_perform 30 = .ok (.getfield 25, 3) := by decide +kernel
theorem dX2_perform_33 : decode cX2_perform 33 = .ok (.iload 4, 2) := by decide +kernel
theorem dX2_perform_35 : decode cX2_perform 35 = .ok (.dconst 0, 1) := by decide +kernel
theorem dX2_perform_36 : decode cX2_perform 36 = .ok (.dastore, 1) := by decide +kernel
theorem dX2_perform_37 : decode cX2_perform 37 = .ok (.iinc 4 1, 3) := by decide +kernel
theorem dX2_perform_40 : decode cX2_perform 40 = .ok (.goto (-18), 3) := by decide +kernel
theorem dX2_perform_43 : decode cX2_perform 43 = .ok (.iconst 0, 1) := by decide +kernel
theorem dX2_perform_44 : decode cX2_perform 44 = .ok (.istore 4, 2) := by decide +kernel
theorem dX2_perform_46 : decode cX2_perform 46 = .ok (.iload 4, 2) := by decide +kernel
theorem dX2_perform_48 : decode cX2_perform 48 = .ok (.aload_n 1, 1) := by decide +kernel
theorem dX2_perform_49 : decode cX2_perform 49 = .ok (.getfield 39, 3) := by decide +kernel
theorem dX2_perform_52 : decode cX2_perform 52 = .ok (.if_icmp .ge 45, 3) := by decide +kernel
theorem dX2_perform_55 : decode cX2_perform 55 = .ok (.aload_n 0, 1) := by decide +kernel
theorem dX2_perform_56 : decode cX2_perform 56 = .ok (.aload_n 1, 1) := by decide +kernel
theorem dX2_perform_57 : decode cX2_perform 57 = .ok (.iload 4, 2) := by decide +kernel
theorem dX2_perform_59 : decode cX2_perform 59 = .ok (.aload_n 2, 1) := by decide +kernel
theorem dX2_perform_60 : decode cX2_perform 60 = .ok (.iload_n 3, 1) := by decide +kernel
theorem dX2_perform_61 : decode cX2_perform 61 = .ok (.invokevirtual 45, 3) := by decide +kernel
theorem dX2_perform_64 : decode cX2_perform 64 = .ok (.aload_n 0, 1) := by decide +kernel
theorem dX2_perform_65 : decode cX2_perform 65 = .ok (.getfield 25, 3) := by decide +kernel
theorem dX2_perform_68 : decode cX2_perform 68 = .ok (.aload_n 1, 1) := by decide +kernel
theorem dX2_perform_69 : decode cX2_perform 69 = .ok (.getfield 49, 3) := by decide +kernel
theorem dX2_perform_72 : decode cX2_perform 72 = .ok (.iload 4, 2) := by decide +kernel
theorem dX2_perform_74 : decode cX2_perform 74 = .ok (.iaload, 1) := by decide +kernel
theorem dX2_perform_75 : decode cX2_perform 75 = .ok (.aload_n 0, 1) := by decide +kernel
theorem dX2_perform_76 : decode cX2_perform 76 = .ok (.getfield 25, 3) := by decide +kernel
theorem dX2_perform_79 : decode cX2_perform 79 = .ok (.aload_n 1, 1) := by decide +kernel
theorem dX2_perform_80 : decode cX2_perform 80 = .ok (.getfield 49, 3) := by decide +kernel
theorem dX2_perform_83 : decode cX2_perform 83 = .ok (.iload 4, 2) := by decide +kernel
theorem dX2_perform_85 : decode cX2_perform 85 = .ok (.iaload, 1) := by decide +kernel
theorem dX2_perform_86 : decode cX2_perform 86 = .ok (.daload, 1) := by decide +kernel
theorem dX2_perform_87 : decode cX2_perform 87 = .ok (.invokestatic 53, 3) := by decide +kernel
theorem dX2_perform_90 : decode cX2_perform 90 = .ok (.dastore, 1) := by decide +kernel
theorem dX2_perform_91 : decode cX2_perform 91 = .ok (.iinc 4 1, 3) := by decide +kernel
theorem dX2_perform_94 : decode cX2_perform 94 = .ok (.goto (-48), 3) := by decide +kernel
theorem dX2_perform_97 : decode cX2_perform 97 = .ok (.return_, 1) := by decide +kernel
set_option maxRecDepth 20000 in
theorem ggX2_step_X2_rateOf : GoodIn wsX2_step wsX2_rateOf := goodIn_r _ [15, 16, 17, 99, 100, 101, 102] (by decide +kernel) (by decide +kernel)
set_option maxRecDepth 20000 in
theorem gX2_step_X2_rateOf : GoodIn wsX2_step (va_wsS RX2 66 yX2_rateOf wsX2_rateOf) := goodIn_app (goodIn_of _ (by decide +kernel)) ggX2_step_X2_rateOf
set_option maxRecDepth 20000 in
theorem ggX2_step_X2_rounding : GoodIn wsX2_step wsX2_rounding := goodIn_r _ [20, 21, 22, 23, 14, 24, 25, 26, 27, 28, 29, 30, 31, 32, 33] (by decide +kernel) (by decide +kernel)
set_option maxRecDepth 20000 in
theorem gX2_step_X2_rounding : GoodIn wsX2_step (va_wsS RX2 70 yX2_rounding wsX2_rounding) := goodIn_app (goodIn_of _ (by decide +kernel)) ggX2_step_X2_rounding
set_option maxRecDepth 20000 in
theorem ggX2_step_X2_dividable : GoodIn wsX2_step wsX2_dividable := goodIn_r _ [36, 37, 38] (by decide +kernel) (by decide +kernel)
set_option maxRecDepth 20000 in
theorem gX2_step_X2_dividable : GoodIn wsX2_step (va_wsS RX2 74 yX2_dividable wsX2_dividable) := goodIn_app (goodIn_of _ (by decide +kernel)) ggX2_step_X2_dividable
set_option maxRecDepth 20000 in
theorem ggX2_step_X7_divide : GoodIn wsX2_step wsX7_divide := goodIn_r _ [43, 44, 45, 46, 47, 48, 49, 50, 51, 52, 42, 53, 54, 55, 56, 57, 58, 59, 60, 61, 62, 63, 64, 65, 66, 67, 68, 69, 70, 71, 72, 73, 103, 104, 105, 106, 107, 108, 109] (by decide +kernel) (by decide +kernel)
set_option maxRecDepth 20000 in
theorem gX2_step_X7_divide : GoodIn wsX2_step (wsV RX2 87 RX7 yX7_divide wsX7_divide) := goodIn_app (goodIn_of _ (by decide +kernel)) ggX2_step_X7_divide
set_option maxRecDepth 20000 in
theorem ggX2_step_X2_carry : GoodIn wsX2_step wsX2_carry := goodIn_r _ [77, 78, 5, 25, 26, 14, 27, 95, 96, 97, 98] (by decide +kernel) (by decide +kernel)
set_option maxRecDepth 20000 in
theorem gX2_step_X2_carry : GoodIn wsX2_step (wsV RX2 95 RX2 yX2_carry wsX2_carry) := goodIn_app (goodIn_of _ (by decide +kernel)) ggX2_step_X2_carry
set_option maxRecDepth 20000 in
theorem ggX2_step_X2_passDays : GoodIn wsX2_step wsX2_passDays := goodIn_r _ [82, 5, 28, 29, 14, 30, 31, 32, 21, 33, 83, 84, 85, 86, 87, 95, 96, 97, 98] (by decide +kernel) (by decide +kernel)
set_option maxRecDepth 20000 in
theorem gX2_step_X2_passDays : GoodIn wsX2_step (wsV RX2 102 RX2 yX2_passDays wsX2_passDays) := goodIn_app (goodIn_of _ (by decide +kernel)) ggX2_step_X2_passDays
theorem dX2_step_0 : decode cX2_step 0 = .ok (.aload_n 1, 1) := by decide +kernel
theorem dX2_step_1 : decode cX2_step 1 = .ok (.getfield 49, 3) := by decide +kernel
theorem dX2_step_4 : decode cX2_step 4 = .ok (.iload_n 2, 1) := by decide +kernel
theorem dX2_step_5 : decode cX2_step 5 = .ok (.iaload, 1) := by decide +kernel
theorem dX2_step_6 : decode cX2_step 6 = .ok (.istore 5, 2) := by decide +kernel
theorem dX2_step_8 : decode cX2_step 8 = .ok (.aload_n 1, 1) := by decide +kernel
theorem dX2_step_9 : decode cX2_step 9 = .ok (.getfield 57, 3) := by decide +kernel
theorem dX2_step_12 : decode cX2_step 12 = .ok (.iload_n 2, 1) := by decide +kernel
theorem dX2_step_13 : decode cX2_step 13 = .ok (.iaload, 1) := by decide +kernel
theorem dX2_step_14 : decode cX2_step 14 = .ok (.istore 6, 2) := by decide +kernel
theorem dX2_step_16 : decode cX2_step 16 = .ok (.aload_n 1, 1) := by decide +kernel
theorem dX2_step_17 : decode cX2_step 17 = .ok (.getfield 60, 3) := by decide +kernel
theorem dX2_step_20 : decode cX2_step 20 = .ok (.iload_n 2, 1) := by decide +kernel
theorem dX2_step_21 : decode cX2_step 21 = .ok (.iaload, 1) := by decide +kernel
theorem dX2_step_22 : decode cX2_step 22 = .ok (.istore 7, 2) := by decide +kernel
theorem dX2_step_24 : decode cX2_step 24 = .ok (.aload_n 1, 1) := by decide +kernel
theorem dX2_step_25 : decode cX2_step 25 = .ok (.getfield 63, 3) := by decide +kernel
theorem dX2_step_28 : decode cX2_step 28 = .ok (.iload_n 2, 1) := by decide +kernel
theorem dX2_step_29 : decode cX2_step 29 = .ok (.iaload, 1) := by decide +kernel
theorem dX2_step_30 : decode cX2_step 30 = .ok (.tableswitch 377 0 11 #[62, 75, 75, 101, 125, 150, 198, 234, 255, 264, 313, 354], 62) := by decide +kernel
theorem dX2_step_92 : decode cX2_step 92 = .ok (.aload_n 0, 1) := by decide +kernel
theorem dX2_step_93 : decode cX2_step 93 = .ok (.getfield 25, 3) := by decide +kernel
theorem dX2_step_96 : decode cX2_step 96 = .ok (.iload 5, 2) := by decide +kernel
theorem dX2_step_98 : decode cX2_step 98 = .ok (.iload 4, 2) := by decide +kernel
theorem dX2_step_100 : decode cX2_step 100 = .ok (.i2d, 1) := by decide +kernel
theorem dX2_step_101 : decode cX2_step 101 = .ok (.dastore, 1) := by decide +kernel
theorem dX2_step_102 : decode cX2_step 102 = .ok (.goto 319, 3) := by decide +kernel
theorem dX2_step_105 : decode cX2_step 105 = .ok (.aload_n 0, 1) := by decide +kernel
theorem dX2_step_106 : decode cX2_step 106 = .ok (.getfield 25, 3) := by decide +kernel
theorem dX2_step_109 : decode cX2_step 109 = .ok (.iload 5, 2) := by decide +kernel
theorem dX2_step_111 : decode cX2_step 111 = .ok (.iload 4, 2) := by decide +kernel
theorem dX2_step_113 : decode cX2_step 113 = .ok (.i2d, 1) := by decide +kernel
theorem dX2_step_114 : decode cX2_step 114 = .ok (.aload_n 3, 1) := by decide +kernel
theorem dX2_step_115 : decode cX2_step 115 = .ok (.iload 6, 2) := by decide +kernel
theorem dX2_step_117 : decode cX2_step 117 = .ok (.invokestatic 66, 3) := by decide +kernel
theorem dX2_step_120 : decode cX2_step 120 = .ok (.dmul, 1) := by decide +kernel
theorem dX2_step_121 : decode cX2_step 121 = .ok (.dconst 1, 1) := by decide +kernel
theorem dX2_step_122 : decode cX2_step 122 = .ok (.iload 7, 2) := by decide +kernel
theorem dX2_step_124 : decode cX2_step 124 = .ok (.invokestatic 70, 3) := by decide +kernel
theorem dX2_step_127 : decode cX2_step 127 = .ok (.dastore, 1) := by decide +kernel
theorem dX2_step_128 : decode cX2_step 128 = .ok (.goto 293, 3) := by decide +kernel
theorem dX2_step_131 : decode cX2_step 131 = .ok (.aload_n 0, 1) := by decide +kernel
theorem dX2_step_132 : decode cX2_step 132 = .ok (.getfield 25, 3) := by decide +kernel
theorem dX2_step_135 : decode cX2_step 135 = .ok (.iload 5, 2) := by decide +kernel
theorem dX2_step_137 : decode cX2_step 137 = .ok (.aload_n 0, 1) := by decide +kernel
theorem dX2_step_138 : decode cX2_step 138 = .ok (.getfield 25, 3) := by decide +kernel
theorem dX2_step_141 : decode cX2_step 141 = .ok (.iload 6, 2) := by decide +kernel
theorem dX2_step_143 : decode cX2_step 143 = .ok (.daload, 1) := by decide +kernel
theorem dX2_step_144 : decode cX2_step 144 = .ok (.aload_n 3, 1) := by decide +kernel
theorem dX2_step_145 : decode cX2_step 145 = .ok (.iload 7, 2) := by decide +kernel
theorem dX2_step_147 : decode cX2_step 147 = .ok (.invokestatic 66, 3) := by decide +kernel
theorem dX2_step_150 : decode cX2_step 150 = .ok (.dmul, 1) := by decide +kernel
theorem dX2_step_151 : decode cX2_step 151 = .ok (.dastore, 1) := by decide +kernel
theorem dX2_step_152 : decode cX2_step 152 = .ok (.goto 269, 3) := by decide +kernel
theorem dX2_step_155 : decode cX2_step 155 = .ok (.aload_n 0, 1) := by decide +kernel
theorem dX2_step_156 : decode cX2_step 156 = .ok (.getfield 25, 3) := by decide +kernel
theorem dX2_step_159 : decode cX2_step 159 = .ok (.iload 5, 2) := by decide +kernel
theorem dX2_step_161 : decode cX2_step 161 = .ok (.aload_n 0, 1) := by decide +kernel
theorem dX2_step_162 : decode cX2_step 162 = .ok (.getfield 25, 3) := by decide +kernel
theorem dX2_step_165 : decode cX2_step 165 = .ok (.iload 5, 2) := by decide +kernel
theorem dX2_step_167 : decode cX2_step 167 = .ok (.daload, 1) := by decide +kernel
theorem dX2_step_168 : decode cX2_step 168 = .ok (.iload 7, 2) := by decide +kernel
theorem dX2_step_170 : decode cX2_step 170 = .ok (.i2d, 1) := by decide +kernel
theorem dX2_step_171 : decode cX2_step 171 = .ok (.iload 6, 2) := by decide +kernel
theorem dX2_step_173 : decode cX2_step 173 = .ok (.invokestatic 70, 3) := by decide +kernel
theorem dX2_step_176 : decode cX2_step 176 = .ok (.dastore, 1) := by decide +kernel
theorem dX2_step_177 : decode cX2_step 177 = .ok (.goto 244, 3) := by decide +kernel
theorem dX2_step_180 : decode cX2_step 180 = .ok (.aload_n 0, 1) := by decide +kernel
theorem dX2_step_181 : decode cX2_step 181 = .ok (.getfield 25, 3) := by decide +kernel
theorem dX2_step_184 : decode cX2_step 184 = .ok (.iload 5, 2) := by decide +kernel
theorem dX2_step_186 : decode cX2_step 186 = .ok (.iload 7, 2) := by decide +kernel
theorem dX2_step_188 : decode cX2_step 188 = .ok (.ifCond .ne 21, 3) := by decide +kernel
theorem dX2_step_191 : decode cX2_step 191 = .ok (.aload_n 0, 1) := by decide +kernel
theorem dX2_step_192 : decode cX2_step 192 = .ok (.getfield 25, 3) := by decide +kernel
theorem dX2_step_195 : decode cX2_step 195 = .ok (.iload 5, 2) := by decide +kernel
theorem dX2_step_197 : decode cX2_step 197 = .ok (.daload, 1) := by decide +kernel
theorem dX2_step_198 : decode cX2_step 198 = .ok (.aload_n 0, 1) := by decide +kernel
theorem dX2_step_199 : decode cX2_step 199 = .ok (.getfield 25, 3) := by decide +kernel
theorem dX2_step_202 : decode cX2_step 202 = .ok (.iload 6, 2) := by decide +kernel
theorem dX2_step_204 : decode cX2_step 204 = .ok (.daload, 1) := by decide +kernel
theorem dX2_step_205 : decode cX2_step 205 = .ok (.dadd, 1) := by decide +kernel
theorem dX2_step_206 : decode cX2_step 206 = .ok (.goto 18, 3) := by decide +kernel
theorem dX2_step_209 : decode cX2_step 209 = .ok (.aload_n 0, 1) := by decide +kernel
theorem dX2_step_210 : decode cX2_step 210 = .ok (.getfield 25, 3) := by decide +kernel
theorem dX2_step_213 : decode cX2_step 213 = .ok (.iload 5, 2) := by decide +kernel
theorem dX2_step_215 : decode cX2_step 215 = .ok (.daload, 1) := by decide +kernel
theorem dX2_step_216 : decode cX2_step 216 = .ok (.aload_n 0, 1) := by decide +kernel
theorem dX2_step_217 : decode cX2_step 217 = .ok (.getfield 25, 3) := by decide +kernel
theorem dX2_step_220 : decode cX2_step 220 = .ok (.iload 6, 2) := by decide +kernel
theorem dX2_step_222 : decode cX2_step 222 = .ok (.daload, 1) := by decide +kernel
theorem dX2_step_223 : decode cX2_step 223 = .ok (.dsub, 1) := by decide +kernel
theorem dX2_step_224 : decode cX2_step 224 = .ok (.dastore, 1) := by decide +kernel
theorem dX2_step_225 : decode cX2_step 225 = .ok (.goto 196, 3) := by decide +kernel
theorem dX2_step_228 : decode cX2_step 228 = .ok (.aload_n 0, 1) := by decide +kernel
theorem dX2_step_229 : decode cX2_step 229 = .ok (.getfield 21, 3) := by decide +kernel
theorem dX2_step_232 : decode cX2_step 232 = .ok (.aload_n 0, 1) := by decide +kernel
theorem dX2_step_233 : decode cX2_step 233 = .ok (.getfield 25, 3) := by decide +kernel
theorem dX2_step_236 : decode cX2_step 236 = .ok (.iload 5, 2) := by decide +kernel
theorem dX2_step_238 : decode cX2_step 238 = .ok (.daload, 1) := by decide +kernel
theorem dX2_step_239 : decode cX2_step 239 = .ok (.invokestatic 74, 3) := by decide +kernel
theorem dX2_step_242 : decode cX2_step 242 = .ok (.iload 6, 2) := by decide +kernel
theorem dX2_step_244 : decode cX2_step 244 = .ok (.aload_n 3, 1) := by decide +kernel
theorem dX2_step_245 : decode cX2_step 245 = .ok (.getfield 78, 3) := by decide +kernel
theorem dX2_step_248 : decode cX2_step 248 = .ok (.iload 7, 2) := by decide +kernel
theorem dX2_step_250 : decode cX2_step 250 = .ok (.aaload, 1) := by decide +kernel
theorem dX2_step_251 : decode cX2_step 251 = .ok (.aload_n 3, 1) := by decide +kernel
theorem dX2_step_252 : decode cX2_step 252 = .ok (.getfield 84, 3) := by decide +kernel
theorem dX2_step_255 : decode cX2_step 255 = .ok (.iload 7, 2) := by decide +kernel
theorem dX2_step_257 : decode cX2_step 257 = .ok (.iaload, 1) := by decide +kernel
theorem dX2_step_258 : decode cX2_step 258 = .ok (.invokevirtual 87, 3) := by decide +kernel
theorem dX2_step_261 : decode cX2_step 261 = .ok (.goto 160, 3) := by decide +kernel
theorem dX2_step_264 : decode cX2_step 264 = .ok (.aload_n 0, 1) := by decide +kernel
theorem dX2_step_265 : decode cX2_step 265 = .ok (.getfield 25, 3) := by decide +kernel
theorem dX2_step_268 : decode cX2_step 268 = .ok (.iload 5, 2) := by decide +kernel
theorem dX2_step_270 : decode cX2_step 270 = .ok (.aload_n 0, 1) := by decide +kernel
theorem dX2_step_271 : decode cX2_step 271 = .ok (.getfield 21, 3) := by decide +kernel
theorem dX2_step_274 : decode cX2_step 274 = .ok (.getfield 91, 3) := by decide +kernel
theorem dX2_step_277 : decode cX2_step 277 = .ok (.iload 6, 2) := by decide +kernel
theorem dX2_step_279 : decode cX2_step 279 = .ok (.laload, 1) := by decide +kernel
theorem dX2_step_280 : decode cX2_step 280 = .ok (.l2d, 1) := by decide +kernel
theorem dX2_step_281 : decode cX2_step 281 = .ok (.dastore, 1) := by decide +kernel
theorem dX2_step_282 : decode cX2_step 282 = .ok (.goto 139, 3) := by decide +kernel
theorem dX2_step_285 : decode cX2_step 285 = .ok (.aload_n 0, 1) := by decide +kernel
theorem dX2_step_286 : decode cX2_step 286 = .ok (.iload 5, 2) := by decide +kernel
theorem dX2_step_288 : decode cX2_step 288 = .ok (.invokevirtual 95, 3) := by decide +kernel
theorem dX2_step_291 : decode cX2_step 291 = .ok (.goto 130, 3) := by decide +kernel
theorem dX2_step_294 : decode cX2_step 294 = .ok (.iload 6, 2) := by decide +kernel
theorem dX2_step_296 : decode cX2_step 296 = .ok (.ifCond .ne 20, 3) := by decide +kernel
theorem dX2_step_299 : decode cX2_step 299 = .ok (.aload_n 0, 1) := by decide +kernel
theorem dX2_step_300 : decode cX2_step 300 = .ok (.getfield 25, 3) := by decide +kernel
theorem dX2_step_303 : decode cX2_step 303 = .ok (.iload 5, 2) := by decide +kernel
theorem dX2_step_305 : decode cX2_step 305 = .ok (.daload, 1) := by decide +kernel
theorem dX2_step_306 : decode cX2_step 306 = .ok (.iload 7, 2) := by decide +kernel
theorem dX2_step_308 : decode cX2_step 308 = .ok (.i2d, 1) := by decide +kernel
theorem dX2_step_309 : decode cX2_step 309 = .ok (.dcmp .l, 1) := by decide +kernel
theorem dX2_step_310 : decode cX2_step 310 = .ok (.ifCond .le 111, 3) := by decide +kernel
theorem dX2_step_313 : decode cX2_step 313 = .ok (.goto 17, 3) := by decide +kernel
theorem dX2_step_316 : decode cX2_step 316 = .ok (.aload_n 0, 1) := by decide +kernel
theorem dX2_step_317 : decode cX2_step 317 = .ok (.getfield 25, 3) := by decide +kernel
theorem dX2_step_320 : decode cX2_step 320 = .ok (.iload 5, 2) := by decide +kernel
theorem dX2_step_322 : decode cX2_step 322 = .ok (.daload, 1) := by decide +kernel
theorem dX2_step_323 : decode cX2_step 323 = .ok (.iload 7, 2) := by decide +kernel
theorem dX2_step_325 : decode cX2_step 325 = .ok (.i2d, 1) := by decide +kernel
theorem dX2_step_326 : decode cX2_step 326 = .ok (.dcmp .g, 1) := by decide +kernel
theorem dX2_step_327 : decode cX2_step 327 = .ok (.ifCond .ge 94, 3) := by decide +kernel
theorem dX2_step_330 : decode cX2_step 330 = .ok (.aload_n 0, 1) := by decide +kernel
theorem dX2_step_331 : decode cX2_step 331 = .ok (.getfield 25, 3) := by decide +kernel
theorem dX2_step_334 : decode cX2_step 334 = .ok (.iload 5, 2) := by decide +kernel
theorem dX2_step_336 : decode cX2_step 336 = .ok (.iload 7, 2) := by decide +kernel
theorem dX2_step_338 : decode cX2_step 338 = .ok (.i2d, 1) := by decide +kernel
theorem dX2_step_339 : decode cX2_step 339 = .ok (.dastore, 1) := by decide +kernel
theorem dX2_step_340 : decode cX2_step 340 = .ok (.goto 81, 3) := by decide +kernel
theorem dX2_step_343 : decode cX2_step 343 = .ok (.aload_n 0, 1) := by decide +kernel
theorem dX2_step_344 : decode cX2_step 344 = .ok (.getfield 12, 3) := by decide +kernel
theorem dX2_step_347 : decode cX2_step 347 = .ok (.getfield 99, 3) := by decide +kernel
theorem dX2_step_350 : decode cX2_step 350 = .ok (.iload 6, 2) := by decide +kernel
theorem dX2_step_352 : decode cX2_step 352 = .ok (.dup2, 1) := by decide +kernel
theorem dX2_step_353 : decode cX2_step 353 = .ok (.laload, 1) := by decide +kernel
theorem dX2_step_354 : decode cX2_step 354 = .ok (.iload 7, 2) := by decide +kernel
theorem dX2_step_356 : decode cX2_step 356 = .ok (.ifCond .ne 14, 3) := by decide +kernel
theorem dX2_step_359 : decode cX2_step 359 = .ok (.aload_n 0, 1) := by decide +kernel
theorem dX2_step_360 : decode cX2_step 360 = .ok (.getfield 25, 3) := by decide +kernel
theorem dX2_step_363 : decode cX2_step 363 = .ok (.iload 5, 2) := by decide +kernel
theorem dX2_step_365 : decode cX2_step 365 = .ok (.daload, 1) := by decide +kernel
theorem dX2_step_366 : decode cX2_step 366 = .ok (.d2l, 1) := by decide +kernel
theorem dX2_step_367 : decode cX2_step 367 = .ok (.goto 12, 3) := by decide +kernel
theorem dX2_step_370 : decode cX2_step 370 = .ok (.aload_n 0, 1) := by decide +kernel
theorem dX2_step_371 : decode cX2_step 371 = .ok (.getfield 25, 3) := by decide +kernel
theorem dX2_step_374 : decode cX2_step 374 = .ok (.iload 5, 2) := by decide +kernel
theorem dX2_step_376 : decode cX2_step 376 = .ok (.daload, 1) := by decide +kernel
theorem dX2_step_377 : decode cX2_step 377 = .ok (.d2l, 1) := by decide +kernel
theorem dX2_step_378 : decode cX2_step 378 = .ok (.lneg, 1) := by decide +kernel
theorem dX2_step_379 : decode cX2_step 379 = .ok (.ladd, 1) := by decide +kernel
theorem dX2_step_380 : decode cX2_step 380 = .ok (.lastore, 1) := by decide +kernel
theorem dX2_step_381 : decode cX2_step 381 = .ok (.goto 40, 3) := by decide +kernel
theorem dX2_step_384 : decode cX2_step 384 = .ok (.aload_n 0, 1) := by decide +kernel
theorem dX2_step_385 : decode cX2_step 385 = .ok (.getfield 25, 3) := by decide +kernel
theorem dX2_step_388 : decode cX2_step 388 = .ok (.iload 5, 2) := by decide +kernel
theorem dX2_step_390 : decode cX2_step 390 = .ok (.aload_n 0, 1) := by decide +kernel
theorem dX2_step_391 : decode cX2_step 391 = .ok (.getfield 25, 3) := by decide +kernel
theorem dX2_step_394 : decode cX2_step 394 = .ok (.iload 6, 2) := by decide +kernel
theorem dX2_step_396 : decode cX2_step 396 = .ok (.daload, 1) := by decide +kernel
theorem dX2_step_397 : decode cX2_step 397 = .ok (.dconst 1, 1) := by decide +kernel
theorem dX2_step_398 : decode cX2_step 398 = .ok (.iload 7, 2) := by decide +kernel
theorem dX2_step_400 : decode cX2_step 400 = .ok (.invokestatic 70, 3) := by decide +kernel
theorem dX2_step_403 : decode cX2_step 403 = .ok (.dastore, 1) := by decide +kernel
theorem dX2_step_404 : decode cX2_step 404 = .ok (.goto 17, 3) := by decide +kernel
theorem dX2_step_407 : decode cX2_step 407 = .ok (.aload_n 0, 1) := by decide +kernel
theorem dX2_step_408 : decode cX2_step 408 = .ok (.iload 5, 2) := by decide +kernel
theorem dX2_step_410 : decode cX2_step 410 = .ok (.aload_n 3, 1) := by decide +kernel
theorem dX2_step_411 : decode cX2_step 411 = .ok (.iload 6, 2) := by decide +kernel
theorem dX2_step_413 : decode cX2_step 413 = .ok (.invokestatic 66, 3) := by decide +kernel
theorem dX2_step_416 : decode cX2_step 416 = .ok (.iload 7, 2) := by decide +kernel
theorem dX2_step_418 : decode cX2_step 418 = .ok (.invokevirtual 102, 3) := by decide +kernel
theorem dX2_step_421 : decode cX2_step 421 = .ok (.return_, 1) := by decide +kernel
theorem dX2_rateOf_0 : decode cX2_rateOf 0 = .ok (.aload_n 0, 1) := by decide +kernel
theorem dX2_rateOf_1 : decode cX2_rateOf 1 = .ok (.getfield 106, 3) := by decide +kernel
theorem dX2_rateOf_4 : decode cX2_rateOf 4 = .ok (.iload_n 1, 1) := by decide +kernel
theorem dX2_rateOf_5 : decode cX2_rateOf 5 = .ok (.iaload, 1) := by decide +kernel
theorem dX2_rateOf_6 : decode cX2_rateOf 6 = .ok (.ifCond .le 21, 3) := by decide +kernel
theorem dX2_rateOf_9 : decode cX2_rateOf 9 = .ok (.aload_n 0, 1) := by decide +kernel
theorem dX2_rateOf_10 : decode cX2_rateOf 10 = .ok (.getfield 109, 3) := by decide +kernel
theorem dX2_rateOf_13 : decode cX2_rateOf 13 = .ok (.iload_n 1, 1) := by decide +kernel
theorem dX2_rateOf_14 : decode cX2_rateOf 14 = .ok (.iaload, 1) := by decide +kernel
theorem dX2_rateOf_15 : decode cX2_rateOf 15 = .ok (.i2d, 1) := by decide +kernel
theorem dX2_rateOf_16 : decode cX2_rateOf 16 = .ok (.aload_n 0, 1) := by decide +kernel
theorem dX2_rateOf_17 : decode cX2_rateOf 17 = .ok (.getfield 106, 3) := by decide +kernel
theorem dX2_rateOf_20 : decode cX2_rateOf 20 = .ok (.iload_n 1, 1) := by decide +kernel
theorem dX2_rateOf_21 : decode cX2_rateOf 21 = .ok (.iaload, 1) := by decide +kernel
theorem dX2_rateOf_22 : decode cX2_rateOf 22 = .ok (.i2d, 1) := by decide +kernel
theorem dX2_rateOf_23 : decode cX2_rateOf 23 = .ok (.ddiv, 1) := by decide +kernel
theorem dX2_rateOf_24 : decode cX2_rateOf 24 = .ok (.goto 4, 3) := by decide +kernel
theorem dX2_rateOf_27 : decode cX2_rateOf 27 = .ok (.dconst 0, 1) := by decide +kernel
theorem dX2_rateOf_28 : decode cX2_rateOf 28 = .ok (.dreturn, 1) := by decide +kernel
theorem dX2_dividable_0 : decode cX2_dividable 0 = .ok (.dload_n 0, 1) := by decide +kernel
theorem dX2_dividable_1 : decode cX2_dividable 1 = .ok (.d2l, 1) := by decide +kernel
theorem dX2_dividable_2 : decode cX2_dividable 2 = .ok (.lstore_n 2, 1) := by decide +kernel
theorem dX2_dividable_3 : decode cX2_dividable 3 = .ok (.lload_n 2, 1) := by decide +kernel
theorem dX2_dividable_4 : decode cX2_dividable 4 = .ok (.ldc2_w 112, 3) := by decide +kernel
theorem dX2_dividable_7 : decode cX2_dividable 7 = .ok (.lcmp, 1) := by decide +kernel
theorem dX2_dividable_8 : decode cX2_dividable 8 = .ok (.ifCond .gt 11, 3) := by decide +kernel
theorem dX2_dividable_11 : decode cX2_dividable 11 = .ok (.lload_n 2, 1) := by decide +kernel
theorem dX2_dividable_12 : decode cX2_dividable 12 = .ok (.ldc2_w 114, 3) := by decide +kernel
theorem dX2_dividable_15 : decode cX2_dividable 15 = .ok (.lcmp, 1) := by decide +kernel
theorem dX2_dividable_16 : decode cX2_dividable 16 = .ok (.ifCond .ge 7, 3) := by decide +kernel
theorem dX2_dividable_19 : decode cX2_dividable 19 = .ok (.lconst 0, 1) := by decide +kernel
theorem dX2_dividable_20 : decode cX2_dividable 20 = .ok (.goto 4, 3) := by decide +kernel
theorem dX2_dividable_23 : decode cX2_dividable 23 = .ok (.lload_n 2, 1) := by decide +kernel
theorem dX2_dividable_24 : decode cX2_dividable 24 = .ok (.lreturn, 1) := by decide +kernel
set_option maxRecDepth 20000 in
theorem ggX2_carry_X2_floor : GoodIn wsX2_carry wsX2_floor := goodIn_r _ [6] (by decide +kernel) (by decide +kernel)
set_option maxRecDepth 20000 in
theorem gX2_carry_X2_floor : GoodIn wsX2_carry (va_wsS RX2 116 yX2_floor wsX2_floor) := goodIn_app (goodIn_of _ (by decide +kernel)) ggX2_carry_X2_floor
theorem dX2_carry_0 : decode cX2_carry 0 = .ok (.aload_n 0, 1) := by decide +kernel
theorem dX2_carry_1 : decode cX2_carry 1 = .ok (.getfield 35, 3) := by decide +kernel
theorem dX2_carry_4 : decode cX2_carry 4 = .ok (.aload_n 0, 1) := by decide +kernel
theorem dX2_carry_5 : decode cX2_carry 5 = .ok (.getfield 25, 3) := by decide +kernel
theorem dX2_carry_8 : decode cX2_carry 8 = .ok (.iload_n 1, 1) := by decide +kernel
theorem dX2_carry_9 : decode cX2_carry 9 = .ok (.daload, 1) := by decide +kernel
theorem dX2_carry_10 : decode cX2_carry 10 = .ok (.dadd, 1) := by decide +kernel
theorem dX2_carry_11 : decode cX2_carry 11 = .ok (.dstore_n 2, 1) := by decide +kernel
theorem dX2_carry_12 : decode cX2_carry 12 = .ok (.aload_n 0, 1) := by decide +kernel
theorem dX2_carry_13 : decode cX2_carry 13 = .ok (.getfield 25, 3) := by decide +kernel
theorem dX2_carry_16 : decode cX2_carry 16 = .ok (.iload_n 1, 1) := by decide +kernel
theorem dX2_carry_17 : decode cX2_carry 17 = .ok (.dload_n 2, 1) := by decide +kernel
theorem dX2_carry_18 : decode cX2_carry 18 = .ok (.invokestatic 116, 3) := by decide +kernel
theorem dX2_carry_21 : decode cX2_carry 21 = .ok (.dastore, 1) := by decide +kernel
theorem dX2_carry_22 : decode cX2_carry 22 = .ok (.aload_n 0, 1) := by decide +kernel
theorem dX2_carry_23 : decode cX2_carry 23 = .ok (.dload_n 2, 1) := by decide +kernel
theorem dX2_carry_24 : decode cX2_carry 24 = .ok (.aload_n 0, 1) := by decide +kernel
theorem dX2_carry_25 : decode cX2_carry 25 = .ok (.getfield 25, 3) := by decide +kernel
theorem dX2_carry_28 : decode cX2_carry 28 = .ok (.iload_n 1, 1) := by decide +kernel
theorem dX2_carry_29 : decode cX2_carry 29 = .ok (.daload, 1) := by decide +kernel
theorem dX2_carry_30 : decode cX2_carry 30 = .ok (.dsub, 1) := by decide +kernel
theorem dX2_carry_31 : decode cX2_carry 31 = .ok (.putfield 35, 3) := by decide +kernel
theorem dX2_carry_34 : decode cX2_carry 34 = .ok (.return_, 1) := by decide +kernel
set_option maxRecDepth 20000 in
theorem ggX2_passDays_X2_even : GoodIn wsX2_passDays wsX2_even := goodIn_r _ [5, 6, 7, 8, 9] (by decide +kernel) (by decide +kernel)
set_option maxRecDepth 20000 in
theorem gX2_passDays_X2_even : GoodIn wsX2_passDays (va_wsS RX2 119 yX2_even wsX2_even) := goodIn_app (goodIn_of _ (by decide +kernel)) ggX2_passDays_X2_even
set_option maxRecDepth 20000 in
theorem ggX2_passDays_X2_within : GoodIn wsX2_passDays wsX2_within := goodIn_r _ [12, 13, 14] (by decide +kernel) (by decide +kernel)
set_option maxRecDepth 20000 in
theorem gX2_passDays_X2_within : GoodIn wsX2_passDays (va_wsS RX2 53 yX2_within wsX2_within) := goodIn_app (goodIn_of _ (by decide +kernel)) ggX2_passDays_X2_within
theorem dX2_passDays_0 : decode cX2_passDays 0 = .ok (.iconst 0, 1) := by decide +kernel
theorem dX2_passDays_1 : decode cX2_passDays 1 = .ok (.istore 5, 2) := by decide +kernel
theorem dX2_passDays_3 : decode cX2_passDays 3 = .ok (.iload 5, 2) := by decide +kernel
theorem dX2_passDays_5 : decode cX2_passDays 5 = .ok (.iload 4, 2) := by decide +kernel
theorem dX2_passDays_7 : decode cX2_passDays 7 = .ok (.if_icmp .ge 36, 3) := by decide +kernel
theorem dX2_passDays_10 : decode cX2_passDays 10 = .ok (.aload_n 0, 1) := by decide +kernel
theorem dX2_passDays_11 : decode cX2_passDays 11 = .ok (.getfield 25, 3) := by decide +kernel
theorem dX2_passDays_14 : decode cX2_passDays 14 = .ok (.iload_n 1, 1) := by decide +kernel
theorem dX2_passDays_15 : decode cX2_passDays 15 = .ok (.aload_n 0, 1) := by decide +kernel
theorem dX2_passDays_16 : decode cX2_passDays 16 = .ok (.getfield 25, 3) := by decide +kernel
theorem dX2_passDays_19 : decode cX2_passDays 19 = .ok (.iload_n 1, 1) := by decide +kernel
theorem dX2_passDays_20 : decode cX2_passDays 20 = .ok (.daload, 1) := by decide +kernel
theorem dX2_passDays_21 : decode cX2_passDays 21 = .ok (.aload_n 0, 1) := by decide +kernel
theorem dX2_passDays_22 : decode cX2_passDays 22 = .ok (.getfield 25, 3) := by decide +kernel
theorem dX2_passDays_25 : decode cX2_passDays 25 = .ok (.iload_n 1, 1) := by decide +kernel
theorem dX2_passDays_26 : decode cX2_passDays 26 = .ok (.daload, 1) := by decide +kernel
theorem dX2_passDays_27 : decode cX2_passDays 27 = .ok (.dload_n 2, 1) := by decide +kernel
theorem dX2_passDays_28 : decode cX2_passDays 28 = .ok (.dmul, 1) := by decide +kernel
theorem dX2_passDays_29 : decode cX2_passDays 29 = .ok (.invokestatic 119, 3) := by decide +kernel
theorem dX2_passDays_32 : decode cX2_passDays 32 = .ok (.dadd, 1) := by decide +kernel
theorem dX2_passDays_33 : decode cX2_passDays 33 = .ok (.invokestatic 53, 3) := by decide +kernel
theorem dX2_passDays_36 : decode cX2_passDays 36 = .ok (.dastore, 1) := by decide +kernel
theorem dX2_passDays_37 : decode cX2_passDays 37 = .ok (.iinc 5 1, 3) := by decide +kernel
theorem dX2_passDays_40 : decode cX2_passDays 40 = .ok (.goto (-37), 3) := by decide +kernel
theorem dX2_passDays_43 : decode cX2_passDays 43 = .ok (.return_, 1) := by decide +kernel
theorem dX2_within_0 : decode cX2_within 0 = .ok (.dload_n 0, 1) := by decide +kernel
theorem dX2_within_1 : decode cX2_within 1 = .ok (.ldc2_w 122, 3) := by decide +kernel
theorem dX2_within_4 : decode cX2_within 4 = .ok (.dcmp .l, 1) := by decide +kernel
theorem dX2_within_5 : decode cX2_within 5 = .ok (.ifCond .le 7, 3) := by decide +kernel
theorem dX2_within_8 : decode cX2_within 8 = .ok (.ldc2_w 122, 3) := by decide +kernel
theorem dX2_within_11 : decode cX2_within 11 = .ok (.dreturn, 1) := by decide +kernel
theorem dX2_within_12 : decode cX2_within 12 = .ok (.dload_n 0, 1) := by decide +kernel
theorem dX2_within_13 : decode cX2_within 13 = .ok (.ldc2_w 124, 3) := by decide +kernel
theorem dX2_within_16 : decode cX2_within 16 = .ok (.dcmp .g, 1) := by decide +kernel
theorem dX2_within_17 : decode cX2_within 17 = .ok (.ifCond .ge 9, 3) := by decide +kernel
theorem dX2_within_20 : decode cX2_within 20 = .ok (.ldc2_w 124, 3) := by decide +kernel
theorem dX2_within_23 : decode cX2_within 23 = .ok (.goto 4, 3) := by decide +kernel
theorem dX2_within_26 : decode cX2_within 26 = .ok (.dload_n 0, 1) := by decide +kernel
theorem dX2_within_27 : decode cX2_within 27 = .ok (.dreturn, 1) := by decide +kernel
set_option maxRecDepth 20000 in
theorem ggX2_rounding_X2_ceil : GoodIn wsX2_rounding wsX2_ceil := goodIn_r _ [5] (by decide +kernel) (by decide +kernel)
set_option maxRecDepth 20000 in
theorem gX2_rounding_X2_ceil : GoodIn wsX2_rounding (va_wsS RX2 128 yX2_ceil wsX2_ceil) := goodIn_app (goodIn_of _ (by decide +kernel)) ggX2_rounding_X2_ceil
set_option maxRecDepth 20000 in
theorem ggX2_rounding_X2_floor : GoodIn wsX2_rounding wsX2_floor := goodIn_r _ [8] (by decide +kernel) (by decide +kernel)
set_option maxRecDepth 20000 in
theorem gX2_rounding_X2_floor : GoodIn wsX2_rounding (va_wsS RX2 116 yX2_floor wsX2_floor) := goodIn_app (goodIn_of _ (by decide +kernel)) ggX2_rounding_X2_floor
set_option maxRecDepth 20000 in
theorem ggX2_rounding_X2_even : GoodIn wsX2_rounding wsX2_even := goodIn_r _ [11, 12, 13, 1, 14] (by decide +kernel) (by decide +kernel)
set_option maxRecDepth 20000 in
theorem gX2_rounding_X2_even : GoodIn wsX2_rounding (va_wsS RX2 119 yX2_even wsX2_even) := goodIn_app (goodIn_of _ (by decide +kernel)) ggX2_rounding_X2_even
theorem dX2_rounding_0 : decode cX2_rounding 0 = .ok (.dload_n 2, 1) := by decide +kernel
theorem dX2_rounding_1 : decode cX2_rounding 1 = .ok (.dconst 0, 1) := by decide +kernel
theorem dX2_rounding_2 : decode cX2_rounding 2 = .ok (.dcmp .l, 1) := by decide +kernel
theorem dX2_rounding_3 : decode cX2_rounding 3 = .ok (.ifCond .le 9, 3) := by decide +kernel
theorem dX2_rounding_6 : decode cX2_rounding 6 = .ok (.dload_n 0, 1) := by decide +kernel
theorem dX2_rounding_7 : decode cX2_rounding 7 = .ok (.dload_n 2, 1) := by decide +kernel
theorem dX2_rounding_8 : decode cX2_rounding 8 = .ok (.ddiv, 1) := by decide +kernel
theorem dX2_rounding_9 : decode cX2_rounding 9 = .ok (.goto 4, 3) := by decide +kernel
theorem dX2_rounding_12 : decode cX2_rounding 12 = .ok (.dload_n 0, 1) := by decide +kernel
theorem dX2_rounding_13 : decode cX2_rounding 13 = .ok (.dstore 5, 2) := by decide +kernel
theorem dX2_rounding_15 : decode cX2_rounding 15 = .ok (.iload 4, 2) := by decide +kernel
theorem dX2_rounding_17 : decode cX2_rounding 17 = .ok (.tableswitch 128 0 4 #[35, 66, 74, 97, 120], 35) := by decide +kernel
theorem dX2_rounding_52 : decode cX2_rounding 52 = .ok (.dload_n 2, 1) := by decide +kernel
theorem dX2_rounding_53 : decode cX2_rounding 53 = .ok (.dload 5, 2) := by decide +kernel
theorem dX2_rounding_55 : decode cX2_rounding 55 = .ok (.dconst 0, 1) := by decide +kernel
theorem dX2_rounding_56 : decode cX2_rounding 56 = .ok (.dcmp .g, 1) := by decide +kernel
theorem dX2_rounding_57 : decode cX2_rounding 57 = .ok (.ifCond .ge 15, 3) := by decide +kernel
theorem dX2_rounding_60 : decode cX2_rounding 60 = .ok (.dload 5, 2) := by decide +kernel
theorem dX2_rounding_62 : decode cX2_rounding 62 = .ok (.ldc2_w 126, 3) := by decide +kernel
theorem dX2_rounding_65 : decode cX2_rounding 65 = .ok (.dsub, 1) := by decide +kernel
theorem dX2_rounding_66 : decode cX2_rounding 66 = .ok (.invokestatic 128, 3) := by decide +kernel
theorem dX2_rounding_69 : decode cX2_rounding 69 = .ok (.goto 12, 3) := by decide +kernel
theorem dX2_rounding_72 : decode cX2_rounding 72 = .ok (.dload 5, 2) := by decide +kernel
theorem dX2_rounding_74 : decode cX2_rounding 74 = .ok (.ldc2_w 126, 3) := by decide +kernel
theorem dX2_rounding_77 : decode cX2_rounding 77 = .ok (.dadd, 1) := by decide +kernel
theorem dX2_rounding_78 : decode cX2_rounding 78 = .ok (.invokestatic 116, 3) := by decide +kernel
theorem dX2_rounding_81 : decode cX2_rounding 81 = .ok (.dmul, 1) := by decide +kernel
theorem dX2_rounding_82 : decode cX2_rounding 82 = .ok (.dreturn, 1) := by decide +kernel
theorem dX2_rounding_83 : decode cX2_rounding 83 = .ok (.dload_n 2, 1) := by decide +kernel
theorem dX2_rounding_84 : decode cX2_rounding 84 = .ok (.dload 5, 2) := by decide +kernel
theorem dX2_rounding_86 : decode cX2_rounding 86 = .ok (.invokestatic 119, 3) := by decide +kernel
theorem dX2_rounding_89 : decode cX2_rounding 89 = .ok (.dmul, 1) := by decide +kernel
theorem dX2_rounding_90 : decode cX2_rounding 90 = .ok (.dreturn, 1) := by decide +kernel
theorem dX2_rounding_91 : decode cX2_rounding 91 = .ok (.dload_n 2, 1) := by decide +kernel
theorem dX2_rounding_92 : decode cX2_rounding 92 = .ok (.dload 5, 2) := by decide +kernel
theorem dX2_rounding_94 : decode cX2_rounding 94 = .ok (.dconst 0, 1) := by decide +kernel
theorem dX2_rounding_95 : decode cX2_rounding 95 = .ok (.dcmp .l, 1) := by decide +kernel
theorem dX2_rounding_96 : decode cX2_rounding 96 = .ok (.ifCond .le 11, 3) := by decide +kernel
theorem dX2_rounding_99 : decode cX2_rounding 99 = .ok (.dload 5, 2) := by decide +kernel
theorem dX2_rounding_101 : decode cX2_rounding 101 = .ok (.invokestatic 116, 3) := by decide +kernel
theorem dX2_rounding_104 : decode cX2_rounding 104 = .ok (.goto 8, 3) := by decide +kernel
theorem dX2_rounding_107 : decode cX2_rounding 107 = .ok (.dload 5, 2) := by decide +kernel
theorem dX2_rounding_109 : decode cX2_rounding 109 = .ok (.invokestatic 128, 3) := by decide +kernel
theorem dX2_rounding_112 : decode cX2_rounding 112 = .ok (.dmul, 1) := by decide +kernel
theorem dX2_rounding_113 : decode cX2_rounding 113 = .ok (.dreturn, 1) := by decide +kernel
theorem dX2_rounding_114 : decode cX2_rounding 114 = .ok (.dload_n 2, 1) := by decide +kernel
theorem dX2_rounding_115 : decode cX2_rounding 115 = .ok (.dload 5, 2) := by decide +kernel
theorem dX2_rounding_117 : decode cX2_rounding 117 = .ok (.dconst 0, 1) := by decide +kernel
theorem dX2_rounding_118 : decode cX2_rounding 118 = .ok (.dcmp .l, 1) := by decide +kernel
theorem dX2_rounding_119 : decode cX2_rounding 119 = .ok (.ifCond .le 11, 3) := by decide +kernel
theorem dX2_rounding_122 : decode cX2_rounding 122 = .ok (.dload 5, 2) := by decide +kernel
theorem dX2_rounding_124 : decode cX2_rounding 124 = .ok (.invokestatic 128, 3) := by decide +kernel
theorem dX2_rounding_127 : decode cX2_rounding 127 = .ok (.goto 8, 3) := by decide +kernel
theorem dX2_rounding_130 : decode cX2_rounding 130 = .ok (.dload 5, 2) := by decide +kernel
theorem dX2_rounding_132 : decode cX2_rounding 132 = .ok (.invokestatic 116, 3) := by decide +kernel
theorem dX2_rounding_135 : decode cX2_rounding 135 = .ok (.dmul, 1) := by decide +kernel
theorem dX2_rounding_136 : decode cX2_rounding 136 = .ok (.dreturn, 1) := by decide +kernel
theorem dX2_rounding_137 : decode cX2_rounding 137 = .ok (.dload_n 2, 1) := by decide +kernel
theorem dX2_rounding_138 : decode cX2_rounding 138 = .ok (.dload 5, 2) := by decide +kernel
theorem dX2_rounding_140 : decode cX2_rounding 140 = .ok (.invokestatic 116, 3) := by decide +kernel
theorem dX2_rounding_143 : decode cX2_rounding 143 = .ok (.dmul, 1) := by decide +kernel
theorem dX2_rounding_144 : decode cX2_rounding 144 = .ok (.dreturn, 1) := by decide +kernel
theorem dX2_rounding_145 : decode cX2_rounding 145 = .ok (.dload_n 2, 1) := by decide +kernel
theorem dX2_rounding_146 : decode cX2_rounding 146 = .ok (.dload 5, 2) := by decide +kernel
theorem dX2_rounding_148 : decode cX2_rounding 148 = .ok (.invokestatic 128, 3) := by decide +kernel
theorem dX2_rounding_151 : decode cX2_rounding 151 = .ok (.dmul, 1) := by decide +kernel
theorem dX2_rounding_152 : decode cX2_rounding 152 = .ok (.dreturn, 1) := by decide +kernel
theorem dX2_floor_0 : decode cX2_floor 0 = .ok (.dload_n 0, 1) := by decide +kernel
theorem dX2_floor_1 : decode cX2_floor 1 = .ok (.d2l, 1) := by decide +kernel
theorem dX2_floor_2 : decode cX2_floor 2 = .ok (.l2d, 1) := by decide +kernel
theorem dX2_floor_3 : decode cX2_floor 3 = .ok (.dstore_n 2, 1) := by decide +kernel
theorem dX2_floor_4 : decode cX2_floor 4 = .ok (.dload_n 2, 1) := by decide +kernel
theorem dX2_floor_5 : decode cX2_floor 5 = .ok (.dload_n 0, 1) := by decide +kernel
theorem dX2_floor_6 : decode cX2_floor 6 = .ok (.dcmp .l, 1) := by decide +kernel
theorem dX2_floor_7 : decode cX2_floor 7 = .ok (.ifCond .le 9, 3) := by decide +kernel
theorem dX2_floor_10 : decode cX2_floor 10 = .ok (.dload_n 2, 1) := by decide +kernel
theorem dX2_floor_11 : decode cX2_floor 11 = .ok (.dconst 1, 1) := by decide +kernel
theorem dX2_floor_12 : decode cX2_floor 12 = .ok (.dsub, 1) := by decide +kernel
theorem dX2_floor_13 : decode cX2_floor 13 = .ok (.goto 4, 3) := by decide +kernel
theorem dX2_floor_16 : decode cX2_floor 16 = .ok (.dload_n 2, 1) := by decide +kernel
theorem dX2_floor_17 : decode cX2_floor 17 = .ok (.dreturn, 1) := by decide +kernel
theorem dX2_ceil_0 : decode cX2_ceil 0 = .ok (.dload_n 0, 1) := by decide +kernel
theorem dX2_ceil_1 : decode cX2_ceil 1 = .ok (.d2l, 1) := by decide +kernel
theorem dX2_ceil_2 : decode cX2_ceil 2 = .ok (.l2d, 1) := by decide +kernel
theorem dX2_ceil_3 : decode cX2_ceil 3 = .ok (.dstore_n 2, 1) := by decide +kernel
theorem dX2_ceil_4 : decode cX2_ceil 4 = .ok (.dload_n 2, 1) := by decide +kernel
theorem dX2_ceil_5 : decode cX2_ceil 5 = .ok (.dload_n 0, 1) := by decide +kernel
theorem dX2_ceil_6 : decode cX2_ceil 6 = .ok (.dcmp .g, 1) := by decide +kernel
theorem dX2_ceil_7 : decode cX2_ceil 7 = .ok (.ifCond .ge 9, 3) := by decide +kernel
theorem dX2_ceil_10 : decode cX2_ceil 10 = .ok (.dload_n 2, 1) := by decide +kernel
theorem dX2_ceil_11 : decode cX2_ceil 11 = .ok (.dconst 1, 1) := by decide +kernel
theorem dX2_ceil_12 : decode cX2_ceil 12 = .ok (.dadd, 1) := by decide +kernel
theorem dX2_ceil_13 : decode cX2_ceil 13 = .ok (.goto 4, 3) := by decide +kernel
theorem dX2_ceil_16 : decode cX2_ceil 16 = .ok (.dload_n 2, 1) := by decide +kernel
theorem dX2_ceil_17 : decode cX2_ceil 17 = .ok (.dreturn, 1) := by decide +kernel
theorem dX2_even_0 : decode cX2_even 0 = .ok (.dload_n 0, 1) := by decide +kernel
theorem dX2_even_1 : decode cX2_even 1 = .ok (.ldc2_w 131, 3) := by decide +kernel
theorem dX2_even_4 : decode cX2_even 4 = .ok (.dcmp .l, 1) := by decide +kernel
theorem dX2_even_5 : decode cX2_even 5 = .ok (.ifCond .ge 11, 3) := by decide +kernel
theorem dX2_even_8 : decode cX2_even 8 = .ok (.dload_n 0, 1) := by decide +kernel
theorem dX2_even_9 : decode cX2_even 9 = .ok (.ldc2_w 133, 3) := by decide +kernel
theorem dX2_even_12 : decode cX2_even 12 = .ok (.dcmp .g, 1) := by decide +kernel
theorem dX2_even_13 : decode cX2_even 13 = .ok (.ifCond .gt 5, 3) := by decide +kernel
theorem dX2_even_16 : decode cX2_even 16 = .ok (.dload_n 0, 1) := by decide +kernel
theorem dX2_even_17 : decode cX2_even 17 = .ok (.dreturn, 1) := by decide +kernel
theorem dX2_even_18 : decode cX2_even 18 = .ok (.dload_n 0, 1) := by decide +kernel
theorem dX2_even_19 : decode cX2_even 19 = .ok (.dconst 0, 1) := by decide +kernel
theorem dX2_even_20 : decode cX2_even 20 = .ok (.dcmp .g, 1) := by decide +kernel
theorem dX2_even_21 : decode cX2_even 21 = .ok (.ifCond .ge 8, 3) := by decide +kernel
theorem dX2_even_24 : decode cX2_even 24 = .ok (.dload_n 0, 1) := by decide +kernel
theorem dX2_even_25 : decode cX2_even 25 = .ok (.dneg, 1) := by decide +kernel
theorem dX2_even_26 : decode cX2_even 26 = .ok (.goto 4, 3) := by decide +kernel
theorem dX2_even_29 : decode cX2_even 29 = .ok (.dload_n 0, 1) := by decide +kernel
theorem dX2_even_30 : decode cX2_even 30 = .ok (.dstore_n 2, 1) := by decide +kernel
theorem dX2_even_31 : decode cX2_even 31 = .ok (.dload_n 2, 1) := by decide +kernel
theorem dX2_even_32 : decode cX2_even 32 = .ok (.d2l, 1) := by decide +kernel
theorem dX2_even_33 : decode cX2_even 33 = .ok (.lstore 4, 2) := by decide +kernel
theorem dX2_even_35 : decode cX2_even 35 = .ok (.dload_n 2, 1) := by decide +kernel
theorem dX2_even_36 : decode cX2_even 36 = .ok (.lload 4, 2) := by decide +kernel
theorem dX2_even_38 : decode cX2_even 38 = .ok (.l2d, 1) := by decide +kernel
theorem dX2_even_39 : decode cX2_even 39 = .ok (.dsub, 1) := by decide +kernel
theorem dX2_even_40 : decode cX2_even 40 = .ok (.dstore 6, 2) := by decide +kernel
theorem dX2_even_42 : decode cX2_even 42 = .ok (.dload 6, 2) := by decide +kernel
theorem dX2_even_44 : decode cX2_even 44 = .ok (.ldc2_w 126, 3) := by decide +kernel
theorem dX2_even_47 : decode cX2_even 47 = .ok (.dcmp .l, 1) := by decide +kernel
theorem dX2_even_48 : decode cX2_even 48 = .ok (.ifCond .gt 23, 3) := by decide +kernel
theorem dX2_even_51 : decode cX2_even 51 = .ok (.dload 6, 2) := by decide +kernel
theorem dX2_even_53 : decode cX2_even 53 = .ok (.ldc2_w 126, 3) := by decide +kernel
theorem dX2_even_56 : decode cX2_even 56 = .ok (.dcmp .l, 1) := by decide +kernel
theorem dX2_even_57 : decode cX2_even 57 = .ok (.ifCond .ne 20, 3) := by decide +kernel
theorem dX2_even_60 : decode cX2_even 60 = .ok (.lload 4, 2) := by decide +kernel
theorem dX2_even_62 : decode cX2_even 62 = .ok (.ldc2_w 135, 3) := by decide +kernel
theorem dX2_even_65 : decode cX2_even 65 = .ok (.lrem, 1) := by decide +kernel
theorem dX2_even_66 : decode cX2_even 66 = .ok (.lconst 0, 1) := by decide +kernel
theorem dX2_even_67 : decode cX2_even 67 = .ok (.lcmp, 1) := by decide +kernel
theorem dX2_even_68 : decode cX2_even 68 = .ok (.ifCond .eq 9, 3) := by decide +kernel
theorem dX2_even_71 : decode cX2_even 71 = .ok (.lload 4, 2) := by decide +kernel
theorem dX2_even_73 : decode cX2_even 73 = .ok (.lconst 1, 1) := by decide +kernel
theorem dX2_even_74 : decode cX2_even 74 = .ok (.ladd, 1) := by decide +kernel
theorem dX2_even_75 : decode cX2_even 75 = .ok (.lstore 4, 2) := by decide +kernel
theorem dX2_even_77 : decode cX2_even 77 = .ok (.dload_n 0, 1) := by decide +kernel
theorem dX2_even_78 : decode cX2_even 78 = .ok (.dconst 0, 1) := by decide +kernel
theorem dX2_even_79 : decode cX2_even 79 = .ok (.dcmp .g, 1) := by decide +kernel
theorem dX2_even_80 : decode cX2_even 80 = .ok (.ifCond .ge 10, 3) := by decide +kernel
theorem dX2_even_83 : decode cX2_even 83 = .ok (.lload 4, 2) := by decide +kernel
theorem dX2_even_85 : decode cX2_even 85 = .ok (.l2d, 1) := by decide +kernel
theorem dX2_even_86 : decode cX2_even 86 = .ok (.dneg, 1) := by decide +kernel
theorem dX2_even_87 : decode cX2_even 87 = .ok (.goto 6, 3) := by decide +kernel
theorem dX2_even_90 : decode cX2_even 90 = .ok (.lload 4, 2) := by decide +kernel
theorem dX2_even_92 : decode cX2_even 92 = .ok (.l2d, 1) := by decide +kernel
theorem dX2_even_93 : decode cX2_even 93 = .ok (.dreturn, 1) := by decide +kernel
theorem dX3_rounding_0 : decode cX3_rounding 0 = .ok (.lload_n 2, 1) := by decide +kernel
theorem dX3_rounding_1 : decode cX3_rounding 1 = .ok (.lload 4, 2) := by decide +kernel
theorem dX3_rounding_3 : decode cX3_rounding 3 = .ok (.lmul, 1) := by decide +kernel
theorem dX3_rounding_4 : decode cX3_rounding 4 = .ok (.lstore 7, 2) := by decide +kernel
theorem dX3_rounding_6 : decode cX3_rounding 6 = .ok (.lload 7, 2) := by decide +kernel
theorem dX3_rounding_8 : decode cX3_rounding 8 = .ok (.lconst 0, 1) := by decide +kernel
theorem dX3_rounding_9 : decode cX3_rounding 9 = .ok (.lcmp, 1) := by decide +kernel
theorem dX3_rounding_10 : decode cX3_rounding 10 = .ok (.ifCond .gt 5, 3) := by decide +kernel
theorem dX3_rounding_13 : decode cX3_rounding 13 = .ok (.lconst 0, 1) := by decide +kernel
theorem dX3_rounding_14 : decode cX3_rounding 14 = .ok (.lreturn, 1) := by decide +kernel
theorem dX3_rounding_15 : decode cX3_rounding 15 = .ok (.lload_n 0, 1) := by decide +kernel
theorem dX3_rounding_16 : decode cX3_rounding 16 = .ok (.lload 7, 2) := by decide +kernel
theorem dX3_rounding_18 : decode cX3_rounding 18 = .ok (.ldiv, 1) := by decide +kernel
theorem dX3_rounding_19 : decode cX3_rounding 19 = .ok (.lstore 9, 2) := by decide +kernel
theorem dX3_rounding_21 : decode cX3_rounding 21 = .ok (.lload_n 0, 1) := by decide +kernel
theorem dX3_rounding_22 : decode cX3_rounding 22 = .ok (.lload 7, 2) := by decide +kernel
theorem dX3_rounding_24 : decode cX3_rounding 24 = .ok (.lrem, 1) := by decide +kernel
theorem dX3_rounding_25 : decode cX3_rounding 25 = .ok (.lstore 11, 2) := by decide +kernel
theorem dX3_rounding_27 : decode cX3_rounding 27 = .ok (.lload 11, 2) := by decide +kernel
theorem dX3_rounding_29 : decode cX3_rounding 29 = .ok (.lconst 0, 1) := by decide +kernel
theorem dX3_rounding_30 : decode cX3_rounding 30 = .ok (.lcmp, 1) := by decide +kernel
theorem dX3_rounding_31 : decode cX3_rounding 31 = .ok (.ifCond .ge 16, 3) := by decide +kernel
theorem dX3_rounding_34 : decode cX3_rounding 34 = .ok (.lload 11, 2) := by decide +kernel
theorem dX3_rounding_36 : decode cX3_rounding 36 = .ok (.lload 7, 2) := by decide +kernel
theorem dX3_rounding_38 : decode cX3_rounding 38 = .ok (.ladd, 1) := by decide +kernel
theorem dX3_rounding_39 : decode cX3_rounding 39 = .ok (.lstore 11, 2) := by decide +kernel
theorem dX3_rounding_41 : decode cX3_rounding 41 = .ok (.lload 9, 2) := by decide +kernel
theorem dX3_rounding_43 : decode cX3_rounding 43 = .ok (.lconst 1, 1) := by decide +kernel
theorem dX3_rounding_44 : decode cX3_rounding 44 = .ok (.lsub, 1) := by decide +kernel
theorem dX3_rounding_45 : decode cX3_rounding 45 = .ok (.lstore 9, 2) := by decide +kernel
theorem dX3_rounding_47 : decode cX3_rounding 47 = .ok (.lload 11, 2) := by decide +kernel
theorem dX3_rounding_49 : decode cX3_rounding 49 = .ok (.lconst 0, 1) := by decide +kernel
theorem dX3_rounding_50 : decode cX3_rounding 50 = .ok (.lcmp, 1) := by decide +kernel
theorem dX3_rounding_51 : decode cX3_rounding 51 = .ok (.ifCond .ne 9, 3) := by decide +kernel
theorem dX3_rounding_54 : decode cX3_rounding 54 = .ok (.lload 9, 2) := by decide +kernel
theorem dX3_rounding_56 : decode cX3_rounding 56 = .ok (.lload 4, 2) := by decide +kernel
theorem dX3_rounding_58 : decode cX3_rounding 58 = .ok (.lmul, 1) := by decide +kernel
theorem dX3_rounding_59 : decode cX3_rounding 59 = .ok (.lreturn, 1) := by decide +kernel
theorem dX3_rounding_60 : decode cX3_rounding 60 = .ok (.iload 6, 2) := by decide +kernel
theorem dX3_rounding_62 : decode cX3_rounding 62 = .ok (.iconst 1, 1) := by decide +kernel
theorem dX3_rounding_63 : decode cX3_rounding 63 = .ok (.if_icmp .gt 37, 3) := by decide +kernel
theorem dX3_rounding_66 : decode cX3_rounding 66 = .ok (.ldc2_w 9, 3) := by decide +kernel
theorem dX3_rounding_69 : decode cX3_rounding 69 = .ok (.lload 11, 2) := by decide +kernel
theorem dX3_rounding_71 : decode cX3_rounding 71 = .ok (.lmul, 1) := by decide +kernel
theorem dX3_rounding_72 : decode cX3_rounding 72 = .ok (.lload 7, 2) := by decide +kernel
theorem dX3_rounding_74 : decode cX3_rounding 74 = .ok (.lcmp, 1) := by decide +kernel
theorem dX3_rounding_75 : decode cX3_rounding 75 = .ok (.ifCond .eq 25, 3) := by decide +kernel
theorem dX3_rounding_78 : decode cX3_rounding 78 = .ok (.ldc2_w 9, 3) := by decide +kernel
theorem dX3_rounding_81 : decode cX3_rounding 81 = .ok (.lload 11, 2) := by decide +kernel
theorem dX3_rounding_83 : decode cX3_rounding 83 = .ok (.lmul, 1) := by decide +kernel
theorem dX3_rounding_84 : decode cX3_rounding 84 = .ok (.lload 7, 2) := by decide +kernel
theorem dX3_rounding_86 : decode cX3_rounding 86 = .ok (.lcmp, 1) := by decide +kernel
theorem dX3_rounding_87 : decode cX3_rounding 87 = .ok (.ifCond .le 7, 3) := by decide +kernel
theorem dX3_rounding_90 : decode cX3_rounding 90 = .ok (.iconst 1, 1) := by decide +kernel
theorem dX3_rounding_91 : decode cX3_rounding 91 = .ok (.goto 4, 3) := by decide +kernel
theorem dX3_rounding_94 : decode cX3_rounding 94 = .ok (.iconst 0, 1) := by decide +kernel
theorem dX3_rounding_95 : decode cX3_rounding 95 = .ok (.istore 13, 2) := by decide +kernel
theorem dX3_rounding_97 : decode cX3_rounding 97 = .ok (.goto 92, 3) := by decide +kernel
theorem dX3_rounding_100 : decode cX3_rounding 100 = .ok (.iload 6, 2) := by decide +kernel
theorem dX3_rounding_102 : decode cX3_rounding 102 = .ok (.iconst 1, 1) := by decide +kernel
theorem dX3_rounding_103 : decode cX3_rounding 103 = .ok (.if_icmp .ne 24, 3) := by decide +kernel
theorem dX3_rounding_106 : decode cX3_rounding 106 = .ok (.lload 9, 2) := by decide +kernel
theorem dX3_rounding_108 : decode cX3_rounding 108 = .ok (.ldc2_w 9, 3) := by decide +kernel
theorem dX3_rounding_111 : decode cX3_rounding 111 = .ok (.lrem, 1) := by decide +kernel
theorem dX3_rounding_112 : decode cX3_rounding 112 = .ok (.lconst 0, 1) := by decide +kernel
theorem dX3_rounding_113 : decode cX3_rounding 113 = .ok (.lcmp, 1) := by decide +kernel
theorem dX3_rounding_114 : decode cX3_rounding 114 = .ok (.ifCond .eq 7, 3) := by decide +kernel
theorem dX3_rounding_117 : decode cX3_rounding 117 = .ok (.iconst 1, 1) := by decide +kernel
theorem dX3_rounding_118 : decode cX3_rounding 118 = .ok (.goto 4, 3) := by decide +kernel
theorem dX3_rounding_121 : decode cX3_rounding 121 = .ok (.iconst 0, 1) := by decide +kernel
theorem dX3_rounding_122 : decode cX3_rounding 122 = .ok (.istore 13, 2) := by decide +kernel
theorem dX3_rounding_124 : decode cX3_rounding 124 = .ok (.goto 65, 3) := by decide +kernel
theorem dX3_rounding_127 : decode cX3_rounding 127 = .ok (.iload 6, 2) := by decide +kernel
theorem dX3_rounding_129 : decode cX3_rounding 129 = .ok (.ifCond .eq 9, 3) := by decide +kernel
theorem dX3_rounding_132 : decode cX3_rounding 132 = .ok (.iload 6, 2) := by decide +kernel
theorem dX3_rounding_134 : decode cX3_rounding 134 = .ok (.iconst 3, 1) := by decide +kernel
theorem dX3_rounding_135 : decode cX3_rounding 135 = .ok (.if_icmp .ne 19, 3) := by decide +kernel
theorem dX3_rounding_138 : decode cX3_rounding 138 = .ok (.lload_n 0, 1) := by decide +kernel
theorem dX3_rounding_139 : decode cX3_rounding 139 = .ok (.lconst 0, 1) := by decide +kernel
theorem dX3_rounding_140 : decode cX3_rounding 140 = .ok (.lcmp, 1) := by decide +kernel
theorem dX3_rounding_141 : decode cX3_rounding 141 = .ok (.ifCond .le 7, 3) := by decide +kernel
theorem dX3_rounding_144 : decode cX3_rounding 144 = .ok (.iconst 1, 1) := by decide +kernel
theorem dX3_rounding_145 : decode cX3_rounding 145 = .ok (.goto 4, 3) := by decide +kernel
theorem dX3_rounding_148 : decode cX3_rounding 148 = .ok (.iconst 0, 1) := by decide +kernel
theorem dX3_rounding_149 : decode cX3_rounding 149 = .ok (.istore 13, 2) := by decide +kernel
theorem dX3_rounding_151 : decode cX3_rounding 151 = .ok (.goto 38, 3) := by decide +kernel
theorem dX3_rounding_154 : decode cX3_rounding 154 = .ok (.iload 6, 2) := by decide +kernel
theorem dX3_rounding_156 : decode cX3_rounding 156 = .ok (.iconst 2, 1) := by decide +kernel
theorem dX3_rounding_157 : decode cX3_rounding 157 = .ok (.if_icmp .ne 19, 3) := by decide +kernel
theorem dX3_rounding_160 : decode cX3_rounding 160 = .ok (.lload_n 0, 1) := by decide +kernel
theorem dX3_rounding_161 : decode cX3_rounding 161 = .ok (.lconst 0, 1) := by decide +kernel
theorem dX3_rounding_162 : decode cX3_rounding 162 = .ok (.lcmp, 1) := by decide +kernel
theorem dX3_rounding_163 : decode cX3_rounding 163 = .ok (.ifCond .ge 7, 3) := by decide +kernel
theorem dX3_rounding_166 : decode cX3_rounding 166 = .ok (.iconst 1, 1) := by decide +kernel
theorem dX3_rounding_167 : decode cX3_rounding 167 = .ok (.goto 4, 3) := by decide +kernel
theorem dX3_rounding_170 : decode cX3_rounding 170 = .ok (.iconst 0, 1) := by decide +kernel
theorem dX3_rounding_171 : decode cX3_rounding 171 = .ok (.istore 13, 2) := by decide +kernel
theorem dX3_rounding_173 : decode cX3_rounding 173 = .ok (.goto 16, 3) := by decide +kernel
theorem dX3_rounding_176 : decode cX3_rounding 176 = .ok (.iload 6, 2) := by decide +kernel
theorem dX3_rounding_178 : decode cX3_rounding 178 = .ok (.iconst 5, 1) := by decide +kernel
theorem dX3_rounding_179 : decode cX3_rounding 179 = .ok (.if_icmp .ne 7, 3) := by decide +kernel
theorem dX3_rounding_182 : decode cX3_rounding 182 = .ok (.iconst 1, 1) := by decide +kernel
theorem dX3_rounding_183 : decode cX3_rounding 183 = .ok (.goto 4, 3) := by decide +kernel
theorem dX3_rounding_186 : decode cX3_rounding 186 = .ok (.iconst 0, 1) := by decide +kernel
theorem dX3_rounding_187 : decode cX3_rounding 187 = .ok (.istore 13, 2) := by decide +kernel
theorem dX3_rounding_189 : decode cX3_rounding 189 = .ok (.iload 13, 2) := by decide +kernel
theorem dX3_rounding_191 : decode cX3_rounding 191 = .ok (.ifCond .eq 13, 3) := by decide +kernel
theorem dX3_rounding_194 : decode cX3_rounding 194 = .ok (.lload 9, 2) := by decide +kernel
theorem dX3_rounding_196 : decode cX3_rounding 196 = .ok (.lconst 1, 1) := by decide +kernel
theorem dX3_rounding_197 : decode cX3_rounding 197 = .ok (.ladd, 1) := by decide +kernel
theorem dX3_rounding_198 : decode cX3_rounding 198 = .ok (.lload 4, 2) := by decide +kernel
theorem dX3_rounding_200 : decode cX3_rounding 200 = .ok (.lmul, 1) := by decide +kernel
theorem dX3_rounding_201 : decode cX3_rounding 201 = .ok (.goto 8, 3) := by decide +kernel
theorem dX3_rounding_204 : decode cX3_rounding 204 = .ok (.lload 9, 2) := by decide +kernel
theorem dX3_rounding_206 : decode cX3_rounding 206 = .ok (.lload 4, 2) := by decide +kernel
theorem dX3_rounding_208 : decode cX3_rounding 208 = .ok (.lmul, 1) := by decide +kernel
theorem dX3_rounding_209 : decode cX3_rounding 209 = .ok (.lreturn, 1) := by decide +kernel
theorem dX3_divisor_0 : decode cX3_divisor 0 = .ok (.lload_n 0, 1) := by decide +kernel
theorem dX3_divisor_1 : decode cX3_divisor 1 = .ok (.lconst 0, 1) := by decide +kernel
theorem dX3_divisor_2 : decode cX3_divisor 2 = .ok (.lcmp, 1) := by decide +kernel
theorem dX3_divisor_3 : decode cX3_divisor 3 = .ok (.ifCond .ge 8, 3) := by decide +kernel
theorem dX3_divisor_6 : decode cX3_divisor 6 = .ok (.lload_n 0, 1) := by decide +kernel
theorem dX3_divisor_7 : decode cX3_divisor 7 = .ok (.lneg, 1) := by decide +kernel
theorem dX3_divisor_8 : decode cX3_divisor 8 = .ok (.goto 4, 3) := by decide +kernel
theorem dX3_divisor_11 : decode cX3_divisor 11 = .ok (.lload_n 0, 1) := by decide +kernel
theorem dX3_divisor_12 : decode cX3_divisor 12 = .ok (.lstore 4, 2) := by decide +kernel
theorem dX3_divisor_14 : decode cX3_divisor 14 = .ok (.lload_n 2, 1) := by decide +kernel
theorem dX3_divisor_15 : decode cX3_divisor 15 = .ok (.lstore 6, 2) := by decide +kernel
theorem dX3_divisor_17 : decode cX3_divisor 17 = .ok (.iconst 0, 1) := by decide +kernel
theorem dX3_divisor_18 : decode cX3_divisor 18 = .ok (.istore 8, 2) := by decide +kernel
theorem dX3_divisor_20 : decode cX3_divisor 20 = .ok (.iload 8, 2) := by decide +kernel
theorem dX3_divisor_22 : decode cX3_divisor 22 = .ok (.bipush 100, 2) := by decide +kernel
theorem dX3_divisor_24 : decode cX3_divisor 24 = .ok (.if_icmp .ge 31, 3) := by decide +kernel
theorem dX3_divisor_27 : decode cX3_divisor 27 = .ok (.lload 6, 2) := by decide +kernel
theorem dX3_divisor_29 : decode cX3_divisor 29 = .ok (.lconst 0, 1) := by decide +kernel
theorem dX3_divisor_30 : decode cX3_divisor 30 = .ok (.lcmp, 1) := by decide +kernel
theorem dX3_divisor_31 : decode cX3_divisor 31 = .ok (.ifCond .eq 24, 3) := by decide +kernel
theorem dX3_divisor_34 : decode cX3_divisor 34 = .ok (.lload 4, 2) := by decide +kernel
theorem dX3_divisor_36 : decode cX3_divisor 36 = .ok (.lload 6, 2) := by decide +kernel
theorem dX3_divisor_38 : decode cX3_divisor 38 = .ok (.lrem, 1) := by decide +kernel
theorem dX3_divisor_39 : decode cX3_divisor 39 = .ok (.lstore 9, 2) := by decide +kernel
theorem dX3_divisor_41 : decode cX3_divisor 41 = .ok (.lload 6, 2) := by decide +kernel
theorem dX3_divisor_43 : decode cX3_divisor 43 = .ok (.lstore 4, 2) := by decide +kernel
theorem dX3_divisor_45 : decode cX3_divisor 45 = .ok (.lload 9, 2) := by decide +kernel
theorem dX3_divisor_47 : decode cX3_divisor 47 = .ok (.lstore 6, 2) := by decide +kernel
theorem dX3_divisor_49 : decode cX3_divisor 49 = .ok (.iinc 8 1, 3) := by decide +kernel
theorem dX3_divisor_52 : decode cX3_divisor 52 = .ok (.goto (-32), 3) := by decide +kernel
theorem dX3_divisor_55 : decode cX3_divisor 55 = .ok (.lload 4, 2) := by decide +kernel
theorem dX3_divisor_57 : decode cX3_divisor 57 = .ok (.lconst 0, 1) := by decide +kernel
theorem dX3_divisor_58 : decode cX3_divisor 58 = .ok (.lcmp, 1) := by decide +kernel
theorem dX3_divisor_59 : decode cX3_divisor 59 = .ok (.ifCond .le 8, 3) := by decide +kernel
theorem dX3_divisor_62 : decode cX3_divisor 62 = .ok (.lload 4, 2) := by decide +kernel
theorem dX3_divisor_64 : decode cX3_divisor 64 = .ok (.goto 4, 3) := by decide +kernel
theorem dX3_divisor_67 : decode cX3_divisor 67 = .ok (.lconst 1, 1) := by decide +kernel
theorem dX3_divisor_68 : decode cX3_divisor 68 = .ok (.lreturn, 1) := by decide +kernel
theorem dX3_isSpent_0 : decode cX3_isSpent 0 = .ok (.lload_n 0, 1) := by decide +kernel
theorem dX3_isSpent_1 : decode cX3_isSpent 1 = .ok (.ldc2_w 11, 3) := by decide +kernel
theorem dX3_isSpent_4 : decode cX3_isSpent 4 = .ok (.lcmp, 1) := by decide +kernel
theorem dX3_isSpent_5 : decode cX3_isSpent 5 = .ok (.ifCond .gt 19, 3) := by decide +kernel
theorem dX3_isSpent_8 : decode cX3_isSpent 8 = .ok (.lload_n 0, 1) := by decide +kernel
theorem dX3_isSpent_9 : decode cX3_isSpent 9 = .ok (.ldc2_w 13, 3) := by decide +kernel
theorem dX3_isSpent_12 : decode cX3_isSpent 12 = .ok (.lcmp, 1) := by decide +kernel
theorem dX3_isSpent_13 : decode cX3_isSpent 13 = .ok (.ifCond .lt 11, 3) := by decide +kernel
theorem dX3_isSpent_16 : decode cX3_isSpent 16 = .ok (.lload_n 2, 1) := by decide +kernel
theorem dX3_isSpent_17 : decode cX3_isSpent 17 = .ok (.ldc2_w 15, 3) := by decide +kernel
theorem dX3_isSpent_20 : decode cX3_isSpent 20 = .ok (.lcmp, 1) := by decide +kernel
theorem dX3_isSpent_21 : decode cX3_isSpent 21 = .ok (.ifCond .le 7, 3) := by decide +kernel
theorem dX3_isSpent_24 : decode cX3_isSpent 24 = .ok (.iconst 1, 1) := by decide +kernel
theorem dX3_isSpent_25 : decode cX3_isSpent 25 = .ok (.goto 4, 3) := by decide +kernel
theorem dX3_isSpent_28 : decode cX3_isSpent 28 = .ok (.iconst 0, 1) := by decide +kernel
theorem dX3_isSpent_29 : decode cX3_isSpent 29 = .ok (.ireturn, 1) := by decide +kernel
theorem dX4_init_0 : decode cX4_init 0 = .ok (.aload_n 0, 1) := by decide +kernel
theorem dX4_init_1 : decode cX4_init 1 = .ok (.invokespecial 3, 3) := by decide +kernel
theorem dX4_init_4 : decode cX4_init 4 = .ok (.aload_n 0, 1) := by decide +kernel
theorem dX4_init_5 : decode cX4_init 5 = .ok (.bipush 8, 2) := by decide +kernel
theorem dX4_init_7 : decode cX4_init 7 = .ok (.newarray .long, 2) := by decide +kernel
theorem dX4_init_9 : decode cX4_init 9 = .ok (.putfield 9, 3) := by decide +kernel
theorem dX4_init_12 : decode cX4_init 12 = .ok (.return_, 1) := by decide +kernel
theorem dX4_reset_0 : decode cX4_reset 0 = .ok (.iconst 0, 1) := by decide +kernel
theorem dX4_reset_1 : decode cX4_reset 1 = .ok (.istore_n 1, 1) := by decide +kernel
theorem dX4_reset_2 : decode cX4_reset 2 = .ok (.iload_n 1, 1) := by decide +kernel
theorem dX4_reset_3 : decode cX4_reset 3 = .ok (.bipush 8, 2) := by decide +kernel
theorem dX4_reset_5 : decode cX4_reset 5 = .ok (.if_icmp .ge 16, 3) := by decide +kernel
theorem dX4_reset_8 : decode cX4_reset 8 = .ok (.aload_n 0, 1) := by decide +kernel
theorem dX4_reset_9 : decode cX4_reset 9 = .ok (.getfield 9, 3) := by decide +kernel
theorem dX4_reset_12 : decode cX4_reset 12 = .ok (.iload_n 1, 1) := by decide +kernel
theorem dX4_reset_13 : decode cX4_reset 13 = .ok (.lconst 0, 1) := by decide +kernel
theorem dX4_reset_14 : decode cX4_reset 14 = .ok (.lastore, 1) := by decide +kernel
theorem dX4_reset_15 : decode cX4_reset 15 = .ok (.iinc 1 1, 3) := by decide +kernel
theorem dX4_reset_18 : decode cX4_reset 18 = .ok (.goto (-16), 3) := by decide +kernel
theorem dX4_reset_21 : decode cX4_reset 21 = .ok (.aload_n 0, 1) := by decide +kernel
theorem dX4_reset_22 : decode cX4_reset 22 = .ok (.iconst 0, 1) := by decide +kernel
theorem dX4_reset_23 : decode cX4_reset 23 = .ok (.putfield 15, 3) := by decide +kernel
theorem dX4_reset_26 : decode cX4_reset 26 = .ok (.return_, 1) := by decide +kernel
theorem dX4_become_0 : decode cX4_become 0 = .ok (.iconst 0, 1) := by decide +kernel
theorem dX4_become_1 : decode cX4_become 1 = .ok (.istore_n 2, 1) := by decide +kernel
theorem dX4_become_2 : decode cX4_become 2 = .ok (.iload_n 2, 1) := by decide +kernel
theorem dX4_become_3 : decode cX4_become 3 = .ok (.bipush 8, 2) := by decide +kernel
theorem dX4_become_5 : decode cX4_become 5 = .ok (.if_icmp .ge 21, 3) := by decide +kernel
theorem dX4_become_8 : decode cX4_become 8 = .ok (.aload_n 0, 1) := by decide +kernel
theorem dX4_become_9 : decode cX4_become 9 = .ok (.getfield 9, 3) := by decide +kernel
theorem dX4_become_12 : decode cX4_become 12 = .ok (.iload_n 2, 1) := by decide +kernel
theorem dX4_become_13 : decode cX4_become 13 = .ok (.aload_n 1, 1) := by decide +kernel
theorem dX4_become_14 : decode cX4_become 14 = .ok (.getfield 9, 3) := by decide +kernel
theorem dX4_become_17 : decode cX4_become 17 = .ok (.iload_n 2, 1) := by decide +kernel
theorem dX4_become_18 : decode cX4_become 18 = .ok (.laload, 1) := by decide +kernel
theorem dX4_become_19 : decode cX4_become 19 = .ok (.lastore, 1) := by decide +kernel
theorem dX4_become_20 : decode cX4_become 20 = .ok (.iinc 2 1, 3) := by decide +kernel
theorem dX4_become_23 : decode cX4_become 23 = .ok (.goto (-21), 3) := by decide +kernel
theorem dX4_become_26 : decode cX4_become 26 = .ok (.aload_n 0, 1) := by decide +kernel
theorem dX4_become_27 : decode cX4_become 27 = .ok (.aload_n 1, 1) := by decide +kernel
theorem dX4_become_28 : decode cX4_become 28 = .ok (.getfield 15, 3) := by decide +kernel
theorem dX4_become_31 : decode cX4_become 31 = .ok (.putfield 15, 3) := by decide +kernel
theorem dX4_become_34 : decode cX4_become 34 = .ok (.return_, 1) := by decide +kernel
theorem dX4_total_0 : decode cX4_total 0 = .ok (.lconst 0, 1) := by decide +kernel
theorem dX4_total_1 : decode cX4_total 1 = .ok (.lstore_n 1, 1) := by decide +kernel
theorem dX4_total_2 : decode cX4_total 2 = .ok (.iconst 0, 1) := by decide +kernel
theorem dX4_total_3 : decode cX4_total 3 = .ok (.istore_n 3, 1) := by decide +kernel
theorem dX4_total_4 : decode cX4_total 4 = .ok (.iload_n 3, 1) := by decide +kernel
theorem dX4_total_5 : decode cX4_total 5 = .ok (.bipush 8, 2) := by decide +kernel
theorem dX4_total_7 : decode cX4_total 7 = .ok (.if_icmp .ge 18, 3) := by decide +kernel
theorem dX4_total_10 : decode cX4_total 10 = .ok (.lload_n 1, 1) := by decide +kernel
theorem dX4_total_11 : decode cX4_total 11 = .ok (.aload_n 0, 1) := by decide +kernel
theorem dX4_total_12 : decode cX4_total 12 = .ok (.getfield 9, 3) := by decide +kernel
theorem dX4_total_15 : decode cX4_total 15 = .ok (.iload_n 3, 1) := by decide +kernel
theorem dX4_total_16 : decode cX4_total 16 = .ok (.laload, 1) := by decide +kernel
theorem dX4_total_17 : decode cX4_total 17 = .ok (.ladd, 1) := by decide +kernel
theorem dX4_total_18 : decode cX4_total 18 = .ok (.lstore_n 1, 1) := by decide +kernel
theorem dX4_total_19 : decode cX4_total 19 = .ok (.iinc 3 1, 3) := by decide +kernel
theorem dX4_total_22 : decode cX4_total 22 = .ok (.goto (-18), 3) := by decide +kernel
theorem dX4_total_25 : decode cX4_total 25 = .ok (.lload_n 1, 1) := by decide +kernel
theorem dX4_total_26 : decode cX4_total 26 = .ok (.lreturn, 1) := by decide +kernel
theorem dX4_matches_0 : decode cX4_matches 0 = .ok (.iconst 0, 1) := by decide +kernel
theorem dX4_matches_1 : decode cX4_matches 1 = .ok (.istore_n 3, 1) := by decide +kernel
theorem dX4_matches_2 : decode cX4_matches 2 = .ok (.iload_n 3, 1) := by decide +kernel
theorem dX4_matches_3 : decode cX4_matches 3 = .ok (.bipush 8, 2) := by decide +kernel
theorem dX4_matches_5 : decode cX4_matches 5 = .ok (.if_icmp .ge 30, 3) := by decide +kernel
theorem dX4_matches_8 : decode cX4_matches 8 = .ok (.aload_n 0, 1) := by decide +kernel
theorem dX4_matches_9 : decode cX4_matches 9 = .ok (.getfield 9, 3) := by decide +kernel
theorem dX4_matches_12 : decode cX4_matches 12 = .ok (.iload_n 3, 1) := by decide +kernel
theorem dX4_matches_13 : decode cX4_matches 13 = .ok (.laload, 1) := by decide +kernel
theorem dX4_matches_14 : decode cX4_matches 14 = .ok (.iload_n 2, 1) := by decide +kernel
theorem dX4_matches_15 : decode cX4_matches 15 = .ok (.i2l, 1) := by decide +kernel
theorem dX4_matches_16 : decode cX4_matches 16 = .ok (.aload_n 1, 1) := by decide +kernel
theorem dX4_matches_17 : decode cX4_matches 17 = .ok (.getfield 9, 3) := by decide +kernel
theorem dX4_matches_20 : decode cX4_matches 20 = .ok (.iload_n 3, 1) := by decide +kernel
theorem dX4_matches_21 : decode cX4_matches 21 = .ok (.laload, 1) := by decide +kernel
theorem dX4_matches_22 : decode cX4_matches 22 = .ok (.lmul, 1) := by decide +kernel
theorem dX4_matches_23 : decode cX4_matches 23 = .ok (.lcmp, 1) := by decide +kernel
theorem dX4_matches_24 : decode cX4_matches 24 = .ok (.ifCond .eq 5, 3) := by decide +kernel
theorem dX4_matches_27 : decode cX4_matches 27 = .ok (.iconst 0, 1) := by decide +kernel
theorem dX4_matches_28 : decode cX4_matches 28 = .ok (.ireturn, 1) := by decide +kernel
theorem dX4_matches_29 : decode cX4_matches 29 = .ok (.iinc 3 1, 3) := by decide +kernel
theorem dX4_matches_32 : decode cX4_matches 32 = .ok (.goto (-30), 3) := by decide +kernel
theorem dX4_matches_35 : decode cX4_matches 35 = .ok (.iconst 1, 1) := by decide +kernel
theorem dX4_matches_36 : decode cX4_matches 36 = .ok (.ireturn, 1) := by decide +kernel
set_option maxRecDepth 20000 in
theorem ggX5_init_X0_init : GoodIn wsX5_init wsX0_init := goodIn_r _ [24, 25, 2, 3, 26, 27, 50, 51] (by decide +kernel) (by decide +kernel)
set_option maxRecDepth 20000 in
theorem gX5_init_X0_init_n11 : GoodIn wsX5_init (wsX0_init) := ggX5_init_X0_init
set_option maxRecDepth 20000 in
theorem ggX5_init_X4_init : GoodIn wsX5_init wsX4_init := goodIn_r _ [29, 30, 2, 3, 16, 31, 63, 64] (by decide +kernel) (by decide +kernel)
set_option maxRecDepth 20000 in
theorem gX5_init_X4_init_n20 : GoodIn wsX5_init (wsX4_init) := ggX5_init_X4_init
set_option maxRecDepth 20000 in
theorem ggX5_init_X7_init : GoodIn wsX5_init wsX7_init := goodIn_r _ [33, 34, 2, 3, 16, 35, 26, 36, 37, 65, 66, 67, 68, 69, 70, 71] (by decide +kernel) (by decide +kernel)
set_option maxRecDepth 20000 in
theorem gX5_init_X7_init_n27 : GoodIn wsX5_init (wsX7_init) := ggX5_init_X7_init
set_option maxRecDepth 20000 in
theorem ggX5_init_X5_wipe : GoodIn wsX5_init wsX5_wipe := goodIn_r _ [42, 17, 18, 20, 21, 15, 43, 44, 45, 46, 47, 14, 48, 35, 49, 52, 53, 54, 55, 56, 57, 58, 59, 60, 61, 62, 65, 66, 67, 68, 69, 70, 71] (by decide +kernel) (by decide +kernel)
set_option maxRecDepth 20000 in
theorem gX5_init_X5_wipe : GoodIn wsX5_init (wsV RX5 50 RX5 yX5_wipe wsX5_wipe) := goodIn_app (goodIn_of _ (by decide +kernel)) ggX5_init_X5_wipe
theorem dX5_init_0 : decode cX5_init 0 = .ok (.aload_n 0, 1) := by decide +kernel
theorem dX5_init_1 : decode cX5_init 1 = .ok (.invokespecial 3, 3) := by decide +kernel
theorem dX5_init_4 : decode cX5_init 4 = .ok (.aload_n 0, 1) := by decide +kernel
theorem dX5_init_5 : decode cX5_init 5 = .ok (.new 9, 3) := by decide +kernel
theorem dX5_init_8 : decode cX5_init 8 = .ok (.dup, 1) := by decide +kernel
theorem dX5_init_9 : decode cX5_init 9 = .ok (.invokespecial 11, 3) := by decide +kernel
theorem dX5_init_12 : decode cX5_init 12 = .ok (.putfield 12, 3) := by decide +kernel
theorem dX5_init_15 : decode cX5_init 15 = .ok (.aload_n 0, 1) := by decide +kernel
theorem dX5_init_16 : decode cX5_init 16 = .ok (.new 18, 3) := by decide +kernel
theorem dX5_init_19 : decode cX5_init 19 = .ok (.dup, 1) := by decide +kernel
theorem dX5_init_20 : decode cX5_init 20 = .ok (.invokespecial 20, 3) := by decide +kernel
theorem dX5_init_23 : decode cX5_init 23 = .ok (.putfield 21, 3) := by decide +kernel
theorem dX5_init_26 : decode cX5_init 26 = .ok (.aload_n 0, 1) := by decide +kernel
theorem dX5_init_27 : decode cX5_init 27 = .ok (.new 25, 3) := by decide +kernel
theorem dX5_init_30 : decode cX5_init 30 = .ok (.dup, 1) := by decide +kernel
theorem dX5_init_31 : decode cX5_init 31 = .ok (.invokespecial 27, 3) := by decide +kernel
theorem dX5_init_34 : decode cX5_init 34 = .ok (.putfield 28, 3) := by decide +kernel
theorem dX5_init_37 : decode cX5_init 37 = .ok (.aload_n 0, 1) := by decide +kernel
theorem dX5_init_38 : decode cX5_init 38 = .ok (.bipush 8, 2) := by decide +kernel
theorem dX5_init_40 : decode cX5_init 40 = .ok (.newarray .long, 2) := by decide +kernel
theorem dX5_init_42 : decode cX5_init 42 = .ok (.putfield 32, 3) := by decide +kernel
theorem dX5_init_45 : decode cX5_init 45 = .ok (.aload_n 0, 1) := by decide +kernel
theorem dX5_init_46 : decode cX5_init 46 = .ok (.bipush 8, 2) := by decide +kernel
theorem dX5_init_48 : decode cX5_init 48 = .ok (.newarray .long, 2) := by decide +kernel
theorem dX5_init_50 : decode cX5_init 50 = .ok (.putfield 36, 3) := by decide +kernel
theorem dX5_init_53 : decode cX5_init 53 = .ok (.aload_n 0, 1) := by decide +kernel
theorem dX5_init_54 : decode cX5_init 54 = .ok (.bipush 8, 2) := by decide +kernel
theorem dX5_init_56 : decode cX5_init 56 = .ok (.newarray .boolean, 2) := by decide +kernel
theorem dX5_init_58 : decode cX5_init 58 = .ok (.putfield 39, 3) := by decide +kernel
theorem dX5_init_61 : decode cX5_init 61 = .ok (.aload_n 0, 1) := by decide +kernel
theorem dX5_init_62 : decode cX5_init 62 = .ok (.bipush 12, 2) := by decide +kernel
theorem dX5_init_64 : decode cX5_init 64 = .ok (.newarray .long, 2) := by decide +kernel
theorem dX5_init_66 : decode cX5_init 66 = .ok (.putfield 43, 3) := by decide +kernel
theorem dX5_init_69 : decode cX5_init 69 = .ok (.aload_n 0, 1) := by decide +kernel
theorem dX5_init_70 : decode cX5_init 70 = .ok (.lconst 1, 1) := by decide +kernel
theorem dX5_init_71 : decode cX5_init 71 = .ok (.putfield 46, 3) := by decide +kernel
theorem dX5_init_74 : decode cX5_init 74 = .ok (.aload_n 0, 1) := by decide +kernel
theorem dX5_init_75 : decode cX5_init 75 = .ok (.invokevirtual 50, 3) := by decide +kernel
theorem dX5_init_78 : decode cX5_init 78 = .ok (.return_, 1) := by decide +kernel
set_option maxRecDepth 20000 in
theorem ggX5_wipe_X7_wipe : GoodIn wsX5_wipe wsX7_wipe := goodIn_r _ [12, 13, 14, 26, 27, 28, 29, 30, 31, 32] (by decide +kernel) (by decide +kernel)
set_option maxRecDepth 20000 in
theorem gX5_wipe_X7_wipe : GoodIn wsX5_wipe (wsV RX5 53 RX7 yX7_wipe wsX7_wipe) := goodIn_app (goodIn_of _ (by decide +kernel)) ggX5_wipe_X7_wipe
theorem dX5_wipe_0 : decode cX5_wipe 0 = .ok (.iconst 0, 1) := by decide +kernel
theorem dX5_wipe_1 : decode cX5_wipe 1 = .ok (.istore_n 1, 1) := by decide +kernel
theorem dX5_wipe_2 : decode cX5_wipe 2 = .ok (.iload_n 1, 1) := by decide +kernel
theorem dX5_wipe_3 : decode cX5_wipe 3 = .ok (.bipush 8, 2) := by decide +kernel
theorem dX5_wipe_5 : decode cX5_wipe 5 = .ok (.if_icmp .ge 30, 3) := by decide +kernel
theorem dX5_wipe_8 : decode cX5_wipe 8 = .ok (.aload_n 0, 1) := by decide +kernel
theorem dX5_wipe_9 : decode cX5_wipe 9 = .ok (.getfield 32, 3) := by decide +kernel
theorem dX5_wipe_12 : decode cX5_wipe 12 = .ok (.iload_n 1, 1) := by decide +kernel
theorem dX5_wipe_13 : decode cX5_wipe 13 = .ok (.lconst 0, 1) := by decide +kernel
theorem dX5_wipe_14 : decode cX5_wipe 14 = .ok (.lastore, 1) := by decide +kernel
theorem dX5_wipe_15 : decode cX5_wipe 15 = .ok (.aload_n 0, 1) := by decide +kernel
theorem dX5_wipe_16 : decode cX5_wipe 16 = .ok (.getfield 36, 3) := by decide +kernel
theorem dX5_wipe_19 : decode cX5_wipe 19 = .ok (.iload_n 1, 1) := by decide +kernel
theorem dX5_wipe_20 : decode cX5_wipe 20 = .ok (.lconst 1, 1) := by decide +kernel
theorem dX5_wipe_21 : decode cX5_wipe 21 = .ok (.lastore, 1) := by decide +kernel
theorem dX5_wipe_22 : decode cX5_wipe 22 = .ok (.aload_n 0, 1) := by decide +kernel
theorem dX5_wipe_23 : decode cX5_wipe 23 = .ok (.getfield 39, 3) := by decide +kernel
theorem dX5_wipe_26 : decode cX5_wipe 26 = .ok (.iload_n 1, 1) := by decide +kernel
theorem dX5_wipe_27 : decode cX5_wipe 27 = .ok (.iconst 0, 1) := by decide +kernel
theorem dX5_wipe_28 : decode cX5_wipe 28 = .ok (.bastore, 1) := by decide +kernel
theorem dX5_wipe_29 : decode cX5_wipe 29 = .ok (.iinc 1 1, 3) := by decide +kernel
theorem dX5_wipe_32 : decode cX5_wipe 32 = .ok (.goto (-30), 3) := by decide +kernel
theorem dX5_wipe_35 : decode cX5_wipe 35 = .ok (.iconst 0, 1) := by decide +kernel
theorem dX5_wipe_36 : decode cX5_wipe 36 = .ok (.istore_n 1, 1) := by decide +kernel
theorem dX5_wipe_37 : decode cX5_wipe 37 = .ok (.iload_n 1, 1) := by decide +kernel
theorem dX5_wipe_38 : decode cX5_wipe 38 = .ok (.bipush 12, 2) := by decide +kernel
theorem dX5_wipe_40 : decode cX5_wipe 40 = .ok (.if_icmp .ge 16, 3) := by decide +kernel
theorem dX5_wipe_43 : decode cX5_wipe 43 = .ok (.aload_n 0, 1) := by decide +kernel
theorem dX5_wipe_44 : decode cX5_wipe 44 = .ok (.getfield 43, 3) := by decide +kernel
theorem dX5_wipe_47 : decode cX5_wipe 47 = .ok (.iload_n 1, 1) := by decide +kernel
theorem dX5_wipe_48 : decode cX5_wipe 48 = .ok (.lconst 0, 1) := by decide +kernel
theorem dX5_wipe_49 : decode cX5_wipe 49 = .ok (.lastore, 1) := by decide +kernel
theorem dX5_wipe_50 : decode cX5_wipe 50 = .ok (.iinc 1 1, 3) := by decide +kernel
theorem dX5_wipe_53 : decode cX5_wipe 53 = .ok (.goto (-16), 3) := by decide +kernel
theorem dX5_wipe_56 : decode cX5_wipe 56 = .ok (.aload_n 0, 1) := by decide +kernel
theorem dX5_wipe_57 : decode cX5_wipe 57 = .ok (.getfield 28, 3) := by decide +kernel
theorem dX5_wipe_60 : decode cX5_wipe 60 = .ok (.invokevirtual 53, 3) := by decide +kernel
theorem dX5_wipe_63 : decode cX5_wipe 63 = .ok (.aload_n 0, 1) := by decide +kernel
theorem dX5_wipe_64 : decode cX5_wipe 64 = .ok (.iconst 0, 1) := by decide +kernel
theorem dX5_wipe_65 : decode cX5_wipe 65 = .ok (.putfield 54, 3) := by decide +kernel
theorem dX5_wipe_68 : decode cX5_wipe 68 = .ok (.aload_n 0, 1) := by decide +kernel
theorem dX5_wipe_69 : decode cX5_wipe 69 = .ok (.bipush (-2), 2) := by decide +kernel
theorem dX5_wipe_71 : decode cX5_wipe 71 = .ok (.putfield 58, 3) := by decide +kernel
theorem dX5_wipe_74 : decode cX5_wipe 74 = .ok (.return_, 1) := by decide +kernel
set_option maxRecDepth 20000 in
theorem ggX5_startAfresh_X4_reset : GoodIn wsX5_startAfresh wsX4_reset := goodIn_r _ [8, 9, 10, 22, 23] (by decide +kernel) (by decide +kernel)
set_option maxRecDepth 20000 in
theorem gX5_startAfresh_X4_reset : GoodIn wsX5_startAfresh (wsV RX5 62 RX4 yX4_reset wsX4_reset) := goodIn_app (goodIn_of _ (by decide +kernel)) ggX5_startAfresh_X4_reset
theorem dX5_startAfresh_0 : decode cX5_startAfresh 0 = .ok (.aload_n 0, 1) := by decide +kernel
theorem dX5_startAfresh_1 : decode cX5_startAfresh 1 = .ok (.getfield 21, 3) := by decide +kernel
theorem dX5_startAfresh_4 : decode cX5_startAfresh 4 = .ok (.invokevirtual 62, 3) := by decide +kernel
theorem dX5_startAfresh_7 : decode cX5_startAfresh 7 = .ok (.aload_n 0, 1) := by decide +kernel
theorem dX5_startAfresh_8 : decode cX5_startAfresh 8 = .ok (.lconst 0, 1) := by decide +kernel
theorem dX5_startAfresh_9 : decode cX5_startAfresh 9 = .ok (.putfield 65, 3) := by decide +kernel
theorem dX5_startAfresh_12 : decode cX5_startAfresh 12 = .ok (.aload_n 0, 1) := by decide +kernel
theorem dX5_startAfresh_13 : decode cX5_startAfresh 13 = .ok (.lconst 1, 1) := by decide +kernel
theorem dX5_startAfresh_14 : decode cX5_startAfresh 14 = .ok (.putfield 46, 3) := by decide +kernel
theorem dX5_startAfresh_17 : decode cX5_startAfresh 17 = .ok (.return_, 1) := by decide +kernel
set_option maxRecDepth 20000 in
theorem ggX5_perform_X5_wipe : GoodIn wsX5_perform wsX5_wipe := goodIn_r _ [7, 8, 9, 10, 11, 12, 13, 2, 14, 15, 16, 17, 18, 19, 20, 124, 125, 126, 127, 128, 129, 130, 131, 132, 133, 134, 135, 136, 137, 138, 139, 140, 141] (by decide +kernel) (by decide +kernel)
set_option maxRecDepth 20000 in
theorem gX5_perform_X5_wipe : GoodIn wsX5_perform (wsV RX5 50 RX5 yX5_wipe wsX5_wipe) := goodIn_app (goodIn_of _ (by decide +kernel)) ggX5_perform_X5_wipe
set_option maxRecDepth 20000 in
theorem ggX5_perform_X5_step : GoodIn wsX5_perform wsX5_step := goodIn_r _ [24, 25, 26, 27, 28, 29, 30, 8, 9, 10, 13, 12, 31, 32, 33, 34, 35, 36, 6, 37, 38, 39, 40, 41, 42, 43, 44, 45, 46, 47, 48, 49, 50, 51, 52, 53, 54, 55, 11, 56, 57, 58, 59, 60, 61, 62, 63, 64, 65, 66, 67, 68, 69, 70, 71, 72, 73, 17, 74, 20, 75, 76, 19, 77, 78, 79, 15, 16, 18, 80, 81, 82, 83, 84, 85, 86, 87, 88, 89, 90, 91, 92, 93, 94, 95, 96, 97, 98, 99, 100, 101, 102, 103, 104, 105, 106, 107, 108, 109, 110, 111, 112, 113, 114, 115, 116, 117, 118, 119, 120, 121, 122, 123, 142, 143, 144, 145, 124, 125, 126, 127, 128, 129, 130, 131, 132, 133, 134, 135, 136, 137, 138, 139, 140, 141, 146, 147, 148, 149] (by decide +kernel) (by decide +kernel)
set_option maxRecDepth 20000 in
theorem gX5_perform_X5_step : GoodIn wsX5_perform (wsV RX5 73 RX5 yX5_step wsX5_step) := goodIn_app (goodIn_of _ (by decide +kernel)) ggX5_perform_X5_step
theorem dX5_perform_0 : decode cX5_perform 0 = .ok (.aload_n 0, 1) := by decide +kernel
theorem dX5_perform_1 : decode cX5_perform 1 = .ok (.invokevirtual 50, 3) := by decide +kernel
theorem dX5_perform_4 : decode cX5_perform 4 = .ok (.iconst 0, 1) := by decide +kernel
theorem dX5_perform_5 : decode cX5_perform 5 = .ok (.istore_n 3, 1) := by decide +kernel
theorem dX5_perform_6 : decode cX5_perform 6 = .ok (.iload_n 3, 1) := by decide +kernel
theorem dX5_perform_7 : decode cX5_perform 7 = .ok (.aload_n 1, 1) := by decide +kernel
theorem dX5_perform_8 : decode cX5_perform 8 = .ok (.getfield 68, 3) := by decide +kernel
theorem dX5_perform_11 : decode cX5_perform 11 = .ok (.if_icmp .ge 31, 3) := by decide +kernel
theorem dX5_perform_14 : decode cX5_perform 14 = .ok (.aload_n 0, 1) := by decide +kernel
theorem dX5_perform_15 : decode cX5_perform 15 = .ok (.aload_n 1, 1) := by decide +kernel
theorem dX5_perform_16 : decode cX5_perform 16 = .ok (.iload_n 3, 1) := by decide +kernel
theorem dX5_perform_17 : decode cX5_perform 17 = .ok (.aload_n 2, 1) := by decide +kernel
theorem dX5_perform_18 : decode cX5_perform 18 = .ok (.invokevirtual 73, 3) := by decide +kernel
theorem dX5_perform_21 : decode cX5_perform 21 = .ok (.istore 4, 2) := by decide +kernel
theorem dX5_perform_23 : decode cX5_perform 23 = .ok (.iload 4, 2) := by decide +kernel
theorem dX5_perform_25 : decode cX5_perform 25 = .ok (.ifCond .eq 11, 3) := by decide +kernel
theorem dX5_perform_28 : decode cX5_perform 28 = .ok (.aload_n 0, 1) := by decide +kernel
theorem dX5_perform_29 : decode cX5_perform 29 = .ok (.iload_n 3, 1) := by decide +kernel
theorem dX5_perform_30 : decode cX5_perform 30 = .ok (.putfield 58, 3) := by decide +kernel
theorem dX5_perform_33 : decode cX5_perform 33 = .ok (.iload 4, 2) := by decide +kernel
theorem dX5_perform_35 : decode cX5_perform 35 = .ok (.ireturn, 1) := by decide +kernel
theorem dX5_perform_36 : decode cX5_perform 36 = .ok (.iinc 3 1, 3) := by decide +kernel
theorem dX5_perform_39 : decode cX5_perform 39 = .ok (.goto (-33), 3) := by decide +kernel
theorem dX5_perform_42 : decode cX5_perform 42 = .ok (.iconst 0, 1) := by decide +kernel
theorem dX5_perform_43 : decode cX5_perform 43 = .ok (.ireturn, 1) := by decide +kernel
set_option maxRecDepth 20000 in
theorem ggX5_step_X5_sumOfLines : GoodIn wsX5_step wsX5_sumOfLines := goodIn_r _ [19, 20, 21, 22, 117, 118, 119, 120, 121, 122, 123, 124, 125, 126, 127, 135, 136] (by decide +kernel) (by decide +kernel)
set_option maxRecDepth 20000 in
theorem gX5_step_X5_sumOfLines : GoodIn wsX5_step (wsV RX5 90 RX5 yX5_sumOfLines wsX5_sumOfLines) := goodIn_app (goodIn_of _ (by decide +kernel)) ggX5_step_X5_sumOfLines
set_option maxRecDepth 20000 in
theorem ggX5_step_X5_becomeWhole : GoodIn wsX5_step wsX5_becomeWhole := goodIn_r _ [26, 7, 8, 9, 27, 28, 29, 30, 31, 32, 33, 117, 118, 119, 120, 121, 122, 123, 124, 125, 126, 127] (by decide +kernel) (by decide +kernel)
set_option maxRecDepth 20000 in
theorem gX5_step_X5_becomeWhole : GoodIn wsX5_step (wsV RX5 94 RX5 yX5_becomeWhole wsX5_becomeWhole) := goodIn_app (goodIn_of _ (by decide +kernel)) ggX5_step_X5_becomeWhole
set_option maxRecDepth 20000 in
theorem ggX5_step_X5_taxLines : GoodIn wsX5_step wsX5_taxLines := goodIn_r _ [37, 20, 21, 38, 22, 39, 40, 29, 41, 42, 117, 118, 119, 120, 121, 122, 123, 124, 125, 126, 127, 135, 136] (by decide +kernel) (by decide +kernel)
set_option maxRecDepth 20000 in
theorem gX5_step_X5_taxLines : GoodIn wsX5_step (wsV RX5 106 RX5 yX5_taxLines wsX5_taxLines) := goodIn_app (goodIn_of _ (by decide +kernel)) ggX5_step_X5_taxLines
set_option maxRecDepth 20000 in
theorem ggX5_step_X5_flowLines : GoodIn wsX5_step wsX5_flowLines := goodIn_r _ [46, 20, 21, 22, 38, 39, 40, 29, 41, 42, 117, 118, 119, 120, 121, 122, 123, 124, 125, 126, 127, 135, 136] (by decide +kernel) (by decide +kernel)
set_option maxRecDepth 20000 in
theorem gX5_step_X5_flowLines : GoodIn wsX5_step (wsV RX5 110 RX5 yX5_flowLines wsX5_flowLines) := goodIn_app (goodIn_of _ (by decide +kernel)) ggX5_step_X5_flowLines
set_option maxRecDepth 20000 in
theorem ggX5_step_X5_become : GoodIn wsX5_step wsX5_become := goodIn_r _ [50, 7, 8, 9, 51, 52, 29, 53, 27, 28, 30, 31, 32, 33, 117, 118, 119, 120, 121, 122, 123, 124, 125, 126, 127] (by decide +kernel) (by decide +kernel)
set_option maxRecDepth 20000 in
theorem gX5_step_X5_become : GoodIn wsX5_step (wsV RX5 113 RX5 yX5_become wsX5_become) := goodIn_app (goodIn_of _ (by decide +kernel)) ggX5_step_X5_become
set_option maxRecDepth 20000 in
theorem ggX5_step_X3_rounding : GoodIn wsX5_step wsX3_rounding := goodIn_r _ [41, 42] (by decide +kernel) (by decide +kernel)
set_option maxRecDepth 20000 in
theorem gX5_step_X3_rounding : GoodIn wsX5_step (va_wsS RX5 117 yX3_rounding wsX3_rounding) := goodIn_app (goodIn_of _ (by decide +kernel)) ggX5_step_X3_rounding
set_option maxRecDepth 20000 in
theorem ggX5_step_X7_divide : GoodIn wsX5_step wsX7_divide := goodIn_r _ [58, 59, 60, 61, 62, 63, 64, 65, 66, 67, 57, 68, 69, 70, 71, 72, 73, 74, 40, 29, 41, 42, 75, 76, 77, 78, 79, 80, 81, 82, 83, 84, 128, 129, 130, 131, 132, 133, 134] (by decide +kernel) (by decide +kernel)
set_option maxRecDepth 20000 in
theorem gX5_step_X7_divide : GoodIn wsX5_step (wsV RX5 130 RX7 yX7_divide wsX7_divide) := goodIn_app (goodIn_of _ (by decide +kernel)) ggX5_step_X7_divide
set_option maxRecDepth 20000 in
theorem ggX5_step_X5_carry : GoodIn wsX5_step wsX5_carry := goodIn_r _ [88, 89, 8, 7, 90, 51, 52, 29, 53, 27, 28, 30, 31, 32, 33, 39, 40, 41, 42, 117, 118, 119, 120, 121, 122, 123, 124, 125, 126, 127] (by decide +kernel) (by decide +kernel)
set_option maxRecDepth 20000 in
theorem gX5_step_X5_carry : GoodIn wsX5_step (wsV RX5 137 RX5 yX5_carry wsX5_carry) := goodIn_app (goodIn_of _ (by decide +kernel)) ggX5_step_X5_carry
set_option maxRecDepth 20000 in
theorem ggX5_step_X5_cap : GoodIn wsX5_step wsX5_cap := goodIn_r _ [94, 8, 7, 9, 23, 24, 25, 18, 26, 27, 28, 29, 30, 31, 32, 33, 117, 118, 119, 120, 121, 122, 123, 124, 125, 126, 127] (by decide +kernel) (by decide +kernel)
set_option maxRecDepth 20000 in
theorem gX5_step_X5_cap : GoodIn wsX5_step (wsV RX5 141 RX5 yX5_cap wsX5_cap) := goodIn_app (goodIn_of _ (by decide +kernel)) ggX5_step_X5_cap
set_option maxRecDepth 20000 in
theorem ggX5_step_X5_book : GoodIn wsX5_step wsX5_book := goodIn_r _ [98, 8, 99, 100, 7, 9, 101, 117, 118, 119, 120, 121, 122, 123, 124, 125, 126, 127, 137, 138] (by decide +kernel) (by decide +kernel)
set_option maxRecDepth 20000 in
theorem gX5_step_X5_book : GoodIn wsX5_step (wsV RX5 145 RX5 yX5_book wsX5_book) := goodIn_app (goodIn_of _ (by decide +kernel)) ggX5_step_X5_book
set_option maxRecDepth 20000 in
theorem ggX5_step_X5_passDays : GoodIn wsX5_step wsX5_passDays := goodIn_r _ [105, 7, 8, 39, 40, 29, 41, 42, 27, 28, 30, 31, 32, 33, 117, 118, 119, 120, 121, 122, 123, 124, 125, 126, 127] (by decide +kernel) (by decide +kernel)
set_option maxRecDepth 20000 in
theorem gX5_step_X5_passDays : GoodIn wsX5_step (wsV RX5 149 RX5 yX5_passDays wsX5_passDays) := goodIn_app (goodIn_of _ (by decide +kernel)) ggX5_step_X5_passDays
theorem dX5_step_0 : decode cX5_step 0 = .ok (.aload_n 1, 1) := by decide +kernel
theorem dX5_step_1 : decode cX5_step 1 = .ok (.getfield 77, 3) := by decide +kernel
theorem dX5_step_4 : decode cX5_step 4 = .ok (.iload_n 2, 1) := by decide +kernel
theorem dX5_step_5 : decode cX5_step 5 = .ok (.iaload, 1) := by decide +kernel
theorem dX5_step_6 : decode cX5_step 6 = .ok (.istore 4, 2) := by decide +kernel
theorem dX5_step_8 : decode cX5_step 8 = .ok (.aload_n 1, 1) := by decide +kernel
theorem dX5_step_9 : decode cX5_step 9 = .ok (.getfield 81, 3) := by decide +kernel
theorem dX5_step_12 : decode cX5_step 12 = .ok (.iload_n 2, 1) := by decide +kernel
theorem dX5_step_13 : decode cX5_step 13 = .ok (.iaload, 1) := by decide +kernel
theorem dX5_step_14 : decode cX5_step 14 = .ok (.istore 5, 2) := by decide +kernel
theorem dX5_step_16 : decode cX5_step 16 = .ok (.aload_n 1, 1) := by decide +kernel
theorem dX5_step_17 : decode cX5_step 17 = .ok (.getfield 84, 3) := by decide +kernel
theorem dX5_step_20 : decode cX5_step 20 = .ok (.iload_n 2, 1) := by decide +kernel
theorem dX5_step_21 : decode cX5_step 21 = .ok (.iaload, 1) := by decide +kernel
theorem dX5_step_22 : decode cX5_step 22 = .ok (.istore 6, 2) := by decide +kernel
theorem dX5_step_24 : decode cX5_step 24 = .ok (.aload_n 1, 1) := by decide +kernel
theorem dX5_step_25 : decode cX5_step 25 = .ok (.getfield 87, 3) := by decide +kernel
theorem dX5_step_28 : decode cX5_step 28 = .ok (.iload_n 2, 1) := by decide +kernel
theorem dX5_step_29 : decode cX5_step 29 = .ok (.iaload, 1) := by decide +kernel
theorem dX5_step_30 : decode cX5_step 30 = .ok (.tableswitch 455 0 11 #[62, 74, 104, 134, 180, 216, 318, 376, 397, 404, 416, 427], 62) := by decide +kernel
theorem dX5_step_92 : decode cX5_step 92 = .ok (.aload_n 0, 1) := by decide +kernel
theorem dX5_step_93 : decode cX5_step 93 = .ok (.iload 4, 2) := by decide +kernel
theorem dX5_step_95 : decode cX5_step 95 = .ok (.aload_n 0, 1) := by decide +kernel
theorem dX5_step_96 : decode cX5_step 96 = .ok (.invokevirtual 90, 3) := by decide +kernel
theorem dX5_step_99 : decode cX5_step 99 = .ok (.iconst 0, 1) := by decide +kernel
theorem dX5_step_100 : decode cX5_step 100 = .ok (.invokevirtual 94, 3) := by decide +kernel
theorem dX5_step_103 : decode cX5_step 103 = .ok (.ireturn, 1) := by decide +kernel
theorem dX5_step_104 : decode cX5_step 104 = .ok (.aload_n 0, 1) := by decide +kernel
theorem dX5_step_105 : decode cX5_step 105 = .ok (.iload 4, 2) := by decide +kernel
theorem dX5_step_107 : decode cX5_step 107 = .ok (.aload_n 0, 1) := by decide +kernel
theorem dX5_step_108 : decode cX5_step 108 = .ok (.aload_n 3, 1) := by decide +kernel
theorem dX5_step_109 : decode cX5_step 109 = .ok (.getfield 98, 3) := by decide +kernel
theorem dX5_step_112 : decode cX5_step 112 = .ok (.iload 5, 2) := by decide +kernel
theorem dX5_step_114 : decode cX5_step 114 = .ok (.iaload, 1) := by decide +kernel
theorem dX5_step_115 : decode cX5_step 115 = .ok (.i2l, 1) := by decide +kernel
theorem dX5_step_116 : decode cX5_step 116 = .ok (.aload_n 3, 1) := by decide +kernel
theorem dX5_step_117 : decode cX5_step 117 = .ok (.getfield 103, 3) := by decide +kernel
theorem dX5_step_120 : decode cX5_step 120 = .ok (.iload 5, 2) := by decide +kernel
theorem dX5_step_122 : decode cX5_step 122 = .ok (.iaload, 1) := by decide +kernel
theorem dX5_step_123 : decode cX5_step 123 = .ok (.i2l, 1) := by decide +kernel
theorem dX5_step_124 : decode cX5_step 124 = .ok (.iload 6, 2) := by decide +kernel
theorem dX5_step_126 : decode cX5_step 126 = .ok (.invokevirtual 106, 3) := by decide +kernel
theorem dX5_step_129 : decode cX5_step 129 = .ok (.iconst 0, 1) := by decide +kernel
theorem dX5_step_130 : decode cX5_step 130 = .ok (.invokevirtual 94, 3) := by decide +kernel
theorem dX5_step_133 : decode cX5_step 133 = .ok (.ireturn, 1) := by decide +kernel
theorem dX5_step_134 : decode cX5_step 134 = .ok (.aload_n 0, 1) := by decide +kernel
theorem dX5_step_135 : decode cX5_step 135 = .ok (.iload 4, 2) := by decide +kernel
theorem dX5_step_137 : decode cX5_step 137 = .ok (.aload_n 0, 1) := by decide +kernel
theorem dX5_step_138 : decode cX5_step 138 = .ok (.aload_n 3, 1) := by decide +kernel
theorem dX5_step_139 : decode cX5_step 139 = .ok (.getfield 98, 3) := by decide +kernel
theorem dX5_step_142 : decode cX5_step 142 = .ok (.iload 5, 2) := by decide +kernel
theorem dX5_step_144 : decode cX5_step 144 = .ok (.iaload, 1) := by decide +kernel
theorem dX5_step_145 : decode cX5_step 145 = .ok (.i2l, 1) := by decide +kernel
theorem dX5_step_146 : decode cX5_step 146 = .ok (.aload_n 3, 1) := by decide +kernel
theorem dX5_step_147 : decode cX5_step 147 = .ok (.getfield 103, 3) := by decide +kernel
theorem dX5_step_150 : decode cX5_step 150 = .ok (.iload 5, 2) := by decide +kernel
theorem dX5_step_152 : decode cX5_step 152 = .ok (.iaload, 1) := by decide +kernel
theorem dX5_step_153 : decode cX5_step 153 = .ok (.i2l, 1) := by decide +kernel
theorem dX5_step_154 : decode cX5_step 154 = .ok (.iload 6, 2) := by decide +kernel
theorem dX5_step_156 : decode cX5_step 156 = .ok (.invokevirtual 110, 3) := by decide +kernel
theorem dX5_step_159 : decode cX5_step 159 = .ok (.iconst 0, 1) := by decide +kernel
theorem dX5_step_160 : decode cX5_step 160 = .ok (.invokevirtual 94, 3) := by decide +kernel
theorem dX5_step_163 : decode cX5_step 163 = .ok (.ireturn, 1) := by decide +kernel
theorem dX5_step_164 : decode cX5_step 164 = .ok (.aload_n 0, 1) := by decide +kernel
theorem dX5_step_165 : decode cX5_step 165 = .ok (.iload 4, 2) := by decide +kernel
theorem dX5_step_167 : decode cX5_step 167 = .ok (.aload_n 0, 1) := by decide +kernel
theorem dX5_step_168 : decode cX5_step 168 = .ok (.getfield 32, 3) := by decide +kernel
theorem dX5_step_171 : decode cX5_step 171 = .ok (.iload 5, 2) := by decide +kernel
theorem dX5_step_173 : decode cX5_step 173 = .ok (.laload, 1) := by decide +kernel
theorem dX5_step_174 : decode cX5_step 174 = .ok (.aload_n 3, 1) := by decide +kernel
theorem dX5_step_175 : decode cX5_step 175 = .ok (.getfield 98, 3) := by decide +kernel
theorem dX5_step_178 : decode cX5_step 178 = .ok (.iload 6, 2) := by decide +kernel
theorem dX5_step_180 : decode cX5_step 180 = .ok (.iaload, 1) := by decide +kernel
theorem dX5_step_181 : decode cX5_step 181 = .ok (.i2l, 1) := by decide +kernel
theorem dX5_step_182 : decode cX5_step 182 = .ok (.lmul, 1) := by decide +kernel
theorem dX5_step_183 : decode cX5_step 183 = .ok (.aload_n 0, 1) := by decide +kernel
theorem dX5_step_184 : decode cX5_step 184 = .ok (.getfield 36, 3) := by decide +kernel
theorem dX5_step_187 : decode cX5_step 187 = .ok (.iload 5, 2) := by decide +kernel
theorem dX5_step_189 : decode cX5_step 189 = .ok (.laload, 1) := by decide +kernel
theorem dX5_step_190 : decode cX5_step 190 = .ok (.aload_n 3, 1) := by decide +kernel
theorem dX5_step_191 : decode cX5_step 191 = .ok (.getfield 103, 3) := by decide +kernel
theorem dX5_step_194 : decode cX5_step 194 = .ok (.iload 6, 2) := by decide +kernel
theorem dX5_step_196 : decode cX5_step 196 = .ok (.iaload, 1) := by decide +kernel
theorem dX5_step_197 : decode cX5_step 197 = .ok (.i2l, 1) := by decide +kernel
theorem dX5_step_198 : decode cX5_step 198 = .ok (.lmul, 1) := by decide +kernel
theorem dX5_step_199 : decode cX5_step 199 = .ok (.aload_n 0, 1) := by decide +kernel
theorem dX5_step_200 : decode cX5_step 200 = .ok (.getfield 39, 3) := by decide +kernel
theorem dX5_step_203 : decode cX5_step 203 = .ok (.iload 5, 2) := by decide +kernel
theorem dX5_step_205 : decode cX5_step 205 = .ok (.baload, 1) := by decide +kernel
theorem dX5_step_206 : decode cX5_step 206 = .ok (.invokevirtual 113, 3) := by decide +kernel
theorem dX5_step_209 : decode cX5_step 209 = .ok (.ireturn, 1) := by decide +kernel
theorem dX5_step_210 : decode cX5_step 210 = .ok (.aload_n 0, 1) := by decide +kernel
theorem dX5_step_211 : decode cX5_step 211 = .ok (.iload 4, 2) := by decide +kernel
theorem dX5_step_213 : decode cX5_step 213 = .ok (.aload_n 0, 1) := by decide +kernel
theorem dX5_step_214 : decode cX5_step 214 = .ok (.getfield 32, 3) := by decide +kernel
theorem dX5_step_217 : decode cX5_step 217 = .ok (.iload 4, 2) := by decide +kernel
theorem dX5_step_219 : decode cX5_step 219 = .ok (.laload, 1) := by decide +kernel
theorem dX5_step_220 : decode cX5_step 220 = .ok (.aload_n 0, 1) := by decide +kernel
theorem dX5_step_221 : decode cX5_step 221 = .ok (.getfield 36, 3) := by decide +kernel
theorem dX5_step_224 : decode cX5_step 224 = .ok (.iload 4, 2) := by decide +kernel
theorem dX5_step_226 : decode cX5_step 226 = .ok (.laload, 1) := by decide +kernel
theorem dX5_step_227 : decode cX5_step 227 = .ok (.iload 6, 2) := by decide +kernel
theorem dX5_step_229 : decode cX5_step 229 = .ok (.i2l, 1) := by decide +kernel
theorem dX5_step_230 : decode cX5_step 230 = .ok (.iload 5, 2) := by decide +kernel
theorem dX5_step_232 : decode cX5_step 232 = .ok (.invokestatic 117, 3) := by decide +kernel
theorem dX5_step_235 : decode cX5_step 235 = .ok (.aload_n 0, 1) := by decide +kernel
theorem dX5_step_236 : decode cX5_step 236 = .ok (.getfield 39, 3) := by decide +kernel
theorem dX5_step_239 : decode cX5_step 239 = .ok (.iload 4, 2) := by decide +kernel
theorem dX5_step_241 : decode cX5_step 241 = .ok (.baload, 1) := by decide +kernel
theorem dX5_step_242 : decode cX5_step 242 = .ok (.invokevirtual 94, 3) := by decide +kernel
theorem dX5_step_245 : decode cX5_step 245 = .ok (.ireturn, 1) := by decide +kernel
theorem dX5_step_246 : decode cX5_step 246 = .ok (.iload 6, 2) := by decide +kernel
theorem dX5_step_248 : decode cX5_step 248 = .ok (.ifCond .ne 13, 3) := by decide +kernel
theorem dX5_step_251 : decode cX5_step 251 = .ok (.aload_n 0, 1) := by decide +kernel
theorem dX5_step_252 : decode cX5_step 252 = .ok (.getfield 32, 3) := by decide +kernel
theorem dX5_step_255 : decode cX5_step 255 = .ok (.iload 5, 2) := by decide +kernel
theorem dX5_step_257 : decode cX5_step 257 = .ok (.laload, 1) := by decide +kernel
theorem dX5_step_258 : decode cX5_step 258 = .ok (.goto 11, 3) := by decide +kernel
theorem dX5_step_261 : decode cX5_step 261 = .ok (.aload_n 0, 1) := by decide +kernel
theorem dX5_step_262 : decode cX5_step 262 = .ok (.getfield 32, 3) := by decide +kernel
theorem dX5_step_265 : decode cX5_step 265 = .ok (.iload 5, 2) := by decide +kernel
theorem dX5_step_267 : decode cX5_step 267 = .ok (.laload, 1) := by decide +kernel
theorem dX5_step_268 : decode cX5_step 268 = .ok (.lneg, 1) := by decide +kernel
theorem dX5_step_269 : decode cX5_step 269 = .ok (.lstore 7, 2) := by decide +kernel
theorem dX5_step_271 : decode cX5_step 271 = .ok (.aload_n 0, 1) := by decide +kernel
theorem dX5_step_272 : decode cX5_step 272 = .ok (.getfield 32, 3) := by decide +kernel
theorem dX5_step_275 : decode cX5_step 275 = .ok (.iload 4, 2) := by decide +kernel
theorem dX5_step_277 : decode cX5_step 277 = .ok (.laload, 1) := by decide +kernel
theorem dX5_step_278 : decode cX5_step 278 = .ok (.aload_n 0, 1) := by decide +kernel
theorem dX5_step_279 : decode cX5_step 279 = .ok (.getfield 36, 3) := by decide +kernel
theorem dX5_step_282 : decode cX5_step 282 = .ok (.iload 5, 2) := by decide +kernel
theorem dX5_step_284 : decode cX5_step 284 = .ok (.laload, 1) := by decide +kernel
theorem dX5_step_285 : decode cX5_step 285 = .ok (.lmul, 1) := by decide +kernel
theorem dX5_step_286 : decode cX5_step 286 = .ok (.lload 7, 2) := by decide +kernel
theorem dX5_step_288 : decode cX5_step 288 = .ok (.aload_n 0, 1) := by decide +kernel
theorem dX5_step_289 : decode cX5_step 289 = .ok (.getfield 36, 3) := by decide +kernel
theorem dX5_step_292 : decode cX5_step 292 = .ok (.iload 4, 2) := by decide +kernel
theorem dX5_step_294 : decode cX5_step 294 = .ok (.laload, 1) := by decide +kernel
theorem dX5_step_295 : decode cX5_step 295 = .ok (.lmul, 1) := by decide +kernel
theorem dX5_step_296 : decode cX5_step 296 = .ok (.ladd, 1) := by decide +kernel
theorem dX5_step_297 : decode cX5_step 297 = .ok (.lstore 9, 2) := by decide +kernel
theorem dX5_step_299 : decode cX5_step 299 = .ok (.aload_n 0, 1) := by decide +kernel
theorem dX5_step_300 : decode cX5_step 300 = .ok (.iload 4, 2) := by decide +kernel
theorem dX5_step_302 : decode cX5_step 302 = .ok (.lload 9, 2) := by decide +kernel
theorem dX5_step_304 : decode cX5_step 304 = .ok (.aload_n 0, 1) := by decide +kernel
theorem dX5_step_305 : decode cX5_step 305 = .ok (.getfield 36, 3) := by decide +kernel
theorem dX5_step_308 : decode cX5_step 308 = .ok (.iload 4, 2) := by decide +kernel
theorem dX5_step_310 : decode cX5_step 310 = .ok (.laload, 1) := by decide +kernel
theorem dX5_step_311 : decode cX5_step 311 = .ok (.aload_n 0, 1) := by decide +kernel
theorem dX5_step_312 : decode cX5_step 312 = .ok (.getfield 36, 3) := by decide +kernel
theorem dX5_step_315 : decode cX5_step 315 = .ok (.iload 5, 2) := by decide +kernel
theorem dX5_step_317 : decode cX5_step 317 = .ok (.laload, 1) := by decide +kernel
theorem dX5_step_318 : decode cX5_step 318 = .ok (.lmul, 1) := by decide +kernel
theorem dX5_step_319 : decode cX5_step 319 = .ok (.aload_n 0, 1) := by decide +kernel
theorem dX5_step_320 : decode cX5_step 320 = .ok (.getfield 39, 3) := by decide +kernel
theorem dX5_step_323 : decode cX5_step 323 = .ok (.iload 4, 2) := by decide +kernel
theorem dX5_step_325 : decode cX5_step 325 = .ok (.baload, 1) := by decide +kernel
theorem dX5_step_326 : decode cX5_step 326 = .ok (.ifCond .ne 13, 3) := by decide +kernel
theorem dX5_step_329 : decode cX5_step 329 = .ok (.aload_n 0, 1) := by decide +kernel
theorem dX5_step_330 : decode cX5_step 330 = .ok (.getfield 39, 3) := by decide +kernel
theorem dX5_step_333 : decode cX5_step 333 = .ok (.iload 5, 2) := by decide +kernel
theorem dX5_step_335 : decode cX5_step 335 = .ok (.baload, 1) := by decide +kernel
theorem dX5_step_336 : decode cX5_step 336 = .ok (.ifCond .eq 7, 3) := by decide +kernel
theorem dX5_step_339 : decode cX5_step 339 = .ok (.iconst 1, 1) := by decide +kernel
theorem dX5_step_340 : decode cX5_step 340 = .ok (.goto 4, 3) := by decide +kernel
theorem dX5_step_343 : decode cX5_step 343 = .ok (.iconst 0, 1) := by decide +kernel
theorem dX5_step_344 : decode cX5_step 344 = .ok (.invokevirtual 113, 3) := by decide +kernel
theorem dX5_step_347 : decode cX5_step 347 = .ok (.ireturn, 1) := by decide +kernel
theorem dX5_step_348 : decode cX5_step 348 = .ok (.aload_n 0, 1) := by decide +kernel
theorem dX5_step_349 : decode cX5_step 349 = .ok (.getfield 36, 3) := by decide +kernel
theorem dX5_step_352 : decode cX5_step 352 = .ok (.iload 4, 2) := by decide +kernel
theorem dX5_step_354 : decode cX5_step 354 = .ok (.laload, 1) := by decide +kernel
theorem dX5_step_355 : decode cX5_step 355 = .ok (.lconst 1, 1) := by decide +kernel
theorem dX5_step_356 : decode cX5_step 356 = .ok (.lcmp, 1) := by decide +kernel
theorem dX5_step_357 : decode cX5_step 357 = .ok (.ifCond .eq 6, 3) := by decide +kernel
theorem dX5_step_360 : decode cX5_step 360 = .ok (.bipush (-5), 2) := by decide +kernel
theorem dX5_step_362 : decode cX5_step 362 = .ok (.ireturn, 1) := by decide +kernel
theorem dX5_step_363 : decode cX5_step 363 = .ok (.aload_n 0, 1) := by decide +kernel
theorem dX5_step_364 : decode cX5_step 364 = .ok (.aload_n 0, 1) := by decide +kernel
theorem dX5_step_365 : decode cX5_step 365 = .ok (.getfield 39, 3) := by decide +kernel
theorem dX5_step_368 : decode cX5_step 368 = .ok (.iload 4, 2) := by decide +kernel
theorem dX5_step_370 : decode cX5_step 370 = .ok (.baload, 1) := by decide +kernel
theorem dX5_step_371 : decode cX5_step 371 = .ok (.putfield 54, 3) := by decide +kernel
theorem dX5_step_374 : decode cX5_step 374 = .ok (.aload_n 0, 1) := by decide +kernel
theorem dX5_step_375 : decode cX5_step 375 = .ok (.getfield 28, 3) := by decide +kernel
theorem dX5_step_378 : decode cX5_step 378 = .ok (.aload_n 0, 1) := by decide +kernel
theorem dX5_step_379 : decode cX5_step 379 = .ok (.getfield 32, 3) := by decide +kernel
theorem dX5_step_382 : decode cX5_step 382 = .ok (.iload 4, 2) := by decide +kernel
theorem dX5_step_384 : decode cX5_step 384 = .ok (.laload, 1) := by decide +kernel
theorem dX5_step_385 : decode cX5_step 385 = .ok (.iload 5, 2) := by decide +kernel
theorem dX5_step_387 : decode cX5_step 387 = .ok (.aload_n 3, 1) := by decide +kernel
theorem dX5_step_388 : decode cX5_step 388 = .ok (.getfield 123, 3) := by decide +kernel
theorem dX5_step_391 : decode cX5_step 391 = .ok (.iload 6, 2) := by decide +kernel
theorem dX5_step_393 : decode cX5_step 393 = .ok (.aaload, 1) := by decide +kernel
theorem dX5_step_394 : decode cX5_step 394 = .ok (.aload_n 3, 1) := by decide +kernel
theorem dX5_step_395 : decode cX5_step 395 = .ok (.getfield 127, 3) := by decide +kernel
theorem dX5_step_398 : decode cX5_step 398 = .ok (.iload 6, 2) := by decide +kernel
theorem dX5_step_400 : decode cX5_step 400 = .ok (.iaload, 1) := by decide +kernel
theorem dX5_step_401 : decode cX5_step 401 = .ok (.invokevirtual 130, 3) := by decide +kernel
theorem dX5_step_404 : decode cX5_step 404 = .ok (.iconst 0, 1) := by decide +kernel
theorem dX5_step_405 : decode cX5_step 405 = .ok (.ireturn, 1) := by decide +kernel
theorem dX5_step_406 : decode cX5_step 406 = .ok (.aload_n 0, 1) := by decide +kernel
theorem dX5_step_407 : decode cX5_step 407 = .ok (.iload 4, 2) := by decide +kernel
theorem dX5_step_409 : decode cX5_step 409 = .ok (.aload_n 0, 1) := by decide +kernel
theorem dX5_step_410 : decode cX5_step 410 = .ok (.getfield 28, 3) := by decide +kernel
theorem dX5_step_413 : decode cX5_step 413 = .ok (.getfield 134, 3) := by decide +kernel
theorem dX5_step_416 : decode cX5_step 416 = .ok (.iload 5, 2) := by decide +kernel
theorem dX5_step_418 : decode cX5_step 418 = .ok (.laload, 1) := by decide +kernel
theorem dX5_step_419 : decode cX5_step 419 = .ok (.aload_n 0, 1) := by decide +kernel
theorem dX5_step_420 : decode cX5_step 420 = .ok (.getfield 54, 3) := by decide +kernel
theorem dX5_step_423 : decode cX5_step 423 = .ok (.invokevirtual 94, 3) := by decide +kernel
theorem dX5_step_426 : decode cX5_step 426 = .ok (.ireturn, 1) := by decide +kernel
theorem dX5_step_427 : decode cX5_step 427 = .ok (.aload_n 0, 1) := by decide +kernel
theorem dX5_step_428 : decode cX5_step 428 = .ok (.iload 4, 2) := by decide +kernel
theorem dX5_step_430 : decode cX5_step 430 = .ok (.invokevirtual 137, 3) := by decide +kernel
theorem dX5_step_433 : decode cX5_step 433 = .ok (.ireturn, 1) := by decide +kernel
theorem dX5_step_434 : decode cX5_step 434 = .ok (.aload_n 0, 1) := by decide +kernel
theorem dX5_step_435 : decode cX5_step 435 = .ok (.iload 4, 2) := by decide +kernel
theorem dX5_step_437 : decode cX5_step 437 = .ok (.iload 5, 2) := by decide +kernel
theorem dX5_step_439 : decode cX5_step 439 = .ok (.iload 6, 2) := by decide +kernel
theorem dX5_step_441 : decode cX5_step 441 = .ok (.i2l, 1) := by decide +kernel
theorem dX5_step_442 : decode cX5_step 442 = .ok (.invokevirtual 141, 3) := by decide +kernel
theorem dX5_step_445 : decode cX5_step 445 = .ok (.ireturn, 1) := by decide +kernel
theorem dX5_step_446 : decode cX5_step 446 = .ok (.aload_n 0, 1) := by decide +kernel
theorem dX5_step_447 : decode cX5_step 447 = .ok (.iload 4, 2) := by decide +kernel
theorem dX5_step_449 : decode cX5_step 449 = .ok (.iload 5, 2) := by decide +kernel
theorem dX5_step_451 : decode cX5_step 451 = .ok (.iload 6, 2) := by decide +kernel
theorem dX5_step_453 : decode cX5_step 453 = .ok (.invokevirtual 145, 3) := by decide +kernel
theorem dX5_step_456 : decode cX5_step 456 = .ok (.ireturn, 1) := by decide +kernel
theorem dX5_step_457 : decode cX5_step 457 = .ok (.aload_n 0, 1) := by decide +kernel
theorem dX5_step_458 : decode cX5_step 458 = .ok (.iload 4, 2) := by decide +kernel
theorem dX5_step_460 : decode cX5_step 460 = .ok (.aload_n 0, 1) := by decide +kernel
theorem dX5_step_461 : decode cX5_step 461 = .ok (.getfield 32, 3) := by decide +kernel
theorem dX5_step_464 : decode cX5_step 464 = .ok (.iload 5, 2) := by decide +kernel
theorem dX5_step_466 : decode cX5_step 466 = .ok (.laload, 1) := by decide +kernel
theorem dX5_step_467 : decode cX5_step 467 = .ok (.aload_n 0, 1) := by decide +kernel
theorem dX5_step_468 : decode cX5_step 468 = .ok (.getfield 36, 3) := by decide +kernel
theorem dX5_step_471 : decode cX5_step 471 = .ok (.iload 5, 2) := by decide +kernel
theorem dX5_step_473 : decode cX5_step 473 = .ok (.laload, 1) := by decide +kernel
theorem dX5_step_474 : decode cX5_step 474 = .ok (.lconst 1, 1) := by decide +kernel
theorem dX5_step_475 : decode cX5_step 475 = .ok (.iload 6, 2) := by decide +kernel
theorem dX5_step_477 : decode cX5_step 477 = .ok (.invokestatic 117, 3) := by decide +kernel
theorem dX5_step_480 : decode cX5_step 480 = .ok (.iconst 1, 1) := by decide +kernel
theorem dX5_step_481 : decode cX5_step 481 = .ok (.invokevirtual 94, 3) := by decide +kernel
theorem dX5_step_484 : decode cX5_step 484 = .ok (.ireturn, 1) := by decide +kernel
theorem dX5_step_485 : decode cX5_step 485 = .ok (.aload_n 0, 1) := by decide +kernel
theorem dX5_step_486 : decode cX5_step 486 = .ok (.iload 4, 2) := by decide +kernel
theorem dX5_step_488 : decode cX5_step 488 = .ok (.aload_n 3, 1) := by decide +kernel
theorem dX5_step_489 : decode cX5_step 489 = .ok (.getfield 98, 3) := by decide +kernel
theorem dX5_step_492 : decode cX5_step 492 = .ok (.iload 5, 2) := by decide +kernel
theorem dX5_step_494 : decode cX5_step 494 = .ok (.iaload, 1) := by decide +kernel
theorem dX5_step_495 : decode cX5_step 495 = .ok (.i2l, 1) := by decide +kernel
theorem dX5_step_496 : decode cX5_step 496 = .ok (.aload_n 3, 1) := by decide +kernel
theorem dX5_step_497 : decode cX5_step 497 = .ok (.getfield 103, 3) := by decide +kernel
theorem dX5_step_500 : decode cX5_step 500 = .ok (.iload 5, 2) := by decide +kernel
theorem dX5_step_502 : decode cX5_step 502 = .ok (.iaload, 1) := by decide +kernel
theorem dX5_step_503 : decode cX5_step 503 = .ok (.i2l, 1) := by decide +kernel
theorem dX5_step_504 : decode cX5_step 504 = .ok (.iload 6, 2) := by decide +kernel
theorem dX5_step_506 : decode cX5_step 506 = .ok (.invokevirtual 149, 3) := by decide +kernel
theorem dX5_step_509 : decode cX5_step 509 = .ok (.ireturn, 1) := by decide +kernel
set_option maxRecDepth 20000 in
theorem ggX5_become_X3_divisor : GoodIn wsX5_become wsX3_divisor := goodIn_r _ [7] (by decide +kernel) (by decide +kernel)
set_option maxRecDepth 20000 in
theorem gX5_become_X3_divisor : GoodIn wsX5_become (va_wsS RX5 153 yX3_divisor wsX3_divisor) := goodIn_app (goodIn_of _ (by decide +kernel)) ggX5_become_X3_divisor
set_option maxRecDepth 20000 in
theorem ggX5_become_X3_isSpent : GoodIn wsX5_become wsX3_isSpent := goodIn_r _ [10, 11, 12, 13] (by decide +kernel) (by decide +kernel)
set_option maxRecDepth 20000 in
theorem gX5_become_X3_isSpent : GoodIn wsX5_become (va_wsS RX5 157 yX3_isSpent wsX3_isSpent) := goodIn_app (goodIn_of _ (by decide +kernel)) ggX5_become_X3_isSpent
theorem dX5_become_0 : decode cX5_become 0 = .ok (.lload_n 2, 1) := by decide +kernel
theorem dX5_become_1 : decode cX5_become 1 = .ok (.lload 4, 2) := by decide +kernel
theorem dX5_become_3 : decode cX5_become 3 = .ok (.invokestatic 153, 3) := by decide +kernel
theorem dX5_become_6 : decode cX5_become 6 = .ok (.lstore 7, 2) := by decide +kernel
theorem dX5_become_8 : decode cX5_become 8 = .ok (.lload 7, 2) := by decide +kernel
theorem dX5_become_10 : decode cX5_become 10 = .ok (.lconst 0, 1) := by decide +kernel
theorem dX5_become_11 : decode cX5_become 11 = .ok (.lcmp, 1) := by decide +kernel
theorem dX5_become_12 : decode cX5_become 12 = .ok (.ifCond .le 18, 3) := by decide +kernel
theorem dX5_become_15 : decode cX5_become 15 = .ok (.lload_n 2, 1) := by decide +kernel
theorem dX5_become_16 : decode cX5_become 16 = .ok (.lload 7, 2) := by decide +kernel
theorem dX5_become_18 : decode cX5_become 18 = .ok (.ldiv, 1) := by decide +kernel
theorem dX5_become_19 : decode cX5_become 19 = .ok (.lload 4, 2) := by decide +kernel
theorem dX5_become_21 : decode cX5_become 21 = .ok (.lload 7, 2) := by decide +kernel
theorem dX5_become_23 : decode cX5_become 23 = .ok (.ldiv, 1) := by decide +kernel
theorem dX5_become_24 : decode cX5_become 24 = .ok (.invokestatic 157, 3) := by decide +kernel
theorem dX5_become_27 : decode cX5_become 27 = .ok (.ifCond .eq 6, 3) := by decide +kernel
theorem dX5_become_30 : decode cX5_become 30 = .ok (.bipush (-6), 2) := by decide +kernel
theorem dX5_become_32 : decode cX5_become 32 = .ok (.ireturn, 1) := by decide +kernel
theorem dX5_become_33 : decode cX5_become 33 = .ok (.aload_n 0, 1) := by decide +kernel
theorem dX5_become_34 : decode cX5_become 34 = .ok (.getfield 32, 3) := by decide +kernel
theorem dX5_become_37 : decode cX5_become 37 = .ok (.iload_n 1, 1) := by decide +kernel
theorem dX5_become_38 : decode cX5_become 38 = .ok (.lload_n 2, 1) := by decide +kernel
theorem dX5_become_39 : decode cX5_become 39 = .ok (.lload 7, 2) := by decide +kernel
theorem dX5_become_41 : decode cX5_become 41 = .ok (.ldiv, 1) := by decide +kernel
theorem dX5_become_42 : decode cX5_become 42 = .ok (.lastore, 1) := by decide +kernel
theorem dX5_become_43 : decode cX5_become 43 = .ok (.aload_n 0, 1) := by decide +kernel
theorem dX5_become_44 : decode cX5_become 44 = .ok (.getfield 36, 3) := by decide +kernel
theorem dX5_become_47 : decode cX5_become 47 = .ok (.iload_n 1, 1) := by decide +kernel
theorem dX5_become_48 : decode cX5_become 48 = .ok (.lload 4, 2) := by decide +kernel
theorem dX5_become_50 : decode cX5_become 50 = .ok (.lload 7, 2) := by decide +kernel
theorem dX5_become_52 : decode cX5_become 52 = .ok (.ldiv, 1) := by decide +kernel
theorem dX5_become_53 : decode cX5_become 53 = .ok (.lastore, 1) := by decide +kernel
theorem dX5_become_54 : decode cX5_become 54 = .ok (.aload_n 0, 1) := by decide +kernel
theorem dX5_become_55 : decode cX5_become 55 = .ok (.getfield 39, 3) := by decide +kernel
theorem dX5_become_58 : decode cX5_become 58 = .ok (.iload_n 1, 1) := by decide +kernel
theorem dX5_become_59 : decode cX5_become 59 = .ok (.iload 6, 2) := by decide +kernel
theorem dX5_become_61 : decode cX5_become 61 = .ok (.bastore, 1) := by decide +kernel
theorem dX5_become_62 : decode cX5_become 62 = .ok (.iconst 0, 1) := by decide +kernel
theorem dX5_become_63 : decode cX5_become 63 = .ok (.ireturn, 1) := by decide +kernel
set_option maxRecDepth 20000 in
theorem ggX5_becomeWhole_X3_isSpent : GoodIn wsX5_becomeWhole wsX3_isSpent := goodIn_r _ [7, 8, 9, 10] (by decide +kernel) (by decide +kernel)
set_option maxRecDepth 20000 in
theorem gX5_becomeWhole_X3_isSpent : GoodIn wsX5_becomeWhole (va_wsS RX5 157 yX3_isSpent wsX3_isSpent) := goodIn_app (goodIn_of _ (by decide +kernel)) ggX5_becomeWhole_X3_isSpent
theorem dX5_becomeWhole_0 : decode cX5_becomeWhole 0 = .ok (.lload_n 2, 1) := by decide +kernel
theorem dX5_becomeWhole_1 : decode cX5_becomeWhole 1 = .ok (.lconst 1, 1) := by decide +kernel
theorem dX5_becomeWhole_2 : decode cX5_becomeWhole 2 = .ok (.invokestatic 157, 3) := by decide +kernel
theorem dX5_becomeWhole_5 : decode cX5_becomeWhole 5 = .ok (.ifCond .eq 6, 3) := by decide +kernel
theorem dX5_becomeWhole_8 : decode cX5_becomeWhole 8 = .ok (.bipush (-6), 2) := by decide +kernel
theorem dX5_becomeWhole_10 : decode cX5_becomeWhole 10 = .ok (.ireturn, 1) := by decide +kernel
theorem dX5_becomeWhole_11 : decode cX5_becomeWhole 11 = .ok (.aload_n 0, 1) := by decide +kernel
theorem dX5_becomeWhole_12 : decode cX5_becomeWhole 12 = .ok (.getfield 32, 3) := by decide +kernel
theorem dX5_becomeWhole_15 : decode cX5_becomeWhole 15 = .ok (.iload_n 1, 1) := by decide +kernel
theorem dX5_becomeWhole_16 : decode cX5_becomeWhole 16 = .ok (.lload_n 2, 1) := by decide +kernel
theorem dX5_becomeWhole_17 : decode cX5_becomeWhole 17 = .ok (.lastore, 1) := by decide +kernel
theorem dX5_becomeWhole_18 : decode cX5_becomeWhole 18 = .ok (.aload_n 0, 1) := by decide +kernel
theorem dX5_becomeWhole_19 : decode cX5_becomeWhole 19 = .ok (.getfield 36, 3) := by decide +kernel
theorem dX5_becomeWhole_22 : decode cX5_becomeWhole 22 = .ok (.iload_n 1, 1) := by decide +kernel
theorem dX5_becomeWhole_23 : decode cX5_becomeWhole 23 = .ok (.lconst 1, 1) := by decide +kernel
theorem dX5_becomeWhole_24 : decode cX5_becomeWhole 24 = .ok (.lastore, 1) := by decide +kernel
theorem dX5_becomeWhole_25 : decode cX5_becomeWhole 25 = .ok (.aload_n 0, 1) := by decide +kernel
theorem dX5_becomeWhole_26 : decode cX5_becomeWhole 26 = .ok (.getfield 39, 3) := by decide +kernel
theorem dX5_becomeWhole_29 : decode cX5_becomeWhole 29 = .ok (.iload_n 1, 1) := by decide +kernel
theorem dX5_becomeWhole_30 : decode cX5_becomeWhole 30 = .ok (.iload 4, 2) := by decide +kernel
theorem dX5_becomeWhole_32 : decode cX5_becomeWhole 32 = .ok (.bastore, 1) := by decide +kernel
theorem dX5_becomeWhole_33 : decode cX5_becomeWhole 33 = .ok (.iconst 0, 1) := by decide +kernel
theorem dX5_becomeWhole_34 : decode cX5_becomeWhole 34 = .ok (.ireturn, 1) := by decide +kernel
theorem dX5_sumOfLines_0 : decode cX5_sumOfLines 0 = .ok (.lconst 0, 1) := by decide +kernel
theorem dX5_sumOfLines_1 : decode cX5_sumOfLines 1 = .ok (.lstore_n 1, 1) := by decide +kernel
theorem dX5_sumOfLines_2 : decode cX5_sumOfLines 2 = .ok (.iconst 0, 1) := by decide +kernel
theorem dX5_sumOfLines_3 : decode cX5_sumOfLines 3 = .ok (.istore_n 3, 1) := by decide +kernel
theorem dX5_sumOfLines_4 : decode cX5_sumOfLines 4 = .ok (.iload_n 3, 1) := by decide +kernel
theorem dX5_sumOfLines_5 : decode cX5_sumOfLines 5 = .ok (.aload_n 0, 1) := by decide +kernel
theorem dX5_sumOfLines_6 : decode cX5_sumOfLines 6 = .ok (.getfield 12, 3) := by decide +kernel
theorem dX5_sumOfLines_9 : decode cX5_sumOfLines 9 = .ok (.getfield 161, 3) := by decide +kernel
theorem dX5_sumOfLines_12 : decode cX5_sumOfLines 12 = .ok (.if_icmp .ge 22, 3) := by decide +kernel
theorem dX5_sumOfLines_15 : decode cX5_sumOfLines 15 = .ok (.lload_n 1, 1) := by decide +kernel
theorem dX5_sumOfLines_16 : decode cX5_sumOfLines 16 = .ok (.aload_n 0, 1) := by decide +kernel
theorem dX5_sumOfLines_17 : decode cX5_sumOfLines 17 = .ok (.getfield 12, 3) := by decide +kernel
theorem dX5_sumOfLines_20 : decode cX5_sumOfLines 20 = .ok (.getfield 162, 3) := by decide +kernel
theorem dX5_sumOfLines_23 : decode cX5_sumOfLines 23 = .ok (.iload_n 3, 1) := by decide +kernel
theorem dX5_sumOfLines_24 : decode cX5_sumOfLines 24 = .ok (.iaload, 1) := by decide +kernel
theorem dX5_sumOfLines_25 : decode cX5_sumOfLines 25 = .ok (.i2l, 1) := by decide +kernel
theorem dX5_sumOfLines_26 : decode cX5_sumOfLines 26 = .ok (.ladd, 1) := by decide +kernel
theorem dX5_sumOfLines_27 : decode cX5_sumOfLines 27 = .ok (.lstore_n 1, 1) := by decide +kernel
theorem dX5_sumOfLines_28 : decode cX5_sumOfLines 28 = .ok (.iinc 3 1, 3) := by decide +kernel
theorem dX5_sumOfLines_31 : decode cX5_sumOfLines 31 = .ok (.goto (-27), 3) := by decide +kernel
theorem dX5_sumOfLines_34 : decode cX5_sumOfLines 34 = .ok (.lload_n 1, 1) := by decide +kernel
theorem dX5_sumOfLines_35 : decode cX5_sumOfLines 35 = .ok (.lreturn, 1) := by decide +kernel
set_option maxRecDepth 20000 in
theorem ggX5_taxLines_X3_rounding : GoodIn wsX5_taxLines wsX3_rounding := goodIn_r _ [8, 9] (by decide +kernel) (by decide +kernel)
set_option maxRecDepth 20000 in
theorem gX5_taxLines_X3_rounding : GoodIn wsX5_taxLines (va_wsS RX5 117 yX3_rounding wsX3_rounding) := goodIn_app (goodIn_of _ (by decide +kernel)) ggX5_taxLines_X3_rounding
theorem dX5_taxLines_0 : decode cX5_taxLines 0 = .ok (.lconst 0, 1) := by decide +kernel
theorem dX5_taxLines_1 : decode cX5_taxLines 1 = .ok (.lstore 6, 2) := by decide +kernel
theorem dX5_taxLines_3 : decode cX5_taxLines 3 = .ok (.iconst 0, 1) := by decide +kernel
theorem dX5_taxLines_4 : decode cX5_taxLines 4 = .ok (.istore 8, 2) := by decide +kernel
theorem dX5_taxLines_6 : decode cX5_taxLines 6 = .ok (.iload 8, 2) := by decide +kernel
theorem dX5_taxLines_8 : decode cX5_taxLines 8 = .ok (.aload_n 0, 1) := by decide +kernel
theorem dX5_taxLines_9 : decode cX5_taxLines 9 = .ok (.getfield 12, 3) := by decide +kernel
theorem dX5_taxLines_12 : decode cX5_taxLines 12 = .ok (.getfield 161, 3) := by decide +kernel
theorem dX5_taxLines_15 : decode cX5_taxLines 15 = .ok (.if_icmp .ge 48, 3) := by decide +kernel
theorem dX5_taxLines_18 : decode cX5_taxLines 18 = .ok (.aload_n 0, 1) := by decide +kernel
theorem dX5_taxLines_19 : decode cX5_taxLines 19 = .ok (.getfield 43, 3) := by decide +kernel
theorem dX5_taxLines_22 : decode cX5_taxLines 22 = .ok (.iload 8, 2) := by decide +kernel
theorem dX5_taxLines_24 : decode cX5_taxLines 24 = .ok (.aload_n 0, 1) := by decide +kernel
theorem dX5_taxLines_25 : decode cX5_taxLines 25 = .ok (.getfield 12, 3) := by decide +kernel
theorem dX5_taxLines_28 : decode cX5_taxLines 28 = .ok (.getfield 162, 3) := by decide +kernel
theorem dX5_taxLines_31 : decode cX5_taxLines 31 = .ok (.iload 8, 2) := by decide +kernel
theorem dX5_taxLines_33 : decode cX5_taxLines 33 = .ok (.iaload, 1) := by decide +kernel
theorem dX5_taxLines_34 : decode cX5_taxLines 34 = .ok (.i2l, 1) := by decide +kernel
theorem dX5_taxLines_35 : decode cX5_taxLines 35 = .ok (.lload_n 1, 1) := by decide +kernel
theorem dX5_taxLines_36 : decode cX5_taxLines 36 = .ok (.lmul, 1) := by decide +kernel
theorem dX5_taxLines_37 : decode cX5_taxLines 37 = .ok (.lload_n 3, 1) := by decide +kernel
theorem dX5_taxLines_38 : decode cX5_taxLines 38 = .ok (.lconst 1, 1) := by decide +kernel
theorem dX5_taxLines_39 : decode cX5_taxLines 39 = .ok (.iload 5, 2) := by decide +kernel
theorem dX5_taxLines_41 : decode cX5_taxLines 41 = .ok (.invokestatic 117, 3) := by decide +kernel
theorem dX5_taxLines_44 : decode cX5_taxLines 44 = .ok (.lastore, 1) := by decide +kernel
theorem dX5_taxLines_45 : decode cX5_taxLines 45 = .ok (.lload 6, 2) := by decide +kernel
theorem dX5_taxLines_47 : decode cX5_taxLines 47 = .ok (.aload_n 0, 1) := by decide +kernel
theorem dX5_taxLines_48 : decode cX5_taxLines 48 = .ok (.getfield 43, 3) := by decide +kernel
theorem dX5_taxLines_51 : decode cX5_taxLines 51 = .ok (.iload 8, 2) := by decide +kernel
theorem dX5_taxLines_53 : decode cX5_taxLines 53 = .ok (.laload, 1) := by decide +kernel
theorem dX5_taxLines_54 : decode cX5_taxLines 54 = .ok (.ladd, 1) := by decide +kernel
theorem dX5_taxLines_55 : decode cX5_taxLines 55 = .ok (.lstore 6, 2) := by decide +kernel
theorem dX5_taxLines_57 : decode cX5_taxLines 57 = .ok (.iinc 8 1, 3) := by decide +kernel
theorem dX5_taxLines_60 : decode cX5_taxLines 60 = .ok (.goto (-54), 3) := by decide +kernel
theorem dX5_taxLines_63 : decode cX5_taxLines 63 = .ok (.lload 6, 2) := by decide +kernel
theorem dX5_taxLines_65 : decode cX5_taxLines 65 = .ok (.lreturn, 1) := by decide +kernel
set_option maxRecDepth 20000 in
theorem ggX5_flowLines_X3_rounding : GoodIn wsX5_flowLines wsX3_rounding := goodIn_r _ [8, 9] (by decide +kernel) (by decide +kernel)
set_option maxRecDepth 20000 in
theorem gX5_flowLines_X3_rounding : GoodIn wsX5_flowLines (va_wsS RX5 117 yX3_rounding wsX3_rounding) := goodIn_app (goodIn_of _ (by decide +kernel)) ggX5_flowLines_X3_rounding
theorem dX5_flowLines_0 : decode cX5_flowLines 0 = .ok (.lconst 0, 1) := by decide +kernel
theorem dX5_flowLines_1 : decode cX5_flowLines 1 = .ok (.lstore 6, 2) := by decide +kernel
theorem dX5_flowLines_3 : decode cX5_flowLines 3 = .ok (.lconst 0, 1) := by decide +kernel
theorem dX5_flowLines_4 : decode cX5_flowLines 4 = .ok (.lstore 8, 2) := by decide +kernel
theorem dX5_flowLines_6 : decode cX5_flowLines 6 = .ok (.iconst 0, 1) := by decide +kernel
theorem dX5_flowLines_7 : decode cX5_flowLines 7 = .ok (.istore 10, 2) := by decide +kernel
theorem dX5_flowLines_9 : decode cX5_flowLines 9 = .ok (.iload 10, 2) := by decide +kernel
theorem dX5_flowLines_11 : decode cX5_flowLines 11 = .ok (.aload_n 0, 1) := by decide +kernel
theorem dX5_flowLines_12 : decode cX5_flowLines 12 = .ok (.getfield 12, 3) := by decide +kernel
theorem dX5_flowLines_15 : decode cX5_flowLines 15 = .ok (.getfield 161, 3) := by decide +kernel
theorem dX5_flowLines_18 : decode cX5_flowLines 18 = .ok (.if_icmp .ge 58, 3) := by decide +kernel
theorem dX5_flowLines_21 : decode cX5_flowLines 21 = .ok (.lload 6, 2) := by decide +kernel
theorem dX5_flowLines_23 : decode cX5_flowLines 23 = .ok (.aload_n 0, 1) := by decide +kernel
theorem dX5_flowLines_24 : decode cX5_flowLines 24 = .ok (.getfield 12, 3) := by decide +kernel
theorem dX5_flowLines_27 : decode cX5_flowLines 27 = .ok (.getfield 162, 3) := by decide +kernel
theorem dX5_flowLines_30 : decode cX5_flowLines 30 = .ok (.iload 10, 2) := by decide +kernel
theorem dX5_flowLines_32 : decode cX5_flowLines 32 = .ok (.iaload, 1) := by decide +kernel
theorem dX5_flowLines_33 : decode cX5_flowLines 33 = .ok (.i2l, 1) := by decide +kernel
theorem dX5_flowLines_34 : decode cX5_flowLines 34 = .ok (.ladd, 1) := by decide +kernel
theorem dX5_flowLines_35 : decode cX5_flowLines 35 = .ok (.lstore 6, 2) := by decide +kernel
theorem dX5_flowLines_37 : decode cX5_flowLines 37 = .ok (.aload_n 0, 1) := by decide +kernel
theorem dX5_flowLines_38 : decode cX5_flowLines 38 = .ok (.getfield 43, 3) := by decide +kernel
theorem dX5_flowLines_41 : decode cX5_flowLines 41 = .ok (.iload 10, 2) := by decide +kernel
theorem dX5_flowLines_43 : decode cX5_flowLines 43 = .ok (.lload 6, 2) := by decide +kernel
theorem dX5_flowLines_45 : decode cX5_flowLines 45 = .ok (.lload_n 1, 1) := by decide +kernel
theorem dX5_flowLines_46 : decode cX5_flowLines 46 = .ok (.lmul, 1) := by decide +kernel
theorem dX5_flowLines_47 : decode cX5_flowLines 47 = .ok (.lload_n 3, 1) := by decide +kernel
theorem dX5_flowLines_48 : decode cX5_flowLines 48 = .ok (.lconst 1, 1) := by decide +kernel
theorem dX5_flowLines_49 : decode cX5_flowLines 49 = .ok (.iload 5, 2) := by decide +kernel
theorem dX5_flowLines_51 : decode cX5_flowLines 51 = .ok (.invokestatic 117, 3) := by decide +kernel
theorem dX5_flowLines_54 : decode cX5_flowLines 54 = .ok (.lload 8, 2) := by decide +kernel
theorem dX5_flowLines_56 : decode cX5_flowLines 56 = .ok (.lsub, 1) := by decide +kernel
theorem dX5_flowLines_57 : decode cX5_flowLines 57 = .ok (.lastore, 1) := by decide +kernel
theorem dX5_flowLines_58 : decode cX5_flowLines 58 = .ok (.lload 8, 2) := by decide +kernel
theorem dX5_flowLines_60 : decode cX5_flowLines 60 = .ok (.aload_n 0, 1) := by decide +kernel
theorem dX5_flowLines_61 : decode cX5_flowLines 61 = .ok (.getfield 43, 3) := by decide +kernel
theorem dX5_flowLines_64 : decode cX5_flowLines 64 = .ok (.iload 10, 2) := by decide +kernel
theorem dX5_flowLines_66 : decode cX5_flowLines 66 = .ok (.laload, 1) := by decide +kernel
theorem dX5_flowLines_67 : decode cX5_flowLines 67 = .ok (.ladd, 1) := by decide +kernel
theorem dX5_flowLines_68 : decode cX5_flowLines 68 = .ok (.lstore 8, 2) := by decide +kernel
theorem dX5_flowLines_70 : decode cX5_flowLines 70 = .ok (.iinc 10 1, 3) := by decide +kernel
theorem dX5_flowLines_73 : decode cX5_flowLines 73 = .ok (.goto (-64), 3) := by decide +kernel
theorem dX5_flowLines_76 : decode cX5_flowLines 76 = .ok (.lload 8, 2) := by decide +kernel
theorem dX5_flowLines_78 : decode cX5_flowLines 78 = .ok (.lreturn, 1) := by decide +kernel
set_option maxRecDepth 20000 in
theorem ggX5_carry_X3_divisor : GoodIn wsX5_carry wsX3_divisor := goodIn_r _ [8] (by decide +kernel) (by decide +kernel)
set_option maxRecDepth 20000 in
theorem gX5_carry_X3_divisor : GoodIn wsX5_carry (va_wsS RX5 153 yX3_divisor wsX3_divisor) := goodIn_app (goodIn_of _ (by decide +kernel)) ggX5_carry_X3_divisor
set_option maxRecDepth 20000 in
theorem ggX5_carry_X3_isSpent : GoodIn wsX5_carry wsX3_isSpent := goodIn_r _ [11, 12, 13, 14] (by decide +kernel) (by decide +kernel)
set_option maxRecDepth 20000 in
theorem gX5_carry_X3_isSpent : GoodIn wsX5_carry (va_wsS RX5 157 yX3_isSpent wsX3_isSpent) := goodIn_app (goodIn_of _ (by decide +kernel)) ggX5_carry_X3_isSpent
set_option maxRecDepth 20000 in
theorem ggX5_carry_X3_rounding : GoodIn wsX5_carry wsX3_rounding := goodIn_r _ [17, 18] (by decide +kernel) (by decide +kernel)
set_option maxRecDepth 20000 in
theorem gX5_carry_X3_rounding : GoodIn wsX5_carry (va_wsS RX5 117 yX3_rounding wsX3_rounding) := goodIn_app (goodIn_of _ (by decide +kernel)) ggX5_carry_X3_rounding
theorem dX5_carry_0 : decode cX5_carry 0 = .ok (.aload_n 0, 1) := by decide +kernel
theorem dX5_carry_1 : decode cX5_carry 1 = .ok (.getfield 65, 3) := by decide +kernel
theorem dX5_carry_4 : decode cX5_carry 4 = .ok (.aload_n 0, 1) := by decide +kernel
theorem dX5_carry_5 : decode cX5_carry 5 = .ok (.getfield 36, 3) := by decide +kernel
theorem dX5_carry_8 : decode cX5_carry 8 = .ok (.iload_n 1, 1) := by decide +kernel
theorem dX5_carry_9 : decode cX5_carry 9 = .ok (.laload, 1) := by decide +kernel
theorem dX5_carry_10 : decode cX5_carry 10 = .ok (.lmul, 1) := by decide +kernel
theorem dX5_carry_11 : decode cX5_carry 11 = .ok (.aload_n 0, 1) := by decide +kernel
theorem dX5_carry_12 : decode cX5_carry 12 = .ok (.getfield 32, 3) := by decide +kernel
theorem dX5_carry_15 : decode cX5_carry 15 = .ok (.iload_n 1, 1) := by decide +kernel
theorem dX5_carry_16 : decode cX5_carry 16 = .ok (.laload, 1) := by decide +kernel
theorem dX5_carry_17 : decode cX5_carry 17 = .ok (.aload_n 0, 1) := by decide +kernel
theorem dX5_carry_18 : decode cX5_carry 18 = .ok (.getfield 46, 3) := by decide +kernel
theorem dX5_carry_21 : decode cX5_carry 21 = .ok (.lmul, 1) := by decide +kernel
theorem dX5_carry_22 : decode cX5_carry 22 = .ok (.ladd, 1) := by decide +kernel
theorem dX5_carry_23 : decode cX5_carry 23 = .ok (.lstore_n 2, 1) := by decide +kernel
theorem dX5_carry_24 : decode cX5_carry 24 = .ok (.aload_n 0, 1) := by decide +kernel
theorem dX5_carry_25 : decode cX5_carry 25 = .ok (.getfield 46, 3) := by decide +kernel
theorem dX5_carry_28 : decode cX5_carry 28 = .ok (.aload_n 0, 1) := by decide +kernel
theorem dX5_carry_29 : decode cX5_carry 29 = .ok (.getfield 36, 3) := by decide +kernel
theorem dX5_carry_32 : decode cX5_carry 32 = .ok (.iload_n 1, 1) := by decide +kernel
theorem dX5_carry_33 : decode cX5_carry 33 = .ok (.laload, 1) := by decide +kernel
theorem dX5_carry_34 : decode cX5_carry 34 = .ok (.lmul, 1) := by decide +kernel
theorem dX5_carry_35 : decode cX5_carry 35 = .ok (.lstore 4, 2) := by decide +kernel
theorem dX5_carry_37 : decode cX5_carry 37 = .ok (.lload_n 2, 1) := by decide +kernel
theorem dX5_carry_38 : decode cX5_carry 38 = .ok (.lload 4, 2) := by decide +kernel
theorem dX5_carry_40 : decode cX5_carry 40 = .ok (.invokestatic 153, 3) := by decide +kernel
theorem dX5_carry_43 : decode cX5_carry 43 = .ok (.lstore 6, 2) := by decide +kernel
theorem dX5_carry_45 : decode cX5_carry 45 = .ok (.lload 6, 2) := by decide +kernel
theorem dX5_carry_47 : decode cX5_carry 47 = .ok (.lconst 0, 1) := by decide +kernel
theorem dX5_carry_48 : decode cX5_carry 48 = .ok (.lcmp, 1) := by decide +kernel
theorem dX5_carry_49 : decode cX5_carry 49 = .ok (.ifCond .le 18, 3) := by decide +kernel
theorem dX5_carry_52 : decode cX5_carry 52 = .ok (.lload_n 2, 1) := by decide +kernel
theorem dX5_carry_53 : decode cX5_carry 53 = .ok (.lload 6, 2) := by decide +kernel
theorem dX5_carry_55 : decode cX5_carry 55 = .ok (.ldiv, 1) := by decide +kernel
theorem dX5_carry_56 : decode cX5_carry 56 = .ok (.lload 4, 2) := by decide +kernel
theorem dX5_carry_58 : decode cX5_carry 58 = .ok (.lload 6, 2) := by decide +kernel
theorem dX5_carry_60 : decode cX5_carry 60 = .ok (.ldiv, 1) := by decide +kernel
theorem dX5_carry_61 : decode cX5_carry 61 = .ok (.invokestatic 157, 3) := by decide +kernel
theorem dX5_carry_64 : decode cX5_carry 64 = .ok (.ifCond .eq 6, 3) := by decide +kernel
theorem dX5_carry_67 : decode cX5_carry 67 = .ok (.bipush (-6), 2) := by decide +kernel
theorem dX5_carry_69 : decode cX5_carry 69 = .ok (.ireturn, 1) := by decide +kernel
theorem dX5_carry_70 : decode cX5_carry 70 = .ok (.lload_n 2, 1) := by decide +kernel
theorem dX5_carry_71 : decode cX5_carry 71 = .ok (.lload 6, 2) := by decide +kernel
theorem dX5_carry_73 : decode cX5_carry 73 = .ok (.ldiv, 1) := by decide +kernel
theorem dX5_carry_74 : decode cX5_carry 74 = .ok (.lstore_n 2, 1) := by decide +kernel
theorem dX5_carry_75 : decode cX5_carry 75 = .ok (.lload 4, 2) := by decide +kernel
theorem dX5_carry_77 : decode cX5_carry 77 = .ok (.lload 6, 2) := by decide +kernel
theorem dX5_carry_79 : decode cX5_carry 79 = .ok (.ldiv, 1) := by decide +kernel
theorem dX5_carry_80 : decode cX5_carry 80 = .ok (.lstore 4, 2) := by decide +kernel
theorem dX5_carry_82 : decode cX5_carry 82 = .ok (.aload_n 0, 1) := by decide +kernel
theorem dX5_carry_83 : decode cX5_carry 83 = .ok (.getfield 32, 3) := by decide +kernel
theorem dX5_carry_86 : decode cX5_carry 86 = .ok (.iload_n 1, 1) := by decide +kernel
theorem dX5_carry_87 : decode cX5_carry 87 = .ok (.lload_n 2, 1) := by decide +kernel
theorem dX5_carry_88 : decode cX5_carry 88 = .ok (.lload 4, 2) := by decide +kernel
theorem dX5_carry_90 : decode cX5_carry 90 = .ok (.lconst 1, 1) := by decide +kernel
theorem dX5_carry_91 : decode cX5_carry 91 = .ok (.iconst 4, 1) := by decide +kernel
theorem dX5_carry_92 : decode cX5_carry 92 = .ok (.invokestatic 117, 3) := by decide +kernel
theorem dX5_carry_95 : decode cX5_carry 95 = .ok (.lastore, 1) := by decide +kernel
theorem dX5_carry_96 : decode cX5_carry 96 = .ok (.aload_n 0, 1) := by decide +kernel
theorem dX5_carry_97 : decode cX5_carry 97 = .ok (.getfield 36, 3) := by decide +kernel
theorem dX5_carry_100 : decode cX5_carry 100 = .ok (.iload_n 1, 1) := by decide +kernel
theorem dX5_carry_101 : decode cX5_carry 101 = .ok (.lconst 1, 1) := by decide +kernel
theorem dX5_carry_102 : decode cX5_carry 102 = .ok (.lastore, 1) := by decide +kernel
theorem dX5_carry_103 : decode cX5_carry 103 = .ok (.aload_n 0, 1) := by decide +kernel
theorem dX5_carry_104 : decode cX5_carry 104 = .ok (.lload_n 2, 1) := by decide +kernel
theorem dX5_carry_105 : decode cX5_carry 105 = .ok (.aload_n 0, 1) := by decide +kernel
theorem dX5_carry_106 : decode cX5_carry 106 = .ok (.getfield 32, 3) := by decide +kernel
theorem dX5_carry_109 : decode cX5_carry 109 = .ok (.iload_n 1, 1) := by decide +kernel
theorem dX5_carry_110 : decode cX5_carry 110 = .ok (.laload, 1) := by decide +kernel
theorem dX5_carry_111 : decode cX5_carry 111 = .ok (.lload 4, 2) := by decide +kernel
theorem dX5_carry_113 : decode cX5_carry 113 = .ok (.lmul, 1) := by decide +kernel
theorem dX5_carry_114 : decode cX5_carry 114 = .ok (.lsub, 1) := by decide +kernel
theorem dX5_carry_115 : decode cX5_carry 115 = .ok (.putfield 65, 3) := by decide +kernel
theorem dX5_carry_118 : decode cX5_carry 118 = .ok (.aload_n 0, 1) := by decide +kernel
theorem dX5_carry_119 : decode cX5_carry 119 = .ok (.lload 4, 2) := by decide +kernel
theorem dX5_carry_121 : decode cX5_carry 121 = .ok (.putfield 46, 3) := by decide +kernel
theorem dX5_carry_124 : decode cX5_carry 124 = .ok (.iconst 0, 1) := by decide +kernel
theorem dX5_carry_125 : decode cX5_carry 125 = .ok (.ireturn, 1) := by decide +kernel
set_option maxRecDepth 20000 in
theorem ggX5_cap_X5_becomeWhole : GoodIn wsX5_cap wsX5_becomeWhole := goodIn_r _ [8, 2, 1, 3, 9, 10, 11, 12, 13, 14, 15, 16, 17, 18, 19, 20, 21, 22, 23, 24, 25, 26] (by decide +kernel) (by decide +kernel)
set_option maxRecDepth 20000 in
theorem gX5_cap_X5_becomeWhole : GoodIn wsX5_cap (wsV RX5 94 RX5 yX5_becomeWhole wsX5_becomeWhole) := goodIn_app (goodIn_of _ (by decide +kernel)) ggX5_cap_X5_becomeWhole
theorem dX5_cap_0 : decode cX5_cap 0 = .ok (.lload_n 3, 1) := by decide +kernel
theorem dX5_cap_1 : decode cX5_cap 1 = .ok (.aload_n 0, 1) := by decide +kernel
theorem dX5_cap_2 : decode cX5_cap 2 = .ok (.getfield 36, 3) := by decide +kernel
theorem dX5_cap_5 : decode cX5_cap 5 = .ok (.iload_n 1, 1) := by decide +kernel
theorem dX5_cap_6 : decode cX5_cap 6 = .ok (.laload, 1) := by decide +kernel
theorem dX5_cap_7 : decode cX5_cap 7 = .ok (.lmul, 1) := by decide +kernel
theorem dX5_cap_8 : decode cX5_cap 8 = .ok (.lstore 5, 2) := by decide +kernel
theorem dX5_cap_10 : decode cX5_cap 10 = .ok (.iload_n 2, 1) := by decide +kernel
theorem dX5_cap_11 : decode cX5_cap 11 = .ok (.ifCond .ne 18, 3) := by decide +kernel
theorem dX5_cap_14 : decode cX5_cap 14 = .ok (.aload_n 0, 1) := by decide +kernel
theorem dX5_cap_15 : decode cX5_cap 15 = .ok (.getfield 32, 3) := by decide +kernel
theorem dX5_cap_18 : decode cX5_cap 18 = .ok (.iload_n 1, 1) := by decide +kernel
theorem dX5_cap_19 : decode cX5_cap 19 = .ok (.laload, 1) := by decide +kernel
theorem dX5_cap_20 : decode cX5_cap 20 = .ok (.lload 5, 2) := by decide +kernel
theorem dX5_cap_22 : decode cX5_cap 22 = .ok (.lcmp, 1) := by decide +kernel
theorem dX5_cap_23 : decode cX5_cap 23 = .ok (.ifCond .le 31, 3) := by decide +kernel
theorem dX5_cap_26 : decode cX5_cap 26 = .ok (.goto 15, 3) := by decide +kernel
theorem dX5_cap_29 : decode cX5_cap 29 = .ok (.aload_n 0, 1) := by decide +kernel
theorem dX5_cap_30 : decode cX5_cap 30 = .ok (.getfield 32, 3) := by decide +kernel
theorem dX5_cap_33 : decode cX5_cap 33 = .ok (.iload_n 1, 1) := by decide +kernel
theorem dX5_cap_34 : decode cX5_cap 34 = .ok (.laload, 1) := by decide +kernel
theorem dX5_cap_35 : decode cX5_cap 35 = .ok (.lload 5, 2) := by decide +kernel
theorem dX5_cap_37 : decode cX5_cap 37 = .ok (.lcmp, 1) := by decide +kernel
theorem dX5_cap_38 : decode cX5_cap 38 = .ok (.ifCond .ge 16, 3) := by decide +kernel
theorem dX5_cap_41 : decode cX5_cap 41 = .ok (.aload_n 0, 1) := by decide +kernel
theorem dX5_cap_42 : decode cX5_cap 42 = .ok (.iload_n 1, 1) := by decide +kernel
theorem dX5_cap_43 : decode cX5_cap 43 = .ok (.lload_n 3, 1) := by decide +kernel
theorem dX5_cap_44 : decode cX5_cap 44 = .ok (.aload_n 0, 1) := by decide +kernel
theorem dX5_cap_45 : decode cX5_cap 45 = .ok (.getfield 39, 3) := by decide +kernel
theorem dX5_cap_48 : decode cX5_cap 48 = .ok (.iload_n 1, 1) := by decide +kernel
theorem dX5_cap_49 : decode cX5_cap 49 = .ok (.baload, 1) := by decide +kernel
theorem dX5_cap_50 : decode cX5_cap 50 = .ok (.invokevirtual 94, 3) := by decide +kernel
theorem dX5_cap_53 : decode cX5_cap 53 = .ok (.ireturn, 1) := by decide +kernel
theorem dX5_cap_54 : decode cX5_cap 54 = .ok (.iconst 0, 1) := by decide +kernel
theorem dX5_cap_55 : decode cX5_cap 55 = .ok (.ireturn, 1) := by decide +kernel
theorem dX5_book_0 : decode cX5_book 0 = .ok (.aload_n 0, 1) := by decide +kernel
theorem dX5_book_1 : decode cX5_book 1 = .ok (.getfield 36, 3) := by decide +kernel
theorem dX5_book_4 : decode cX5_book 4 = .ok (.iload_n 1, 1) := by decide +kernel
theorem dX5_book_5 : decode cX5_book 5 = .ok (.laload, 1) := by decide +kernel
theorem dX5_book_6 : decode cX5_book 6 = .ok (.lconst 1, 1) := by decide +kernel
theorem dX5_book_7 : decode cX5_book 7 = .ok (.lcmp, 1) := by decide +kernel
theorem dX5_book_8 : decode cX5_book 8 = .ok (.ifCond .eq 6, 3) := by decide +kernel
theorem dX5_book_11 : decode cX5_book 11 = .ok (.bipush (-5), 2) := by decide +kernel
theorem dX5_book_13 : decode cX5_book 13 = .ok (.ireturn, 1) := by decide +kernel
theorem dX5_book_14 : decode cX5_book 14 = .ok (.aload_n 0, 1) := by decide +kernel
theorem dX5_book_15 : decode cX5_book 15 = .ok (.getfield 21, 3) := by decide +kernel
theorem dX5_book_18 : decode cX5_book 18 = .ok (.getfield 165, 3) := by decide +kernel
theorem dX5_book_21 : decode cX5_book 21 = .ok (.iload_n 2, 1) := by decide +kernel
theorem dX5_book_22 : decode cX5_book 22 = .ok (.dup2, 1) := by decide +kernel
theorem dX5_book_23 : decode cX5_book 23 = .ok (.laload, 1) := by decide +kernel
theorem dX5_book_24 : decode cX5_book 24 = .ok (.iload_n 3, 1) := by decide +kernel
theorem dX5_book_25 : decode cX5_book 25 = .ok (.ifCond .ne 12, 3) := by decide +kernel
theorem dX5_book_28 : decode cX5_book 28 = .ok (.aload_n 0, 1) := by decide +kernel
theorem dX5_book_29 : decode cX5_book 29 = .ok (.getfield 32, 3) := by decide +kernel
theorem dX5_book_32 : decode cX5_book 32 = .ok (.iload_n 1, 1) := by decide +kernel
theorem dX5_book_33 : decode cX5_book 33 = .ok (.laload, 1) := by decide +kernel
theorem dX5_book_34 : decode cX5_book 34 = .ok (.goto 10, 3) := by decide +kernel
theorem dX5_book_37 : decode cX5_book 37 = .ok (.aload_n 0, 1) := by decide +kernel
theorem dX5_book_38 : decode cX5_book 38 = .ok (.getfield 32, 3) := by decide +kernel
theorem dX5_book_41 : decode cX5_book 41 = .ok (.iload_n 1, 1) := by decide +kernel
theorem dX5_book_42 : decode cX5_book 42 = .ok (.laload, 1) := by decide +kernel
theorem dX5_book_43 : decode cX5_book 43 = .ok (.lneg, 1) := by decide +kernel
theorem dX5_book_44 : decode cX5_book 44 = .ok (.ladd, 1) := by decide +kernel
theorem dX5_book_45 : decode cX5_book 45 = .ok (.lastore, 1) := by decide +kernel
theorem dX5_book_46 : decode cX5_book 46 = .ok (.aload_n 0, 1) := by decide +kernel
theorem dX5_book_47 : decode cX5_book 47 = .ok (.getfield 39, 3) := by decide +kernel
theorem dX5_book_50 : decode cX5_book 50 = .ok (.iload_n 1, 1) := by decide +kernel
theorem dX5_book_51 : decode cX5_book 51 = .ok (.baload, 1) := by decide +kernel
theorem dX5_book_52 : decode cX5_book 52 = .ok (.ifCond .eq 16, 3) := by decide +kernel
theorem dX5_book_55 : decode cX5_book 55 = .ok (.aload_n 0, 1) := by decide +kernel
theorem dX5_book_56 : decode cX5_book 56 = .ok (.getfield 21, 3) := by decide +kernel
theorem dX5_book_59 : decode cX5_book 59 = .ok (.dup, 1) := by decide +kernel
theorem dX5_book_60 : decode cX5_book 60 = .ok (.getfield 168, 3) := by decide +kernel
theorem dX5_book_63 : decode cX5_book 63 = .ok (.iconst 1, 1) := by decide +kernel
theorem dX5_book_64 : decode cX5_book 64 = .ok (.iadd, 1) := by decide +kernel
theorem dX5_book_65 : decode cX5_book 65 = .ok (.putfield 168, 3) := by decide +kernel
theorem dX5_book_68 : decode cX5_book 68 = .ok (.iconst 0, 1) := by decide +kernel
theorem dX5_book_69 : decode cX5_book 69 = .ok (.ireturn, 1) := by decide +kernel
set_option maxRecDepth 20000 in
theorem ggX5_passDays_X3_rounding : GoodIn wsX5_passDays wsX3_rounding := goodIn_r _ [6, 7] (by decide +kernel) (by decide +kernel)
set_option maxRecDepth 20000 in
theorem gX5_passDays_X3_rounding : GoodIn wsX5_passDays (va_wsS RX5 117 yX3_rounding wsX3_rounding) := goodIn_app (goodIn_of _ (by decide +kernel)) ggX5_passDays_X3_rounding
set_option maxRecDepth 20000 in
theorem ggX5_passDays_X3_isSpent : GoodIn wsX5_passDays wsX3_isSpent := goodIn_r _ [10, 11, 12, 13] (by decide +kernel) (by decide +kernel)
set_option maxRecDepth 20000 in
theorem gX5_passDays_X3_isSpent : GoodIn wsX5_passDays (va_wsS RX5 157 yX3_isSpent wsX3_isSpent) := goodIn_app (goodIn_of _ (by decide +kernel)) ggX5_passDays_X3_isSpent
theorem dX5_passDays_0 : decode cX5_passDays 0 = .ok (.iconst 0, 1) := by decide +kernel
theorem dX5_passDays_1 : decode cX5_passDays 1 = .ok (.istore 7, 2) := by decide +kernel
theorem dX5_passDays_3 : decode cX5_passDays 3 = .ok (.iload 7, 2) := by decide +kernel
theorem dX5_passDays_5 : decode cX5_passDays 5 = .ok (.iload 6, 2) := by decide +kernel
theorem dX5_passDays_7 : decode cX5_passDays 7 = .ok (.if_icmp .ge 85, 3) := by decide +kernel
theorem dX5_passDays_10 : decode cX5_passDays 10 = .ok (.aload_n 0, 1) := by decide +kernel
theorem dX5_passDays_11 : decode cX5_passDays 11 = .ok (.getfield 32, 3) := by decide +kernel
theorem dX5_passDays_14 : decode cX5_passDays 14 = .ok (.iload_n 1, 1) := by decide +kernel
theorem dX5_passDays_15 : decode cX5_passDays 15 = .ok (.laload, 1) := by decide +kernel
theorem dX5_passDays_16 : decode cX5_passDays 16 = .ok (.lload_n 2, 1) := by decide +kernel
theorem dX5_passDays_17 : decode cX5_passDays 17 = .ok (.lmul, 1) := by decide +kernel
theorem dX5_passDays_18 : decode cX5_passDays 18 = .ok (.aload_n 0, 1) := by decide +kernel
theorem dX5_passDays_19 : decode cX5_passDays 19 = .ok (.getfield 36, 3) := by decide +kernel
theorem dX5_passDays_22 : decode cX5_passDays 22 = .ok (.iload_n 1, 1) := by decide +kernel
theorem dX5_passDays_23 : decode cX5_passDays 23 = .ok (.laload, 1) := by decide +kernel
theorem dX5_passDays_24 : decode cX5_passDays 24 = .ok (.lload 4, 2) := by decide +kernel
theorem dX5_passDays_26 : decode cX5_passDays 26 = .ok (.lmul, 1) := by decide +kernel
theorem dX5_passDays_27 : decode cX5_passDays 27 = .ok (.lconst 1, 1) := by decide +kernel
theorem dX5_passDays_28 : decode cX5_passDays 28 = .ok (.iconst 1, 1) := by decide +kernel
theorem dX5_passDays_29 : decode cX5_passDays 29 = .ok (.invokestatic 117, 3) := by decide +kernel
theorem dX5_passDays_32 : decode cX5_passDays 32 = .ok (.lstore 8, 2) := by decide +kernel
theorem dX5_passDays_34 : decode cX5_passDays 34 = .ok (.lload 8, 2) := by decide +kernel
theorem dX5_passDays_36 : decode cX5_passDays 36 = .ok (.lconst 0, 1) := by decide +kernel
theorem dX5_passDays_37 : decode cX5_passDays 37 = .ok (.lcmp, 1) := by decide +kernel
theorem dX5_passDays_38 : decode cX5_passDays 38 = .ok (.ifCond .ne 5, 3) := by decide +kernel
theorem dX5_passDays_41 : decode cX5_passDays 41 = .ok (.iconst 0, 1) := by decide +kernel
theorem dX5_passDays_42 : decode cX5_passDays 42 = .ok (.ireturn, 1) := by decide +kernel
theorem dX5_passDays_43 : decode cX5_passDays 43 = .ok (.aload_n 0, 1) := by decide +kernel
theorem dX5_passDays_44 : decode cX5_passDays 44 = .ok (.getfield 32, 3) := by decide +kernel
theorem dX5_passDays_47 : decode cX5_passDays 47 = .ok (.iload_n 1, 1) := by decide +kernel
theorem dX5_passDays_48 : decode cX5_passDays 48 = .ok (.laload, 1) := by decide +kernel
theorem dX5_passDays_49 : decode cX5_passDays 49 = .ok (.lload 8, 2) := by decide +kernel
theorem dX5_passDays_51 : decode cX5_passDays 51 = .ok (.aload_n 0, 1) := by decide +kernel
theorem dX5_passDays_52 : decode cX5_passDays 52 = .ok (.getfield 36, 3) := by decide +kernel
theorem dX5_passDays_55 : decode cX5_passDays 55 = .ok (.iload_n 1, 1) := by decide +kernel
theorem dX5_passDays_56 : decode cX5_passDays 56 = .ok (.laload, 1) := by decide +kernel
theorem dX5_passDays_57 : decode cX5_passDays 57 = .ok (.lmul, 1) := by decide +kernel
theorem dX5_passDays_58 : decode cX5_passDays 58 = .ok (.ladd, 1) := by decide +kernel
theorem dX5_passDays_59 : decode cX5_passDays 59 = .ok (.lstore 10, 2) := by decide +kernel
theorem dX5_passDays_61 : decode cX5_passDays 61 = .ok (.lload 10, 2) := by decide +kernel
theorem dX5_passDays_63 : decode cX5_passDays 63 = .ok (.aload_n 0, 1) := by decide +kernel
theorem dX5_passDays_64 : decode cX5_passDays 64 = .ok (.getfield 36, 3) := by decide +kernel
theorem dX5_passDays_67 : decode cX5_passDays 67 = .ok (.iload_n 1, 1) := by decide +kernel
theorem dX5_passDays_68 : decode cX5_passDays 68 = .ok (.laload, 1) := by decide +kernel
theorem dX5_passDays_69 : decode cX5_passDays 69 = .ok (.invokestatic 157, 3) := by decide +kernel
theorem dX5_passDays_72 : decode cX5_passDays 72 = .ok (.ifCond .eq 6, 3) := by decide +kernel
theorem dX5_passDays_75 : decode cX5_passDays 75 = .ok (.bipush (-6), 2) := by decide +kernel
theorem dX5_passDays_77 : decode cX5_passDays 77 = .ok (.ireturn, 1) := by decide +kernel
theorem dX5_passDays_78 : decode cX5_passDays 78 = .ok (.aload_n 0, 1) := by decide +kernel
theorem dX5_passDays_79 : decode cX5_passDays 79 = .ok (.getfield 32, 3) := by decide +kernel
theorem dX5_passDays_82 : decode cX5_passDays 82 = .ok (.iload_n 1, 1) := by decide +kernel
theorem dX5_passDays_83 : decode cX5_passDays 83 = .ok (.lload 10, 2) := by decide +kernel
theorem dX5_passDays_85 : decode cX5_passDays 85 = .ok (.lastore, 1) := by decide +kernel
theorem dX5_passDays_86 : decode cX5_passDays 86 = .ok (.iinc 7 1, 3) := by decide +kernel
theorem dX5_passDays_89 : decode cX5_passDays 89 = .ok (.goto (-86), 3) := by decide +kernel
theorem dX5_passDays_92 : decode cX5_passDays 92 = .ok (.iconst 0, 1) := by decide +kernel
theorem dX5_passDays_93 : decode cX5_passDays 93 = .ok (.ireturn, 1) := by decide +kernel
theorem dX6_init_0 : decode cX6_init 0 = .ok (.aload_n 0, 1) := by decide +kernel
theorem dX6_init_1 : decode cX6_init 1 = .ok (.invokespecial 3, 3) := by decide +kernel
theorem dX6_init_4 : decode cX6_init 4 = .ok (.aload_n 0, 1) := by decide +kernel
theorem dX6_init_5 : decode cX6_init 5 = .ok (.bipush 20, 2) := by decide +kernel
theorem dX6_init_7 : decode cX6_init 7 = .ok (.newarray .int, 2) := by decide +kernel
theorem dX6_init_9 : decode cX6_init 9 = .ok (.putfield 9, 3) := by decide +kernel
theorem dX6_init_12 : decode cX6_init 12 = .ok (.aload_n 0, 1) := by decide +kernel
theorem dX6_init_13 : decode cX6_init 13 = .ok (.bipush 20, 2) := by decide +kernel
theorem dX6_init_15 : decode cX6_init 15 = .ok (.newarray .int, 2) := by decide +kernel
theorem dX6_init_17 : decode cX6_init 17 = .ok (.putfield 15, 3) := by decide +kernel
theorem dX6_init_20 : decode cX6_init 20 = .ok (.aload_n 0, 1) := by decide +kernel
theorem dX6_init_21 : decode cX6_init 21 = .ok (.bipush 20, 2) := by decide +kernel
theorem dX6_init_23 : decode cX6_init 23 = .ok (.newarray .int, 2) := by decide +kernel
theorem dX6_init_25 : decode cX6_init 25 = .ok (.putfield 18, 3) := by decide +kernel
theorem dX6_init_28 : decode cX6_init 28 = .ok (.aload_n 0, 1) := by decide +kernel
theorem dX6_init_29 : decode cX6_init 29 = .ok (.bipush 20, 2) := by decide +kernel
theorem dX6_init_31 : decode cX6_init 31 = .ok (.newarray .int, 2) := by decide +kernel
theorem dX6_init_33 : decode cX6_init 33 = .ok (.putfield 21, 3) := by decide +kernel
theorem dX6_init_36 : decode cX6_init 36 = .ok (.aload_n 0, 1) := by decide +kernel
theorem dX6_init_37 : decode cX6_init 37 = .ok (.lconst 1, 1) := by decide +kernel
theorem dX6_init_38 : decode cX6_init 38 = .ok (.putfield 24, 3) := by decide +kernel
theorem dX6_init_41 : decode cX6_init 41 = .ok (.return_, 1) := by decide +kernel
theorem dX6_reset_0 : decode cX6_reset 0 = .ok (.aload_n 0, 1) := by decide +kernel
theorem dX6_reset_1 : decode cX6_reset 1 = .ok (.iconst 0, 1) := by decide +kernel
theorem dX6_reset_2 : decode cX6_reset 2 = .ok (.putfield 28, 3) := by decide +kernel
theorem dX6_reset_5 : decode cX6_reset 5 = .ok (.aload_n 0, 1) := by decide +kernel
theorem dX6_reset_6 : decode cX6_reset 6 = .ok (.lconst 0, 1) := by decide +kernel
theorem dX6_reset_7 : decode cX6_reset 7 = .ok (.putfield 32, 3) := by decide +kernel
theorem dX6_reset_10 : decode cX6_reset 10 = .ok (.aload_n 0, 1) := by decide +kernel
theorem dX6_reset_11 : decode cX6_reset 11 = .ok (.lconst 1, 1) := by decide +kernel
theorem dX6_reset_12 : decode cX6_reset 12 = .ok (.putfield 24, 3) := by decide +kernel
theorem dX6_reset_15 : decode cX6_reset 15 = .ok (.return_, 1) := by decide +kernel
theorem dX6_hasActsOf_0 : decode cX6_hasActsOf 0 = .ok (.aload_n 0, 1) := by decide +kernel
theorem dX6_hasActsOf_1 : decode cX6_hasActsOf 1 = .ok (.getfield 28, 3) := by decide +kernel
theorem dX6_hasActsOf_4 : decode cX6_hasActsOf 4 = .ok (.aload_n 1, 1) := by decide +kernel
theorem dX6_hasActsOf_5 : decode cX6_hasActsOf 5 = .ok (.getfield 28, 3) := by decide +kernel
theorem dX6_hasActsOf_8 : decode cX6_hasActsOf 8 = .ok (.if_icmp .eq 5, 3) := by decide +kernel
theorem dX6_hasActsOf_11 : decode cX6_hasActsOf 11 = .ok (.iconst 0, 1) := by decide +kernel
theorem dX6_hasActsOf_12 : decode cX6_hasActsOf 12 = .ok (.ireturn, 1) := by decide +kernel
theorem dX6_hasActsOf_13 : decode cX6_hasActsOf 13 = .ok (.iconst 0, 1) := by decide +kernel
theorem dX6_hasActsOf_14 : decode cX6_hasActsOf 14 = .ok (.istore_n 2, 1) := by decide +kernel
theorem dX6_hasActsOf_15 : decode cX6_hasActsOf 15 = .ok (.iload_n 2, 1) := by decide +kernel
theorem dX6_hasActsOf_16 : decode cX6_hasActsOf 16 = .ok (.aload_n 0, 1) := by decide +kernel
theorem dX6_hasActsOf_17 : decode cX6_hasActsOf 17 = .ok (.getfield 28, 3) := by decide +kernel
theorem dX6_hasActsOf_20 : decode cX6_hasActsOf 20 = .ok (.if_icmp .ge 71, 3) := by decide +kernel
theorem dX6_hasActsOf_23 : decode cX6_hasActsOf 23 = .ok (.aload_n 0, 1) := by decide +kernel
theorem dX6_hasActsOf_24 : decode cX6_hasActsOf 24 = .ok (.getfield 9, 3) := by decide +kernel
theorem dX6_hasActsOf_27 : decode cX6_hasActsOf 27 = .ok (.iload_n 2, 1) := by decide +kernel
theorem dX6_hasActsOf_28 : decode cX6_hasActsOf 28 = .ok (.iaload, 1) := by decide +kernel
theorem dX6_hasActsOf_29 : decode cX6_hasActsOf 29 = .ok (.aload_n 1, 1) := by decide +kernel
theorem dX6_hasActsOf_30 : decode cX6_hasActsOf 30 = .ok (.getfield 9, 3) := by decide +kernel
theorem dX6_hasActsOf_33 : decode cX6_hasActsOf 33 = .ok (.iload_n 2, 1) := by decide +kernel
theorem dX6_hasActsOf_34 : decode cX6_hasActsOf 34 = .ok (.iaload, 1) := by decide +kernel
theorem dX6_hasActsOf_35 : decode cX6_hasActsOf 35 = .ok (.if_icmp .ne 48, 3) := by decide +kernel
theorem dX6_hasActsOf_38 : decode cX6_hasActsOf 38 = .ok (.aload_n 0, 1) := by decide +kernel
theorem dX6_hasActsOf_39 : decode cX6_hasActsOf 39 = .ok (.getfield 15, 3) := by decide +kernel
theorem dX6_hasActsOf_42 : decode cX6_hasActsOf 42 = .ok (.iload_n 2, 1) := by decide +kernel
theorem dX6_hasActsOf_43 : decode cX6_hasActsOf 43 = .ok (.iaload, 1) := by decide +kernel
theorem dX6_hasActsOf_44 : decode cX6_hasActsOf 44 = .ok (.aload_n 1, 1) := by decide +kernel
theorem dX6_hasActsOf_45 : decode cX6_hasActsOf 45 = .ok (.getfield 15, 3) := by decide +kernel
theorem dX6_hasActsOf_48 : decode cX6_hasActsOf 48 = .ok (.iload_n 2, 1) := by decide +kernel
theorem dX6_hasActsOf_49 : decode cX6_hasActsOf 49 = .ok (.iaload, 1) := by decide +kernel
theorem dX6_hasActsOf_50 : decode cX6_hasActsOf 50 = .ok (.if_icmp .ne 33, 3) := by decide +kernel
theorem dX6_hasActsOf_53 : decode cX6_hasActsOf 53 = .ok (.aload_n 0, 1) := by decide +kernel
theorem dX6_hasActsOf_54 : decode cX6_hasActsOf 54 = .ok (.getfield 18, 3) := by decide +kernel
theorem dX6_hasActsOf_57 : decode cX6_hasActsOf 57 = .ok (.iload_n 2, 1) := by decide +kernel
theorem dX6_hasActsOf_58 : decode cX6_hasActsOf 58 = .ok (.iaload, 1) := by decide +kernel
theorem dX6_hasActsOf_59 : decode cX6_hasActsOf 59 = .ok (.aload_n 1, 1) := by decide +kernel
theorem dX6_hasActsOf_60 : decode cX6_hasActsOf 60 = .ok (.getfield 18, 3) := by decide +kernel
theorem dX6_hasActsOf_63 : decode cX6_hasActsOf 63 = .ok (.iload_n 2, 1) := by decide +kernel
theorem dX6_hasActsOf_64 : decode cX6_hasActsOf 64 = .ok (.iaload, 1) := by decide +kernel
theorem dX6_hasActsOf_65 : decode cX6_hasActsOf 65 = .ok (.if_icmp .ne 18, 3) := by decide +kernel
theorem dX6_hasActsOf_68 : decode cX6_hasActsOf 68 = .ok (.aload_n 0, 1) := by decide +kernel
theorem dX6_hasActsOf_69 : decode cX6_hasActsOf 69 = .ok (.getfield 21, 3) := by decide +kernel
theorem dX6_hasActsOf_72 : decode cX6_hasActsOf 72 = .ok (.iload_n 2, 1) := by decide +kernel
theorem dX6_hasActsOf_73 : decode cX6_hasActsOf 73 = .ok (.iaload, 1) := by decide +kernel
theorem dX6_hasActsOf_74 : decode cX6_hasActsOf 74 = .ok (.aload_n 1, 1) := by decide +kernel
theorem dX6_hasActsOf_75 : decode cX6_hasActsOf 75 = .ok (.getfield 21, 3) := by decide +kernel
theorem dX6_hasActsOf_78 : decode cX6_hasActsOf 78 = .ok (.iload_n 2, 1) := by decide +kernel
theorem dX6_hasActsOf_79 : decode cX6_hasActsOf 79 = .ok (.iaload, 1) := by decide +kernel
theorem dX6_hasActsOf_80 : decode cX6_hasActsOf 80 = .ok (.if_icmp .eq 5, 3) := by decide +kernel
theorem dX6_hasActsOf_83 : decode cX6_hasActsOf 83 = .ok (.iconst 0, 1) := by decide +kernel
theorem dX6_hasActsOf_84 : decode cX6_hasActsOf 84 = .ok (.ireturn, 1) := by decide +kernel
theorem dX6_hasActsOf_85 : decode cX6_hasActsOf 85 = .ok (.iinc 2 1, 3) := by decide +kernel
theorem dX6_hasActsOf_88 : decode cX6_hasActsOf 88 = .ok (.goto (-73), 3) := by decide +kernel
theorem dX6_hasActsOf_91 : decode cX6_hasActsOf 91 = .ok (.iconst 1, 1) := by decide +kernel
theorem dX6_hasActsOf_92 : decode cX6_hasActsOf 92 = .ok (.ireturn, 1) := by decide +kernel
theorem dX6_choices_0 : decode cX6_choices 0 = .ok (.aload_n 0, 1) := by decide +kernel
theorem dX6_choices_1 : decode cX6_choices 1 = .ok (.getfield 9, 3) := by decide +kernel
theorem dX6_choices_4 : decode cX6_choices 4 = .ok (.iload_n 1, 1) := by decide +kernel
theorem dX6_choices_5 : decode cX6_choices 5 = .ok (.iaload, 1) := by decide +kernel
theorem dX6_choices_6 : decode cX6_choices 6 = .ok (.tableswitch 63 1 11 #[58, 58, 63, 58, 63, 61, 63, 63, 63, 63, 58], 58) := by decide +kernel
theorem dX6_choices_64 : decode cX6_choices 64 = .ok (.bipush 6, 2) := by decide +kernel
theorem dX6_choices_66 : decode cX6_choices 66 = .ok (.ireturn, 1) := by decide +kernel
theorem dX6_choices_67 : decode cX6_choices 67 = .ok (.iconst 4, 1) := by decide +kernel
theorem dX6_choices_68 : decode cX6_choices 68 = .ok (.ireturn, 1) := by decide +kernel
theorem dX6_choices_69 : decode cX6_choices 69 = .ok (.iconst 0, 1) := by decide +kernel
theorem dX6_choices_70 : decode cX6_choices 70 = .ok (.ireturn, 1) := by decide +kernel
set_option maxRecDepth 20000 in
theorem ggX6_choice_X6_choosesByT : GoodIn wsX6_choice wsX6_choosesByT := goodIn_r _ [7, 8, 9, 10, 11, 12, 13, 14, 15] (by decide +kernel) (by decide +kernel)
set_option maxRecDepth 20000 in
theorem gX6_choice_X6_choosesByT : GoodIn wsX6_choice (wsV RX6 35 RX6 yX6_choosesByT wsX6_choosesByT) := goodIn_app (goodIn_of _ (by decide +kernel)) ggX6_choice_X6_choosesByT
theorem dX6_choice_0 : decode cX6_choice 0 = .ok (.aload_n 0, 1) := by decide +kernel
theorem dX6_choice_1 : decode cX6_choice 1 = .ok (.iload_n 1, 1) := by decide +kernel
theorem dX6_choice_2 : decode cX6_choice 2 = .ok (.invokevirtual 35, 3) := by decide +kernel
theorem dX6_choice_5 : decode cX6_choice 5 = .ok (.ifCond .eq 12, 3) := by decide +kernel
theorem dX6_choice_8 : decode cX6_choice 8 = .ok (.aload_n 0, 1) := by decide +kernel
theorem dX6_choice_9 : decode cX6_choice 9 = .ok (.getfield 18, 3) := by decide +kernel
theorem dX6_choice_12 : decode cX6_choice 12 = .ok (.iload_n 1, 1) := by decide +kernel
theorem dX6_choice_13 : decode cX6_choice 13 = .ok (.iaload, 1) := by decide +kernel
theorem dX6_choice_14 : decode cX6_choice 14 = .ok (.goto 9, 3) := by decide +kernel
theorem dX6_choice_17 : decode cX6_choice 17 = .ok (.aload_n 0, 1) := by decide +kernel
theorem dX6_choice_18 : decode cX6_choice 18 = .ok (.getfield 21, 3) := by decide +kernel
theorem dX6_choice_21 : decode cX6_choice 21 = .ok (.iload_n 1, 1) := by decide +kernel
theorem dX6_choice_22 : decode cX6_choice 22 = .ok (.iaload, 1) := by decide +kernel
theorem dX6_choice_23 : decode cX6_choice 23 = .ok (.ireturn, 1) := by decide +kernel
set_option maxRecDepth 20000 in
theorem ggX6_choose_X6_choosesByT : GoodIn wsX6_choose wsX6_choosesByT := goodIn_r _ [7, 8, 9, 10, 11, 12, 13, 14, 15] (by decide +kernel) (by decide +kernel)
set_option maxRecDepth 20000 in
theorem gX6_choose_X6_choosesByT : GoodIn wsX6_choose (wsV RX6 35 RX6 yX6_choosesByT wsX6_choosesByT) := goodIn_app (goodIn_of _ (by decide +kernel)) ggX6_choose_X6_choosesByT
theorem dX6_choose_0 : decode cX6_choose 0 = .ok (.aload_n 0, 1) := by decide +kernel
theorem dX6_choose_1 : decode cX6_choose 1 = .ok (.iload_n 1, 1) := by decide +kernel
theorem dX6_choose_2 : decode cX6_choose 2 = .ok (.invokevirtual 35, 3) := by decide +kernel
theorem dX6_choose_5 : decode cX6_choose 5 = .ok (.ifCond .eq 13, 3) := by decide +kernel
theorem dX6_choose_8 : decode cX6_choose 8 = .ok (.aload_n 0, 1) := by decide +kernel
theorem dX6_choose_9 : decode cX6_choose 9 = .ok (.getfield 18, 3) := by decide +kernel
theorem dX6_choose_12 : decode cX6_choose 12 = .ok (.iload_n 1, 1) := by decide +kernel
theorem dX6_choose_13 : decode cX6_choose 13 = .ok (.iload_n 2, 1) := by decide +kernel
theorem dX6_choose_14 : decode cX6_choose 14 = .ok (.iastore, 1) := by decide +kernel
theorem dX6_choose_15 : decode cX6_choose 15 = .ok (.goto 10, 3) := by decide +kernel
theorem dX6_choose_18 : decode cX6_choose 18 = .ok (.aload_n 0, 1) := by decide +kernel
theorem dX6_choose_19 : decode cX6_choose 19 = .ok (.getfield 21, 3) := by decide +kernel
theorem dX6_choose_22 : decode cX6_choose 22 = .ok (.iload_n 1, 1) := by decide +kernel
theorem dX6_choose_23 : decode cX6_choose 23 = .ok (.iload_n 2, 1) := by decide +kernel
theorem dX6_choose_24 : decode cX6_choose 24 = .ok (.iastore, 1) := by decide +kernel
theorem dX6_choose_25 : decode cX6_choose 25 = .ok (.return_, 1) := by decide +kernel
theorem dX6_choosesByT_0 : decode cX6_choosesByT 0 = .ok (.aload_n 0, 1) := by decide +kernel
theorem dX6_choosesByT_1 : decode cX6_choosesByT 1 = .ok (.getfield 9, 3) := by decide +kernel
theorem dX6_choosesByT_4 : decode cX6_choosesByT 4 = .ok (.iload_n 1, 1) := by decide +kernel
theorem dX6_choosesByT_5 : decode cX6_choosesByT 5 = .ok (.iaload, 1) := by decide +kernel
theorem dX6_choosesByT_6 : decode cX6_choosesByT 6 = .ok (.iconst 4, 1) := by decide +kernel
theorem dX6_choosesByT_7 : decode cX6_choosesByT 7 = .ok (.if_icmp .eq 14, 3) := by decide +kernel
theorem dX6_choosesByT_10 : decode cX6_choosesByT 10 = .ok (.aload_n 0, 1) := by decide +kernel
theorem dX6_choosesByT_11 : decode cX6_choosesByT 11 = .ok (.getfield 9, 3) := by decide +kernel
theorem dX6_choosesByT_14 : decode cX6_choosesByT 14 = .ok (.iload_n 1, 1) := by decide +kernel
theorem dX6_choosesByT_15 : decode cX6_choosesByT 15 = .ok (.iaload, 1) := by decide +kernel
theorem dX6_choosesByT_16 : decode cX6_choosesByT 16 = .ok (.bipush 6, 2) := by decide +kernel
theorem dX6_choosesByT_18 : decode cX6_choosesByT 18 = .ok (.if_icmp .ne 7, 3) := by decide +kernel
theorem dX6_choosesByT_21 : decode cX6_choosesByT 21 = .ok (.iconst 1, 1) := by decide +kernel
theorem dX6_choosesByT_22 : decode cX6_choosesByT 22 = .ok (.goto 4, 3) := by decide +kernel
theorem dX6_choosesByT_25 : decode cX6_choosesByT 25 = .ok (.iconst 0, 1) := by decide +kernel
theorem dX6_choosesByT_26 : decode cX6_choosesByT 26 = .ok (.ireturn, 1) := by decide +kernel
theorem dX7_init_0 : decode cX7_init 0 = .ok (.aload_n 0, 1) := by decide +kernel
theorem dX7_init_1 : decode cX7_init 1 = .ok (.invokespecial 3, 3) := by decide +kernel
theorem dX7_init_4 : decode cX7_init 4 = .ok (.aload_n 0, 1) := by decide +kernel
theorem dX7_init_5 : decode cX7_init 5 = .ok (.bipush 8, 2) := by decide +kernel
theorem dX7_init_7 : decode cX7_init 7 = .ok (.newarray .long, 2) := by decide +kernel
theorem dX7_init_9 : decode cX7_init 9 = .ok (.putfield 9, 3) := by decide +kernel
theorem dX7_init_12 : decode cX7_init 12 = .ok (.aload_n 0, 1) := by decide +kernel
theorem dX7_init_13 : decode cX7_init 13 = .ok (.bipush 8, 2) := by decide +kernel
theorem dX7_init_15 : decode cX7_init 15 = .ok (.newarray .int, 2) := by decide +kernel
theorem dX7_init_17 : decode cX7_init 17 = .ok (.putfield 15, 3) := by decide +kernel
theorem dX7_init_20 : decode cX7_init 20 = .ok (.aload_n 0, 1) := by decide +kernel
theorem dX7_init_21 : decode cX7_init 21 = .ok (.bipush 8, 2) := by decide +kernel
theorem dX7_init_23 : decode cX7_init 23 = .ok (.newarray .long, 2) := by decide +kernel
theorem dX7_init_25 : decode cX7_init 25 = .ok (.putfield 19, 3) := by decide +kernel
theorem dX7_init_28 : decode cX7_init 28 = .ok (.return_, 1) := by decide +kernel
theorem dX7_wipe_0 : decode cX7_wipe 0 = .ok (.iconst 0, 1) := by decide +kernel
theorem dX7_wipe_1 : decode cX7_wipe 1 = .ok (.istore_n 1, 1) := by decide +kernel
theorem dX7_wipe_2 : decode cX7_wipe 2 = .ok (.iload_n 1, 1) := by decide +kernel
theorem dX7_wipe_3 : decode cX7_wipe 3 = .ok (.bipush 8, 2) := by decide +kernel
theorem dX7_wipe_5 : decode cX7_wipe 5 = .ok (.if_icmp .ge 16, 3) := by decide +kernel
theorem dX7_wipe_8 : decode cX7_wipe 8 = .ok (.aload_n 0, 1) := by decide +kernel
theorem dX7_wipe_9 : decode cX7_wipe 9 = .ok (.getfield 9, 3) := by decide +kernel
theorem dX7_wipe_12 : decode cX7_wipe 12 = .ok (.iload_n 1, 1) := by decide +kernel
theorem dX7_wipe_13 : decode cX7_wipe 13 = .ok (.lconst 0, 1) := by decide +kernel
theorem dX7_wipe_14 : decode cX7_wipe 14 = .ok (.lastore, 1) := by decide +kernel
theorem dX7_wipe_15 : decode cX7_wipe 15 = .ok (.iinc 1 1, 3) := by decide +kernel
theorem dX7_wipe_18 : decode cX7_wipe 18 = .ok (.goto (-16), 3) := by decide +kernel
theorem dX7_wipe_21 : decode cX7_wipe 21 = .ok (.aload_n 0, 1) := by decide +kernel
theorem dX7_wipe_22 : decode cX7_wipe 22 = .ok (.iconst 0, 1) := by decide +kernel
theorem dX7_wipe_23 : decode cX7_wipe 23 = .ok (.putfield 22, 3) := by decide +kernel
theorem dX7_wipe_26 : decode cX7_wipe 26 = .ok (.return_, 1) := by decide +kernel
set_option maxRecDepth 20000 in
theorem ggX7_divide_X7_wipe : GoodIn wsX7_divide wsX7_wipe := goodIn_r _ [11, 4, 1, 32, 33, 34, 35, 36, 37, 38] (by decide +kernel) (by decide +kernel)
set_option maxRecDepth 20000 in
theorem gX7_divide_X7_wipe : GoodIn wsX7_divide (wsV RX7 26 RX7 yX7_wipe wsX7_wipe) := goodIn_app (goodIn_of _ (by decide +kernel)) ggX7_divide_X7_wipe
set_option maxRecDepth 20000 in
theorem ggX7_divide_X7_weigh : GoodIn wsX7_divide wsX7_weigh := goodIn_r _ [15, 3, 6, 5, 16, 32, 33, 34, 35, 36, 37, 38] (by decide +kernel) (by decide +kernel)
set_option maxRecDepth 20000 in
theorem gX7_divide_X7_weigh : GoodIn wsX7_divide (wsV RX7 33 RX7 yX7_weigh wsX7_weigh) := goodIn_app (goodIn_of _ (by decide +kernel)) ggX7_divide_X7_weigh
set_option maxRecDepth 20000 in
theorem ggX7_divide_X3_rounding : GoodIn wsX7_divide wsX3_rounding := goodIn_r _ [20, 21] (by decide +kernel) (by decide +kernel)
set_option maxRecDepth 20000 in
theorem gX7_divide_X3_rounding : GoodIn wsX7_divide (va_wsS RX7 44 yX3_rounding wsX3_rounding) := goodIn_app (goodIn_of _ (by decide +kernel)) ggX7_divide_X3_rounding
set_option maxRecDepth 20000 in
theorem ggX7_divide_X7_giveByRests : GoodIn wsX7_divide wsX7_giveByRests := goodIn_r _ [25, 3, 26, 2, 5, 4, 6, 27, 32, 33, 34, 35, 36, 37, 38] (by decide +kernel) (by decide +kernel)
set_option maxRecDepth 20000 in
theorem gX7_divide_X7_giveByRests : GoodIn wsX7_divide (wsV RX7 50 RX7 yX7_giveByRests wsX7_giveByRests) := goodIn_app (goodIn_of _ (by decide +kernel)) ggX7_divide_X7_giveByRests
set_option maxRecDepth 20000 in
theorem ggX7_divide_X7_giveInOrder : GoodIn wsX7_divide wsX7_giveInOrder := goodIn_r _ [31, 3, 5, 4, 32, 33, 34, 35, 36, 37, 38] (by decide +kernel) (by decide +kernel)
set_option maxRecDepth 20000 in
theorem gX7_divide_X7_giveInOrder : GoodIn wsX7_divide (wsV RX7 54 RX7 yX7_giveInOrder wsX7_giveInOrder) := goodIn_app (goodIn_of _ (by decide +kernel)) ggX7_divide_X7_giveInOrder
theorem dX7_divide_0 : decode cX7_divide 0 = .ok (.aload_n 0, 1) := by decide +kernel
theorem dX7_divide_1 : decode cX7_divide 1 = .ok (.invokevirtual 26, 3) := by decide +kernel
theorem dX7_divide_4 : decode cX7_divide 4 = .ok (.aload_n 0, 1) := by decide +kernel
theorem dX7_divide_5 : decode cX7_divide 5 = .ok (.iconst 1, 1) := by decide +kernel
theorem dX7_divide_6 : decode cX7_divide 6 = .ok (.putfield 22, 3) := by decide +kernel
theorem dX7_divide_9 : decode cX7_divide 9 = .ok (.aload_n 0, 1) := by decide +kernel
theorem dX7_divide_10 : decode cX7_divide 10 = .ok (.lload_n 1, 1) := by decide +kernel
theorem dX7_divide_11 : decode cX7_divide 11 = .ok (.putfield 29, 3) := by decide +kernel
theorem dX7_divide_14 : decode cX7_divide 14 = .ok (.aload_n 0, 1) := by decide +kernel
theorem dX7_divide_15 : decode cX7_divide 15 = .ok (.aload 4, 2) := by decide +kernel
theorem dX7_divide_17 : decode cX7_divide 17 = .ok (.iload 5, 2) := by decide +kernel
theorem dX7_divide_19 : decode cX7_divide 19 = .ok (.invokevirtual 33, 3) := by decide +kernel
theorem dX7_divide_22 : decode cX7_divide 22 = .ok (.iload_n 3, 1) := by decide +kernel
theorem dX7_divide_23 : decode cX7_divide 23 = .ok (.ifCond .eq 8, 3) := by decide +kernel
theorem dX7_divide_26 : decode cX7_divide 26 = .ok (.iload_n 3, 1) := by decide +kernel
theorem dX7_divide_27 : decode cX7_divide 27 = .ok (.iconst 1, 1) := by decide +kernel
theorem dX7_divide_28 : decode cX7_divide 28 = .ok (.if_icmp .ne 7, 3) := by decide +kernel
theorem dX7_divide_31 : decode cX7_divide 31 = .ok (.iconst 4, 1) := by decide +kernel
theorem dX7_divide_32 : decode cX7_divide 32 = .ok (.goto 4, 3) := by decide +kernel
theorem dX7_divide_35 : decode cX7_divide 35 = .ok (.iconst 0, 1) := by decide +kernel
theorem dX7_divide_36 : decode cX7_divide 36 = .ok (.istore 6, 2) := by decide +kernel
theorem dX7_divide_38 : decode cX7_divide 38 = .ok (.aload_n 0, 1) := by decide +kernel
theorem dX7_divide_39 : decode cX7_divide 39 = .ok (.getfield 29, 3) := by decide +kernel
theorem dX7_divide_42 : decode cX7_divide 42 = .ok (.lstore 7, 2) := by decide +kernel
theorem dX7_divide_44 : decode cX7_divide 44 = .ok (.iconst 0, 1) := by decide +kernel
theorem dX7_divide_45 : decode cX7_divide 45 = .ok (.istore 9, 2) := by decide +kernel
theorem dX7_divide_47 : decode cX7_divide 47 = .ok (.iload 9, 2) := by decide +kernel
theorem dX7_divide_49 : decode cX7_divide 49 = .ok (.aload_n 0, 1) := by decide +kernel
theorem dX7_divide_50 : decode cX7_divide 50 = .ok (.getfield 37, 3) := by decide +kernel
theorem dX7_divide_53 : decode cX7_divide 53 = .ok (.if_icmp .ge 51, 3) := by decide +kernel
theorem dX7_divide_56 : decode cX7_divide 56 = .ok (.aload_n 0, 1) := by decide +kernel
theorem dX7_divide_57 : decode cX7_divide 57 = .ok (.getfield 9, 3) := by decide +kernel
theorem dX7_divide_60 : decode cX7_divide 60 = .ok (.iload 9, 2) := by decide +kernel
theorem dX7_divide_62 : decode cX7_divide 62 = .ok (.aload_n 0, 1) := by decide +kernel
theorem dX7_divide_63 : decode cX7_divide 63 = .ok (.getfield 29, 3) := by decide +kernel
theorem dX7_divide_66 : decode cX7_divide 66 = .ok (.aload_n 0, 1) := by decide +kernel
theorem dX7_divide_67 : decode cX7_divide 67 = .ok (.getfield 15, 3) := by decide +kernel
theorem dX7_divide_70 : decode cX7_divide 70 = .ok (.iload 9, 2) := by decide +kernel
theorem dX7_divide_72 : decode cX7_divide 72 = .ok (.iaload, 1) := by decide +kernel
theorem dX7_divide_73 : decode cX7_divide 73 = .ok (.i2l, 1) := by decide +kernel
theorem dX7_divide_74 : decode cX7_divide 74 = .ok (.lmul, 1) := by decide +kernel
theorem dX7_divide_75 : decode cX7_divide 75 = .ok (.aload_n 0, 1) := by decide +kernel
theorem dX7_divide_76 : decode cX7_divide 76 = .ok (.getfield 41, 3) := by decide +kernel
theorem dX7_divide_79 : decode cX7_divide 79 = .ok (.lconst 1, 1) := by decide +kernel
theorem dX7_divide_80 : decode cX7_divide 80 = .ok (.iload 6, 2) := by decide +kernel
theorem dX7_divide_82 : decode cX7_divide 82 = .ok (.invokestatic 44, 3) := by decide +kernel
theorem dX7_divide_85 : decode cX7_divide 85 = .ok (.lastore, 1) := by decide +kernel
theorem dX7_divide_86 : decode cX7_divide 86 = .ok (.lload 7, 2) := by decide +kernel
theorem dX7_divide_88 : decode cX7_divide 88 = .ok (.aload_n 0, 1) := by decide +kernel
theorem dX7_divide_89 : decode cX7_divide 89 = .ok (.getfield 9, 3) := by decide +kernel
theorem dX7_divide_92 : decode cX7_divide 92 = .ok (.iload 9, 2) := by decide +kernel
theorem dX7_divide_94 : decode cX7_divide 94 = .ok (.laload, 1) := by decide +kernel
theorem dX7_divide_95 : decode cX7_divide 95 = .ok (.lsub, 1) := by decide +kernel
theorem dX7_divide_96 : decode cX7_divide 96 = .ok (.lstore 7, 2) := by decide +kernel
theorem dX7_divide_98 : decode cX7_divide 98 = .ok (.iinc 9 1, 3) := by decide +kernel
theorem dX7_divide_101 : decode cX7_divide 101 = .ok (.goto (-54), 3) := by decide +kernel
theorem dX7_divide_104 : decode cX7_divide 104 = .ok (.iload_n 3, 1) := by decide +kernel
theorem dX7_divide_105 : decode cX7_divide 105 = .ok (.ifCond .ne 12, 3) := by decide +kernel
theorem dX7_divide_108 : decode cX7_divide 108 = .ok (.aload_n 0, 1) := by decide +kernel
theorem dX7_divide_109 : decode cX7_divide 109 = .ok (.lload 7, 2) := by decide +kernel
theorem dX7_divide_111 : decode cX7_divide 111 = .ok (.invokevirtual 50, 3) := by decide +kernel
theorem dX7_divide_114 : decode cX7_divide 114 = .ok (.goto 42, 3) := by decide +kernel
theorem dX7_divide_117 : decode cX7_divide 117 = .ok (.iload_n 3, 1) := by decide +kernel
theorem dX7_divide_118 : decode cX7_divide 118 = .ok (.iconst 1, 1) := by decide +kernel
theorem dX7_divide_119 : decode cX7_divide 119 = .ok (.if_icmp .ne 12, 3) := by decide +kernel
theorem dX7_divide_122 : decode cX7_divide 122 = .ok (.aload_n 0, 1) := by decide +kernel
theorem dX7_divide_123 : decode cX7_divide 123 = .ok (.lload 7, 2) := by decide +kernel
theorem dX7_divide_125 : decode cX7_divide 125 = .ok (.invokevirtual 54, 3) := by decide +kernel
theorem dX7_divide_128 : decode cX7_divide 128 = .ok (.goto 28, 3) := by decide +kernel
theorem dX7_divide_131 : decode cX7_divide 131 = .ok (.aload_n 0, 1) := by decide +kernel
theorem dX7_divide_132 : decode cX7_divide 132 = .ok (.getfield 9, 3) := by decide +kernel
theorem dX7_divide_135 : decode cX7_divide 135 = .ok (.iload_n 3, 1) := by decide +kernel
theorem dX7_divide_136 : decode cX7_divide 136 = .ok (.iconst 2, 1) := by decide +kernel
theorem dX7_divide_137 : decode cX7_divide 137 = .ok (.if_icmp .ne 12, 3) := by decide +kernel
theorem dX7_divide_140 : decode cX7_divide 140 = .ok (.aload_n 0, 1) := by decide +kernel
theorem dX7_divide_141 : decode cX7_divide 141 = .ok (.getfield 37, 3) := by decide +kernel
theorem dX7_divide_144 : decode cX7_divide 144 = .ok (.iconst 1, 1) := by decide +kernel
theorem dX7_divide_145 : decode cX7_divide 145 = .ok (.isub, 1) := by decide +kernel
theorem dX7_divide_146 : decode cX7_divide 146 = .ok (.goto 4, 3) := by decide +kernel
theorem dX7_divide_149 : decode cX7_divide 149 = .ok (.iconst 0, 1) := by decide +kernel
theorem dX7_divide_150 : decode cX7_divide 150 = .ok (.dup2, 1) := by decide +kernel
theorem dX7_divide_151 : decode cX7_divide 151 = .ok (.laload, 1) := by decide +kernel
theorem dX7_divide_152 : decode cX7_divide 152 = .ok (.lload 7, 2) := by decide +kernel
theorem dX7_divide_154 : decode cX7_divide 154 = .ok (.ladd, 1) := by decide +kernel
theorem dX7_divide_155 : decode cX7_divide 155 = .ok (.lastore, 1) := by decide +kernel
theorem dX7_divide_156 : decode cX7_divide 156 = .ok (.return_, 1) := by decide +kernel
theorem dX7_strays_0 : decode cX7_strays 0 = .ok (.iconst 0, 1) := by decide +kernel
theorem dX7_strays_1 : decode cX7_strays 1 = .ok (.istore_n 1, 1) := by decide +kernel
theorem dX7_strays_2 : decode cX7_strays 2 = .ok (.iload_n 1, 1) := by decide +kernel
theorem dX7_strays_3 : decode cX7_strays 3 = .ok (.aload_n 0, 1) := by decide +kernel
theorem dX7_strays_4 : decode cX7_strays 4 = .ok (.getfield 37, 3) := by decide +kernel
theorem dX7_strays_7 : decode cX7_strays 7 = .ok (.if_icmp .ge 55, 3) := by decide +kernel
theorem dX7_strays_10 : decode cX7_strays 10 = .ok (.aload_n 0, 1) := by decide +kernel
theorem dX7_strays_11 : decode cX7_strays 11 = .ok (.getfield 9, 3) := by decide +kernel
theorem dX7_strays_14 : decode cX7_strays 14 = .ok (.iload_n 1, 1) := by decide +kernel
theorem dX7_strays_15 : decode cX7_strays 15 = .ok (.laload, 1) := by decide +kernel
theorem dX7_strays_16 : decode cX7_strays 16 = .ok (.aload_n 0, 1) := by decide +kernel
theorem dX7_strays_17 : decode cX7_strays 17 = .ok (.getfield 41, 3) := by decide +kernel
theorem dX7_strays_20 : decode cX7_strays 20 = .ok (.lmul, 1) := by decide +kernel
theorem dX7_strays_21 : decode cX7_strays 21 = .ok (.aload_n 0, 1) := by decide +kernel
theorem dX7_strays_22 : decode cX7_strays 22 = .ok (.getfield 29, 3) := by decide +kernel
theorem dX7_strays_25 : decode cX7_strays 25 = .ok (.aload_n 0, 1) := by decide +kernel
theorem dX7_strays_26 : decode cX7_strays 26 = .ok (.getfield 15, 3) := by decide +kernel
theorem dX7_strays_29 : decode cX7_strays 29 = .ok (.iload_n 1, 1) := by decide +kernel
theorem dX7_strays_30 : decode cX7_strays 30 = .ok (.iaload, 1) := by decide +kernel
theorem dX7_strays_31 : decode cX7_strays 31 = .ok (.i2l, 1) := by decide +kernel
theorem dX7_strays_32 : decode cX7_strays 32 = .ok (.lmul, 1) := by decide +kernel
theorem dX7_strays_33 : decode cX7_strays 33 = .ok (.lsub, 1) := by decide +kernel
theorem dX7_strays_34 : decode cX7_strays 34 = .ok (.lstore_n 2, 1) := by decide +kernel
theorem dX7_strays_35 : decode cX7_strays 35 = .ok (.lload_n 2, 1) := by decide +kernel
theorem dX7_strays_36 : decode cX7_strays 36 = .ok (.aload_n 0, 1) := by decide +kernel
theorem dX7_strays_37 : decode cX7_strays 37 = .ok (.getfield 41, 3) := by decide +kernel
theorem dX7_strays_40 : decode cX7_strays 40 = .ok (.lcmp, 1) := by decide +kernel
theorem dX7_strays_41 : decode cX7_strays 41 = .ok (.ifCond .ge 13, 3) := by decide +kernel
theorem dX7_strays_44 : decode cX7_strays 44 = .ok (.lload_n 2, 1) := by decide +kernel
theorem dX7_strays_45 : decode cX7_strays 45 = .ok (.aload_n 0, 1) := by decide +kernel
theorem dX7_strays_46 : decode cX7_strays 46 = .ok (.getfield 41, 3) := by decide +kernel
theorem dX7_strays_49 : decode cX7_strays 49 = .ok (.lneg, 1) := by decide +kernel
theorem dX7_strays_50 : decode cX7_strays 50 = .ok (.lcmp, 1) := by decide +kernel
theorem dX7_strays_51 : decode cX7_strays 51 = .ok (.ifCond .gt 5, 3) := by decide +kernel
theorem dX7_strays_54 : decode cX7_strays 54 = .ok (.iconst 1, 1) := by decide +kernel
theorem dX7_strays_55 : decode cX7_strays 55 = .ok (.ireturn, 1) := by decide +kernel
theorem dX7_strays_56 : decode cX7_strays 56 = .ok (.iinc 1 1, 3) := by decide +kernel
theorem dX7_strays_59 : decode cX7_strays 59 = .ok (.goto (-57), 3) := by decide +kernel
theorem dX7_strays_62 : decode cX7_strays 62 = .ok (.iconst 0, 1) := by decide +kernel
theorem dX7_strays_63 : decode cX7_strays 63 = .ok (.ireturn, 1) := by decide +kernel
theorem dX7_weigh_0 : decode cX7_weigh 0 = .ok (.aload_n 0, 1) := by decide +kernel
theorem dX7_weigh_1 : decode cX7_weigh 1 = .ok (.iload_n 2, 1) := by decide +kernel
theorem dX7_weigh_2 : decode cX7_weigh 2 = .ok (.putfield 37, 3) := by decide +kernel
theorem dX7_weigh_5 : decode cX7_weigh 5 = .ok (.aload_n 0, 1) := by decide +kernel
theorem dX7_weigh_6 : decode cX7_weigh 6 = .ok (.lconst 0, 1) := by decide +kernel
theorem dX7_weigh_7 : decode cX7_weigh 7 = .ok (.putfield 41, 3) := by decide +kernel
theorem dX7_weigh_10 : decode cX7_weigh 10 = .ok (.iconst 0, 1) := by decide +kernel
theorem dX7_weigh_11 : decode cX7_weigh 11 = .ok (.istore_n 3, 1) := by decide +kernel
theorem dX7_weigh_12 : decode cX7_weigh 12 = .ok (.iload_n 3, 1) := by decide +kernel
theorem dX7_weigh_13 : decode cX7_weigh 13 = .ok (.aload_n 0, 1) := by decide +kernel
theorem dX7_weigh_14 : decode cX7_weigh 14 = .ok (.getfield 37, 3) := by decide +kernel
theorem dX7_weigh_17 : decode cX7_weigh 17 = .ok (.if_icmp .ge 34, 3) := by decide +kernel
theorem dX7_weigh_20 : decode cX7_weigh 20 = .ok (.aload_n 0, 1) := by decide +kernel
theorem dX7_weigh_21 : decode cX7_weigh 21 = .ok (.getfield 15, 3) := by decide +kernel
theorem dX7_weigh_24 : decode cX7_weigh 24 = .ok (.iload_n 3, 1) := by decide +kernel
theorem dX7_weigh_25 : decode cX7_weigh 25 = .ok (.aload_n 1, 1) := by decide +kernel
theorem dX7_weigh_26 : decode cX7_weigh 26 = .ok (.iload_n 3, 1) := by decide +kernel
theorem dX7_weigh_27 : decode cX7_weigh 27 = .ok (.iaload, 1) := by decide +kernel
theorem dX7_weigh_28 : decode cX7_weigh 28 = .ok (.iastore, 1) := by decide +kernel
theorem dX7_weigh_29 : decode cX7_weigh 29 = .ok (.aload_n 0, 1) := by decide +kernel
theorem dX7_weigh_30 : decode cX7_weigh 30 = .ok (.dup, 1) := by decide +kernel
theorem dX7_weigh_31 : decode cX7_weigh 31 = .ok (.getfield 41, 3) := by decide +kernel
theorem dX7_weigh_34 : decode cX7_weigh 34 = .ok (.aload_n 0, 1) := by decide +kernel
theorem dX7_weigh_35 : decode cX7_weigh 35 = .ok (.getfield 15, 3) := by decide +kernel
theorem dX7_weigh_38 : decode cX7_weigh 38 = .ok (.iload_n 3, 1) := by decide +kernel
theorem dX7_weigh_39 : decode cX7_weigh 39 = .ok (.iaload, 1) := by decide +kernel
theorem dX7_weigh_40 : decode cX7_weigh 40 = .ok (.i2l, 1) := by decide +kernel
theorem dX7_weigh_41 : decode cX7_weigh 41 = .ok (.ladd, 1) := by decide +kernel
theorem dX7_weigh_42 : decode cX7_weigh 42 = .ok (.putfield 41, 3) := by decide +kernel
theorem dX7_weigh_45 : decode cX7_weigh 45 = .ok (.iinc 3 1, 3) := by decide +kernel
theorem dX7_weigh_48 : decode cX7_weigh 48 = .ok (.goto (-36), 3) := by decide +kernel
theorem dX7_weigh_51 : decode cX7_weigh 51 = .ok (.aload_n 0, 1) := by decide +kernel
theorem dX7_weigh_52 : decode cX7_weigh 52 = .ok (.getfield 41, 3) := by decide +kernel
theorem dX7_weigh_55 : decode cX7_weigh 55 = .ok (.lconst 0, 1) := by decide +kernel
theorem dX7_weigh_56 : decode cX7_weigh 56 = .ok (.lcmp, 1) := by decide +kernel
theorem dX7_weigh_57 : decode cX7_weigh 57 = .ok (.ifCond .ne 29, 3) := by decide +kernel
theorem dX7_weigh_60 : decode cX7_weigh 60 = .ok (.aload_n 0, 1) := by decide +kernel
theorem dX7_weigh_61 : decode cX7_weigh 61 = .ok (.getfield 15, 3) := by decide +kernel
theorem dX7_weigh_64 : decode cX7_weigh 64 = .ok (.iconst 0, 1) := by decide +kernel
theorem dX7_weigh_65 : decode cX7_weigh 65 = .ok (.iconst 1, 1) := by decide +kernel
theorem dX7_weigh_66 : decode cX7_weigh 66 = .ok (.iastore, 1) := by decide +kernel
theorem dX7_weigh_67 : decode cX7_weigh 67 = .ok (.aload_n 0, 1) := by decide +kernel
theorem dX7_weigh_68 : decode cX7_weigh 68 = .ok (.getfield 15, 3) := by decide +kernel
theorem dX7_weigh_71 : decode cX7_weigh 71 = .ok (.iconst 1, 1) := by decide +kernel
theorem dX7_weigh_72 : decode cX7_weigh 72 = .ok (.iconst 1, 1) := by decide +kernel
theorem dX7_weigh_73 : decode cX7_weigh 73 = .ok (.iastore, 1) := by decide +kernel
theorem dX7_weigh_74 : decode cX7_weigh 74 = .ok (.aload_n 0, 1) := by decide +kernel
theorem dX7_weigh_75 : decode cX7_weigh 75 = .ok (.iconst 2, 1) := by decide +kernel
theorem dX7_weigh_76 : decode cX7_weigh 76 = .ok (.putfield 37, 3) := by decide +kernel
theorem dX7_weigh_79 : decode cX7_weigh 79 = .ok (.aload_n 0, 1) := by decide +kernel
theorem dX7_weigh_80 : decode cX7_weigh 80 = .ok (.ldc2_w 57, 3) := by decide +kernel
theorem dX7_weigh_83 : decode cX7_weigh 83 = .ok (.putfield 41, 3) := by decide +kernel
theorem dX7_weigh_86 : decode cX7_weigh 86 = .ok (.return_, 1) := by decide +kernel
theorem dX7_giveByRests_0 : decode cX7_giveByRests 0 = .ok (.iconst 0, 1) := by decide +kernel
theorem dX7_giveByRests_1 : decode cX7_giveByRests 1 = .ok (.istore_n 3, 1) := by decide +kernel
theorem dX7_giveByRests_2 : decode cX7_giveByRests 2 = .ok (.iload_n 3, 1) := by decide +kernel
theorem dX7_giveByRests_3 : decode cX7_giveByRests 3 = .ok (.aload_n 0, 1) := by decide +kernel
theorem dX7_giveByRests_4 : decode cX7_giveByRests 4 = .ok (.getfield 37, 3) := by decide +kernel
theorem dX7_giveByRests_7 : decode cX7_giveByRests 7 = .ok (.if_icmp .ge 39, 3) := by decide +kernel
theorem dX7_giveByRests_10 : decode cX7_giveByRests 10 = .ok (.aload_n 0, 1) := by decide +kernel
theorem dX7_giveByRests_11 : decode cX7_giveByRests 11 = .ok (.getfield 19, 3) := by decide +kernel
theorem dX7_giveByRests_14 : decode cX7_giveByRests 14 = .ok (.iload_n 3, 1) := by decide +kernel
theorem dX7_giveByRests_15 : decode cX7_giveByRests 15 = .ok (.aload_n 0, 1) := by decide +kernel
theorem dX7_giveByRests_16 : decode cX7_giveByRests 16 = .ok (.getfield 29, 3) := by decide +kernel
theorem dX7_giveByRests_19 : decode cX7_giveByRests 19 = .ok (.aload_n 0, 1) := by decide +kernel
theorem dX7_giveByRests_20 : decode cX7_giveByRests 20 = .ok (.getfield 15, 3) := by decide +kernel
theorem dX7_giveByRests_23 : decode cX7_giveByRests 23 = .ok (.iload_n 3, 1) := by decide +kernel
theorem dX7_giveByRests_24 : decode cX7_giveByRests 24 = .ok (.iaload, 1) := by decide +kernel
theorem dX7_giveByRests_25 : decode cX7_giveByRests 25 = .ok (.i2l, 1) := by decide +kernel
theorem dX7_giveByRests_26 : decode cX7_giveByRests 26 = .ok (.lmul, 1) := by decide +kernel
theorem dX7_giveByRests_27 : decode cX7_giveByRests 27 = .ok (.aload_n 0, 1) := by decide +kernel
theorem dX7_giveByRests_28 : decode cX7_giveByRests 28 = .ok (.getfield 9, 3) := by decide +kernel
theorem dX7_giveByRests_31 : decode cX7_giveByRests 31 = .ok (.iload_n 3, 1) := by decide +kernel
theorem dX7_giveByRests_32 : decode cX7_giveByRests 32 = .ok (.laload, 1) := by decide +kernel
theorem dX7_giveByRests_33 : decode cX7_giveByRests 33 = .ok (.aload_n 0, 1) := by decide +kernel
theorem dX7_giveByRests_34 : decode cX7_giveByRests 34 = .ok (.getfield 41, 3) := by decide +kernel
theorem dX7_giveByRests_37 : decode cX7_giveByRests 37 = .ok (.lmul, 1) := by decide +kernel
theorem dX7_giveByRests_38 : decode cX7_giveByRests 38 = .ok (.lsub, 1) := by decide +kernel
theorem dX7_giveByRests_39 : decode cX7_giveByRests 39 = .ok (.lastore, 1) := by decide +kernel
theorem dX7_giveByRests_40 : decode cX7_giveByRests 40 = .ok (.iinc 3 1, 3) := by decide +kernel
theorem dX7_giveByRests_43 : decode cX7_giveByRests 43 = .ok (.goto (-41), 3) := by decide +kernel
theorem dX7_giveByRests_46 : decode cX7_giveByRests 46 = .ok (.iconst 0, 1) := by decide +kernel
theorem dX7_giveByRests_47 : decode cX7_giveByRests 47 = .ok (.istore_n 3, 1) := by decide +kernel
theorem dX7_giveByRests_48 : decode cX7_giveByRests 48 = .ok (.iload_n 3, 1) := by decide +kernel
theorem dX7_giveByRests_49 : decode cX7_giveByRests 49 = .ok (.i2l, 1) := by decide +kernel
theorem dX7_giveByRests_50 : decode cX7_giveByRests 50 = .ok (.lload_n 1, 1) := by decide +kernel
theorem dX7_giveByRests_51 : decode cX7_giveByRests 51 = .ok (.lcmp, 1) := by decide +kernel
theorem dX7_giveByRests_52 : decode cX7_giveByRests 52 = .ok (.ifCond .ge 81, 3) := by decide +kernel
theorem dX7_giveByRests_55 : decode cX7_giveByRests 55 = .ok (.iload_n 3, 1) := by decide +kernel
theorem dX7_giveByRests_56 : decode cX7_giveByRests 56 = .ok (.aload_n 0, 1) := by decide +kernel
theorem dX7_giveByRests_57 : decode cX7_giveByRests 57 = .ok (.getfield 37, 3) := by decide +kernel
theorem dX7_giveByRests_60 : decode cX7_giveByRests 60 = .ok (.if_icmp .ge 73, 3) := by decide +kernel
theorem dX7_giveByRests_63 : decode cX7_giveByRests 63 = .ok (.iconst 0, 1) := by decide +kernel
theorem dX7_giveByRests_64 : decode cX7_giveByRests 64 = .ok (.istore 4, 2) := by decide +kernel
theorem dX7_giveByRests_66 : decode cX7_giveByRests 66 = .ok (.iconst 1, 1) := by decide +kernel
theorem dX7_giveByRests_67 : decode cX7_giveByRests 67 = .ok (.istore 5, 2) := by decide +kernel
theorem dX7_giveByRests_69 : decode cX7_giveByRests 69 = .ok (.iload 5, 2) := by decide +kernel
theorem dX7_giveByRests_71 : decode cX7_giveByRests 71 = .ok (.aload_n 0, 1) := by decide +kernel
theorem dX7_giveByRests_72 : decode cX7_giveByRests 72 = .ok (.getfield 37, 3) := by decide +kernel
theorem dX7_giveByRests_75 : decode cX7_giveByRests 75 = .ok (.if_icmp .ge 31, 3) := by decide +kernel
theorem dX7_giveByRests_78 : decode cX7_giveByRests 78 = .ok (.aload_n 0, 1) := by decide +kernel
theorem dX7_giveByRests_79 : decode cX7_giveByRests 79 = .ok (.getfield 19, 3) := by decide +kernel
theorem dX7_giveByRests_82 : decode cX7_giveByRests 82 = .ok (.iload 5, 2) := by decide +kernel
theorem dX7_giveByRests_84 : decode cX7_giveByRests 84 = .ok (.laload, 1) := by decide +kernel
theorem dX7_giveByRests_85 : decode cX7_giveByRests 85 = .ok (.aload_n 0, 1) := by decide +kernel
theorem dX7_giveByRests_86 : decode cX7_giveByRests 86 = .ok (.getfield 19, 3) := by decide +kernel
theorem dX7_giveByRests_89 : decode cX7_giveByRests 89 = .ok (.iload 4, 2) := by decide +kernel
theorem dX7_giveByRests_91 : decode cX7_giveByRests 91 = .ok (.laload, 1) := by decide +kernel
theorem dX7_giveByRests_92 : decode cX7_giveByRests 92 = .ok (.lcmp, 1) := by decide +kernel
theorem dX7_giveByRests_93 : decode cX7_giveByRests 93 = .ok (.ifCond .le 7, 3) := by decide +kernel
theorem dX7_giveByRests_96 : decode cX7_giveByRests 96 = .ok (.iload 5, 2) := by decide +kernel
theorem dX7_giveByRests_98 : decode cX7_giveByRests 98 = .ok (.istore 4, 2) := by decide +kernel
theorem dX7_giveByRests_100 : decode cX7_giveByRests 100 = .ok (.iinc 5 1, 3) := by decide +kernel
theorem dX7_giveByRests_103 : decode cX7_giveByRests 103 = .ok (.goto (-34), 3) := by decide +kernel
theorem dX7_giveByRests_106 : decode cX7_giveByRests 106 = .ok (.aload_n 0, 1) := by decide +kernel
theorem dX7_giveByRests_107 : decode cX7_giveByRests 107 = .ok (.getfield 9, 3) := by decide +kernel
theorem dX7_giveByRests_110 : decode cX7_giveByRests 110 = .ok (.iload 4, 2) := by decide +kernel
theorem dX7_giveByRests_112 : decode cX7_giveByRests 112 = .ok (.dup2, 1) := by decide +kernel
theorem dX7_giveByRests_113 : decode cX7_giveByRests 113 = .ok (.laload, 1) := by decide +kernel
theorem dX7_giveByRests_114 : decode cX7_giveByRests 114 = .ok (.lconst 1, 1) := by decide +kernel
theorem dX7_giveByRests_115 : decode cX7_giveByRests 115 = .ok (.ladd, 1) := by decide +kernel
theorem dX7_giveByRests_116 : decode cX7_giveByRests 116 = .ok (.lastore, 1) := by decide +kernel
theorem dX7_giveByRests_117 : decode cX7_giveByRests 117 = .ok (.aload_n 0, 1) := by decide +kernel
theorem dX7_giveByRests_118 : decode cX7_giveByRests 118 = .ok (.getfield 19, 3) := by decide +kernel
theorem dX7_giveByRests_121 : decode cX7_giveByRests 121 = .ok (.iload 4, 2) := by decide +kernel
theorem dX7_giveByRests_123 : decode cX7_giveByRests 123 = .ok (.ldc2_w 59, 3) := by decide +kernel
theorem dX7_giveByRests_126 : decode cX7_giveByRests 126 = .ok (.lastore, 1) := by decide +kernel
theorem dX7_giveByRests_127 : decode cX7_giveByRests 127 = .ok (.iinc 3 1, 3) := by decide +kernel
theorem dX7_giveByRests_130 : decode cX7_giveByRests 130 = .ok (.goto (-82), 3) := by decide +kernel
theorem dX7_giveByRests_133 : decode cX7_giveByRests 133 = .ok (.return_, 1) := by decide +kernel
theorem dX7_giveInOrder_0 : decode cX7_giveInOrder 0 = .ok (.lload_n 1, 1) := by decide +kernel
theorem dX7_giveInOrder_1 : decode cX7_giveInOrder 1 = .ok (.lstore_n 3, 1) := by decide +kernel
theorem dX7_giveInOrder_2 : decode cX7_giveInOrder 2 = .ok (.iconst 0, 1) := by decide +kernel
theorem dX7_giveInOrder_3 : decode cX7_giveInOrder 3 = .ok (.istore 5, 2) := by decide +kernel
theorem dX7_giveInOrder_5 : decode cX7_giveInOrder 5 = .ok (.iload 5, 2) := by decide +kernel
theorem dX7_giveInOrder_7 : decode cX7_giveInOrder 7 = .ok (.aload_n 0, 1) := by decide +kernel
theorem dX7_giveInOrder_8 : decode cX7_giveInOrder 8 = .ok (.getfield 37, 3) := by decide +kernel
theorem dX7_giveInOrder_11 : decode cX7_giveInOrder 11 = .ok (.if_icmp .ge 40, 3) := by decide +kernel
theorem dX7_giveInOrder_14 : decode cX7_giveInOrder 14 = .ok (.lload_n 3, 1) := by decide +kernel
theorem dX7_giveInOrder_15 : decode cX7_giveInOrder 15 = .ok (.lconst 0, 1) := by decide +kernel
theorem dX7_giveInOrder_16 : decode cX7_giveInOrder 16 = .ok (.lcmp, 1) := by decide +kernel
theorem dX7_giveInOrder_17 : decode cX7_giveInOrder 17 = .ok (.ifCond .le 34, 3) := by decide +kernel
theorem dX7_giveInOrder_20 : decode cX7_giveInOrder 20 = .ok (.aload_n 0, 1) := by decide +kernel
theorem dX7_giveInOrder_21 : decode cX7_giveInOrder 21 = .ok (.getfield 15, 3) := by decide +kernel
theorem dX7_giveInOrder_24 : decode cX7_giveInOrder 24 = .ok (.iload 5, 2) := by decide +kernel
theorem dX7_giveInOrder_26 : decode cX7_giveInOrder 26 = .ok (.iaload, 1) := by decide +kernel
theorem dX7_giveInOrder_27 : decode cX7_giveInOrder 27 = .ok (.ifCond .le 18, 3) := by decide +kernel
theorem dX7_giveInOrder_30 : decode cX7_giveInOrder 30 = .ok (.aload_n 0, 1) := by decide +kernel
theorem dX7_giveInOrder_31 : decode cX7_giveInOrder 31 = .ok (.getfield 9, 3) := by decide +kernel
theorem dX7_giveInOrder_34 : decode cX7_giveInOrder 34 = .ok (.iload 5, 2) := by decide +kernel
theorem dX7_giveInOrder_36 : decode cX7_giveInOrder 36 = .ok (.dup2, 1) := by decide +kernel
theorem dX7_giveInOrder_37 : decode cX7_giveInOrder 37 = .ok (.laload, 1) := by decide +kernel
theorem dX7_giveInOrder_38 : decode cX7_giveInOrder 38 = .ok (.lconst 1, 1) := by decide +kernel
theorem dX7_giveInOrder_39 : decode cX7_giveInOrder 39 = .ok (.ladd, 1) := by decide +kernel
theorem dX7_giveInOrder_40 : decode cX7_giveInOrder 40 = .ok (.lastore, 1) := by decide +kernel
theorem dX7_giveInOrder_41 : decode cX7_giveInOrder 41 = .ok (.lload_n 3, 1) := by decide +kernel
theorem dX7_giveInOrder_42 : decode cX7_giveInOrder 42 = .ok (.lconst 1, 1) := by decide +kernel
theorem dX7_giveInOrder_43 : decode cX7_giveInOrder 43 = .ok (.lsub, 1) := by decide +kernel
theorem dX7_giveInOrder_44 : decode cX7_giveInOrder 44 = .ok (.lstore_n 3, 1) := by decide +kernel
theorem dX7_giveInOrder_45 : decode cX7_giveInOrder 45 = .ok (.iinc 5 1, 3) := by decide +kernel
theorem dX7_giveInOrder_48 : decode cX7_giveInOrder 48 = .ok (.goto (-43), 3) := by decide +kernel
theorem dX7_giveInOrder_51 : decode cX7_giveInOrder 51 = .ok (.return_, 1) := by decide +kernel
set_option maxRecDepth 20000 in
theorem ggX8_init_X8_reset : GoodIn wsX8_init wsX8_reset := goodIn_r _ [14, 5, 6, 8, 9, 15, 16, 17, 18] (by decide +kernel) (by decide +kernel)
set_option maxRecDepth 20000 in
theorem gX8_init_X8_reset : GoodIn wsX8_init (wsV RX8 26 RX8 yX8_reset wsX8_reset) := goodIn_app (goodIn_of _ (by decide +kernel)) ggX8_init_X8_reset
theorem dX8_init_0 : decode cX8_init 0 = .ok (.aload_n 0, 1) := by decide +kernel
theorem dX8_init_1 : decode cX8_init 1 = .ok (.invokespecial 3, 3) := by decide +kernel
theorem dX8_init_4 : decode cX8_init 4 = .ok (.aload_n 0, 1) := by decide +kernel
theorem dX8_init_5 : decode cX8_init 5 = .ok (.bipush 8, 2) := by decide +kernel
theorem dX8_init_7 : decode cX8_init 7 = .ok (.newarray .int, 2) := by decide +kernel
theorem dX8_init_9 : decode cX8_init 9 = .ok (.putfield 9, 3) := by decide +kernel
theorem dX8_init_12 : decode cX8_init 12 = .ok (.aload_n 0, 1) := by decide +kernel
theorem dX8_init_13 : decode cX8_init 13 = .ok (.bipush 8, 2) := by decide +kernel
theorem dX8_init_15 : decode cX8_init 15 = .ok (.newarray .int, 2) := by decide +kernel
theorem dX8_init_17 : decode cX8_init 17 = .ok (.putfield 15, 3) := by decide +kernel
theorem dX8_init_20 : decode cX8_init 20 = .ok (.aload_n 0, 1) := by decide +kernel
theorem dX8_init_21 : decode cX8_init 21 = .ok (.iconst 4, 1) := by decide +kernel
theorem dX8_init_22 : decode cX8_init 22 = .ok (.bipush 8, 2) := by decide +kernel
theorem dX8_init_24 : decode cX8_init 24 = .ok (.multianewarray 18 2, 4) := by decide +kernel
theorem dX8_init_28 : decode cX8_init 28 = .ok (.putfield 20, 3) := by decide +kernel
theorem dX8_init_31 : decode cX8_init 31 = .ok (.aload_n 0, 1) := by decide +kernel
theorem dX8_init_32 : decode cX8_init 32 = .ok (.iconst 4, 1) := by decide +kernel
theorem dX8_init_33 : decode cX8_init 33 = .ok (.newarray .int, 2) := by decide +kernel
theorem dX8_init_35 : decode cX8_init 35 = .ok (.putfield 23, 3) := by decide +kernel
theorem dX8_init_38 : decode cX8_init 38 = .ok (.aload_n 0, 1) := by decide +kernel
theorem dX8_init_39 : decode cX8_init 39 = .ok (.invokevirtual 26, 3) := by decide +kernel
theorem dX8_init_42 : decode cX8_init 42 = .ok (.return_, 1) := by decide +kernel
theorem dX8_reset_0 : decode cX8_reset 0 = .ok (.iconst 0, 1) := by decide +kernel
theorem dX8_reset_1 : decode cX8_reset 1 = .ok (.istore_n 1, 1) := by decide +kernel
theorem dX8_reset_2 : decode cX8_reset 2 = .ok (.iload_n 1, 1) := by decide +kernel
theorem dX8_reset_3 : decode cX8_reset 3 = .ok (.bipush 8, 2) := by decide +kernel
theorem dX8_reset_5 : decode cX8_reset 5 = .ok (.if_icmp .ge 23, 3) := by decide +kernel
theorem dX8_reset_8 : decode cX8_reset 8 = .ok (.aload_n 0, 1) := by decide +kernel
theorem dX8_reset_9 : decode cX8_reset 9 = .ok (.getfield 9, 3) := by decide +kernel
theorem dX8_reset_12 : decode cX8_reset 12 = .ok (.iload_n 1, 1) := by decide +kernel
theorem dX8_reset_13 : decode cX8_reset 13 = .ok (.iconst 0, 1) := by decide +kernel
theorem dX8_reset_14 : decode cX8_reset 14 = .ok (.iastore, 1) := by decide +kernel
theorem dX8_reset_15 : decode cX8_reset 15 = .ok (.aload_n 0, 1) := by decide +kernel
theorem dX8_reset_16 : decode cX8_reset 16 = .ok (.getfield 15, 3) := by decide +kernel
theorem dX8_reset_19 : decode cX8_reset 19 = .ok (.iload_n 1, 1) := by decide +kernel
theorem dX8_reset_20 : decode cX8_reset 20 = .ok (.iconst 1, 1) := by decide +kernel
theorem dX8_reset_21 : decode cX8_reset 21 = .ok (.iastore, 1) := by decide +kernel
theorem dX8_reset_22 : decode cX8_reset 22 = .ok (.iinc 1 1, 3) := by decide +kernel
theorem dX8_reset_25 : decode cX8_reset 25 = .ok (.goto (-23), 3) := by decide +kernel
theorem dX8_reset_28 : decode cX8_reset 28 = .ok (.iconst 0, 1) := by decide +kernel
theorem dX8_reset_29 : decode cX8_reset 29 = .ok (.istore_n 1, 1) := by decide +kernel
theorem dX8_reset_30 : decode cX8_reset 30 = .ok (.iload_n 1, 1) := by decide +kernel
theorem dX8_reset_31 : decode cX8_reset 31 = .ok (.iconst 4, 1) := by decide +kernel
theorem dX8_reset_32 : decode cX8_reset 32 = .ok (.if_icmp .ge 34, 3) := by decide +kernel
theorem dX8_reset_35 : decode cX8_reset 35 = .ok (.aload_n 0, 1) := by decide +kernel
theorem dX8_reset_36 : decode cX8_reset 36 = .ok (.getfield 20, 3) := by decide +kernel
theorem dX8_reset_39 : decode cX8_reset 39 = .ok (.iload_n 1, 1) := by decide +kernel
theorem dX8_reset_40 : decode cX8_reset 40 = .ok (.aaload, 1) := by decide +kernel
theorem dX8_reset_41 : decode cX8_reset 41 = .ok (.iconst 0, 1) := by decide +kernel
theorem dX8_reset_42 : decode cX8_reset 42 = .ok (.iconst 1, 1) := by decide +kernel
theorem dX8_reset_43 : decode cX8_reset 43 = .ok (.iastore, 1) := by decide +kernel
theorem dX8_reset_44 : decode cX8_reset 44 = .ok (.aload_n 0, 1) := by decide +kernel
theorem dX8_reset_45 : decode cX8_reset 45 = .ok (.getfield 20, 3) := by decide +kernel
theorem dX8_reset_48 : decode cX8_reset 48 = .ok (.iload_n 1, 1) := by decide +kernel
theorem dX8_reset_49 : decode cX8_reset 49 = .ok (.aaload, 1) := by decide +kernel
theorem dX8_reset_50 : decode cX8_reset 50 = .ok (.iconst 1, 1) := by decide +kernel
theorem dX8_reset_51 : decode cX8_reset 51 = .ok (.iconst 1, 1) := by decide +kernel
theorem dX8_reset_52 : decode cX8_reset 52 = .ok (.iastore, 1) := by decide +kernel
theorem dX8_reset_53 : decode cX8_reset 53 = .ok (.aload_n 0, 1) := by decide +kernel
theorem dX8_reset_54 : decode cX8_reset 54 = .ok (.getfield 23, 3) := by decide +kernel
theorem dX8_reset_57 : decode cX8_reset 57 = .ok (.iload_n 1, 1) := by decide +kernel
theorem dX8_reset_58 : decode cX8_reset 58 = .ok (.iconst 2, 1) := by decide +kernel
theorem dX8_reset_59 : decode cX8_reset 59 = .ok (.iastore, 1) := by decide +kernel
theorem dX8_reset_60 : decode cX8_reset 60 = .ok (.iinc 1 1, 3) := by decide +kernel
theorem dX8_reset_63 : decode cX8_reset 63 = .ok (.goto (-33), 3) := by decide +kernel
theorem dX8_reset_66 : decode cX8_reset 66 = .ok (.return_, 1) := by decide +kernel
set_option maxRecDepth 20000 in
theorem ggX9_init_X4_init : GoodIn wsX9_init wsX4_init := goodIn_r _ [13, 14, 2, 3, 4, 15, 23, 24] (by decide +kernel) (by decide +kernel)
set_option maxRecDepth 20000 in
theorem gX9_init_X4_init_n17 : GoodIn wsX9_init (wsX4_init) := ggX9_init_X4_init
theorem dX9_init_0 : decode cX9_init 0 = .ok (.aload_n 0, 1) := by decide +kernel
theorem dX9_init_1 : decode cX9_init 1 = .ok (.invokespecial 3, 3) := by decide +kernel
theorem dX9_init_4 : decode cX9_init 4 = .ok (.aload_n 0, 1) := by decide +kernel
theorem dX9_init_5 : decode cX9_init 5 = .ok (.bipush 64, 2) := by decide +kernel
theorem dX9_init_7 : decode cX9_init 7 = .ok (.newarray .long, 2) := by decide +kernel
theorem dX9_init_9 : decode cX9_init 9 = .ok (.putfield 9, 3) := by decide +kernel
theorem dX9_init_12 : decode cX9_init 12 = .ok (.aload_n 0, 1) := by decide +kernel
theorem dX9_init_13 : decode cX9_init 13 = .ok (.new 15, 3) := by decide +kernel
theorem dX9_init_16 : decode cX9_init 16 = .ok (.dup, 1) := by decide +kernel
theorem dX9_init_17 : decode cX9_init 17 = .ok (.invokespecial 17, 3) := by decide +kernel
theorem dX9_init_20 : decode cX9_init 20 = .ok (.putfield 18, 3) := by decide +kernel
theorem dX9_init_23 : decode cX9_init 23 = .ok (.aload_n 0, 1) := by decide +kernel
theorem dX9_init_24 : decode cX9_init 24 = .ok (.iconst 4, 1) := by decide +kernel
theorem dX9_init_25 : decode cX9_init 25 = .ok (.newarray .long, 2) := by decide +kernel
theorem dX9_init_27 : decode cX9_init 27 = .ok (.putfield 22, 3) := by decide +kernel
theorem dX9_init_30 : decode cX9_init 30 = .ok (.aload_n 0, 1) := by decide +kernel
theorem dX9_init_31 : decode cX9_init 31 = .ok (.iconst 4, 1) := by decide +kernel
theorem dX9_init_32 : decode cX9_init 32 = .ok (.newarray .long, 2) := by decide +kernel
theorem dX9_init_34 : decode cX9_init 34 = .ok (.putfield 25, 3) := by decide +kernel
theorem dX9_init_37 : decode cX9_init 37 = .ok (.return_, 1) := by decide +kernel
theorem dX9_holdRow_0 : decode cX9_holdRow 0 = .ok (.aload_n 0, 1) := by decide +kernel
theorem dX9_holdRow_1 : decode cX9_holdRow 1 = .ok (.iload_n 1, 1) := by decide +kernel
theorem dX9_holdRow_2 : decode cX9_holdRow 2 = .ok (.putfield 28, 3) := by decide +kernel
theorem dX9_holdRow_5 : decode cX9_holdRow 5 = .ok (.aload_n 0, 1) := by decide +kernel
theorem dX9_holdRow_6 : decode cX9_holdRow 6 = .ok (.iload_n 2, 1) := by decide +kernel
theorem dX9_holdRow_7 : decode cX9_holdRow 7 = .ok (.putfield 32, 3) := by decide +kernel
theorem dX9_holdRow_10 : decode cX9_holdRow 10 = .ok (.iconst 0, 1) := by decide +kernel
theorem dX9_holdRow_11 : decode cX9_holdRow 11 = .ok (.istore_n 3, 1) := by decide +kernel
theorem dX9_holdRow_12 : decode cX9_holdRow 12 = .ok (.iload_n 3, 1) := by decide +kernel
theorem dX9_holdRow_13 : decode cX9_holdRow 13 = .ok (.aload_n 0, 1) := by decide +kernel
theorem dX9_holdRow_14 : decode cX9_holdRow 14 = .ok (.getfield 32, 3) := by decide +kernel
theorem dX9_holdRow_17 : decode cX9_holdRow 17 = .ok (.if_icmp .ge 16, 3) := by decide +kernel
theorem dX9_holdRow_20 : decode cX9_holdRow 20 = .ok (.aload_n 0, 1) := by decide +kernel
theorem dX9_holdRow_21 : decode cX9_holdRow 21 = .ok (.getfield 9, 3) := by decide +kernel
theorem dX9_holdRow_24 : decode cX9_holdRow 24 = .ok (.iload_n 3, 1) := by decide +kernel
theorem dX9_holdRow_25 : decode cX9_holdRow 25 = .ok (.lconst 0, 1) := by decide +kernel
theorem dX9_holdRow_26 : decode cX9_holdRow 26 = .ok (.lastore, 1) := by decide +kernel
theorem dX9_holdRow_27 : decode cX9_holdRow 27 = .ok (.iinc 3 1, 3) := by decide +kernel
theorem dX9_holdRow_30 : decode cX9_holdRow 30 = .ok (.goto (-18), 3) := by decide +kernel
theorem dX9_holdRow_33 : decode cX9_holdRow 33 = .ok (.return_, 1) := by decide +kernel
theorem dX9_isRow_0 : decode cX9_isRow 0 = .ok (.aload_n 0, 1) := by decide +kernel
theorem dX9_isRow_1 : decode cX9_isRow 1 = .ok (.getfield 28, 3) := by decide +kernel
theorem dX9_isRow_4 : decode cX9_isRow 4 = .ok (.ifCond .eq 15, 3) := by decide +kernel
theorem dX9_isRow_7 : decode cX9_isRow 7 = .ok (.aload_n 0, 1) := by decide +kernel
theorem dX9_isRow_8 : decode cX9_isRow 8 = .ok (.getfield 28, 3) := by decide +kernel
theorem dX9_isRow_11 : decode cX9_isRow 11 = .ok (.iconst 5, 1) := by decide +kernel
theorem dX9_isRow_12 : decode cX9_isRow 12 = .ok (.if_icmp .eq 7, 3) := by decide +kernel
theorem dX9_isRow_15 : decode cX9_isRow 15 = .ok (.iconst 1, 1) := by decide +kernel
theorem dX9_isRow_16 : decode cX9_isRow 16 = .ok (.goto 4, 3) := by decide +kernel
theorem dX9_isRow_19 : decode cX9_isRow 19 = .ok (.iconst 0, 1) := by decide +kernel
theorem dX9_isRow_20 : decode cX9_isRow 20 = .ok (.ireturn, 1) := by decide +kernel
theorem dX9_hasPlaces_0 : decode cX9_hasPlaces 0 = .ok (.iload_n 1, 1) := by decide +kernel
theorem dX9_hasPlaces_1 : decode cX9_hasPlaces 1 = .ok (.ifCond .lt 29, 3) := by decide +kernel
theorem dX9_hasPlaces_4 : decode cX9_hasPlaces 4 = .ok (.iload_n 2, 1) := by decide +kernel
theorem dX9_hasPlaces_5 : decode cX9_hasPlaces 5 = .ok (.ifCond .lt 25, 3) := by decide +kernel
theorem dX9_hasPlaces_8 : decode cX9_hasPlaces 8 = .ok (.iload_n 2, 1) := by decide +kernel
theorem dX9_hasPlaces_9 : decode cX9_hasPlaces 9 = .ok (.aload_n 0, 1) := by decide +kernel
theorem dX9_hasPlaces_10 : decode cX9_hasPlaces 10 = .ok (.getfield 32, 3) := by decide +kernel
theorem dX9_hasPlaces_13 : decode cX9_hasPlaces 13 = .ok (.if_icmp .gt 17, 3) := by decide +kernel
theorem dX9_hasPlaces_16 : decode cX9_hasPlaces 16 = .ok (.iload_n 1, 1) := by decide +kernel
theorem dX9_hasPlaces_17 : decode cX9_hasPlaces 17 = .ok (.aload_n 0, 1) := by decide +kernel
theorem dX9_hasPlaces_18 : decode cX9_hasPlaces 18 = .ok (.getfield 32, 3) := by decide +kernel
theorem dX9_hasPlaces_21 : decode cX9_hasPlaces 21 = .ok (.iload_n 2, 1) := by decide +kernel
theorem dX9_hasPlaces_22 : decode cX9_hasPlaces 22 = .ok (.isub, 1) := by decide +kernel
theorem dX9_hasPlaces_23 : decode cX9_hasPlaces 23 = .ok (.if_icmp .gt 7, 3) := by decide +kernel
theorem dX9_hasPlaces_26 : decode cX9_hasPlaces 26 = .ok (.iconst 1, 1) := by decide +kernel
theorem dX9_hasPlaces_27 : decode cX9_hasPlaces 27 = .ok (.goto 4, 3) := by decide +kernel
theorem dX9_hasPlaces_30 : decode cX9_hasPlaces 30 = .ok (.iconst 0, 1) := by decide +kernel
theorem dX9_hasPlaces_31 : decode cX9_hasPlaces 31 = .ok (.ireturn, 1) := by decide +kernel
theorem dX9_narrowed_0 : decode cX9_narrowed 0 = .ok (.aload_n 0, 1) := by decide +kernel
theorem dX9_narrowed_1 : decode cX9_narrowed 1 = .ok (.getfield 28, 3) := by decide +kernel
theorem dX9_narrowed_4 : decode cX9_narrowed 4 = .ok (.tableswitch 42 1 3 #[28, 33, 38], 28) := by decide +kernel
theorem dX9_narrowed_32 : decode cX9_narrowed 32 = .ok (.lload_n 1, 1) := by decide +kernel
theorem dX9_narrowed_33 : decode cX9_narrowed 33 = .ok (.l2i, 1) := by decide +kernel
theorem dX9_narrowed_34 : decode cX9_narrowed 34 = .ok (.i2b, 1) := by decide +kernel
theorem dX9_narrowed_35 : decode cX9_narrowed 35 = .ok (.i2l, 1) := by decide +kernel
theorem dX9_narrowed_36 : decode cX9_narrowed 36 = .ok (.lreturn, 1) := by decide +kernel
theorem dX9_narrowed_37 : decode cX9_narrowed 37 = .ok (.lload_n 1, 1) := by decide +kernel
theorem dX9_narrowed_38 : decode cX9_narrowed 38 = .ok (.l2i, 1) := by decide +kernel
theorem dX9_narrowed_39 : decode cX9_narrowed 39 = .ok (.i2s, 1) := by decide +kernel
theorem dX9_narrowed_40 : decode cX9_narrowed 40 = .ok (.i2l, 1) := by decide +kernel
theorem dX9_narrowed_41 : decode cX9_narrowed 41 = .ok (.lreturn, 1) := by decide +kernel
theorem dX9_narrowed_42 : decode cX9_narrowed 42 = .ok (.lload_n 1, 1) := by decide +kernel
theorem dX9_narrowed_43 : decode cX9_narrowed 43 = .ok (.l2i, 1) := by decide +kernel
theorem dX9_narrowed_44 : decode cX9_narrowed 44 = .ok (.i2l, 1) := by decide +kernel
theorem dX9_narrowed_45 : decode cX9_narrowed 45 = .ok (.lreturn, 1) := by decide +kernel
theorem dX9_narrowed_46 : decode cX9_narrowed 46 = .ok (.lload_n 1, 1) := by decide +kernel
theorem dX9_narrowed_47 : decode cX9_narrowed 47 = .ok (.lreturn, 1) := by decide +kernel
set_option maxRecDepth 20000 in
theorem ggX10_init_X5_init : GoodIn wsX10_init wsX5_init := goodIn_r _ [17, 18, 2, 3, 19, 20, 21, 22, 23, 24, 25, 26, 27, 28, 29, 30, 31, 32, 33, 34, 35, 36, 37, 38, 39, 40, 13, 41, 42, 43, 44, 45, 46, 47, 48, 49, 50, 51, 52, 53, 54, 6, 55, 56, 57, 58, 59, 60, 61, 62, 91, 92, 72, 73, 74, 75, 76, 77, 78, 79, 80, 81, 82, 93, 94, 95, 96, 97, 98, 99, 100, 101] (by decide +kernel) (by decide +kernel)
set_option maxRecDepth 20000 in
theorem gX10_init_X5_init : GoodIn wsX10_init (wsX5_init) := ggX10_init_X5_init
set_option maxRecDepth 20000 in
theorem ggX10_init_X2_init : GoodIn wsX10_init wsX2_init := goodIn_r _ [64, 65, 2, 3, 66, 24, 25, 67, 68, 28, 29, 69, 70, 71, 42, 43, 44, 31, 45, 46, 47, 48, 49, 13, 50, 51, 93, 94, 87, 88, 89, 90, 95, 96, 97, 98, 99, 100, 101] (by decide +kernel) (by decide +kernel)
set_option maxRecDepth 20000 in
theorem gX10_init_X2_init_n23 : GoodIn wsX10_init (wsX2_init) := ggX10_init_X2_init
theorem dX10_init_0 : decode cX10_init 0 = .ok (.aload_n 0, 1) := by decide +kernel
theorem dX10_init_1 : decode cX10_init 1 = .ok (.invokespecial 3, 3) := by decide +kernel
theorem dX10_init_4 : decode cX10_init 4 = .ok (.aload_n 0, 1) := by decide +kernel
theorem dX10_init_5 : decode cX10_init 5 = .ok (.new 9, 3) := by decide +kernel
theorem dX10_init_8 : decode cX10_init 8 = .ok (.dup, 1) := by decide +kernel
theorem dX10_init_9 : decode cX10_init 9 = .ok (.invokespecial 11, 3) := by decide +kernel
theorem dX10_init_12 : decode cX10_init 12 = .ok (.putfield 12, 3) := by decide +kernel
theorem dX10_init_15 : decode cX10_init 15 = .ok (.aload_n 0, 1) := by decide +kernel
theorem dX10_init_16 : decode cX10_init 16 = .ok (.new 9, 3) := by decide +kernel
theorem dX10_init_19 : decode cX10_init 19 = .ok (.dup, 1) := by decide +kernel
theorem dX10_init_20 : decode cX10_init 20 = .ok (.invokespecial 11, 3) := by decide +kernel
theorem dX10_init_23 : decode cX10_init 23 = .ok (.putfield 18, 3) := by decide +kernel
theorem dX10_init_26 : decode cX10_init 26 = .ok (.aload_n 0, 1) := by decide +kernel
theorem dX10_init_27 : decode cX10_init 27 = .ok (.new 21, 3) := by decide +kernel
theorem dX10_init_30 : decode cX10_init 30 = .ok (.dup, 1) := by decide +kernel
theorem dX10_init_31 : decode cX10_init 31 = .ok (.invokespecial 23, 3) := by decide +kernel
theorem dX10_init_34 : decode cX10_init 34 = .ok (.putfield 24, 3) := by decide +kernel
theorem dX10_init_37 : decode cX10_init 37 = .ok (.aload_n 0, 1) := by decide +kernel
theorem dX10_init_38 : decode cX10_init 38 = .ok (.bipush 6, 2) := by decide +kernel
theorem dX10_init_40 : decode cX10_init 40 = .ok (.newarray .int, 2) := by decide +kernel
theorem dX10_init_42 : decode cX10_init 42 = .ok (.putfield 28, 3) := by decide +kernel
theorem dX10_init_45 : decode cX10_init 45 = .ok (.return_, 1) := by decide +kernel
set_option maxRecDepth 20000 in
theorem ggX10_firstBreak_X10_breaks : GoodIn wsX10_firstBreak wsX10_breaks := goodIn_r _ [6, 7, 8, 9, 10, 11, 12, 13, 14, 15, 16, 17, 18, 19, 20, 21, 22, 23, 24, 25, 26, 27, 28, 29, 30, 31, 32, 33, 34, 35, 36, 37, 38, 39, 40, 41, 42, 43, 44, 45, 46, 47, 48, 49, 50, 51, 52, 53, 54, 55, 56, 57, 58, 59, 60, 61, 62, 63, 64, 65, 66, 67, 68, 69, 70, 71, 72, 73, 74, 75, 76, 77, 78, 79, 80, 81, 82, 83, 84, 85, 86, 87, 88, 89, 90, 91, 92, 93, 94, 95, 96, 97, 98, 99, 100, 101, 102, 103, 104, 105, 106, 107, 108, 109, 110, 111, 112, 113, 114, 115, 116, 117, 118, 119, 120, 121, 122, 123, 124, 125, 126, 127, 128, 129, 130, 131, 132, 133, 134, 135, 136, 137, 138, 139, 140, 141, 142, 143, 144, 145, 146, 147, 148, 149, 150, 151, 152, 153, 154, 155, 156, 157, 158, 159, 160, 5, 161, 162, 163, 164, 165, 166, 167, 168, 169, 170, 171, 172, 173, 174, 175, 176, 177, 178, 179, 180, 181, 182, 183, 184, 185, 186, 187, 188, 189, 190, 191, 192, 193, 194, 195, 196, 197, 198, 199, 200, 201, 202, 203, 204, 205, 206, 207, 208, 209, 210, 211, 212, 213, 214, 215, 216, 217, 218, 219, 220, 221, 222, 223, 224, 225, 226, 227, 228, 229, 230, 231, 232, 233, 234, 235, 236, 237, 238, 239, 240, 241, 242, 243, 244, 245, 246, 247, 248, 249, 250, 251, 252, 253, 254, 255, 256, 257, 258, 259, 260, 261, 262, 263, 264, 265, 266, 267, 268, 269, 270, 271, 272, 273, 274] (by decide +kernel) (by decide +kernel)
set_option maxRecDepth 20000 in
theorem gX10_firstBreak_X10_breaks : GoodIn wsX10_firstBreak (wsV RX10 32 RX10 yX10_breaks wsX10_breaks) := goodIn_app (goodIn_of _ (by decide +kernel)) ggX10_firstBreak_X10_breaks
theorem dX10_firstBreak_0 : decode cX10_firstBreak 0 = .ok (.iload 5, 2) := by decide +kernel
theorem dX10_firstBreak_2 : decode cX10_firstBreak 2 = .ok (.istore 7, 2) := by decide +kernel
theorem dX10_firstBreak_4 : decode cX10_firstBreak 4 = .ok (.iload 7, 2) := by decide +kernel
theorem dX10_firstBreak_6 : decode cX10_firstBreak 6 = .ok (.iload 6, 2) := by decide +kernel
theorem dX10_firstBreak_8 : decode cX10_firstBreak 8 = .ok (.if_icmp .gt 26, 3) := by decide +kernel
theorem dX10_firstBreak_11 : decode cX10_firstBreak 11 = .ok (.aload_n 0, 1) := by decide +kernel
theorem dX10_firstBreak_12 : decode cX10_firstBreak 12 = .ok (.aload_n 1, 1) := by decide +kernel
theorem dX10_firstBreak_13 : decode cX10_firstBreak 13 = .ok (.aload_n 2, 1) := by decide +kernel
theorem dX10_firstBreak_14 : decode cX10_firstBreak 14 = .ok (.aload_n 3, 1) := by decide +kernel
theorem dX10_firstBreak_15 : decode cX10_firstBreak 15 = .ok (.iload 4, 2) := by decide +kernel
theorem dX10_firstBreak_17 : decode cX10_firstBreak 17 = .ok (.iload 7, 2) := by decide +kernel
theorem dX10_firstBreak_19 : decode cX10_firstBreak 19 = .ok (.invokevirtual 32, 3) := by decide +kernel
theorem dX10_firstBreak_22 : decode cX10_firstBreak 22 = .ok (.ifCond .eq 6, 3) := by decide +kernel
theorem dX10_firstBreak_25 : decode cX10_firstBreak 25 = .ok (.iload 7, 2) := by decide +kernel
theorem dX10_firstBreak_27 : decode cX10_firstBreak 27 = .ok (.ireturn, 1) := by decide +kernel
theorem dX10_firstBreak_28 : decode cX10_firstBreak 28 = .ok (.iinc 7 1, 3) := by decide +kernel
theorem dX10_firstBreak_31 : decode cX10_firstBreak 31 = .ok (.goto (-27), 3) := by decide +kernel
theorem dX10_firstBreak_34 : decode cX10_firstBreak 34 = .ok (.ldc 36, 2) := by decide +kernel
theorem dX10_firstBreak_36 : decode cX10_firstBreak 36 = .ok (.ireturn, 1) := by decide +kernel
set_option maxRecDepth 20000 in
theorem ggX10_breaks_X0_becomeOneLine : GoodIn wsX10_breaks wsX0_becomeOneLine := goodIn_r _ [14, 15, 16, 257, 258] (by decide +kernel) (by decide +kernel)
set_option maxRecDepth 20000 in
theorem gX10_breaks_X0_becomeOneLine : GoodIn wsX10_breaks (wsV RX10 41 RX0 yX0_becomeOneLine wsX0_becomeOneLine) := goodIn_app (goodIn_of _ (by decide +kernel)) ggX10_breaks_X0_becomeOneLine
set_option maxRecDepth 20000 in
theorem ggX10_breaks_X5_startAfresh : GoodIn wsX10_breaks wsX5_startAfresh := goodIn_r _ [21, 22, 23, 24, 25, 26, 27, 28, 29, 30, 31, 233, 234, 235, 236, 237, 238, 239, 240, 241, 242, 243, 251, 252] (by decide +kernel) (by decide +kernel)
set_option maxRecDepth 20000 in
theorem gX10_breaks_X5_startAfresh : GoodIn wsX10_breaks (wsV RX10 47 RX5 yX5_startAfresh wsX5_startAfresh) := goodIn_app (goodIn_of _ (by decide +kernel)) ggX10_breaks_X5_startAfresh
set_option maxRecDepth 20000 in
theorem ggX10_breaks_X5_perform : GoodIn wsX10_breaks wsX5_perform := goodIn_r _ [35, 36, 37, 38, 39, 40, 20, 41, 42, 43, 44, 45, 46, 47, 48, 49, 50, 51, 52, 53, 54, 55, 56, 57, 58, 59, 60, 61, 62, 63, 64, 65, 66, 67, 68, 69, 70, 71, 72, 73, 74, 75, 76, 77, 78, 79, 80, 81, 82, 83, 84, 85, 86, 87, 88, 89, 90, 91, 92, 93, 94, 95, 96, 97, 98, 99, 100, 101, 102, 103, 104, 105, 106, 107, 108, 109, 110, 111, 112, 113, 114, 115, 116, 117, 118, 119, 120, 121, 122, 123, 124, 125, 126, 127, 128, 129, 130, 131, 132, 133, 23, 24, 134, 135, 136, 137, 138, 139, 140, 141, 22, 142, 143, 144, 145, 146, 147, 259, 260, 261, 262, 263, 264, 265, 233, 234, 235, 236, 237, 238, 239, 240, 241, 242, 243, 244, 245, 246, 247, 248, 249, 250, 266, 267, 268, 269, 257, 258, 251, 252] (by decide +kernel) (by decide +kernel)
set_option maxRecDepth 20000 in
theorem gX10_breaks_X5_perform : GoodIn wsX10_breaks (wsV RX10 50 RX5 yX5_perform wsX5_perform) := goodIn_app (goodIn_of _ (by decide +kernel)) ggX10_breaks_X5_perform
set_option maxRecDepth 20000 in
theorem ggX10_breaks_X4_total : GoodIn wsX10_breaks wsX4_total := goodIn_r _ [151, 30, 251, 252] (by decide +kernel) (by decide +kernel)
set_option maxRecDepth 20000 in
theorem gX10_breaks_X4_total : GoodIn wsX10_breaks (wsV RX10 58 RX4 yX4_total wsX4_total) := goodIn_app (goodIn_of _ (by decide +kernel)) ggX10_breaks_X4_total
set_option maxRecDepth 20000 in
theorem ggX10_breaks_X10_differs : GoodIn wsX10_breaks wsX10_differs := goodIn_r _ [156, 1, 3, 4, 157, 158, 159, 28, 160, 30, 229, 230, 231, 232, 233, 234, 235, 236, 237, 238, 239, 240, 241, 242, 243, 251, 252] (by decide +kernel) (by decide +kernel)
set_option maxRecDepth 20000 in
theorem gX10_breaks_X10_differs : GoodIn wsX10_breaks (wsV RX10 64 RX10 yX10_differs wsX10_differs) := goodIn_app (goodIn_of _ (by decide +kernel)) ggX10_breaks_X10_differs
set_option maxRecDepth 20000 in
theorem ggX10_breaks_X7_strays : GoodIn wsX10_breaks wsX7_strays := goodIn_r _ [164, 110, 53, 112, 109, 111, 244, 245, 246, 247, 248, 249, 250] (by decide +kernel) (by decide +kernel)
set_option maxRecDepth 20000 in
theorem gX10_breaks_X7_strays : GoodIn wsX10_breaks (wsV RX10 78 RX7 yX7_strays wsX7_strays) := goodIn_app (goodIn_of _ (by decide +kernel)) ggX10_breaks_X7_strays
set_option maxRecDepth 20000 in
theorem ggX10_breaks_X2_perform : GoodIn wsX10_breaks wsX2_perform := goodIn_r _ [169, 170, 171, 172, 173, 174, 175, 176, 26, 27, 28, 29, 30, 31, 177, 49, 50, 51, 52, 53, 54, 178, 179, 180, 168, 181, 182, 183, 184, 185, 186, 187, 188, 189, 190, 191, 192, 193, 194, 195, 196, 197, 198, 199, 200, 201, 202, 203, 204, 205, 206, 207, 208, 209, 210, 211, 212, 213, 214, 215, 106, 107, 108, 109, 110, 111, 112, 113, 114, 115, 116, 117, 118, 119, 91, 81, 92, 93, 120, 121, 122, 123, 124, 125, 126, 127, 128, 129, 216, 217, 218, 219, 220, 221, 222, 223, 224, 225, 226, 227, 228, 253, 254, 255, 256, 259, 260, 261, 262, 263, 264, 265, 251, 252, 244, 245, 246, 247, 248, 249, 250, 266, 267, 268, 269] (by decide +kernel) (by decide +kernel)
set_option maxRecDepth 20000 in
theorem gX10_breaks_X2_perform : GoodIn wsX10_breaks (wsV RX10 86 RX2 yX2_perform wsX2_perform) := goodIn_app (goodIn_of _ (by decide +kernel)) ggX10_breaks_X2_perform
set_option maxRecDepth 20000 in
theorem ggX10_breaks_X4_matches : GoodIn wsX10_breaks wsX4_matches := goodIn_r _ [160, 30, 251, 252] (by decide +kernel) (by decide +kernel)
set_option maxRecDepth 20000 in
theorem gX10_breaks_X4_matches : GoodIn wsX10_breaks (wsV RX10 90 RX4 yX4_matches wsX4_matches) := goodIn_app (goodIn_of _ (by decide +kernel)) ggX10_breaks_X4_matches
theorem dX10_breaks_0 : decode cX10_breaks 0 = .ok (.aload_n 0, 1) := by decide +kernel
theorem dX10_breaks_1 : decode cX10_breaks 1 = .ok (.getfield 12, 3) := by decide +kernel
theorem dX10_breaks_4 : decode cX10_breaks 4 = .ok (.getfield 37, 3) := by decide +kernel
theorem dX10_breaks_7 : decode cX10_breaks 7 = .ok (.iload 5, 2) := by decide +kernel
theorem dX10_breaks_9 : decode cX10_breaks 9 = .ok (.invokevirtual 41, 3) := by decide +kernel
theorem dX10_breaks_12 : decode cX10_breaks 12 = .ok (.aload_n 0, 1) := by decide +kernel
theorem dX10_breaks_13 : decode cX10_breaks 13 = .ok (.getfield 12, 3) := by decide +kernel
theorem dX10_breaks_16 : decode cX10_breaks 16 = .ok (.invokevirtual 47, 3) := by decide +kernel
theorem dX10_breaks_19 : decode cX10_breaks 19 = .ok (.aload_n 0, 1) := by decide +kernel
theorem dX10_breaks_20 : decode cX10_breaks 20 = .ok (.getfield 12, 3) := by decide +kernel
theorem dX10_breaks_23 : decode cX10_breaks 23 = .ok (.aload_n 2, 1) := by decide +kernel
theorem dX10_breaks_24 : decode cX10_breaks 24 = .ok (.aload_n 1, 1) := by decide +kernel
theorem dX10_breaks_25 : decode cX10_breaks 25 = .ok (.invokevirtual 50, 3) := by decide +kernel
theorem dX10_breaks_28 : decode cX10_breaks 28 = .ok (.ifCond .ne 7, 3) := by decide +kernel
theorem dX10_breaks_31 : decode cX10_breaks 31 = .ok (.iconst 1, 1) := by decide +kernel
theorem dX10_breaks_32 : decode cX10_breaks 32 = .ok (.goto 4, 3) := by decide +kernel
theorem dX10_breaks_35 : decode cX10_breaks 35 = .ok (.iconst 0, 1) := by decide +kernel
theorem dX10_breaks_36 : decode cX10_breaks 36 = .ok (.istore 6, 2) := by decide +kernel
theorem dX10_breaks_38 : decode cX10_breaks 38 = .ok (.iload 4, 2) := by decide +kernel
theorem dX10_breaks_40 : decode cX10_breaks 40 = .ok (.tableswitch 204 0 5 #[40, 66, 66, 132, 169, 180], 40) := by decide +kernel
theorem dX10_breaks_80 : decode cX10_breaks 80 = .ok (.iload 6, 2) := by decide +kernel
theorem dX10_breaks_82 : decode cX10_breaks 82 = .ok (.ifCond .eq 22, 3) := by decide +kernel
theorem dX10_breaks_85 : decode cX10_breaks 85 = .ok (.aload_n 0, 1) := by decide +kernel
theorem dX10_breaks_86 : decode cX10_breaks 86 = .ok (.getfield 12, 3) := by decide +kernel
theorem dX10_breaks_89 : decode cX10_breaks 89 = .ok (.getfield 54, 3) := by decide +kernel
theorem dX10_breaks_92 : decode cX10_breaks 92 = .ok (.invokevirtual 58, 3) := by decide +kernel
theorem dX10_breaks_95 : decode cX10_breaks 95 = .ok (.lconst 0, 1) := by decide +kernel
theorem dX10_breaks_96 : decode cX10_breaks 96 = .ok (.lcmp, 1) := by decide +kernel
theorem dX10_breaks_97 : decode cX10_breaks 97 = .ok (.ifCond .eq 7, 3) := by decide +kernel
theorem dX10_breaks_100 : decode cX10_breaks 100 = .ok (.iconst 1, 1) := by decide +kernel
theorem dX10_breaks_101 : decode cX10_breaks 101 = .ok (.goto 4, 3) := by decide +kernel
theorem dX10_breaks_104 : decode cX10_breaks 104 = .ok (.iconst 0, 1) := by decide +kernel
theorem dX10_breaks_105 : decode cX10_breaks 105 = .ok (.ireturn, 1) := by decide +kernel
theorem dX10_breaks_106 : decode cX10_breaks 106 = .ok (.aload_n 0, 1) := by decide +kernel
theorem dX10_breaks_107 : decode cX10_breaks 107 = .ok (.getfield 18, 3) := by decide +kernel
theorem dX10_breaks_110 : decode cX10_breaks 110 = .ok (.getfield 37, 3) := by decide +kernel
theorem dX10_breaks_113 : decode cX10_breaks 113 = .ok (.iload 4, 2) := by decide +kernel
theorem dX10_breaks_115 : decode cX10_breaks 115 = .ok (.iconst 1, 1) := by decide +kernel
theorem dX10_breaks_116 : decode cX10_breaks 116 = .ok (.if_icmp .ne 9, 3) := by decide +kernel
theorem dX10_breaks_119 : decode cX10_breaks 119 = .ok (.iload 5, 2) := by decide +kernel
theorem dX10_breaks_121 : decode cX10_breaks 121 = .ok (.ineg, 1) := by decide +kernel
theorem dX10_breaks_122 : decode cX10_breaks 122 = .ok (.goto 5, 3) := by decide +kernel
theorem dX10_breaks_125 : decode cX10_breaks 125 = .ok (.iload 5, 2) := by decide +kernel
theorem dX10_breaks_127 : decode cX10_breaks 127 = .ok (.invokevirtual 41, 3) := by decide +kernel
theorem dX10_breaks_130 : decode cX10_breaks 130 = .ok (.aload_n 0, 1) := by decide +kernel
theorem dX10_breaks_131 : decode cX10_breaks 131 = .ok (.getfield 18, 3) := by decide +kernel
theorem dX10_breaks_134 : decode cX10_breaks 134 = .ok (.invokevirtual 47, 3) := by decide +kernel
theorem dX10_breaks_137 : decode cX10_breaks 137 = .ok (.aload_n 0, 1) := by decide +kernel
theorem dX10_breaks_138 : decode cX10_breaks 138 = .ok (.iload 6, 2) := by decide +kernel
theorem dX10_breaks_140 : decode cX10_breaks 140 = .ok (.aload_n 0, 1) := by decide +kernel
theorem dX10_breaks_141 : decode cX10_breaks 141 = .ok (.getfield 18, 3) := by decide +kernel
theorem dX10_breaks_144 : decode cX10_breaks 144 = .ok (.aload_n 3, 1) := by decide +kernel
theorem dX10_breaks_145 : decode cX10_breaks 145 = .ok (.aload_n 1, 1) := by decide +kernel
theorem dX10_breaks_146 : decode cX10_breaks 146 = .ok (.invokevirtual 50, 3) := by decide +kernel
theorem dX10_breaks_149 : decode cX10_breaks 149 = .ok (.ifCond .ne 7, 3) := by decide +kernel
theorem dX10_breaks_152 : decode cX10_breaks 152 = .ok (.iconst 1, 1) := by decide +kernel
theorem dX10_breaks_153 : decode cX10_breaks 153 = .ok (.goto 4, 3) := by decide +kernel
theorem dX10_breaks_156 : decode cX10_breaks 156 = .ok (.iconst 0, 1) := by decide +kernel
theorem dX10_breaks_157 : decode cX10_breaks 157 = .ok (.iload 4, 2) := by decide +kernel
theorem dX10_breaks_159 : decode cX10_breaks 159 = .ok (.iconst 1, 1) := by decide +kernel
theorem dX10_breaks_160 : decode cX10_breaks 160 = .ok (.if_icmp .ne 7, 3) := by decide +kernel
theorem dX10_breaks_163 : decode cX10_breaks 163 = .ok (.iconst (-1), 1) := by decide +kernel
theorem dX10_breaks_164 : decode cX10_breaks 164 = .ok (.goto 4, 3) := by decide +kernel
theorem dX10_breaks_167 : decode cX10_breaks 167 = .ok (.iconst 1, 1) := by decide +kernel
theorem dX10_breaks_168 : decode cX10_breaks 168 = .ok (.invokevirtual 64, 3) := by decide +kernel
theorem dX10_breaks_171 : decode cX10_breaks 171 = .ok (.ireturn, 1) := by decide +kernel
theorem dX10_breaks_172 : decode cX10_breaks 172 = .ok (.iload 6, 2) := by decide +kernel
theorem dX10_breaks_174 : decode cX10_breaks 174 = .ok (.ifCond .eq 33, 3) := by decide +kernel
theorem dX10_breaks_177 : decode cX10_breaks 177 = .ok (.aload_n 0, 1) := by decide +kernel
theorem dX10_breaks_178 : decode cX10_breaks 178 = .ok (.getfield 12, 3) := by decide +kernel
theorem dX10_breaks_181 : decode cX10_breaks 181 = .ok (.getfield 68, 3) := by decide +kernel
theorem dX10_breaks_184 : decode cX10_breaks 184 = .ok (.getfield 72, 3) := by decide +kernel
theorem dX10_breaks_187 : decode cX10_breaks 187 = .ok (.ifCond .eq 20, 3) := by decide +kernel
theorem dX10_breaks_190 : decode cX10_breaks 190 = .ok (.aload_n 0, 1) := by decide +kernel
theorem dX10_breaks_191 : decode cX10_breaks 191 = .ok (.getfield 12, 3) := by decide +kernel
theorem dX10_breaks_194 : decode cX10_breaks 194 = .ok (.getfield 68, 3) := by decide +kernel
theorem dX10_breaks_197 : decode cX10_breaks 197 = .ok (.invokevirtual 78, 3) := by decide +kernel
theorem dX10_breaks_200 : decode cX10_breaks 200 = .ok (.ifCond .eq 7, 3) := by decide +kernel
theorem dX10_breaks_203 : decode cX10_breaks 203 = .ok (.iconst 1, 1) := by decide +kernel
theorem dX10_breaks_204 : decode cX10_breaks 204 = .ok (.goto 4, 3) := by decide +kernel
theorem dX10_breaks_207 : decode cX10_breaks 207 = .ok (.iconst 0, 1) := by decide +kernel
theorem dX10_breaks_208 : decode cX10_breaks 208 = .ok (.ireturn, 1) := by decide +kernel
theorem dX10_breaks_209 : decode cX10_breaks 209 = .ok (.iload 6, 2) := by decide +kernel
theorem dX10_breaks_211 : decode cX10_breaks 211 = .ok (.ifCond .ne 7, 3) := by decide +kernel
theorem dX10_breaks_214 : decode cX10_breaks 214 = .ok (.iconst 1, 1) := by decide +kernel
theorem dX10_breaks_215 : decode cX10_breaks 215 = .ok (.goto 4, 3) := by decide +kernel
theorem dX10_breaks_218 : decode cX10_breaks 218 = .ok (.iconst 0, 1) := by decide +kernel
theorem dX10_breaks_219 : decode cX10_breaks 219 = .ok (.ireturn, 1) := by decide +kernel
theorem dX10_breaks_220 : decode cX10_breaks 220 = .ok (.iload 6, 2) := by decide +kernel
theorem dX10_breaks_222 : decode cX10_breaks 222 = .ok (.ifCond .eq 20, 3) := by decide +kernel
theorem dX10_breaks_225 : decode cX10_breaks 225 = .ok (.aload_n 0, 1) := by decide +kernel
theorem dX10_breaks_226 : decode cX10_breaks 226 = .ok (.getfield 12, 3) := by decide +kernel
theorem dX10_breaks_229 : decode cX10_breaks 229 = .ok (.getfield 54, 3) := by decide +kernel
theorem dX10_breaks_232 : decode cX10_breaks 232 = .ok (.getfield 82, 3) := by decide +kernel
theorem dX10_breaks_235 : decode cX10_breaks 235 = .ok (.ifCond .le 7, 3) := by decide +kernel
theorem dX10_breaks_238 : decode cX10_breaks 238 = .ok (.iconst 1, 1) := by decide +kernel
theorem dX10_breaks_239 : decode cX10_breaks 239 = .ok (.goto 4, 3) := by decide +kernel
theorem dX10_breaks_242 : decode cX10_breaks 242 = .ok (.iconst 0, 1) := by decide +kernel
theorem dX10_breaks_243 : decode cX10_breaks 243 = .ok (.ireturn, 1) := by decide +kernel
theorem dX10_breaks_244 : decode cX10_breaks 244 = .ok (.iload 6, 2) := by decide +kernel
theorem dX10_breaks_246 : decode cX10_breaks 246 = .ok (.ifCond .ne 5, 3) := by decide +kernel
theorem dX10_breaks_249 : decode cX10_breaks 249 = .ok (.iconst 0, 1) := by decide +kernel
theorem dX10_breaks_250 : decode cX10_breaks 250 = .ok (.ireturn, 1) := by decide +kernel
theorem dX10_breaks_251 : decode cX10_breaks 251 = .ok (.aload_n 0, 1) := by decide +kernel
theorem dX10_breaks_252 : decode cX10_breaks 252 = .ok (.getfield 24, 3) := by decide +kernel
theorem dX10_breaks_255 : decode cX10_breaks 255 = .ok (.aload_n 2, 1) := by decide +kernel
theorem dX10_breaks_256 : decode cX10_breaks 256 = .ok (.aload_n 1, 1) := by decide +kernel
theorem dX10_breaks_257 : decode cX10_breaks 257 = .ok (.iload 5, 2) := by decide +kernel
theorem dX10_breaks_259 : decode cX10_breaks 259 = .ok (.invokevirtual 86, 3) := by decide +kernel
theorem dX10_breaks_262 : decode cX10_breaks 262 = .ok (.aload_n 0, 1) := by decide +kernel
theorem dX10_breaks_263 : decode cX10_breaks 263 = .ok (.getfield 12, 3) := by decide +kernel
theorem dX10_breaks_266 : decode cX10_breaks 266 = .ok (.getfield 54, 3) := by decide +kernel
theorem dX10_breaks_269 : decode cX10_breaks 269 = .ok (.aload_n 0, 1) := by decide +kernel
theorem dX10_breaks_270 : decode cX10_breaks 270 = .ok (.getfield 24, 3) := by decide +kernel
theorem dX10_breaks_273 : decode cX10_breaks 273 = .ok (.getfield 89, 3) := by decide +kernel
theorem dX10_breaks_276 : decode cX10_breaks 276 = .ok (.iconst 1, 1) := by decide +kernel
theorem dX10_breaks_277 : decode cX10_breaks 277 = .ok (.invokevirtual 90, 3) := by decide +kernel
theorem dX10_breaks_280 : decode cX10_breaks 280 = .ok (.ifCond .ne 7, 3) := by decide +kernel
theorem dX10_breaks_283 : decode cX10_breaks 283 = .ok (.iconst 1, 1) := by decide +kernel
theorem dX10_breaks_284 : decode cX10_breaks 284 = .ok (.goto 4, 3) := by decide +kernel
theorem dX10_breaks_287 : decode cX10_breaks 287 = .ok (.iconst 0, 1) := by decide +kernel
theorem dX10_breaks_288 : decode cX10_breaks 288 = .ok (.ireturn, 1) := by decide +kernel
set_option maxRecDepth 20000 in
theorem ggX10_differs_X4_matches : GoodIn wsX10_differs wsX4_matches := goodIn_r _ [8, 9, 25, 26] (by decide +kernel) (by decide +kernel)
set_option maxRecDepth 20000 in
theorem gX10_differs_X4_matches : GoodIn wsX10_differs (wsV RX10 90 RX4 yX4_matches wsX4_matches) := goodIn_app (goodIn_of _ (by decide +kernel)) ggX10_differs_X4_matches
theorem dX10_differs_0 : decode cX10_differs 0 = .ok (.iload_n 1, 1) := by decide +kernel
theorem dX10_differs_1 : decode cX10_differs 1 = .ok (.iload_n 2, 1) := by decide +kernel
theorem dX10_differs_2 : decode cX10_differs 2 = .ok (.if_icmp .ne 28, 3) := by decide +kernel
theorem dX10_differs_5 : decode cX10_differs 5 = .ok (.iload_n 1, 1) := by decide +kernel
theorem dX10_differs_6 : decode cX10_differs 6 = .ok (.ifCond .eq 28, 3) := by decide +kernel
theorem dX10_differs_9 : decode cX10_differs 9 = .ok (.aload_n 0, 1) := by decide +kernel
theorem dX10_differs_10 : decode cX10_differs 10 = .ok (.getfield 12, 3) := by decide +kernel
theorem dX10_differs_13 : decode cX10_differs 13 = .ok (.getfield 54, 3) := by decide +kernel
theorem dX10_differs_16 : decode cX10_differs 16 = .ok (.aload_n 0, 1) := by decide +kernel
theorem dX10_differs_17 : decode cX10_differs 17 = .ok (.getfield 18, 3) := by decide +kernel
theorem dX10_differs_20 : decode cX10_differs 20 = .ok (.getfield 54, 3) := by decide +kernel
theorem dX10_differs_23 : decode cX10_differs 23 = .ok (.iload_n 3, 1) := by decide +kernel
theorem dX10_differs_24 : decode cX10_differs 24 = .ok (.invokevirtual 90, 3) := by decide +kernel
theorem dX10_differs_27 : decode cX10_differs 27 = .ok (.ifCond .ne 7, 3) := by decide +kernel
theorem dX10_differs_30 : decode cX10_differs 30 = .ok (.iconst 1, 1) := by decide +kernel
theorem dX10_differs_31 : decode cX10_differs 31 = .ok (.goto 4, 3) := by decide +kernel
theorem dX10_differs_34 : decode cX10_differs 34 = .ok (.iconst 0, 1) := by decide +kernel
theorem dX10_differs_35 : decode cX10_differs 35 = .ok (.ireturn, 1) := by decide +kernel
set_option maxRecDepth 20000 in
theorem ggX10_firstOrderThatMatters_X0_become : GoodIn wsX10_firstOrderThatMatters wsX0_become := goodIn_r _ [12, 13, 14, 169, 170] (by decide +kernel) (by decide +kernel)
set_option maxRecDepth 20000 in
theorem gX10_firstOrderThatMatters_X0_become : GoodIn wsX10_firstOrderThatMatters (wsV RX10 97 RX0 yX0_become wsX0_become) := goodIn_app (goodIn_of _ (by decide +kernel)) ggX10_firstOrderThatMatters_X0_become
set_option maxRecDepth 20000 in
theorem ggX10_firstOrderThatMatters_X5_startAfresh : GoodIn wsX10_firstOrderThatMatters wsX5_startAfresh := goodIn_r _ [19, 20, 21, 22, 23, 24, 25, 26, 27, 28, 29, 175, 176, 177, 178, 179, 180, 181, 182, 183, 184, 185, 186, 187] (by decide +kernel) (by decide +kernel)
set_option maxRecDepth 20000 in
theorem gX10_firstOrderThatMatters_X5_startAfresh : GoodIn wsX10_firstOrderThatMatters (wsV RX10 47 RX5 yX5_startAfresh wsX5_startAfresh) := goodIn_app (goodIn_of _ (by decide +kernel)) ggX10_firstOrderThatMatters_X5_startAfresh
set_option maxRecDepth 20000 in
theorem ggX10_firstOrderThatMatters_X5_perform : GoodIn wsX10_firstOrderThatMatters wsX5_perform := goodIn_r _ [33, 34, 35, 36, 37, 38, 18, 39, 40, 41, 42, 43, 44, 45, 46, 47, 48, 49, 50, 51, 52, 53, 54, 55, 56, 57, 58, 59, 60, 61, 62, 63, 64, 65, 66, 67, 68, 69, 70, 71, 72, 73, 74, 75, 76, 77, 78, 79, 80, 81, 82, 83, 84, 85, 86, 87, 88, 89, 90, 91, 92, 93, 94, 95, 96, 97, 98, 99, 100, 101, 102, 103, 104, 105, 106, 107, 108, 109, 110, 111, 112, 113, 114, 115, 116, 117, 118, 119, 120, 121, 122, 123, 124, 125, 126, 127, 128, 129, 130, 131, 21, 22, 132, 133, 134, 135, 136, 137, 138, 139, 20, 140, 141, 142, 143, 144, 145, 188, 189, 190, 191, 192, 193, 194, 175, 176, 177, 178, 179, 180, 181, 182, 183, 184, 185, 195, 196, 197, 198, 199, 200, 201, 202, 203, 204, 205, 169, 170, 186, 187] (by decide +kernel) (by decide +kernel)
set_option maxRecDepth 20000 in
theorem gX10_firstOrderThatMatters_X5_perform : GoodIn wsX10_firstOrderThatMatters (wsV RX10 50 RX5 yX5_perform wsX5_perform) := goodIn_app (goodIn_of _ (by decide +kernel)) ggX10_firstOrderThatMatters_X5_perform
set_option maxRecDepth 20000 in
theorem ggX10_firstOrderThatMatters_X10_goToNextOrder : GoodIn wsX10_firstOrderThatMatters wsX10_goToNextOrder := goodIn_r _ [150, 2, 151, 152, 153, 149, 154, 171, 172, 173, 174] (by decide +kernel) (by decide +kernel)
set_option maxRecDepth 20000 in
theorem gX10_firstOrderThatMatters_X10_goToNextOrder : GoodIn wsX10_firstOrderThatMatters (wsV RX10 101 RX10 yX10_goToNextOrder wsX10_goToNextOrder) := goodIn_app (goodIn_of _ (by decide +kernel)) ggX10_firstOrderThatMatters_X10_goToNextOrder
set_option maxRecDepth 20000 in
theorem ggX10_firstOrderThatMatters_X10_differs : GoodIn wsX10_firstOrderThatMatters wsX10_differs := goodIn_r _ [158, 3, 159, 5, 160, 161, 162, 26, 163, 28, 171, 172, 173, 174, 175, 176, 177, 178, 179, 180, 181, 182, 183, 184, 185, 186, 187] (by decide +kernel) (by decide +kernel)
set_option maxRecDepth 20000 in
theorem gX10_firstOrderThatMatters_X10_differs : GoodIn wsX10_firstOrderThatMatters (wsV RX10 64 RX10 yX10_differs wsX10_differs) := goodIn_app (goodIn_of _ (by decide +kernel)) ggX10_firstOrderThatMatters_X10_differs
set_option maxRecDepth 20000 in
theorem ggX10_firstOrderThatMatters_X10_hasOtherResults : GoodIn wsX10_firstOrderThatMatters wsX10_hasOtherResults := goodIn_r _ [167, 5, 168, 3, 2, 171, 172, 173, 174, 175, 176, 177, 178, 179, 180, 181, 182, 183, 184, 185] (by decide +kernel) (by decide +kernel)
set_option maxRecDepth 20000 in
theorem gX10_firstOrderThatMatters_X10_hasOtherResults : GoodIn wsX10_firstOrderThatMatters (wsV RX10 107 RX10 yX10_hasOtherResults wsX10_hasOtherResults) := goodIn_app (goodIn_of _ (by decide +kernel)) ggX10_firstOrderThatMatters_X10_hasOtherResults
theorem dX10_firstOrderThatMatters_0 : decode cX10_firstOrderThatMatters 0 = .ok (.iconst 1, 1) := by decide +kernel
theorem dX10_firstOrderThatMatters_1 : decode cX10_firstOrderThatMatters 1 = .ok (.istore 4, 2) := by decide +kernel
theorem dX10_firstOrderThatMatters_3 : decode cX10_firstOrderThatMatters 3 = .ok (.iconst 0, 1) := by decide +kernel
theorem dX10_firstOrderThatMatters_4 : decode cX10_firstOrderThatMatters 4 = .ok (.istore 5, 2) := by decide +kernel
theorem dX10_firstOrderThatMatters_6 : decode cX10_firstOrderThatMatters 6 = .ok (.iload 5, 2) := by decide +kernel
theorem dX10_firstOrderThatMatters_8 : decode cX10_firstOrderThatMatters 8 = .ok (.aload_n 3, 1) := by decide +kernel
theorem dX10_firstOrderThatMatters_9 : decode cX10_firstOrderThatMatters 9 = .ok (.getfield 94, 3) := by decide +kernel
theorem dX10_firstOrderThatMatters_12 : decode cX10_firstOrderThatMatters 12 = .ok (.if_icmp .ge 27, 3) := by decide +kernel
theorem dX10_firstOrderThatMatters_15 : decode cX10_firstOrderThatMatters 15 = .ok (.aload_n 0, 1) := by decide +kernel
theorem dX10_firstOrderThatMatters_16 : decode cX10_firstOrderThatMatters 16 = .ok (.getfield 28, 3) := by decide +kernel
theorem dX10_firstOrderThatMatters_19 : decode cX10_firstOrderThatMatters 19 = .ok (.iload 5, 2) := by decide +kernel
theorem dX10_firstOrderThatMatters_21 : decode cX10_firstOrderThatMatters 21 = .ok (.iload 5, 2) := by decide +kernel
theorem dX10_firstOrderThatMatters_23 : decode cX10_firstOrderThatMatters 23 = .ok (.iastore, 1) := by decide +kernel
theorem dX10_firstOrderThatMatters_24 : decode cX10_firstOrderThatMatters 24 = .ok (.iload 4, 2) := by decide +kernel
theorem dX10_firstOrderThatMatters_26 : decode cX10_firstOrderThatMatters 26 = .ok (.iload 5, 2) := by decide +kernel
theorem dX10_firstOrderThatMatters_28 : decode cX10_firstOrderThatMatters 28 = .ok (.iconst 1, 1) := by decide +kernel
theorem dX10_firstOrderThatMatters_29 : decode cX10_firstOrderThatMatters 29 = .ok (.iadd, 1) := by decide +kernel
theorem dX10_firstOrderThatMatters_30 : decode cX10_firstOrderThatMatters 30 = .ok (.imul, 1) := by decide +kernel
theorem dX10_firstOrderThatMatters_31 : decode cX10_firstOrderThatMatters 31 = .ok (.istore 4, 2) := by decide +kernel
theorem dX10_firstOrderThatMatters_33 : decode cX10_firstOrderThatMatters 33 = .ok (.iinc 5 1, 3) := by decide +kernel
theorem dX10_firstOrderThatMatters_36 : decode cX10_firstOrderThatMatters 36 = .ok (.goto (-30), 3) := by decide +kernel
theorem dX10_firstOrderThatMatters_39 : decode cX10_firstOrderThatMatters 39 = .ok (.aload_n 0, 1) := by decide +kernel
theorem dX10_firstOrderThatMatters_40 : decode cX10_firstOrderThatMatters 40 = .ok (.getfield 12, 3) := by decide +kernel
theorem dX10_firstOrderThatMatters_43 : decode cX10_firstOrderThatMatters 43 = .ok (.getfield 37, 3) := by decide +kernel
theorem dX10_firstOrderThatMatters_46 : decode cX10_firstOrderThatMatters 46 = .ok (.aload_n 3, 1) := by decide +kernel
theorem dX10_firstOrderThatMatters_47 : decode cX10_firstOrderThatMatters 47 = .ok (.invokevirtual 97, 3) := by decide +kernel
theorem dX10_firstOrderThatMatters_50 : decode cX10_firstOrderThatMatters 50 = .ok (.aload_n 0, 1) := by decide +kernel
theorem dX10_firstOrderThatMatters_51 : decode cX10_firstOrderThatMatters 51 = .ok (.getfield 12, 3) := by decide +kernel
theorem dX10_firstOrderThatMatters_54 : decode cX10_firstOrderThatMatters 54 = .ok (.invokevirtual 47, 3) := by decide +kernel
theorem dX10_firstOrderThatMatters_57 : decode cX10_firstOrderThatMatters 57 = .ok (.aload_n 0, 1) := by decide +kernel
theorem dX10_firstOrderThatMatters_58 : decode cX10_firstOrderThatMatters 58 = .ok (.getfield 12, 3) := by decide +kernel
theorem dX10_firstOrderThatMatters_61 : decode cX10_firstOrderThatMatters 61 = .ok (.aload_n 2, 1) := by decide +kernel
theorem dX10_firstOrderThatMatters_62 : decode cX10_firstOrderThatMatters 62 = .ok (.aload_n 1, 1) := by decide +kernel
theorem dX10_firstOrderThatMatters_63 : decode cX10_firstOrderThatMatters 63 = .ok (.invokevirtual 50, 3) := by decide +kernel
theorem dX10_firstOrderThatMatters_66 : decode cX10_firstOrderThatMatters 66 = .ok (.ifCond .ne 7, 3) := by decide +kernel
theorem dX10_firstOrderThatMatters_69 : decode cX10_firstOrderThatMatters 69 = .ok (.iconst 1, 1) := by decide +kernel
theorem dX10_firstOrderThatMatters_70 : decode cX10_firstOrderThatMatters 70 = .ok (.goto 4, 3) := by decide +kernel
theorem dX10_firstOrderThatMatters_73 : decode cX10_firstOrderThatMatters 73 = .ok (.iconst 0, 1) := by decide +kernel
theorem dX10_firstOrderThatMatters_74 : decode cX10_firstOrderThatMatters 74 = .ok (.istore 5, 2) := by decide +kernel
theorem dX10_firstOrderThatMatters_76 : decode cX10_firstOrderThatMatters 76 = .ok (.aload_n 0, 1) := by decide +kernel
theorem dX10_firstOrderThatMatters_77 : decode cX10_firstOrderThatMatters 77 = .ok (.getfield 18, 3) := by decide +kernel
theorem dX10_firstOrderThatMatters_80 : decode cX10_firstOrderThatMatters 80 = .ok (.getfield 37, 3) := by decide +kernel
theorem dX10_firstOrderThatMatters_83 : decode cX10_firstOrderThatMatters 83 = .ok (.aload_n 3, 1) := by decide +kernel
theorem dX10_firstOrderThatMatters_84 : decode cX10_firstOrderThatMatters 84 = .ok (.invokevirtual 97, 3) := by decide +kernel
theorem dX10_firstOrderThatMatters_87 : decode cX10_firstOrderThatMatters 87 = .ok (.iconst 1, 1) := by decide +kernel
theorem dX10_firstOrderThatMatters_88 : decode cX10_firstOrderThatMatters 88 = .ok (.istore 6, 2) := by decide +kernel
theorem dX10_firstOrderThatMatters_90 : decode cX10_firstOrderThatMatters 90 = .ok (.iload 6, 2) := by decide +kernel
theorem dX10_firstOrderThatMatters_92 : decode cX10_firstOrderThatMatters 92 = .ok (.iload 4, 2) := by decide +kernel
theorem dX10_firstOrderThatMatters_94 : decode cX10_firstOrderThatMatters 94 = .ok (.if_icmp .ge 108, 3) := by decide +kernel
theorem dX10_firstOrderThatMatters_97 : decode cX10_firstOrderThatMatters 97 = .ok (.aload_n 0, 1) := by decide +kernel
theorem dX10_firstOrderThatMatters_98 : decode cX10_firstOrderThatMatters 98 = .ok (.aload_n 3, 1) := by decide +kernel
theorem dX10_firstOrderThatMatters_99 : decode cX10_firstOrderThatMatters 99 = .ok (.getfield 94, 3) := by decide +kernel
theorem dX10_firstOrderThatMatters_102 : decode cX10_firstOrderThatMatters 102 = .ok (.invokevirtual 101, 3) := by decide +kernel
theorem dX10_firstOrderThatMatters_105 : decode cX10_firstOrderThatMatters 105 = .ok (.iconst 0, 1) := by decide +kernel
theorem dX10_firstOrderThatMatters_106 : decode cX10_firstOrderThatMatters 106 = .ok (.istore 7, 2) := by decide +kernel
theorem dX10_firstOrderThatMatters_108 : decode cX10_firstOrderThatMatters 108 = .ok (.iload 7, 2) := by decide +kernel
theorem dX10_firstOrderThatMatters_110 : decode cX10_firstOrderThatMatters 110 = .ok (.aload_n 3, 1) := by decide +kernel
theorem dX10_firstOrderThatMatters_111 : decode cX10_firstOrderThatMatters 111 = .ok (.getfield 94, 3) := by decide +kernel
theorem dX10_firstOrderThatMatters_114 : decode cX10_firstOrderThatMatters 114 = .ok (.if_icmp .ge 34, 3) := by decide +kernel
theorem dX10_firstOrderThatMatters_117 : decode cX10_firstOrderThatMatters 117 = .ok (.aload_n 0, 1) := by decide +kernel
theorem dX10_firstOrderThatMatters_118 : decode cX10_firstOrderThatMatters 118 = .ok (.getfield 18, 3) := by decide +kernel
theorem dX10_firstOrderThatMatters_121 : decode cX10_firstOrderThatMatters 121 = .ok (.getfield 37, 3) := by decide +kernel
theorem dX10_firstOrderThatMatters_124 : decode cX10_firstOrderThatMatters 124 = .ok (.getfield 104, 3) := by decide +kernel
theorem dX10_firstOrderThatMatters_127 : decode cX10_firstOrderThatMatters 127 = .ok (.iload 7, 2) := by decide +kernel
theorem dX10_firstOrderThatMatters_129 : decode cX10_firstOrderThatMatters 129 = .ok (.aload_n 3, 1) := by decide +kernel
theorem dX10_firstOrderThatMatters_130 : decode cX10_firstOrderThatMatters 130 = .ok (.getfield 104, 3) := by decide +kernel
theorem dX10_firstOrderThatMatters_133 : decode cX10_firstOrderThatMatters 133 = .ok (.aload_n 0, 1) := by decide +kernel
theorem dX10_firstOrderThatMatters_134 : decode cX10_firstOrderThatMatters 134 = .ok (.getfield 28, 3) := by decide +kernel
theorem dX10_firstOrderThatMatters_137 : decode cX10_firstOrderThatMatters 137 = .ok (.iload 7, 2) := by decide +kernel
theorem dX10_firstOrderThatMatters_139 : decode cX10_firstOrderThatMatters 139 = .ok (.iaload, 1) := by decide +kernel
theorem dX10_firstOrderThatMatters_140 : decode cX10_firstOrderThatMatters 140 = .ok (.iaload, 1) := by decide +kernel
theorem dX10_firstOrderThatMatters_141 : decode cX10_firstOrderThatMatters 141 = .ok (.iastore, 1) := by decide +kernel
theorem dX10_firstOrderThatMatters_142 : decode cX10_firstOrderThatMatters 142 = .ok (.iinc 7 1, 3) := by decide +kernel
